/-! The text constant: loaded, its length, its words: the JDK's own methods. -/
section AMT0
variable {p : Program} {l : Launch} {e : Env} {R : Room} {s : State} {m : MethodId} {args : Array Value} {below : List Frame} {meth : Method} {c : Code} {H : Heap} {locs : List Loc} {cells slots : Nat} {Q : State → Prop}
variable {cc : ByteArray} {pc nL : Nat} {ls : Array Slot} {rest : List Value} {G : am_G} {M : am_M} {own : String}
theorem am_r_lds (hx : p.tables.exec = Jvm.exec) (hb : c.code = cc) (hown : s.vm.findClass own = some m.cls) (hW : am_Wd G s) {index : Nat} (hw : Cond.stringRef own index am_words ∈ lw_tbl) (hdg : decode cc pc = .ok (.ldc index, 2))
    (kk : W p l e R s m args below meth c H locs cells slots Q (F0 m (pc + 2) ls (.ref (am_gt G) :: rest))) : W p l e R s m args below meth c H locs cells slots Q (F0 m pc ls rest) :=
  va_ldcS hx hb hown (hW.2.2.2.2.2.2.2.1 own index hw) hdg kk
def am_Pj (G : am_G) (M : am_M) (av : List Value) : Array Value → State → Prop := fun a U => a = av.toArray ∧ am_Mm G M U.heap ∧ am_Wd G U
def am_Qj (G : am_G) (M : am_M) (v : Option Value) : Array Value → State → Outcome → State → Prop := fun _ _ o t => o = .returned v ∧ am_Mm G M t.heap
theorem am_Pj_blind {av : List Value} : FrameBlind (am_Pj G M av) := by
  intro a U g mk q
  obtain ⟨h1, h2, h3⟩ := q
  exact ⟨h1, h2, am_Wd.same (u := U) (U := U.calling g mk a) rfl h3⟩
theorem am_j_start {y : MethodName} {bytes : ByteArray} {maxL d : Nat} {ret : Option FieldType} {av : List Value} {v : Option Value} (hy : plainName y.cls = true) (hlen : (lg_sl av).length ≤ maxL)
    (body : ∀ (p : Program) (e : Env) (s : State) (m : MethodId) (args : Array Value) (below : List Frame) (meth : Method) (c : Code) (ls : Array Slot), p.tables.exec = Jvm.exec → c.code = bytes → c.maxLocals = maxL → s.vm.findClass y.cls = some m.cls → (∀ w ∈ am_W, w.before args s = true) → meth.sig.returnType = ret → meth.locks = false → am_Mm G M s.heap → am_Wd G s → lv_has ls maxL (lv_args 0 av) →
      W p l e (am_rm d 0 0) s m args below meth c s.heap [] 0 0 (MQ below (am_Qj G M v) args s 0 0 (am_fr G)) (F0 m 0 ls [])) :
    Met l y (Cond.code y bytes maxL ret :: am_W) (am_rm d 0 0) (am_Pj G M av) (am_Qj G M v) 0 0 (am_fr G) := by
  refine Met.ofW (cc := bytes) (maxL := maxL) (ret := ret) hy rfl ?_
  intro p e s m args below meth c s₁ B hml hv
  obtain ⟨rfl, hM, hW⟩ := hv
  have hts := atoms_spec (ws := Cond.code y bytes maxL ret :: am_W) B.pre
  have hl := lv_entry av (n := maxL) hlen
  rw [lg_entry_eq]
  generalize (lg_sl av ++ List.replicate (maxL - (lg_sl av).length) Slot.unset).toArray = ls at hl ⊢
  exact body p e s m _ below meth c ls B.exec B.bytes hml (findClass_of_methodNamed B.named) (fun w hw => hts w (List.mem_cons_of_mem _ hw)) B.returns B.notSynchronized hM hW hl
theorem am_jS {s : State} (hM0 : am_Mm G M s.heap) (hM : am_Mm G M H) (hlo : am_lo G locs) : va_S (fun q => am_gz G ≤ q) s.heap H locs := by
  refine ⟨?_, fun q _ hq => ?_, hlo⟩
  · have h1 := hM0.1
    have h2 := hM.1
    omega
  · have hq' : q < am_gz G := Nat.not_le.mp hq
    rw [hM.2.2.2.2.2.2.1 q hq', hM0.2.2.2.2.2.2.1 q hq']
set_option maxRecDepth 100000 in
theorem am_jt {s : State} (hM : am_Mm G M s.heap) (hW : am_Wd G s) : va_O "java/lang/String" (am_gt G) (fun q => am_gz G ≤ q) s s.heap ∧ va_OF "java/lang/String" "coder" "B" (.int 0) (am_gt G) (fun q => am_gz G ≤ q) s s.heap ∧ va_OF "java/lang/String" "value" "[B" (.ref (am_gv G)) (am_gt G) (fun q => am_gz G ≤ q) s s.heap ∧
    va_T .byte (am_gv G) am_words.length (fun j => .int ((am_words.toList.map (fun ch => Int32.ofNat ch.toNat)).getD j 0)) (fun q => am_gz G ≤ q) s s.heap ∧ va_Z "java/lang/String" "COMPACT_STRINGS" "Z" (.int 1) (fun q => am_gz G ≤ q) s s.heap ∧ va_Zq "jdk/internal/util/Preconditions" "SIOOBE_FORMATTER" "Ljava/util/function/BiFunction;" (fun q => am_gz G ≤ q) s s.heap := by
  obtain ⟨h1, h2, h3, h3', hN, hA1, hA2, h4, h5, h6, h7, h8⟩ := hW
  have hq : ∀ a : Nat, a < (am_gH G).size → ¬ (fun q => am_gz G ≤ q) a → s.heap[a]? = (am_gH G)[a]? := fun a _ ha => hM.2.2.2.2.2.2.1 a (Nat.not_le.mp ha)
  obtain ⟨g1, g2, g3, g4⟩ := h6.1 0 (by decide)
  rw [show [am_words.length].getD 0 0 = am_words.length from rfl] at g4
  exact ⟨g1.kept hq, g2.kept hq, g3.kept hq, va_T.kept g4 hq, h7.kept hq, h8.kept hq⟩
theorem am_j_ret {v : Option Value} {a : Array Value} {st0 : List Value} (hr : va_Run p l e R s m args below meth c H locs cells slots 0 0 (F0 m pc ls st0) rest (am_Qj G M v a) (am_fr G)) (hlo : am_lo G locs)
    (kk : ∀ (H1 : Heap) (locs1 : List Loc), am_Mm G M H1 → am_lo G locs1 → W p l e R s m args below meth c H1 locs1 cells slots Q (F0 m (pc + 3) ls (v.toList ++ rest))) : W p l e R s m args below meth c H locs cells slots Q (F0 m pc ls st0) := by
  intro T hT X
  obtain ⟨v', st₀, t, T', L, h0, X', hL, e1, e2, ⟨hv, hm⟩, st⟩ := hr T hT X
  have hv2 : v' = v := by
    have := hv
    injection this
  subst hv2
  obtain ⟨t2, a1, b1⟩ := kk T'.heap (locs ++ L) (by rw [e1]; exact hm) (fun q hq => by
    rcases List.mem_append.mp hq with h | h
    · exact hlo q h
    · exact hL q h) T' rfl X'
  exact ⟨t2, st t2 a1, b1⟩
/-- a static method of the JDK's, called -/
theorem am_j_S {y : MethodName} {bytes : ByteArray} {maxL d n index : Nat} {ret : Option FieldType} {av : List Value} {v : Option Value} (hmet : Met l y (Cond.code y bytes maxL ret :: am_W) (am_rm d 0 0) (am_Pj G M av) (am_Qj G M v) 0 0 (am_fr G))
    (hx : p.tables.exec = Jvm.exec) (hb : c.code = cc) (hml : c.maxLocals = nL) (hls : ls.size = nL) (hown : s.vm.findClass own = some m.cls) (hts : ∀ w ∈ am_W, w.before args s = true) (hM : am_Mm G M H) (hW : am_Wd G s) (hlo : am_lo G locs)
    (hws : ∀ w ∈ [Cond.methodLink own index y, Cond.static y, Cond.initialized y.cls, Cond.code y bytes maxL ret], w ∈ am_W) (hd : y.cls ≠ "java/lang/invoke/MethodHandle" ∧ y.cls ≠ "java/lang/invoke/VarHandle" ∧ (parseMethodDescriptor y.desc).map (fun d => d.parameters.length) = some n) (hn : av.length = n)
    (hfr : d + 1 ≤ R.frames) (hlc : 8 + (maxL + 11) + 130 * d ≤ R.locals) (hcl : cells ≤ R.cells) (hsl : slots ≤ R.slots) (hrest : (rest.map fun v => v.category).sum ≤ 8) (hdg : decode cc pc = .ok (.invokestatic index, 3)) {st0 : List Value} (hst : st0 = av.reverse ++ rest)
    (kk : ∀ (H1 : Heap) (locs1 : List Loc), am_Mm G M H1 → am_lo G locs1 → W p l e R s m args below meth c H1 locs1 cells slots Q (F0 m (pc + 3) ls (v.toList ++ rest))) : W p l e R s m args below meth c H locs cells slots Q (F0 m pc ls st0) := by
  subst hst
  have hin : ∀ w ∈ (Cond.code y bytes maxL ret :: am_W), w ∈ am_W := fun w hw => (List.mem_cons.mp hw).elim (fun e => by rw [e]; exact hws _ (by simp)) id
  refine am_j_ret (va_runS (Ts := am_W) (own := own) ⟨hx, hb, hml, hown, hts⟩ hmet (n := n) (bytes := bytes) (maxL := maxL) (ret := ret) (index := index)
    ⟨callB_of n hts (fun w hw => am_W_good w (hin w hw)) rfl rfl rfl (hts _ (hws _ (by simp))) (hts _ (hws _ (by simp))) hd ⟨hfr, hlc⟩, hts _ (hws _ (by simp))⟩ ⟨am_Pj_blind, fun U hU hw => ⟨rfl, by rw [hU]; exact hM, hW.warm hw⟩⟩ rfl hn hls rfl (lv_room hrest) hdg ⟨hcl, hsl⟩) hlo kk
/-- a method of the text, called -/
theorem am_j_V {y : MethodName} {bytes : ByteArray} {maxL d n index : Nat} {ret : Option FieldType} {av : List Value} {v : Option Value} (hmet : Met l y (Cond.code y bytes maxL ret :: am_W) (am_rm d 0 0) (am_Pj G M (.ref (am_gt G) :: av)) (am_Qj G M v) 0 0 (am_fr G)) (hcy : y.cls = "java/lang/String")
    (hx : p.tables.exec = Jvm.exec) (hb : c.code = cc) (hml : c.maxLocals = nL) (hls : ls.size = nL) (hown : s.vm.findClass own = some m.cls) (hts : ∀ w ∈ am_W, w.before args s = true) (hM : am_Mm G M H) (hW : am_Wd G s) (hlo : am_lo G locs)
    (hws : ∀ w ∈ [Cond.methodLink own index y, Cond.instanceMethod y, Cond.selects y.cls y y, Cond.initialized y.cls, Cond.code y bytes maxL ret], w ∈ am_W) (hd : y.cls ≠ "java/lang/invoke/MethodHandle" ∧ y.cls ≠ "java/lang/invoke/VarHandle" ∧ (parseMethodDescriptor y.desc).map (fun d => d.parameters.length) = some n) (hn : av.length = n)
    (hfr : d + 1 ≤ R.frames) (hlc : 8 + (maxL + 11) + 130 * d ≤ R.locals) (hcl : cells ≤ R.cells) (hsl : slots ≤ R.slots) (hrest : (rest.map fun v => v.category).sum ≤ 8) (hdg : decode cc pc = .ok (.invokevirtual index, 3)) {st0 : List Value} (hst : st0 = av.reverse ++ .ref (am_gt G) :: rest)
    (kk : ∀ (H1 : Heap) (locs1 : List Loc), am_Mm G M H1 → am_lo G locs1 → W p l e R s m args below meth c H1 locs1 cells slots Q (F0 m (pc + 3) ls (v.toList ++ rest))) : W p l e R s m args below meth c H locs cells slots Q (F0 m pc ls st0) := by
  subst hst
  have hin : ∀ w ∈ (Cond.code y bytes maxL ret :: am_W), w ∈ am_W := fun w hw => (List.mem_cons.mp hw).elim (fun e => by rw [e]; exact hws _ (by simp)) id
  obtain ⟨h1, h2, h3, h3', hN, hA1, hA2, h4, h5, h6, h7, h8⟩ := id hW
  obtain ⟨cell, g1, g2, g3, -⟩ := (h6.1 0 (by decide)).1.kept (H1 := H) (fun a _ ha => hM.2.2.2.2.2.2.1 a (Nat.not_le.mp ha))
  refine am_j_ret (va_runV (Ts := am_W) (own := own) (C := y.cls) ⟨hx, hb, hml, hown, hts⟩ hmet (n := n) (bytes := bytes) (maxL := maxL) (ret := ret) (index := index)
    (cwV n hts (fun w hw => am_W_good w (by
      unfold wsV at hw
      rcases List.mem_append.mp hw with h | h
      · simp only [List.mem_cons, List.not_mem_nil, or_false] at h
        rcases h with h | h | h | h <;> rw [h] <;> exact hws _ (by simp)
      · exact hin w h)) rfl rfl rfl ⟨rfl, hd⟩ ⟨hfr, hlc⟩) ⟨am_Pj_blind, ⟨cell, g1, g2, by rw [hcy]; exact g3⟩, fun U hU hw => ⟨rfl, by rw [hU]; exact hM, hW.warm hw⟩⟩ rfl hn hls rfl (lv_room hrest) hdg ⟨hcl, hsl⟩) hlo kk
end AMT0
theorem djJ0length_0 : decode cJ0_length_8abf5 0 = .ok (.aload_n 0, 1) := by decide +kernel
theorem djJ0length_1 : decode cJ0_length_8abf5 1 = .ok (.getfield 9, 3) := by decide +kernel
theorem djJ0length_4 : decode cJ0_length_8abf5 4 = .ok (.arraylength, 1) := by decide +kernel
theorem djJ0length_5 : decode cJ0_length_8abf5 5 = .ok (.aload_n 0, 1) := by decide +kernel
theorem djJ0length_6 : decode cJ0_length_8abf5 6 = .ok (.invokevirtual 335, 3) := by decide +kernel
theorem djJ0length_9 : decode cJ0_length_8abf5 9 = .ok (.ishr, 1) := by decide +kernel
theorem djJ0length_10 : decode cJ0_length_8abf5 10 = .ok (.ireturn, 1) := by decide +kernel
theorem djJ0charAt_0 : decode cJ0_charAt_5068e 0 = .ok (.aload_n 0, 1) := by decide +kernel
theorem djJ0charAt_1 : decode cJ0_charAt_5068e 1 = .ok (.invokevirtual 492, 3) := by decide +kernel
theorem djJ0charAt_4 : decode cJ0_charAt_5068e 4 = .ok (.ifCond .eq 12, 3) := by decide +kernel
theorem djJ0charAt_7 : decode cJ0_charAt_5068e 7 = .ok (.aload_n 0, 1) := by decide +kernel
theorem djJ0charAt_8 : decode cJ0_charAt_5068e 8 = .ok (.getfield 9, 3) := by decide +kernel
theorem djJ0charAt_11 : decode cJ0_charAt_5068e 11 = .ok (.iload_n 1, 1) := by decide +kernel
theorem djJ0charAt_12 : decode cJ0_charAt_5068e 12 = .ok (.invokestatic 495, 3) := by decide +kernel
theorem djJ0charAt_15 : decode cJ0_charAt_5068e 15 = .ok (.ireturn, 1) := by decide +kernel
theorem djJ0charAt_16 : decode cJ0_charAt_5068e 16 = .ok (.aload_n 0, 1) := by decide +kernel
theorem djJ0charAt_17 : decode cJ0_charAt_5068e 17 = .ok (.getfield 9, 3) := by decide +kernel
theorem djJ0charAt_20 : decode cJ0_charAt_5068e 20 = .ok (.iload_n 1, 1) := by decide +kernel
theorem djJ0charAt_21 : decode cJ0_charAt_5068e 21 = .ok (.invokestatic 498, 3) := by decide +kernel
theorem djJ0charAt_24 : decode cJ0_charAt_5068e 24 = .ok (.ireturn, 1) := by decide +kernel
theorem djJ0coder_0 : decode cJ0_coder_7d493 0 = .ok (.getstatic 38, 3) := by decide +kernel
theorem djJ0coder_3 : decode cJ0_coder_7d493 3 = .ok (.ifCond .eq 10, 3) := by decide +kernel
theorem djJ0coder_6 : decode cJ0_coder_7d493 6 = .ok (.aload_n 0, 1) := by decide +kernel
theorem djJ0coder_7 : decode cJ0_coder_7d493 7 = .ok (.getfield 15, 3) := by decide +kernel
theorem djJ0coder_10 : decode cJ0_coder_7d493 10 = .ok (.goto 4, 3) := by decide +kernel
theorem djJ0coder_13 : decode cJ0_coder_7d493 13 = .ok (.iconst 1, 1) := by decide +kernel
theorem djJ0coder_14 : decode cJ0_coder_7d493 14 = .ok (.ireturn, 1) := by decide +kernel
theorem djJ0isLatin1_0 : decode cJ0_isLatin1_aae02 0 = .ok (.getstatic 38, 3) := by decide +kernel
theorem djJ0isLatin1_3 : decode cJ0_isLatin1_aae02 3 = .ok (.ifCond .eq 14, 3) := by decide +kernel
theorem djJ0isLatin1_6 : decode cJ0_isLatin1_aae02 6 = .ok (.aload_n 0, 1) := by decide +kernel
theorem djJ0isLatin1_7 : decode cJ0_isLatin1_aae02 7 = .ok (.getfield 15, 3) := by decide +kernel
theorem djJ0isLatin1_10 : decode cJ0_isLatin1_aae02 10 = .ok (.ifCond .ne 7, 3) := by decide +kernel
theorem djJ0isLatin1_13 : decode cJ0_isLatin1_aae02 13 = .ok (.iconst 1, 1) := by decide +kernel
theorem djJ0isLatin1_14 : decode cJ0_isLatin1_aae02 14 = .ok (.goto 4, 3) := by decide +kernel
theorem djJ0isLatin1_17 : decode cJ0_isLatin1_aae02 17 = .ok (.iconst 0, 1) := by decide +kernel
theorem djJ0isLatin1_18 : decode cJ0_isLatin1_aae02 18 = .ok (.ireturn, 1) := by decide +kernel
theorem djJ0checkIndex_0 : decode cJ0_checkIndex_df160 0 = .ok (.iload_n 0, 1) := by decide +kernel
theorem djJ0checkIndex_1 : decode cJ0_checkIndex_df160 1 = .ok (.iload_n 1, 1) := by decide +kernel
theorem djJ0checkIndex_2 : decode cJ0_checkIndex_df160 2 = .ok (.getstatic 1053, 3) := by decide +kernel
theorem djJ0checkIndex_5 : decode cJ0_checkIndex_df160 5 = .ok (.invokestatic 1059, 3) := by decide +kernel
theorem djJ0checkIndex_8 : decode cJ0_checkIndex_df160 8 = .ok (.pop, 1) := by decide +kernel
theorem djJ0checkIndex_9 : decode cJ0_checkIndex_df160 9 = .ok (.return_, 1) := by decide +kernel
theorem djJ1charAt_0 : decode cJ1_charAt_3b067 0 = .ok (.iload_n 1, 1) := by decide +kernel
theorem djJ1charAt_1 : decode cJ1_charAt_3b067 1 = .ok (.aload_n 0, 1) := by decide +kernel
theorem djJ1charAt_2 : decode cJ1_charAt_3b067 2 = .ok (.arraylength, 1) := by decide +kernel
theorem djJ1charAt_3 : decode cJ1_charAt_3b067 3 = .ok (.invokestatic 9, 3) := by decide +kernel
theorem djJ1charAt_6 : decode cJ1_charAt_3b067 6 = .ok (.aload_n 0, 1) := by decide +kernel
theorem djJ1charAt_7 : decode cJ1_charAt_3b067 7 = .ok (.iload_n 1, 1) := by decide +kernel
theorem djJ1charAt_8 : decode cJ1_charAt_3b067 8 = .ok (.baload, 1) := by decide +kernel
theorem djJ1charAt_9 : decode cJ1_charAt_3b067 9 = .ok (.sipush 255, 3) := by decide +kernel
theorem djJ1charAt_12 : decode cJ1_charAt_3b067 12 = .ok (.iand, 1) := by decide +kernel
theorem djJ1charAt_13 : decode cJ1_charAt_3b067 13 = .ok (.i2c, 1) := by decide +kernel
theorem djJ1charAt_14 : decode cJ1_charAt_3b067 14 = .ok (.ireturn, 1) := by decide +kernel
theorem djJ3checkIndex_0 : decode cJ3_checkIndex_8e157 0 = .ok (.iload_n 0, 1) := by decide +kernel
theorem djJ3checkIndex_1 : decode cJ3_checkIndex_8e157 1 = .ok (.ifCond .lt 8, 3) := by decide +kernel
theorem djJ3checkIndex_4 : decode cJ3_checkIndex_8e157 4 = .ok (.iload_n 0, 1) := by decide +kernel
theorem djJ3checkIndex_5 : decode cJ3_checkIndex_8e157 5 = .ok (.iload_n 1, 1) := by decide +kernel
theorem djJ3checkIndex_6 : decode cJ3_checkIndex_8e157 6 = .ok (.if_icmp .lt 10, 3) := by decide +kernel
theorem djJ3checkIndex_9 : decode cJ3_checkIndex_8e157 9 = .ok (.aload_n 2, 1) := by decide +kernel
theorem djJ3checkIndex_10 : decode cJ3_checkIndex_8e157 10 = .ok (.iload_n 0, 1) := by decide +kernel
theorem djJ3checkIndex_11 : decode cJ3_checkIndex_8e157 11 = .ok (.iload_n 1, 1) := by decide +kernel
theorem djJ3checkIndex_12 : decode cJ3_checkIndex_8e157 12 = .ok (.invokestatic 95, 3) := by decide +kernel
theorem djJ3checkIndex_15 : decode cJ3_checkIndex_8e157 15 = .ok (.athrow, 1) := by decide +kernel
theorem djJ3checkIndex_16 : decode cJ3_checkIndex_8e157 16 = .ok (.iload_n 0, 1) := by decide +kernel
theorem djJ3checkIndex_17 : decode cJ3_checkIndex_8e157 17 = .ok (.ireturn, 1) := by decide +kernel
theorem am_jwa : Cond.fieldLink "java/lang/String" 38 "java/lang/String" "COMPACT_STRINGS" "Z" ∈ am_W := am_inW (ws := [_]) (by decide +kernel) _ List.mem_cons_self
theorem am_jwb : Cond.fieldLink "java/lang/String" 1053 "jdk/internal/util/Preconditions" "SIOOBE_FORMATTER" "Ljava/util/function/BiFunction;" ∈ am_W := am_inW (ws := [_]) (by decide +kernel) _ List.mem_cons_self
theorem am_jwc : Cond.fieldLink "java/lang/String" 9 "java/lang/String" "value" "[B" ∈ am_W := am_inW (ws := [_]) (by decide +kernel) _ List.mem_cons_self
theorem am_jwd : Cond.fieldLink "java/lang/String" 15 "java/lang/String" "coder" "B" ∈ am_W := am_inW (ws := [_]) (by decide +kernel) _ List.mem_cons_self
theorem am_jw1 : ∀ w ∈ [Cond.methodLink "java/lang/String" 335 yJ0_coder_7d493, Cond.instanceMethod yJ0_coder_7d493, Cond.selects yJ0_coder_7d493.cls yJ0_coder_7d493 yJ0_coder_7d493, Cond.initialized yJ0_coder_7d493.cls, Cond.code yJ0_coder_7d493 cJ0_coder_7d493 1 (some .byte)], w ∈ am_W := am_inW (by decide +kernel)
theorem am_jw2 : ∀ w ∈ [Cond.methodLink "java/lang/String" 492 yJ0_isLatin1_aae02, Cond.instanceMethod yJ0_isLatin1_aae02, Cond.selects yJ0_isLatin1_aae02.cls yJ0_isLatin1_aae02 yJ0_isLatin1_aae02, Cond.initialized yJ0_isLatin1_aae02.cls, Cond.code yJ0_isLatin1_aae02 cJ0_isLatin1_aae02 1 (some .boolean)], w ∈ am_W := am_inW (by decide +kernel)
theorem am_jw3 : ∀ w ∈ [Cond.methodLink "java/lang/String" 495 yJ1_charAt_3b067, Cond.static yJ1_charAt_3b067, Cond.initialized yJ1_charAt_3b067.cls, Cond.code yJ1_charAt_3b067 cJ1_charAt_3b067 2 (some .char)], w ∈ am_W := am_inW (by decide +kernel)
theorem am_jw4 : ∀ w ∈ [Cond.methodLink "java/lang/StringLatin1" 9 yJ0_checkIndex_df160, Cond.static yJ0_checkIndex_df160, Cond.initialized yJ0_checkIndex_df160.cls, Cond.code yJ0_checkIndex_df160 cJ0_checkIndex_df160 2 none], w ∈ am_W := am_inW (by decide +kernel)
theorem am_jw5 : ∀ w ∈ [Cond.methodLink "java/lang/String" 1059 yJ3_checkIndex_8e157, Cond.static yJ3_checkIndex_8e157, Cond.initialized yJ3_checkIndex_8e157.cls, Cond.code yJ3_checkIndex_8e157 cJ3_checkIndex_8e157 3 (some .int)], w ∈ am_W := am_inW (by decide +kernel)
theorem am_jw6 : ∀ w ∈ [Cond.instanceMethod yJ0_length_8abf5, Cond.selects yJ0_length_8abf5.cls yJ0_length_8abf5 yJ0_length_8abf5, Cond.initialized yJ0_length_8abf5.cls, Cond.code yJ0_length_8abf5 cJ0_length_8abf5 1 (some .int)], w ∈ am_W := am_inW (by decide +kernel)
theorem am_jw7 : ∀ w ∈ [Cond.instanceMethod yJ0_charAt_5068e, Cond.selects yJ0_charAt_5068e.cls yJ0_charAt_5068e yJ0_charAt_5068e, Cond.initialized yJ0_charAt_5068e.cls, Cond.code yJ0_charAt_5068e cJ0_charAt_5068e 2 (some .char)], w ∈ am_W := am_inW (by decide +kernel)
theorem am_jnil {G : am_G} : am_lo G [] := fun _ h => by cases h
section AMT1
variable {l : Launch} {G : am_G} {M : am_M}
theorem am_j_coder (d : Nat) : Met l yJ0_coder_7d493 (Cond.code yJ0_coder_7d493 cJ0_coder_7d493 1 (some .byte) :: am_W) (am_rm d 0 0) (am_Pj G M [.ref (am_gt G)]) (am_Qj G M (some (.int 0))) 0 0 (am_fr G) := by
  refine am_j_start (by decide) (Nat.le_refl _) fun p e s m args below meth c ls hx hb hml hown hts hr hlk hM hW hl => ?_
  have hS := am_jS hM hM (locs := []) am_jnil
  obtain ⟨hO, hC, hV, hB, hZ, hq⟩ := am_jt hM hW
  have hown : s.vm.findClass "java/lang/String" = some m.cls := hown
  refine va_gets hx hb hZ hS hown (hts _ am_jwa) (fun x h => h) djJ0coder_0 ?_
  refine lv_if_eq (tgt := 13) hx hb djJ0coder_3 (by decide) (fun h => absurd h (by decide)) (fun _ => ?_)
  refine lv_aload_n hx hb djJ0coder_6 rfl (lv_at hl 0 rfl) ?_
  refine vk_getf hx hb hC hS hown (hts _ am_jwd) (fun x h => h) djJ0coder_7 ?_
  refine lv_goto (tgt := 14) hx hb djJ0coder_10 (by decide) ?_
  exact W.zret hx hb hr rfl (fun t ht _ => ⟨rfl, by rw [ht]; exact hM⟩) am_jnil djJ0coder_14 hlk
theorem am_j_latin (d : Nat) : Met l yJ0_isLatin1_aae02 (Cond.code yJ0_isLatin1_aae02 cJ0_isLatin1_aae02 1 (some .boolean) :: am_W) (am_rm d 0 0) (am_Pj G M [.ref (am_gt G)]) (am_Qj G M (some (.int 1))) 0 0 (am_fr G) := by
  refine am_j_start (by decide) (Nat.le_refl _) fun p e s m args below meth c ls hx hb hml hown hts hr hlk hM hW hl => ?_
  have hS := am_jS hM hM (locs := []) am_jnil
  obtain ⟨hO, hC, hV, hB, hZ, hq⟩ := am_jt hM hW
  have hown : s.vm.findClass "java/lang/String" = some m.cls := hown
  refine va_gets hx hb hZ hS hown (hts _ am_jwa) (fun x h => h) djJ0isLatin1_0 ?_
  refine lv_if_eq (tgt := 17) hx hb djJ0isLatin1_3 (by decide) (fun h => absurd h (by decide)) (fun _ => ?_)
  refine lv_aload_n hx hb djJ0isLatin1_6 rfl (lv_at hl 0 rfl) ?_
  refine vk_getf hx hb hC hS hown (hts _ am_jwd) (fun x h => h) djJ0isLatin1_7 ?_
  refine lv_if_ne (tgt := 17) hx hb djJ0isLatin1_10 (by decide) (fun h => absurd rfl h) (fun _ => ?_)
  refine lv_iconst (v := 1) hx hb djJ0isLatin1_13 (by decide) ?_
  refine lv_goto (tgt := 18) hx hb djJ0isLatin1_14 (by decide) ?_
  exact W.zret hx hb hr (by decide) (fun t ht _ => ⟨rfl, by rw [ht]; exact hM⟩) am_jnil djJ0isLatin1_18 hlk
theorem am_j_pre (d : Nat) {i n : Int32} {x : Value} (hi : ¬ i < 0) (hn : i < n) (hx1 : x.category = 1) : Met l yJ3_checkIndex_8e157 (Cond.code yJ3_checkIndex_8e157 cJ3_checkIndex_8e157 3 (some .int) :: am_W) (am_rm d 0 0) (am_Pj G M [.int i, .int n, x]) (am_Qj G M (some (.int i))) 0 0 (am_fr G) := by
  refine am_j_start (by decide) (by simp [lg_sl, hx1, show ∀ z, (Value.int z).category = 1 from fun _ => rfl]) fun p e s m args below meth c ls hx hb hml hown hts hr hlk hM hW hl => ?_
  have hl0 : lv_has ls 3 [(0, .int i), (1, .int n), (2, x)] := hl
  refine lv_iload_n hx hb djJ3checkIndex_0 rfl (lv_at hl0 0 rfl) ?_
  refine lv_if_lt (tgt := 9) hx hb djJ3checkIndex_1 (by decide) (fun h => absurd h hi) (fun _ => ?_)
  refine lv_iload_n hx hb djJ3checkIndex_4 rfl (lv_at hl0 0 rfl) ?_
  refine lv_iload_n hx hb djJ3checkIndex_5 rfl (lv_at hl0 1 rfl) ?_
  refine lv_icmp_lt (tgt := 16) hx hb djJ3checkIndex_6 (by decide) (fun _ => ?_) (fun h => absurd hn h)
  refine lv_iload_n hx hb djJ3checkIndex_16 rfl (lv_at hl0 0 rfl) ?_
  exact W.zret hx hb hr rfl (fun t ht _ => ⟨rfl, by rw [ht]; exact hM⟩) am_jnil djJ3checkIndex_17 hlk
theorem am_j_chk (d : Nat) {i n : Int32} (hi : ¬ i < 0) (hn : i < n) : Met l yJ0_checkIndex_df160 (Cond.code yJ0_checkIndex_df160 cJ0_checkIndex_df160 2 none :: am_W) (am_rm (d + 1) 0 0) (am_Pj G M [.int i, .int n]) (am_Qj G M none) 0 0 (am_fr G) := by
  refine am_j_start (by decide) (Nat.le_refl 2) fun p e s m args below meth c ls hx hb hml hown hts hr hlk hM hW hl => ?_
  have hl0 : lv_has ls 2 [(0, .int i), (1, .int n)] := hl
  have hS := am_jS hM hM (locs := []) am_jnil
  obtain ⟨hO, hC, hV, hB, hZ, hq⟩ := am_jt hM hW
  have hown : s.vm.findClass "java/lang/String" = some m.cls := hown
  refine lv_iload_n hx hb djJ0checkIndex_0 rfl (lv_at hl0 0 rfl) ?_
  refine lv_iload_n hx hb djJ0checkIndex_1 rfl (lv_at hl0 1 rfl) ?_
  have go : ∀ x : Value, x.category = 1 → W p l e (am_rm (d + 1) 0 0) s m args below meth c s.heap [] 0 0 (MQ below (am_Qj G M none) args s 0 0 (am_fr G)) (F0 m 5 ls [x, .int n, .int i]) := by
    intro x hx1
    refine am_j_S (n := 3) (rest := []) (am_j_pre d hi hn hx1) hx hb hml hl.1 hown hts hM hW am_jnil am_jw5 (by decide +kernel) rfl (Nat.le_refl _) (by show 8 + (3 + 11) + 130 * d ≤ 130 * (d + 1); omega) (Nat.le_refl _) (Nat.le_refl _) (by decide) djJ0checkIndex_5 rfl (fun H1 locs1 hM1 hlo1 => ?_)
    refine lv_pop hx hb djJ0checkIndex_8 rfl ?_
    exact W.vret hx hb hr (fun t ht _ => ⟨rfl, by rw [ht]; exact hM1⟩) hlo1 djJ0checkIndex_9 hlk
  rcases hq with hq | ⟨t, hq⟩
  · exact va_gets hx hb hq hS hown (hts _ am_jwb) (fun x h => h) djJ0checkIndex_2 (go _ rfl)
  · exact va_gets hx hb hq hS hown (hts _ am_jwb) (fun x h => h) djJ0checkIndex_2 (go _ rfl)
theorem am_jch : ∀ k, k < am_words.length → ((((am_words.toList.map (fun ch => Int32.ofNat ch.toNat)).getD k 0) &&& 255).toUInt32 % 65536).toInt32 = am_ch k ∧ narrow .char (.int (am_ch k)) = .int (am_ch k) := by decide +kernel
theorem am_jwl : am_words.length = 189 := by decide +kernel
theorem am_jdrop {i : Int32} (hin : ¬ (i < 0 ∨ am_words.length ≤ i.toNatClampNeg)) : ¬ i < 0 ∧ i < nI am_words.length := by
  have h0 : ¬ i < 0 := fun h => hin (Or.inl h)
  have h1 : i.toNatClampNeg < am_words.length := Nat.not_le.mp fun h => hin (Or.inr h)
  refine ⟨h0, ?_⟩
  rw [am_jwl] at h1 ⊢
  rw [Int32.lt_iff_toInt_lt]
  have h2 : (nI 189).toInt = 189 := by decide
  rw [h2]
  have h3 : i.toInt.toNat < 189 := h1
  omega
theorem am_j_l1 (d : Nat) {i : Int32} (hin : ¬ (i < 0 ∨ am_words.length ≤ i.toNatClampNeg)) : Met l yJ1_charAt_3b067 (Cond.code yJ1_charAt_3b067 cJ1_charAt_3b067 2 (some .char) :: am_W) (am_rm (d + 2) 0 0) (am_Pj G M [.ref (am_gv G), .int i]) (am_Qj G M (some (.int (am_ch i.toNatClampNeg)))) 0 0 (am_fr G) := by
  refine am_j_start (by decide) (Nat.le_refl 2) fun p e s m args below meth c ls hx hb hml hown hts hr hlk hM hW hl => ?_
  have hl0 : lv_has ls 2 [(0, .ref (am_gv G)), (1, .int i)] := hl
  have hS := am_jS hM hM (locs := []) am_jnil
  obtain ⟨hO, hC, hV, hB, hZ, hq⟩ := am_jt hM hW
  obtain ⟨hi0, hi1⟩ := am_jdrop hin
  have hlt : i.toNatClampNeg < am_words.length := Nat.not_le.mp fun h => hin (Or.inr h)
  obtain ⟨hc1, hc2⟩ := am_jch _ hlt
  refine lv_iload_n hx hb djJ1charAt_0 rfl (lv_at hl0 1 rfl) ?_
  refine lv_aload_n hx hb djJ1charAt_1 rfl (lv_at hl0 0 rfl) ?_
  refine va_tlen hx hb hB hS (v := nI am_words.length) rfl djJ1charAt_2 ?_
  refine am_j_S (n := 2) (rest := []) (am_j_chk d hi0 hi1) hx hb hml hl.1 hown hts hM hW am_jnil am_jw4 (by decide +kernel) rfl (Nat.le_refl _) (by show 8 + (2 + 11) + 130 * (d + 1) ≤ 130 * (d + 2); omega) (Nat.le_refl _) (Nat.le_refl _) (by decide) djJ1charAt_3 rfl (fun H1 locs1 hM1 hlo1 => ?_)
  have hS1 := am_jS hM hM1 hlo1
  refine lv_aload_n hx hb djJ1charAt_6 rfl (lv_at hl0 0 rfl) ?_
  refine lv_iload_n hx hb djJ1charAt_7 rfl (lv_at hl0 1 rfl) ?_
  refine va_tb hx hb hB hS1 hin rfl djJ1charAt_8 ?_
  refine lv_sipush (v := 255) hx hb djJ1charAt_9 (by decide) ?_
  refine lv_iand hx hb djJ1charAt_12 ?_
  refine lv_i2c hx hb djJ1charAt_13 hc1 ?_
  exact W.zret hx hb hr hc2 (fun t ht _ => ⟨rfl, by rw [ht]; exact hM1⟩) hlo1 djJ1charAt_14 hlk
theorem am_j_chr (d : Nat) {i : Int32} (hin : ¬ (i < 0 ∨ am_words.length ≤ i.toNatClampNeg)) : Met l yJ0_charAt_5068e (Cond.code yJ0_charAt_5068e cJ0_charAt_5068e 2 (some .char) :: am_W) (am_rm (d + 3) 0 0) (am_Pj G M [.ref (am_gt G), .int i]) (am_Qj G M (some (.int (am_ch i.toNatClampNeg)))) 0 0 (am_fr G) := by
  refine am_j_start (by decide) (Nat.le_refl 2) fun p e s m args below meth c ls hx hb hml hown hts hr hlk hM hW hl => ?_
  have hl0 : lv_has ls 2 [(0, .ref (am_gt G)), (1, .int i)] := hl
  have hS := am_jS hM hM (locs := []) am_jnil
  obtain ⟨hO, hC, hV, hB, hZ, hq⟩ := am_jt hM hW
  have hown : s.vm.findClass "java/lang/String" = some m.cls := hown
  have hlt : i.toNatClampNeg < am_words.length := Nat.not_le.mp fun h => hin (Or.inr h)
  obtain ⟨hc1, hc2⟩ := am_jch _ hlt
  refine lv_aload_n hx hb djJ0charAt_0 rfl (lv_at hl0 0 rfl) ?_
  refine am_j_V (n := 0) (av := []) (rest := []) (am_j_latin (d + 2)) rfl hx hb hml hl.1 hown hts hM hW am_jnil am_jw2 (by decide +kernel) rfl (Nat.le_refl _) (by show 8 + (1 + 11) + 130 * (d + 2) ≤ 130 * (d + 3); omega) (Nat.le_refl _) (Nat.le_refl _) (by decide) djJ0charAt_1 rfl (fun H1 locs1 hM1 hlo1 => ?_)
  have hS1 := am_jS hM hM1 hlo1
  refine lv_if_eq (tgt := 16) hx hb djJ0charAt_4 (by decide) (fun h => absurd h (by decide)) (fun _ => ?_)
  refine lv_aload_n hx hb djJ0charAt_7 rfl (lv_at hl0 0 rfl) ?_
  refine vk_getf hx hb hV hS1 hown (hts _ am_jwc) (fun x h => h) djJ0charAt_8 ?_
  refine lv_iload_n hx hb djJ0charAt_11 rfl (lv_at hl0 1 rfl) ?_
  refine am_j_S (n := 2) (rest := []) (am_j_l1 d hin) hx hb hml hl.1 hown hts hM1 hW hlo1 am_jw3 (by decide +kernel) rfl (Nat.le_refl _) (by show 8 + (2 + 11) + 130 * (d + 2) ≤ 130 * (d + 3); omega) (Nat.le_refl _) (Nat.le_refl _) (by decide) djJ0charAt_12 rfl (fun H2 locs2 hM2 hlo2 => ?_)
  exact W.zret hx hb hr hc2 (fun t ht _ => ⟨rfl, by rw [ht]; exact hM2⟩) hlo2 djJ0charAt_15 hlk
theorem am_j_len (d : Nat) : Met l yJ0_length_8abf5 (Cond.code yJ0_length_8abf5 cJ0_length_8abf5 1 (some .int) :: am_W) (am_rm (d + 1) 0 0) (am_Pj G M [.ref (am_gt G)]) (am_Qj G M (some (.int (nI am_words.length)))) 0 0 (am_fr G) := by
  refine am_j_start (by decide) (Nat.le_refl _) fun p e s m args below meth c ls hx hb hml hown hts hr hlk hM hW hl => ?_
  have hl0 : lv_has ls 1 [(0, .ref (am_gt G))] := hl
  have hS := am_jS hM hM (locs := []) am_jnil
  obtain ⟨hO, hC, hV, hB, hZ, hq⟩ := am_jt hM hW
  have hown : s.vm.findClass "java/lang/String" = some m.cls := hown
  refine lv_aload_n hx hb djJ0length_0 rfl (lv_at hl0 0 rfl) ?_
  refine vk_getf hx hb hV hS hown (hts _ am_jwc) (fun x h => h) djJ0length_1 ?_
  refine va_tlen hx hb hB hS (v := nI am_words.length) rfl djJ0length_4 ?_
  refine lv_aload_n hx hb djJ0length_5 rfl (lv_at hl0 0 rfl) ?_
  refine am_j_V (n := 0) (av := []) (rest := [.int (nI am_words.length)]) (am_j_coder d) rfl hx hb hml hl.1 hown hts hM hW am_jnil am_jw1 (by decide +kernel) rfl (Nat.le_refl _) (by show 8 + (1 + 11) + 130 * d ≤ 130 * (d + 1); omega) (Nat.le_refl _) (Nat.le_refl _) (by decide) djJ0length_6 rfl (fun H1 locs1 hM1 hlo1 => ?_)
  refine lv_ishr hx hb djJ0length_9 ?_
  have e1 : nI am_words.length >>> ((0 : Int32) &&& 31) = nI am_words.length := by rw [am_jwl]; decide
  rw [e1]
  exact W.zret hx hb hr rfl (fun t ht _ => ⟨rfl, by rw [ht]; exact hM1⟩) hlo1 djJ0length_10 hlk
end AMT1
section AMT2
variable {p : Program} {l : Launch} {e : Env} {R : Room} {s : State} {m : MethodId} {args : Array Value} {below : List Frame} {meth : Method} {c : Code} {H : Heap} {locs : List Loc} {cells slots : Nat} {Q : State → Prop}
variable {cc : ByteArray} {pc nL : Nat} {ls : Array Slot} {rest : List Value} {G : am_G} {M : am_M} {own : String}
theorem am_r_len (hx : p.tables.exec = Jvm.exec) (hb : c.code = cc) (hml : c.maxLocals = nL) (hls : ls.size = nL) (hts : ∀ w ∈ am_W, w.before args s = true) (hown : s.vm.findClass own = some m.cls) (hW : am_Wd G s) (hM : am_Mm G M H) (hlo : am_lo G locs) {index : Nat} (hlink : Cond.methodLink own index yJ0_length_8abf5 ∈ am_W) (hfr : 8 ≤ R.frames) (hlc : 1000 ≤ R.locals) (hcl : cells ≤ R.cells) (hsl : slots ≤ R.slots)
    (hrest : (rest.map fun v => v.category).sum ≤ 8) (hdg : decode cc pc = .ok (.invokevirtual index, 3))
    (kk : ∀ (H1 : Heap) (locs1 : List Loc), am_Mm G M H1 → am_lo G locs1 → W p l e R s m args below meth c H1 locs1 cells slots Q (F0 m (pc + 3) ls (.int (nI am_words.length) :: rest))) : W p l e R s m args below meth c H locs cells slots Q (F0 m pc ls (.ref (am_gt G) :: rest)) := by
  refine am_j_V (n := 0) (av := []) (rest := rest) (am_j_len 1) rfl hx hb hml hls hown hts hM hW hlo (fun w hw => ?_) (by decide +kernel) rfl (by omega) (by omega) hcl hsl hrest hdg rfl kk
  rcases List.mem_cons.mp hw with h | h
  · rw [h]; exact hlink
  · exact am_jw6 w h
theorem am_r_chr (hx : p.tables.exec = Jvm.exec) (hb : c.code = cc) (hml : c.maxLocals = nL) (hls : ls.size = nL) (hts : ∀ w ∈ am_W, w.before args s = true) (hown : s.vm.findClass own = some m.cls) (hW : am_Wd G s) (hM : am_Mm G M H) (hlo : am_lo G locs) {index : Nat} (hlink : Cond.methodLink own index yJ0_charAt_5068e ∈ am_W) (hfr : 8 ≤ R.frames) (hlc : 1000 ≤ R.locals) (hcl : cells ≤ R.cells) (hsl : slots ≤ R.slots)
    {i : Int32} (hin : ¬ (i < 0 ∨ am_words.length ≤ i.toNatClampNeg)) (hrest : (rest.map fun v => v.category).sum ≤ 8) (hdg : decode cc pc = .ok (.invokevirtual index, 3))
    (kk : ∀ (H1 : Heap) (locs1 : List Loc), am_Mm G M H1 → am_lo G locs1 → W p l e R s m args below meth c H1 locs1 cells slots Q (F0 m (pc + 3) ls (.int (am_ch i.toNatClampNeg) :: rest))) : W p l e R s m args below meth c H locs cells slots Q (F0 m pc ls (.int i :: .ref (am_gt G) :: rest)) := by
  refine am_j_V (n := 1) (av := [.int i]) (rest := rest) (am_j_chr 1 hin) rfl hx hb hml hls hown hts hM hW hlo (fun w hw => ?_) (by decide +kernel) rfl (by omega) (by omega) hcl hsl hrest hdg rfl kk
  rcases List.mem_cons.mp hw with h | h
  · rw [h]; exact hlink
  · exact am_jw7 w h
end AMT2
