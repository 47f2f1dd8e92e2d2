/-! THE CLAIM OUT OF ONE WALK OF THE LAW'S BODY. Your part is whole_start (and what it stands on); all else here is the same for every law, but numbers. -/
def R_law : String := "FourOnOneLaw"
def lw_P (b : Addr) (xs : List Int32) (args : Array Value) (s : State) : Prop := args = #[.ref b] ∧ s.IntsAt b xs ∧ xs.length ≤ 3072 ∧ (Jvm.Cond.and given_1 narrow_1).before args s = true
def lw_Q (_ : Array Value) (s : State) (o : Outcome) (t : State) : Prop := o = .returned (some (.int 1)) ∧ Framed s o t [] 600000 7302250
def lw_Z (below : List Frame) (a : Array Value) (s : State) : State → Prop := fun t => ∃ o, t.status = .running ∧ Ended t below o ∧ lw_Q a s o t
/-- the law's own end, with 1 on the stack, nothing written that was there before, its room as the claim has it -/
theorem lw_ret {p : Program} {l : Launch} {e : Env} {s : State} {m : MethodId} {below : List Frame} {meth : Method} {c : Code} {b : Nat} (hx : p.tables.exec = Jvm.exec) (hb : c.code = code) (hr : meth.sig.returnType = ret) (hlocks : meth.locks = false) {pc : Nat} {H : Heap} {ls : Array Slot} (hdg : decode code pc = .ok (.ireturn, 1)) : W p l e room_1 s m #[Value.ref b] below meth c H [] 600000 7302250 (lw_Z below #[Value.ref b] s) (F0 m pc ls [.int 1]) := by
  intro T hT X
  obtain ⟨fs, hret, hrun, hended, hW, hframe⟩ := X.leave (v := some (.int 1)) (hlocks := hlocks) (fun h => by rw [hr] at h; cases h)
  have hmeth' : T.vm.method? m = some meth := X.method'
  refine ⟨T.setFrames fs, ?_, .returned (some (.int 1)), hrun, hended, rfl, ⟨_, rfl⟩, hW, hframe⟩
  jvm_step X.here [X.here.top, hx, hb, hdg, hmeth', hr, ret, narrow_b1]
  (try refine ⟨rfl, ?_⟩); (try refine ⟨rfl, ?_⟩)
  first | (intro acts; rw [hret _ acts rfl rfl rfl]) | rw [hret _ _ rfl rfl rfl]
  exact Steps.refl _
/-- what holds at the law's entry: the machine, the code, the tables' words (any of lw_tbl by 'hts w (by decide +kernel)'), the script of L ints xs at the cell b, what the Statement gives of the start (any of its parts by flat_of_before) -/
def lw_At (p : Program) (s : State) (m : MethodId) (meth : Method) (c : Code) (b L : Nat) (xs : Nat → Int32) : Prop :=
  p.tables.exec = Jvm.exec ∧ c.code = code ∧ meth.sig.returnType = ret ∧ c.maxLocals = 4 ∧ s.vm.findClass R_law = some m.cls ∧ (∀ w ∈ lw_tbl, w.before #[Value.ref b] s = true) ∧ va_X b L xs s s.heap ∧ b < s.heap.size ∧ meth.locks = false ∧ (Jvm.Cond.and given_1 narrow_1).before #[Value.ref b] s = true
/-- the memory with which the law begins: the script alone -/
def am_M0 (L : Nat) (xs : Nat → Int32) : am_M := (fun r => if r = 0 then (2, L) else (0, 0), fun r j => if r = 0 then xs j else 0, fun _ _ => 0, fun _ _ => none, 2, 0)
theorem am_arr {s : State} {args : Array Value} {ty : FieldType} (h : (Cond.arrayClass ty).before args s = true) : ∃ cA, ArrOfT s cA ty ∧ s.vm.findClass ("[" ++ ty.toString) = some cA := by
  obtain ⟨cA, kA, comp, h1, h2, h3⟩ := Cond.arrayClass_spec h
  exact ⟨cA, fun N z => ⟨(fun k h => by cases h), kA, h2, comp, h3⟩, h1⟩
theorem am_ov1 : Cond.arrayOver (.object RX0) ∈ lw_tbl := by decide +kernel
theorem am_ov2 : Cond.arrayOver (.array .int) ∈ lw_tbl := by decide +kernel
theorem am_world {s : State} {args : Array Value} (hts : ∀ w ∈ lw_tbl, w.before args s = true) : ∃ (D : va_G) (cA : Nat → ClassId), va_K D vwCl (am_tys cA) s := by
  have hW : ∀ w ∈ am_W, w.before args s = true := fun w hw => hts w (List.mem_filter.mp hw).1
  have hkn : ∀ a, ∃ q : ClassId × (Nat → Nat), a < 7 → u_Kn s (am_cR a) (am_cT a) (am_nf a) q.1 q.2 := by
    intro a
    by_cases ha : a < 7
    · have hi : Cond.instantiable (am_cR a) (am_nf a) ∈ lw_tbl := by
        have key : ∀ a, a < 7 → Cond.instantiable (am_cR a) (am_nf a) ∈ lw_tbl := by decide +kernel
        exact key a ha
      obtain ⟨c, i, h⟩ := u_known (C := am_cR a) (T := am_cT a) (N := am_nf a) hW (am_cin a ha) (hts _ hi)
      exact ⟨(c, i), fun _ => h⟩
    · exact ⟨(0, fun _ => 0), fun h => absurd h ha⟩
  obtain ⟨f, hf⟩ := Classical.axiomOfChoice hkn
  obtain ⟨c2, g2, n2⟩ := am_arr (hW _ am_wa_int)
  obtain ⟨c3, g3, n3⟩ := am_arr (hW _ am_wa_long)
  obtain ⟨c4, g4, n4⟩ := am_arr (hW _ am_wa_char)
  obtain ⟨comp5, c5, k5, h51, -, h52, h53, h54⟩ := Cond.arrayOver_spec (hts _ am_ov1)
  obtain ⟨comp6, c6, k6, h61, h62, h63, h64⟩ := Cond.arrayOver_specA (hts _ am_ov2)
  refine ⟨(fun a => (f a).1, fun a => (f a).2), fun t => match t with | 2 => c2 | 3 => c3 | 4 => c4 | 5 => c5 | _ => c6, fun c q hq => ?_, fun k q hq => ?_⟩
  · have hc : c < 7 := (List.getElem?_eq_some_iff.mp hq).1
    rw [am_cl_at c hc] at hq
    cases hq
    exact hf c hc
  · match k, hq with
    | 0, hq => cases hq; exact ⟨g2, n2⟩
    | 1, hq => cases hq; exact ⟨g3, n3⟩
    | 2, hq => cases hq; exact ⟨g4, n4⟩
    | 3, hq => cases hq; exact ⟨fun N z => ⟨(fun k h => by cases h), k5, h52, comp5, h53⟩, k5, comp5, h52, h53, h51, h54⟩
    | 4, hq => cases hq; exact ⟨fun N z => ⟨(fun k h => by cases h), k6, h62, comp6, h63⟩, h64⟩
    | k + 5, hq => simp [am_tys] at hq
def am_isS : Jvm.Cond → Bool
  | .stringRef _ _ _ => true
  | _ => false
theorem am_srs : lw_tbl.filter am_isS = [Cond.stringRef RX4 70 am_words] := by decide +kernel
def am_byt : List Int32 := am_words.toList.map (fun ch => Int32.ofNat ch.toNat)
def am_tm : Term := Term.string "FourOnOne$Reader" 70
theorem am_nw1 : Cond.exactly am_tm "java/lang/String" ∈ flatC (Jvm.Cond.and given_1 narrow_1) := by decide +kernel
theorem am_nw2 : Cond.eq (.field am_tm "java/lang/String" "coder" "B") (.int 0) ∈ flatC (Jvm.Cond.and given_1 narrow_1) := by decide +kernel
theorem am_nw3 : Cond.arrayOf (.field am_tm "java/lang/String" "value" "[B") .byte ∈ flatC (Jvm.Cond.and given_1 narrow_1) := by decide +kernel
theorem am_nw4 : Cond.eq (.length (.field am_tm "java/lang/String" "value" "[B")) (.int (Int32.ofNat am_words.length)) ∈ flatC (Jvm.Cond.and given_1 narrow_1) := by decide +kernel
theorem am_nw5' : ((flatC (Jvm.Cond.and given_1 narrow_1)).drop 13).take 189 = (List.range 189).map (fun j => Cond.eq (.elem (.field am_tm "java/lang/String" "value" "[B") (.int (Int32.ofNat j))) (.int (am_byt.getD j 0))) := by decide +kernel
theorem am_nwl : am_words.length = 189 := by decide +kernel
theorem am_nw5 (j : Nat) (hj : j < am_words.length) : Cond.eq (.elem (.field am_tm "java/lang/String" "value" "[B") (.int (Int32.ofNat j))) (.int (am_byt.getD j 0)) ∈ flatC (Jvm.Cond.and given_1 narrow_1) := by
  rw [am_nwl] at hj
  have h : Cond.eq (.elem (.field am_tm "java/lang/String" "value" "[B") (.int (Int32.ofNat j))) (.int (am_byt.getD j 0)) ∈ ((flatC (Jvm.Cond.and given_1 narrow_1)).drop 13).take 189 := by
    rw [am_nw5']
    exact List.mem_map.mpr ⟨j, List.mem_range.mpr hj, rfl⟩
  exact List.mem_of_mem_drop (List.mem_of_mem_take h)
theorem am_nw6 : Cond.eq (.static "java/lang/String" "COMPACT_STRINGS" "Z") (.int 1) ∈ flatC (Jvm.Cond.and given_1 narrow_1) := by decide +kernel
theorem am_nw7 : Cond.isRef (.static "jdk/internal/util/Preconditions" "SIOOBE_FORMATTER" "Ljava/util/function/BiFunction;") ∈ flatC (Jvm.Cond.and given_1 narrow_1) := by decide +kernel
theorem am_nw8 : Cond.laysStatic "java/lang/String" "COMPACT_STRINGS" "Z" ∈ lw_tbl := by decide +kernel
theorem am_nw9 : Cond.laysStatic "jdk/internal/util/Preconditions" "SIOOBE_FORMATTER" "Ljava/util/function/BiFunction;" ∈ lw_tbl := by decide +kernel
theorem am_nw10 : Cond.initialized "java/lang/String" ∈ lw_tbl := by decide +kernel
theorem am_nw11 : Cond.initialized "jdk/internal/util/Preconditions" ∈ lw_tbl := by decide +kernel
set_option maxRecDepth 100000 in
theorem am_text {s : State} {args : Array Value} (hts : ∀ w ∈ lw_tbl, w.before args s = true) (hgv : (Jvm.Cond.and given_1 narrow_1).before args s = true) : ∃ at_ : Nat, at_ < s.heap.size ∧ (∀ own k, Cond.stringRef own k am_words ∈ lw_tbl → vk_R own k am_words at_ s) ∧
    (∃ tv, vk_S 1 [am_words.length] [am_words.toList.map (fun ch => Int32.ofNat ch.toNat)] (fun _ => at_) (fun _ => tv) (fun q => s.heap.size ≤ q) s s.heap) ∧
    va_Z "java/lang/String" "COMPACT_STRINGS" "Z" (.int 1) (fun q => s.heap.size ≤ q) s s.heap ∧ va_Zq "jdk/internal/util/Preconditions" "SIOOBE_FORMATTER" "Ljava/util/function/BiFunction;" (fun q => s.heap.size ≤ q) s s.heap := by
  have hs := flat_of_before _ hgv
  have hA : ∀ a : Nat, a < s.heap.size → ¬ (fun q => s.heap.size ≤ q) a := fun a h => Nat.not_le.mpr h
  have h0 : ∀ i : Nat, i < 1 → i = 0 := fun i h => by omega
  obtain ⟨adK, adV, hS, hev⟩ := vk_Sof (args := args) (s := s) (N := 1) (tm := fun _ => am_tm) (len := [am_words.length]) (byt := [am_byt]) (A := fun q => s.heap.size ≤ q)
    (fun i hi => by rw [h0 i hi]; show am_words.length < 2 ^ 31; rw [am_nwl]; decide) (fun i hi => hs _ am_nw1) (fun i hi => hs _ am_nw2) (fun i hi => hs _ am_nw3) (fun i hi => by rw [h0 i hi]; exact hs _ am_nw4) (fun i hi j hj => by rw [h0 i hi] at hj ⊢; exact hs _ (am_nw5 j hj)) (fun i j hi hj hij => absurd ((h0 i hi).trans (h0 j hj).symm) hij) hA
  have hev0 := hev 0 (by decide)
  obtain ⟨⟨cK, hcell, -, -, hlt⟩, -⟩ := hS.1 0 (by decide)
  refine ⟨adK 0, Nat.not_le.mp hlt, fun own k hk => ?_, ⟨adV 0, fun i hi => ?_, fun i j hi hj _ => (h0 i hi).trans (h0 j hj).symm⟩, va_Zof (hts _ am_nw8) (hts _ am_nw10) (va_eqt (hs _ am_nw6)) hA, va_Zqof (hts _ am_nw9) (hts _ am_nw11) (hs _ am_nw7) hA⟩
  · have hm : Cond.stringRef own k am_words ∈ lw_tbl.filter am_isS := List.mem_filter.mpr ⟨hk, rfl⟩
    rw [am_srs, List.mem_singleton] at hm
    injection hm with e1 e2
    subst e1
    subst e2
    exact vk_R.of (hts _ hk) hev0
  · have := hS.1 i hi
    rw [h0 i hi] at this ⊢
    exact this
theorem am_W_imp {p : Program} {l : Launch} {e : Env} {R : Room} {s : State} {m : MethodId} {args : Array Value} {below : List Frame} {meth : Method} {c : Code} {H : Heap} {locs : List Loc} {cells slots : Nat} {Q Q' : State → Prop} {g : JFrame} (h : ∀ t, Q t → Q' t) (k : W p l e R s m args below meth c H locs cells slots Q g) : W p l e R s m args below meth c H locs cells slots Q' g := by
  intro T hT X
  obtain ⟨t, h1, h2⟩ := k T hT X
  exact ⟨t, h1, h t h2⟩
theorem am_end {below : List Frame} {b : Nat} {s : State} {G : am_G} {M' : am_M} {mc ms : Nat} (hz : am_gz G = s.heap.size) (hmc : mc ≤ 600000) (hms : ms ≤ 7302250) (t : State) (h : MQ below (am_Qc G (some (.int 1)) M') #[Value.ref b] s mc ms (am_fr G) t) : lw_Z below #[Value.ref b] s t := by
  obtain ⟨o, h1, h2, ⟨h3, -⟩, L, ⟨h4, h5, h6⟩, h7⟩ := h
  refine ⟨o, h1, h2, h3, ⟨h4, h5, ?_⟩⟩
  refine h6.weaken (fun x hx hlt => ?_) hmc hms
  have h8 := h7 x hx
  unfold am_fr at h8
  rw [hz] at h8
  exact absurd hlt (Nat.not_lt.mpr h8)
