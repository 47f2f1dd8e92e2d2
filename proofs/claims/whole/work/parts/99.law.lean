/-! THE CLAIM OUT OF ONE WALK OF THE LAW'S BODY. Your part is whole_start (and what it stands on); all else here is the same for every law, but numbers. -/
def R_law : String := "FourOnOneLaw"
def lw_P (b : Addr) (xs : List Int32) (args : Array Value) (s : State) : Prop := args = #[.ref b] ∧ s.IntsAt b xs ∧ xs.length ≤ 3072 ∧ (Jvm.Cond.and given_1 narrow_1).before args s = true
def lw_Q (_ : Array Value) (s : State) (o : Outcome) (t : State) : Prop := o = .returned (some (.int 1)) ∧ Framed s o t [] 600000 7302250
def lw_Z (below : List Frame) (a : Array Value) (s : State) : State → Prop := fun t => ∃ o, t.status = .running ∧ Ended t below o ∧ lw_Q a s o t
/-- the law's own end, with 1 on the stack, nothing written that was there before, its room as the claim has it -/
theorem lw_ret {p : Program} {l : Launch} {e : Env} {s : State} {m : MethodId} {below : List Frame} {meth : Method} {c : Code} {b : Nat} (hx : p.tables.exec = Jvm.exec) (hb : c.code = code) (hr : meth.sig.returnType = ret) (hlocks : meth.locks = false) {pc : Nat} {H : Heap} {ls : Array Slot} (hdg : decode code pc = .ok (.ireturn, 1)) : W p l e room_1 s m #[Value.ref b] below meth c H [] 600000 7302250 (lw_Z below #[Value.ref b] s) (F0 m pc ls [.int 1]) := by
  intro T hT X
  obtain ⟨fs, hret, hrun, hended, hW, hframe⟩ := X.leave (v := some (.int 1)) (hlocks := hlocks) (fun h => by rw [hr] at h; cases h)
  have hmeth' : T.vm.method? m = some meth := X.method'
  refine ⟨T.setFrames fs, ?_, .returned (some (.int 1)), hrun, hended, rfl, ⟨_, rfl⟩, hW, hframe⟩
  jvm_step X.here [X.here.top, hx, hb, hdg, hmeth', hr, ret, narrow_b1]
  (try refine ⟨rfl, ?_⟩); (try refine ⟨rfl, ?_⟩)
  first | (intro acts; rw [hret _ acts rfl rfl rfl]) | rw [hret _ _ rfl rfl rfl]
  exact Steps.refl _
/-- what holds at the law's entry: the machine, the code, the tables' words (any of lw_tbl by 'hts w (by decide +kernel)'), the script of L ints xs at the cell b, what the Statement gives of the start (any of its parts by flat_of_before) -/
def lw_At (p : Program) (s : State) (m : MethodId) (meth : Method) (c : Code) (b L : Nat) (xs : Nat → Int32) : Prop :=
  p.tables.exec = Jvm.exec ∧ c.code = code ∧ meth.sig.returnType = ret ∧ c.maxLocals = 4 ∧ s.vm.findClass R_law = some m.cls ∧ (∀ w ∈ lw_tbl, w.before #[Value.ref b] s = true) ∧ va_X b L xs s s.heap ∧ b < s.heap.size ∧ meth.locks = false ∧ (Jvm.Cond.and given_1 narrow_1).before #[Value.ref b] s = true
/-- the memory with which the law begins: the script alone -/
def am_M0 (L : Nat) (xs : Nat → Int32) : am_M := (fun r => if r = 0 then (2, L) else (0, 0), fun r j => if r = 0 then xs j else 0, fun _ _ => 0, fun _ _ => none, 2, 0)
theorem am_arr {s : State} {args : Array Value} {ty : FieldType} (h : (Cond.arrayClass ty).before args s = true) : ∃ cA, ArrOfT s cA ty ∧ s.vm.findClass ("[" ++ ty.toString) = some cA := by
  obtain ⟨cA, kA, comp, h1, h2, h3⟩ := Cond.arrayClass_spec h
  exact ⟨cA, fun N z => ⟨(fun k h => by cases h), kA, h2, comp, h3⟩, h1⟩
theorem am_ov1 : Cond.arrayOver (.object RX0) ∈ lw_tbl := by decide +kernel
theorem am_ov2 : Cond.arrayOver (.array .int) ∈ lw_tbl := by decide +kernel
theorem am_world {s : State} {args : Array Value} (hts : ∀ w ∈ lw_tbl, w.before args s = true) : ∃ (D : va_G) (cA : Nat → ClassId), va_K D vwCl (am_tys cA) s := by
  have hW : ∀ w ∈ am_W, w.before args s = true := fun w hw => hts w (List.mem_filter.mp hw).1
  have hkn : ∀ a, ∃ q : ClassId × (Nat → Nat), a < 7 → u_Kn s (am_cR a) (am_cT a) (am_nf a) q.1 q.2 := by
    intro a
    by_cases ha : a < 7
    · have hi : Cond.instantiable (am_cR a) (am_nf a) ∈ lw_tbl := by
        have key : ∀ a, a < 7 → Cond.instantiable (am_cR a) (am_nf a) ∈ lw_tbl := by decide +kernel
        exact key a ha
      obtain ⟨c, i, h⟩ := u_known (C := am_cR a) (T := am_cT a) (N := am_nf a) hW (am_cin a ha) (hts _ hi)
      exact ⟨(c, i), fun _ => h⟩
    · exact ⟨(0, fun _ => 0), fun h => absurd h ha⟩
  obtain ⟨f, hf⟩ := Classical.axiomOfChoice hkn
  obtain ⟨c2, g2, n2⟩ := am_arr (hW _ am_wa_int)
  obtain ⟨c3, g3, n3⟩ := am_arr (hW _ am_wa_long)
  obtain ⟨c4, g4, n4⟩ := am_arr (hW _ am_wa_char)
  obtain ⟨comp5, c5, k5, h51, -, h52, h53, h54⟩ := Cond.arrayOver_spec (hts _ am_ov1)
  obtain ⟨comp6, c6, k6, h61, h62, h63, h64⟩ := Cond.arrayOver_specA (hts _ am_ov2)
  refine ⟨(fun a => (f a).1, fun a => (f a).2), fun t => match t with | 2 => c2 | 3 => c3 | 4 => c4 | 5 => c5 | _ => c6, fun c q hq => ?_, fun k q hq => ?_⟩
  · have hc : c < 7 := (List.getElem?_eq_some_iff.mp hq).1
    rw [am_cl_at c hc] at hq
    cases hq
    exact hf c hc
  · match k, hq with
    | 0, hq => cases hq; exact ⟨g2, n2⟩
    | 1, hq => cases hq; exact ⟨g3, n3⟩
    | 2, hq => cases hq; exact ⟨g4, n4⟩
    | 3, hq => cases hq; exact ⟨fun N z => ⟨(fun k h => by cases h), k5, h52, comp5, h53⟩, k5, comp5, h52, h53, h51, h54⟩
    | 4, hq => cases hq; exact ⟨fun N z => ⟨(fun k h => by cases h), k6, h62, comp6, h63⟩, h64⟩
    | k + 5, hq => simp [am_tys] at hq
def am_isS : Jvm.Cond → Bool
  | .stringRef _ _ _ => true
  | _ => false
theorem am_srs : lw_tbl.filter am_isS = [Cond.stringRef RX4 70 am_words] := by decide +kernel
def am_byt : List Int32 := am_words.toList.map (fun ch => Int32.ofNat ch.toNat)
def am_tm : Term := Term.string "FourOnOne$Reader" 70
theorem am_nw1 : Cond.exactly am_tm "java/lang/String" ∈ flatC (Jvm.Cond.and given_1 narrow_1) := by decide +kernel
theorem am_nw2 : Cond.eq (.field am_tm "java/lang/String" "coder" "B") (.int 0) ∈ flatC (Jvm.Cond.and given_1 narrow_1) := by decide +kernel
theorem am_nw3 : Cond.arrayOf (.field am_tm "java/lang/String" "value" "[B") .byte ∈ flatC (Jvm.Cond.and given_1 narrow_1) := by decide +kernel
theorem am_nw4 : Cond.eq (.length (.field am_tm "java/lang/String" "value" "[B")) (.int (Int32.ofNat am_words.length)) ∈ flatC (Jvm.Cond.and given_1 narrow_1) := by decide +kernel
theorem am_nw5' : ((flatC (Jvm.Cond.and given_1 narrow_1)).drop 13).take 189 = (List.range 189).map (fun j => Cond.eq (.elem (.field am_tm "java/lang/String" "value" "[B") (.int (Int32.ofNat j))) (.int (am_byt.getD j 0))) := by decide +kernel
theorem am_nwl : am_words.length = 189 := by decide +kernel
theorem am_nw5 (j : Nat) (hj : j < am_words.length) : Cond.eq (.elem (.field am_tm "java/lang/String" "value" "[B") (.int (Int32.ofNat j))) (.int (am_byt.getD j 0)) ∈ flatC (Jvm.Cond.and given_1 narrow_1) := by
  rw [am_nwl] at hj
  have h : Cond.eq (.elem (.field am_tm "java/lang/String" "value" "[B") (.int (Int32.ofNat j))) (.int (am_byt.getD j 0)) ∈ ((flatC (Jvm.Cond.and given_1 narrow_1)).drop 13).take 189 := by
    rw [am_nw5']
    exact List.mem_map.mpr ⟨j, List.mem_range.mpr hj, rfl⟩
  exact List.mem_of_mem_drop (List.mem_of_mem_take h)
theorem am_nw6 : Cond.eq (.static "java/lang/String" "COMPACT_STRINGS" "Z") (.int 1) ∈ flatC (Jvm.Cond.and given_1 narrow_1) := by decide +kernel
theorem am_nw7 : Cond.isRef (.static "jdk/internal/util/Preconditions" "SIOOBE_FORMATTER" "Ljava/util/function/BiFunction;") ∈ flatC (Jvm.Cond.and given_1 narrow_1) := by decide +kernel
theorem am_nw8 : Cond.laysStatic "java/lang/String" "COMPACT_STRINGS" "Z" ∈ lw_tbl := by decide +kernel
theorem am_nw9 : Cond.laysStatic "jdk/internal/util/Preconditions" "SIOOBE_FORMATTER" "Ljava/util/function/BiFunction;" ∈ lw_tbl := by decide +kernel
theorem am_nw10 : Cond.initialized "java/lang/String" ∈ lw_tbl := by decide +kernel
theorem am_nw11 : Cond.initialized "jdk/internal/util/Preconditions" ∈ lw_tbl := by decide +kernel
set_option maxRecDepth 100000 in
theorem am_text {s : State} {args : Array Value} (hts : ∀ w ∈ lw_tbl, w.before args s = true) (hgv : (Jvm.Cond.and given_1 narrow_1).before args s = true) : ∃ at_ : Nat, at_ < s.heap.size ∧ (∀ own k, Cond.stringRef own k am_words ∈ lw_tbl → vk_R own k am_words at_ s) ∧
    (∃ tv, vk_S 1 [am_words.length] [am_words.toList.map (fun ch => Int32.ofNat ch.toNat)] (fun _ => at_) (fun _ => tv) (fun q => s.heap.size ≤ q) s s.heap) ∧
    va_Z "java/lang/String" "COMPACT_STRINGS" "Z" (.int 1) (fun q => s.heap.size ≤ q) s s.heap ∧ va_Zq "jdk/internal/util/Preconditions" "SIOOBE_FORMATTER" "Ljava/util/function/BiFunction;" (fun q => s.heap.size ≤ q) s s.heap := by
  have hs := flat_of_before _ hgv
  have hA : ∀ a : Nat, a < s.heap.size → ¬ (fun q => s.heap.size ≤ q) a := fun a h => Nat.not_le.mpr h
  have h0 : ∀ i : Nat, i < 1 → i = 0 := fun i h => by omega
  obtain ⟨adK, adV, hS, hev⟩ := vk_Sof (args := args) (s := s) (N := 1) (tm := fun _ => am_tm) (len := [am_words.length]) (byt := [am_byt]) (A := fun q => s.heap.size ≤ q)
    (fun i hi => by rw [h0 i hi]; show am_words.length < 2 ^ 31; rw [am_nwl]; decide) (fun i hi => hs _ am_nw1) (fun i hi => hs _ am_nw2) (fun i hi => hs _ am_nw3) (fun i hi => by rw [h0 i hi]; exact hs _ am_nw4) (fun i hi j hj => by rw [h0 i hi] at hj ⊢; exact hs _ (am_nw5 j hj)) (fun i j hi hj hij => absurd ((h0 i hi).trans (h0 j hj).symm) hij) hA
  have hev0 := hev 0 (by decide)
  obtain ⟨⟨cK, hcell, -, -, hlt⟩, -⟩ := hS.1 0 (by decide)
  refine ⟨adK 0, Nat.not_le.mp hlt, fun own k hk => ?_, ⟨adV 0, fun i hi => ?_, fun i j hi hj _ => (h0 i hi).trans (h0 j hj).symm⟩, va_Zof (hts _ am_nw8) (hts _ am_nw10) (va_eqt (hs _ am_nw6)) hA, va_Zqof (hts _ am_nw9) (hts _ am_nw11) (hs _ am_nw7) hA⟩
  · have hm : Cond.stringRef own k am_words ∈ lw_tbl.filter am_isS := List.mem_filter.mpr ⟨hk, rfl⟩
    rw [am_srs, List.mem_singleton] at hm
    injection hm with e1 e2
    subst e1
    subst e2
    exact vk_R.of (hts _ hk) hev0
  · have := hS.1 i hi
    rw [h0 i hi] at this ⊢
    exact this
theorem am_W_imp {p : Program} {l : Launch} {e : Env} {R : Room} {s : State} {m : MethodId} {args : Array Value} {below : List Frame} {meth : Method} {c : Code} {H : Heap} {locs : List Loc} {cells slots : Nat} {Q Q' : State → Prop} {g : JFrame} (h : ∀ t, Q t → Q' t) (k : W p l e R s m args below meth c H locs cells slots Q g) : W p l e R s m args below meth c H locs cells slots Q' g := by
  intro T hT X
  obtain ⟨t, h1, h2⟩ := k T hT X
  exact ⟨t, h1, h t h2⟩
theorem am_end {below : List Frame} {b : Nat} {s : State} {G : am_G} {M' : am_M} {mc ms : Nat} (hz : am_gz G = s.heap.size) (hmc : mc ≤ 600000) (hms : ms ≤ 7302250) (t : State) (h : MQ below (am_Qc G (some (.int 1)) M') #[Value.ref b] s mc ms (am_fr G) t) : lw_Z below #[Value.ref b] s t := by
  obtain ⟨o, h1, h2, ⟨h3, -⟩, L, ⟨h4, h5, h6⟩, h7⟩ := h
  refine ⟨o, h1, h2, h3, ⟨h4, h5, ?_⟩⟩
  refine h6.weaken (fun x hx hlt => ?_) hmc hms
  have h8 := h7 x hx
  unfold am_fr at h8
  rw [hz] at h8
  exact absurd hlt (Nat.not_lt.mpr h8)
/-- the law, run by the abstract machine, answers 1 -/
theorem am_main (L : Nat) (xs : Nat → Int32) (hL : L ≤ 3072) : ∃ M', am_ev 0 600 0 [.ref 0, .null, .null, .null] [] (am_M0 L xs) = some (some (.int 1), M') ∧ am_n M' ≤ 600002 ∧ am_s M' ≤ 7302250 := by
  sorry
set_option maxHeartbeats 4000000 in
theorem whole_start {p : Program} {e : Env} {s : State} {m : MethodId} {below : List Frame} {meth : Method} {c : Code} (l : Launch) (hflags : l.flags = flags0) {b L : Nat} {xs : Nat → Int32} (hL : L ≤ 3072) (C0 : lw_At p s m meth c b L xs) : W p l e room_1 s m #[Value.ref b] below meth c s.heap [] 0 0 (lw_Z below #[Value.ref b] s) (entryFrame m ([Value.ref b] : List Value).toArray 4) := by
  obtain ⟨hx, hb, hr, hml, hown, hts, hX, hbl, hlocks, hgv⟩ := C0
  obtain ⟨D, cA, hK⟩ := am_world hts
  obtain ⟨at_, ht1, ht2, ht3, ht4, ht5⟩ := am_text hts hgv
  obtain ⟨M', hev, hn, hs⟩ := am_main L xs hL
  obtain ⟨n, hrun⟩ := am_ev_some.mp hev
  have hl := lv_entry ([.ref b]) (n := 4) (Nat.le_of_ble_eq_true rfl)
  rw [lg_entry_eq]
  generalize (lg_sl ([.ref b]) ++ List.replicate (4 - (lg_sl ([.ref b])).length) Slot.unset).toArray = ls at hl ⊢
  have hmono := am_mono _ _ _ _ _ _ _ _ _ hrun
  have hn0 : am_n (am_M0 L xs) = 2 := rfl
  have hs0 : am_s (am_M0 L xs) = 0 := rfl
  rw [hn0, hs0] at hmono
  refine am_W_imp (am_end (G := (D, cA, b, at_, s.heap.size, L, xs, s.heap)) (M' := M') (mc := am_n M' - 2) (ms := am_s M') rfl (by omega) hs) ?_
  refine am_snd l n 0 600 0 _ _ (am_M0 L xs) _ M' hrun p e room_1 s m _ below meth c s.heap [] 0 0 (am_n M' - 2) (am_s M') ls (D, cA, b, at_, s.heap.size, L, xs, s.heap) ⟨hx, hb, hml, hown, fun w hw => hts w (List.mem_filter.mp hw).1, hr, hlocks, fun h => ?_⟩ ?_ ?_ (fun _ h => by cases h) ?_ (by decide) (by decide) (by rw [hn0]; omega) (by rw [hs0]; omega) (by show _ ≤ 600000; omega) hs
  · exact absurd h (by decide)
  · exact ⟨hK, hX, hbl, rfl, fun own k y host h => va_Nw.of rfl (hts _ h), va_AO.of (hts _ am_ov1), hts _ am_ov2, ht2, ht1, ht3, ht4, ht5⟩
  · refine ⟨rfl, Nat.le_refl _, fun r h => ?_, rfl, fun j _ => rfl, rfl, fun q _ => rfl, fun r h h2 => ?_⟩
    · rw [hn0] at h
      show (if r = 0 then (2, L) else (0, 0) : Nat × Nat).1 = 0
      rw [if_neg (by omega)]
    · rw [hn0] at h2
      omega
  · refine ⟨⟨hl.1, hl.2.1, fun q hq => ?_⟩, rfl⟩
    refine hl.2.2 q ?_
    exact hq
set_option maxHeartbeats 4000000 in
theorem lw_walk (l : Launch) (hflags : l.flags = flags0) (b : Addr) (xs : List Int32) : MetFree l x (headSpec (Jvm.Cond.code x code maxLocals ret :: tables_1) room_1) (lw_P b xs) (fun _ _ _ _ _ => True) lw_Q := by
  refine MetFree.of_bodyS (code := code) (maxLocals := maxLocals) (ret := ret) (by decide) ?_ ?_
  · intro args s m h hn
    obtain ⟨meth, c, h1, h2, h3, h4, h5, h6, -, -⟩ := Cond.code_spec hn (atoms_spec (ws := Jvm.Cond.code x code maxLocals ret :: tables_1) h _ List.mem_cons_self)
    exact ⟨meth, c, h1, h2, h3, h4, h5, h6⟩
  · intro p e s m args below meth c s₁ B hml0 hP _
    obtain ⟨rfl, hx, hbd, hgv⟩ := hP
    obtain ⟨scr, harrAt, hlist, hof, hsmall⟩ := hx
    obtain ⟨hcb, hkn, -, -⟩ := State.arrayAt?_spec harrAt
    have hown : s.vm.findClass R_law = some m.cls := findClass_of_methodNamed B.named
    have hts0 : ∀ c ∈ (Jvm.Cond.code x code maxLocals ret :: tables_1), c.before #[Value.ref b] s = true := atoms_spec (ws := Jvm.Cond.code x code maxLocals ret :: tables_1) B.pre
    have hts : ∀ w ∈ lw_tbl, w.before #[Value.ref b] s = true := k2_hts_sels lw_privs (fun w hw => hts0 w (List.mem_cons_of_mem _ hw)) lw_privs_ok
    have hml : c.maxLocals = 4 := B.maxLocals_eq (hts0 _ List.mem_cons_self)
    have X₀ : Stand p l e room_1 s m #[Value.ref b] below meth c s₁ [] 0 0 := Stand.of_body B
    have hh0 : s₁.heap = s.heap := by rw [B.state]; rfl
    have hsz : scr.slots.size = xs.length := by rw [← Array.length_toList, hlist, List.length_map]
    have hval : ∀ j : Nat, j < xs.length → scr.slots[j]? = some (.int (xs.getD j 0)) := fun j hj => by
      rw [← Array.getElem?_toList, hlist]
      simp [hj]
    have hbl : b < s.heap.size := (Array.getElem?_eq_some_iff.mp hcb).1
    have hX : va_X b xs.length (fun j => xs.getD j 0) s s.heap := ⟨scr, hcb, hof, hkn, hsz, hval⟩
    have K : W p l e room_1 s m #[Value.ref b] below meth c s₁.heap [] 0 0 (lw_Z below #[Value.ref b] s) (entryFrame m ([Value.ref b] : List Value).toArray 4) := by
      rw [hh0]
      exact whole_start l hflags hbd ⟨B.exec, B.bytes, B.returns, hml, hown, hts, hX, hbl, B.notSynchronized, hgv⟩
    obtain ⟨t, a1, o, b1, b2, b3⟩ := K s₁ rfl X₀
    exact ⟨t, o, a1, b1, b2, b3⟩
theorem lw_pre_spec {args : Array Value} {s : State} (h : (Jvm.Cond.and given_1 narrow_1).before args s = true) (hr : rest_1_c.before args s = true) : ∃ (b : Addr) (xs : List Int32), lw_P b xs args s := by
  have hs := flat_of_before _ h
  have hq := flat_of_before _ hr
  have hc : (Cond.count 1).before args s = true := hs _ (by decide +kernel)
  have harr : (Cond.arrayOf (.arg 0) .int).before args s = true := hs _ (by decide +kernel)
  have hle : (Cond.le (.length (.arg 0)) (.int 3072)).before args s = true := hs _ (by decide +kernel)
  have hlen : (Cond.isInt (.length (.arg 0))).before args s = true := hq _ (by decide +kernel)
  have hall : (Cond.all (.arg 0) (.isInt (.elem (.arg 0) (.index 0)))).before args s = true := hq _ (by decide +kernel)
  obtain ⟨b, xs, hb, hx⟩ := State.ints_of_pre rfl harr hlen hall
  have hsm : xs.length < 2 ^ 31 := hx.choose_spec.2.2.2
  have hev : (Term.length (.arg 0)).eval args s none [] s = some (.int xs.length.toInt32) := hx.length_eval hb
  have hv := Cond.le_ints hev (show (Term.int 3072).eval args s none [] s = some (.int 3072) from rfl)
  have hd : xs.length.toInt32 ≤ 3072 := by
    simpa [Cond.before, Cond.holds, hv] using hle
  have hN : xs.length ≤ 3072 := (Int32.ofNat_le_ofNat hsm (by decide)).mp (show Int32.ofNat xs.length ≤ Int32.ofNat 3072 from hd)
  exact ⟨b, xs, Cond.one_arg hc (show args[0]? = some (.ref b) from hb), hx, hN, h⟩
theorem lw_comes (l : Launch) (hflags : l.flags = flags0) : Comes l x (Jvm.Cond.code x code maxLocals ret :: tables_1) room_1 (fun tb e args s => Calls_1 tb e args s ∧ rest_1 tb e args s ∧ Pre_1 tb e args s)
    (fun _ _ args s o t => lw_Q args s o t) := by
  intro p e ha hc hk s m args below hf hfit hheap happ hpre
  obtain ⟨b, xs, hP⟩ := lw_pre_spec hpre.2.2 hpre.2.1
  obtain ⟨k, o, h1, h2, h3, hQ⟩ := lw_walk l hflags b xs p e ha hc hk s m args below hf ((Spec.applies_iff_loose hf).mp happ).1 hP trivial
  exact ⟨k, o, h1, h2, h3, hQ⟩
theorem lw_frame {s t : State} {o : Outcome} {args : Array Value} (h : Framed s o t [] 600000 7302250) :
    Framed s o t (fieldLocs frame_1_writes args s ++ arrayLocs frame_1_arrays args s ++ staticLocs frame_1_statics s) 600000 7302250 := h
theorem lw_limb (L : Cond) (hL : ∀ (args : Array Value) (s t : State), L.after args s (.returned (some (.int 1))) t = true) :
    ArmFor flags0 classFile x code maxLocals ret World_1 tables_1 room_1 Calls_1 rest_1 Pre_1
      (fun tb e a s o t => postC L tb e a s o t ∧ Framed s o t (fieldLocs frame_1_writes a s ++ arrayLocs frame_1_arrays a s ++ staticLocs frame_1_statics s) 600000 7302250) := by
  intro l hflags _ _ p e ha hc hk s m args below hf hfit hheap happ hpre
  obtain ⟨k, o, h1, h2, h3, rfl, hF⟩ := lw_comes l hflags p e ha hc hk s m args below hf hfit hheap happ hpre
  exact ⟨k, _, h1, h2, h3, hL args s _, lw_frame hF⟩
theorem i_vc : Claimed_1_1 ∧ Claimed_1_2 := ⟨lw_limb limb_1_1 (fun args s t => by simp [limb_1_1, Cond.after, Cond.holds, Cond.value]), lw_limb limb_1_2 (fun args s t => Cond.after_iff.mpr (by
  first | (rw [show limb_1_2 = Cond.eq .result (.int 1) from rfl, Cond.eq_ints (x := 1) (y := 1) rfl rfl]; simp; done) | (simp [limb_1_2, Cond.value, Term.eval]; done)))⟩
