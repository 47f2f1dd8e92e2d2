/-! A method of the machine, called, does what the abstract machine tells. -/
theorem am_cat_sum (ad : Nat → Nat) : ∀ l : List Value, ((l.map (am_cv ad)).map fun v => v.category).sum = am_cat l
  | [] => rfl
  | v :: l => by
    show (am_cv ad v).category + ((l.map (am_cv ad)).map fun v => v.category).sum = v.category + am_cat l
    rw [am_cv_cat, am_cat_sum ad l]
theorem am_tk_dp : ∀ (st : List Value) (b : Nat) (acc : List Value), b ≤ st.length → (am_tk st b acc).reverse ++ am_dp st b = acc.reverse ++ st ∧ (am_tk st b acc).length = acc.length + b
  | st, 0, acc, _ => by
    cases st <;> exact ⟨rfl, rfl⟩
  | [], b + 1, acc, h => absurd h (by simp)
  | v :: l, b + 1, acc, h => by
    obtain ⟨h1, h2⟩ := am_tk_dp l b (v :: acc) (by simpa using h)
    refine ⟨?_, ?_⟩
    · show (am_tk l b (v :: acc)).reverse ++ am_dp l b = _
      rw [h1]
      simp
    · show (am_tk l b (v :: acc)).length = _
      rw [h2]
      simp
      omega
theorem am_tk_st {st : List Value} {b : Nat} (h : b ≤ st.length) : st = (am_tk st b []).reverse ++ am_dp st b ∧ (am_tk st b []).length = b := by
  obtain ⟨h1, h2⟩ := am_tk_dp st b [] h
  exact ⟨by simpa using h1.symm, by simpa using h2⟩
theorem am_pad_len : ∀ (l : List Value) (n : Nat), l.length ≤ n → (am_pad l n).length = n
  | l, 0, h => by
    have : l = [] := List.eq_nil_of_length_eq_zero (Nat.le_zero.mp h)
    subst this
    rfl
  | [], n + 1, _ => by
    show (am_pad [] n).length + 1 = n + 1
    rw [am_pad_len [] n (Nat.zero_le _)]
  | v :: l, n + 1, h => by
    show (am_pad l n).length + 1 = n + 1
    rw [am_pad_len l n (by simpa using h)]
theorem am_pad_get : ∀ (l : List Value) (n i : Nat) (v : Value), (am_pad l n)[i]? = some v → v ≠ .null → l[i]? = some v
  | l, 0, i, v, h, _ => by
    cases l <;> exact h
  | [], n + 1, 0, v, h, hv => by
    have : Value.null = v := by simpa [am_pad] using h
    exact absurd this.symm hv
  | [], n + 1, i + 1, v, h, hv => by
    have := am_pad_get [] n i v (by simpa [am_pad] using h) hv
    simpa using this
  | w :: l, n + 1, 0, v, h, hv => by simpa [am_pad] using h
  | w :: l, n + 1, i + 1, v, h, hv => by
    have := am_pad_get l n i v (by simpa [am_pad] using h) hv
    simpa using this
theorem am_loc_args (ad : Nat → Nat) : ∀ (l : List Value) (k i : Nat) (v : Value), (am_loc l)[i]? = some v → v ≠ .null → (k + i, am_cv ad v) ∈ lv_args k (l.map (am_cv ad))
  | [], k, i, v, h, _ => by simp [am_loc] at h
  | w :: l, k, i, v, h, hv => by
    have one : am_loc (w :: l) = w :: am_loc l → w.category = 1 → (k + i, am_cv ad v) ∈ lv_args k ((w :: l).map (am_cv ad)) := by
      intro e1 hc
      have e : lv_args k ((w :: l).map (am_cv ad)) = (k, am_cv ad w) :: lv_args (k + 1) (l.map (am_cv ad)) := by
        show (k, am_cv ad w) :: lv_args (if (am_cv ad w).category = 2 then k + 2 else k + 1) _ = _
        rw [am_cv_cat, hc]
        rfl
      rw [e]
      rw [e1] at h
      cases i with
      | zero =>
        have : w = v := by simpa using h
        subst this
        exact List.mem_cons_self
      | succ i =>
        have := am_loc_args ad l (k + 1) i v (by simpa using h) hv
        rw [show k + (i + 1) = k + 1 + i by omega]
        exact List.mem_cons_of_mem _ this
    have two : am_loc (w :: l) = w :: .null :: am_loc l → w.category = 2 → (k + i, am_cv ad v) ∈ lv_args k ((w :: l).map (am_cv ad)) := by
      intro e1 hc
      have e : lv_args k ((w :: l).map (am_cv ad)) = (k, am_cv ad w) :: lv_args (k + 2) (l.map (am_cv ad)) := by
        show (k, am_cv ad w) :: lv_args (if (am_cv ad w).category = 2 then k + 2 else k + 1) _ = _
        rw [am_cv_cat, hc]
        rfl
      rw [e]
      rw [e1] at h
      cases i with
      | zero =>
        have : w = v := by simpa using h
        subst this
        exact List.mem_cons_self
      | succ i =>
        cases i with
        | zero =>
          have : Value.null = v := by simpa using h
          exact absurd this.symm hv
        | succ i =>
          have := am_loc_args ad l (k + 2) i v (by simpa using h) hv
          rw [show k + (i + 1 + 1) = k + 2 + i by omega]
          exact List.mem_cons_of_mem _ this
    cases w <;> first | exact one rfl rfl | exact two rfl rfl
theorem am_lc_Ls {ad : Nat → Nat} {m : Nat} {a : List Value} {ls : Array Slot} (hlen : (am_loc a).length ≤ am_ml m) (h : lv_has ls (am_ml m) (lv_args 0 (a.map (am_cv ad)))) : am_Ls ad (am_ml m) ls (am_lc m a) := by
  refine ⟨⟨h.1, h.2.1, fun q hq => ?_⟩, am_pad_len _ _ hlen⟩
  obtain ⟨i, v, h1, h2, rfl⟩ := am_al_mem.mp hq
  exact h.2.2 _ (am_loc_args ad a 0 i v (am_pad_get _ _ _ _ h1 h2) h2)
theorem am_sl_len (ad : Nat → Nat) : ∀ a : List Value, (lg_sl (a.map (am_cv ad))).length = (am_loc a).length
  | [] => rfl
  | w :: l => by
    have ih := am_sl_len ad l
    have e : lg_sl ((w :: l).map (am_cv ad)) = (if (am_cv ad w).category = 2 then [.val (am_cv ad w), .second] else [.val (am_cv ad w)]) ++ lg_sl (l.map (am_cv ad)) := by
      simp [lg_sl]
    rw [e, am_cv_cat, List.length_append, ih]
    cases w <;> (first | (show 1 + (am_loc l).length = (am_loc l).length + 1; omega) | (show 2 + (am_loc l).length = (am_loc l).length + 1 + 1; omega))
/-- the text constants, and what their methods read -/
def am_Tx (G : am_G) (s : State) : Prop :=
  (∀ own k, Cond.stringRef own k am_words ∈ lw_tbl → vk_R own k am_words (am_gt G) s) ∧ am_gt G < am_gz G ∧
  vk_S 1 [am_words.length] [am_words.toList.map (fun ch => Int32.ofNat ch.toNat)] (fun _ => am_gt G) (fun _ => am_gv G) (fun q => am_gz G ≤ q) s (am_gH G) ∧
  va_Z "java/lang/String" "COMPACT_STRINGS" "Z" (.int 1) (fun q => am_gz G ≤ q) s (am_gH G) ∧ va_Zq "jdk/internal/util/Preconditions" "SIOOBE_FORMATTER" "Ljava/util/function/BiFunction;" (fun q => am_gz G ≤ q) s (am_gH G)
/-- what is the same in every method: the classes, the script, the text -/
def am_Wd (G : am_G) (s : State) : Prop := am_Kn G s ∧ va_X (am_gb G) (am_gl G) (am_gx G) s (am_gH G) ∧ am_gb G < am_gz G ∧ (am_gH G).size = am_gz G ∧ (∀ own k y host, Cond.methodLinkNest own k y host ∈ lw_tbl → va_Nw (.methodLinkNest own k y host) s) ∧ va_AO RX0 s ∧ am_AOA s ∧ am_Tx G s
theorem am_Wd.warm {G : am_G} {s U : State} (hW : s.WarmedH U.vm) (h : am_Wd G s) : am_Wd G U := by
  obtain ⟨h1, h2, h3, h3', hN, hA1, hA2, h4, h5, h6, h7, h8⟩ := h
  exact ⟨va_K.moved hW.alike h1, va_X.moved hW.alike h2, h3, h3', fun own k y host hk => va_Nw.warmM hW (hN own k y host hk), va_AO.moved hW.alike hA1, am_AOA.moved hW.alike hA2, fun own k hk => vk_R.warm hW (h4 own k hk), h5, vk_S.moved hW.alike h6, va_Z.moved hW.alike h7, va_Zq.moved hW.alike h8⟩
theorem am_Wd.same {G : am_G} {u U : State} (hv : U.vm = u.vm) (h : am_Wd G u) : am_Wd G U := by
  have hA : u.vm.Alike U.vm := by rw [hv]; exact Vm.Alike.refl _
  obtain ⟨h1, h2, h3, h3', hN, hA1, hA2, h4, h5, h6, h7, h8⟩ := h
  exact ⟨va_K.moved hA h1, va_X.moved hA h2, h3, h3', fun own k y host hk => va_Nw.same rfl hv.symm (hN own k y host hk), va_AO.moved hA hA1, am_AOA.moved hA hA2, fun own k hk => vk_R.same hv (h4 own k hk), h5, vk_S.moved hA h6, va_Z.moved hA h7, va_Zq.moved hA h8⟩
/-- a method's frame -/
def am_Fx (mid : Nat) (p : Program) (s : State) (m : MethodId) (args : Array Value) (meth : Method) (c : Code) : Prop :=
  p.tables.exec = Jvm.exec ∧ c.code = (am_hd mid).2.1 ∧ c.maxLocals = am_ml mid ∧ s.vm.findClass (am_hd mid).1.cls = some m.cls ∧ (∀ w ∈ am_W, w.before args s = true) ∧ meth.sig.returnType = (am_hd mid).2.2.2.1 ∧ meth.locks = false ∧ (am_kd (am_hd mid) = 2 → meth.name = "<init>")
def am_Pc (G : am_G) (M : am_M) (a : List Value) : Array Value → State → Prop := fun v U => v = (a.map (am_cv (am_ga G))).toArray ∧ am_Mm G M U.heap ∧ am_Wd G U
def am_Qc (G : am_G) (v : Option Value) (M' : am_M) : Array Value → State → Outcome → State → Prop := fun _ _ o t => o = .returned (v.map (am_cv (am_ga G))) ∧ am_Mm G M' t.heap
def am_fr (G : am_G) : Addr → Prop := fun q => am_gz G ≤ q
def am_rm (d mc ms : Nat) : Room := { frames := d, cells := mc, slots := ms, locals := 130 * d }
noncomputable def am_wm (mid : Nat) : List Jvm.Cond := Cond.code (am_hd mid).1 (am_hd mid).2.1 (am_ml mid) (am_hd mid).2.2.2.1 :: am_W
theorem am_pl_in {e : Nat} {w : Jvm.Cond} (h : am_pl e w = true) : w ∈ am_W := by
  unfold am_pl at h
  rw [Bool.and_eq_true, decide_eq_true_eq] at h
  exact List.mem_filter.mpr ⟨am_wt_in h.1, h.2⟩
/-- from n steps on: the machine does what the abstract machine tells -/
def am_Snd (l : Launch) (n : Nat) : Prop := ∀ (mid d pc : Nat) (lA sA : List Value) (M : am_M) (v : Option Value) (M' : am_M), am_run n mid d pc lA sA M = some (v, M') →
  ∀ (p : Program) (e : Env) (R : Room) (s : State) (m : MethodId) (args : Array Value) (below : List Frame) (meth : Method) (c : Code) (H : Heap) (locs : List Loc) (cells slots mc ms : Nat) (ls : Array Slot) (G : am_G), am_Fx mid p s m args meth c → am_Wd G s → am_Mm G M H → am_lo G locs → am_Ls (am_ga G) (am_ml mid) ls lA → d ≤ R.frames → 130 * d ≤ R.locals → cells + am_n M' ≤ mc + am_n M → slots + am_s M' ≤ ms + am_s M → mc ≤ R.cells → ms ≤ R.slots →
    W p l e R s m args below meth c H locs cells slots (MQ below (am_Qc G v M') args s mc ms (am_fr G)) (F0 m pc ls (sA.map (am_cv (am_ga G))))
/-- a head that is no law's -/
theorem am_sok_of {mid : Nat} (hk : am_kd (am_hd mid) ≠ 3) : plainFor (am_hd mid).1 = true ∧ ((am_hd mid).1.cls ≠ "java/lang/invoke/MethodHandle" ∧ (am_hd mid).1.cls ≠ "java/lang/invoke/VarHandle") ∧ Cond.code (am_hd mid).1 (am_hd mid).2.1 (am_ml mid) (am_hd mid).2.2.2.1 ∈ am_W ∧ Cond.initialized (am_hd mid).1.cls ∈ am_W ∧ (parseMethodDescriptor (am_hd mid).1.desc).map (fun d => d.parameters.length) = some (if am_kd (am_hd mid) = 0 then am_na (am_hd mid) else am_na (am_hd mid) - 1) ∧
    (am_kd (am_hd mid) = 0 → Cond.static (am_hd mid).1 ∈ am_W) ∧ (am_kd (am_hd mid) = 1 → 1 ≤ am_na (am_hd mid) ∧ Cond.instanceMethod (am_hd mid).1 ∈ am_W ∧ Cond.selects (am_hd mid).1.cls (am_hd mid).1 (am_hd mid).1 ∈ am_W ∧ am_ci (am_hd mid) < 7 ∧ am_cR (am_ci (am_hd mid)) = (am_hd mid).1.cls) ∧
    (am_kd (am_hd mid) = 2 → 1 ≤ am_na (am_hd mid) ∧ Cond.instanceMethod (am_hd mid).1 ∈ am_W ∧ (am_hd mid).1.name = "<init>" ∧ (am_hd mid).2.2.2.1 = none) := by
  have h := (am_oks mid).1.1
  have hp := (am_oks mid).1.2.resolve_left hk
  unfold am_ml
  generalize am_hd mid = q at h hp hk
  obtain ⟨y, by_, ml, ret, kind, rc, na, ci, pc, pi, ps, pn⟩ := q
  unfold am_sok at h
  simp only [am_kd, am_na, am_ci] at hk ⊢
  have hk3 : Nat.beq kind 3 = false := by
    cases hb : Nat.beq kind 3 with
    | false => rfl
    | true => exact absurd (Nat.eq_of_beq_eq_true hb) hk
  dsimp only at h
  rw [hk3] at h
  simp only [Bool.false_or, Bool.and_eq_true, decide_eq_true_eq] at h
  obtain ⟨-, ⟨⟨⟨⟨⟨h1, h2⟩, h3⟩, h4⟩, h5⟩, h6⟩, h7⟩ := h
  refine ⟨h1, ⟨h2, h3⟩, List.mem_filter.mpr ⟨am_wt_in hp, h4⟩, am_pl_in h5, h6, fun e => ?_, fun e => ?_, fun e => ?_⟩
  · subst e
    exact am_pl_in h7
  · subst e
    simp only [Bool.and_eq_true, decide_eq_true_eq] at h7
    obtain ⟨⟨⟨⟨g1, g2⟩, g3⟩, g4⟩, g5⟩ := h7
    exact ⟨Nat.le_of_ble_eq_true g1, am_pl_in g2, am_pl_in g3, Nat.le_of_ble_eq_true g4, g5⟩
  · subst e
    simp only [Bool.and_eq_true, decide_eq_true_eq] at h7
    obtain ⟨⟨⟨⟨g1, g2⟩, g3⟩, g4⟩, g5⟩ := h7
    exact ⟨Nat.le_of_ble_eq_true g1, am_pl_in g2, g3, g4⟩
theorem am_sok_ml (mid : Nat) : am_ml mid ≤ 100 := by
  have h := (am_oks mid).1.1
  unfold am_ml
  generalize am_hd mid = q at h
  obtain ⟨y, by_, ml, ret, kind, rc, na, ci, pc, pi, ps, pn⟩ := q
  unfold am_sok at h
  dsimp only at h
  simp only [Bool.and_eq_true] at h
  exact Nat.le_of_ble_eq_true h.1.2
theorem am_sok_rc (mid : Nat) : (am_rc (am_hd mid) = 0 ∧ (am_hd mid).2.2.2.1 = none) ∨ (am_rc (am_hd mid) = 1 ∧ (am_hd mid).2.2.2.1 = some .int) ∨ (am_rc (am_hd mid) = 2 ∧ (am_hd mid).2.2.2.1 = some .long) ∨ (am_rc (am_hd mid) = 4 ∧ (am_hd mid).2.2.2.1 = some .boolean) := by
  have h := (am_oks mid).1.1
  generalize am_hd mid = q at h
  obtain ⟨y, by_, ml, ret, kind, rc, na, ci, pc, pi, ps, pn⟩ := q
  unfold am_sok at h
  dsimp only at h
  simp only [Bool.and_eq_true] at h
  have h1 := h.1.1
  simp only [am_rc]
  split at h1
  · exact Or.inl ⟨rfl, by simpa using h1⟩
  · exact Or.inr (Or.inl ⟨rfl, by simpa using h1⟩)
  · exact Or.inr (Or.inr (Or.inl ⟨rfl, by simpa using h1⟩))
  · exact Or.inr (Or.inr (Or.inr ⟨rfl, by simpa using h1⟩))
  · cases h1
theorem am_met {l : Launch} {n : Nat} (hS : am_Snd l n) {a d : Nat} {as : List Value} {M M' : am_M} {v : Option Value} (h : am_run n a d 0 (am_lc a as) [] M = some (v, M')) (hk : am_kd (am_hd a) ≠ 3) (hlen : (am_loc as).length ≤ am_ml a) (G : am_G) :
    Met l (am_hd a).1 (am_wm a) (am_rm d (am_n M' - am_n M) (am_s M' - am_s M)) (am_Pc G M as) (am_Qc G v M') (am_n M' - am_n M) (am_s M' - am_s M) (am_fr G) := by
  obtain ⟨k1, k2, k3, k4, k5, k6, k7, k8⟩ := am_sok_of hk
  obtain ⟨hn, hs⟩ := am_mono _ _ _ _ _ _ _ _ _ h
  refine va_MetF (cc := (am_hd a).2.1) (maxL := am_ml a) (ret := (am_hd a).2.2.2.1) k1 rfl ?_
  intro p e s m args below meth c s₁ B hml hv
  obtain ⟨rfl, hM, hW⟩ := hv
  have hts := atoms_spec (ws := am_wm a) B.pre
  have hnm := name_of_methodNamed B.named B.method
  have hl := lv_entry (as.map (am_cv (am_ga G))) (n := am_ml a) (by rw [am_sl_len]; exact hlen)
  rw [lg_entry_eq]
  generalize (lg_sl (as.map (am_cv (am_ga G))) ++ List.replicate (am_ml a - (lg_sl (as.map (am_cv (am_ga G)))).length) Slot.unset).toArray = ls at hl ⊢
  refine hS a d 0 (am_lc a as) [] M v M' h p e _ s m _ below meth c s.heap [] 0 0 _ _ ls G ⟨B.exec, B.bytes, hml, findClass_of_methodNamed B.named, fun w hw => hts w (List.mem_cons_of_mem _ hw), B.returns, B.notSynchronized, fun e2 => ?_⟩ hW hM (fun _ hq => by cases hq) (am_lc_Ls hlen hl) (Nat.le_refl _) (Nat.le_refl _) (by omega) (by omega) (Nat.le_refl _) (Nat.le_refl _)
  rw [hnm.1]
  exact (k8 e2).2.2.1
section AMC
variable {p : Program} {l : Launch} {e : Env} {R : Room} {s : State} {m : MethodId} {args : Array Value} {below : List Frame} {meth : Method} {c : Code} {H : Heap} {locs : List Loc} {cells slots : Nat} {Q : State → Prop}
variable {pc : Nat} {ls : Array Slot} {rest st0 : List Value} {G : am_G} {M M1 : am_M}
theorem am_r_ret {v : Option Value} {a : Array Value} {mc ms : Nat} (hr : va_Run p l e R s m args below meth c H locs cells slots mc ms (F0 m pc ls st0) rest (am_Qc G v M1 a) (am_fr G)) (hlo : am_lo G locs)
    (kk : ∀ (H1 : Heap) (locs1 : List Loc), am_Mm G M1 H1 → am_lo G locs1 → W p l e R s m args below meth c H1 locs1 (cells + mc) (slots + ms) Q (F0 m (pc + 3) ls ((v.map (am_cv (am_ga G))).toList ++ rest))) : W p l e R s m args below meth c H locs cells slots Q (F0 m pc ls st0) := by
  intro T hT X
  obtain ⟨v', st₀, t, T', L, h0, X', hL, e1, e2, ⟨hv, hm⟩, st⟩ := hr T hT X
  have hv2 : v' = v.map (am_cv (am_ga G)) := by
    have := hv
    injection this
  subst hv2
  obtain ⟨t2, a1, b1⟩ := kk T'.heap (locs ++ L) (by rw [e1]; exact hm) (fun q hq => by
    rcases List.mem_append.mp hq with h | h
    · exact hlo q h
    · exact hL q h) T' rfl X'
  exact ⟨t2, st t2 a1, b1⟩
theorem am_Pc_blind {as : List Value} : FrameBlind (am_Pc G M as) := by
  intro a U g mk q
  obtain ⟨h1, h2, h3⟩ := q
  exact ⟨h1, h2, am_Wd.same (u := U) (U := U.calling g mk a) rfl h3⟩
theorem am_Pc_at {as : List Value} (hM : am_Mm G M H) (hW : am_Wd G s) : ∀ U : State, U.heap = H → s.WarmedH U.vm → am_Pc G M as (as.map (am_cv (am_ga G))).toArray U := by
  intro U hU hw
  exact ⟨rfl, by rw [hU]; exact hM, hW.warm hw⟩
end AMC
