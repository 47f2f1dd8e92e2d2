/-! The reference: one step behind a part. -/
def noS4 (be : List Int) : Prop := ∀ c r, be = c :: r → ¬ (1 ≤ c ∧ c ≤ 4)
theorem m_dropT {L : Nat} {q : am_Pq} {j : Nat} {be : List Int} {o : Nat} (hbe : noS4 be) (d : Nat) (x : Int) : ∀ (w l : List Int) (M : am_M), am_Sh L q M → qH M j be l w o → l.length + w.length + be.length ≤ 1600 → (∀ c ∈ w ++ be, 1 ≤ c ∧ c ≤ 60) → ∃ M', am_ev 244 (d + 3) 162 [.ref 187, .int (am_i x)] [] M = some (some (.int (am_i 1)), M') ∧ am_Sh L q M' ∧ qH M' j be (l ++ w.takeWhile tT) (x :: w.dropWhile tT) o ∧ fr qF1 M M' := by
  intro w
  induction w with
  | nil =>
    intro l M S H hl hc
    have h3 := m_isOn S H (by rw [List.length_nil]; omega) hc (x := 3) (by omega) (d + 2)
    have h4 := m_isOn S H (by rw [List.length_nil]; omega) hc (x := 4) (by omega) (d + 2)
    have n3 : ¬ ([] ++ be).head? = some 3 := fun h => by
      cases be with
      | nil => cases h
      | cons c r => have := hbe c r rfl; have h : some c = some 3 := h; have := Option.some.inj h; omega
    have n4 : ¬ ([] ++ be).head? = some 4 := fun h => by
      cases be with
      | nil => cases h
      | cons c r => have := hbe c r rfl; have h : some c = some 4 := h; have := Option.some.inj h; omega
    have S2 := S.sI 258 (([] : List Int).length + be.length) (am_i x)
    refine ⟨_, ?_, S2.sI _ _ _, by rw [List.takeWhile_nil, List.append_nil, List.dropWhile_nil]; exact qH_push H x, fr_tr (fr_sI (Or.inr (Or.inl rfl))) (fr_sI (Or.inr (Or.inr ⟨rfl, by omega⟩)))⟩
    rw [t244_162, am_ob_p (kk_187 S), h3, am_bI_p, if_neg n3, am_br_ne (by omega) (by omega) (by omega) (by omega), if_pos rfl, am_ob_p (kk_187 S), h4, am_bI_p, if_neg n4, am_br_eq (by omega) (by omega) (by omega) (by omega), if_pos rfl, am_ob_p (kk_187 S), rr_187_93 S, am_gr_p, am_ob_p (kk_187 S), H.2.2.2.1, am_iw_p (kk_258 S) (by omega) (by omega) (by rw [List.length_nil]; omega) (by omega), am_i_ix (by omega) (by rw [List.length_nil]; omega), Int.toNat_natCast]
    simp only [am_lt]
    rw [am_ob_p (kk_187 S2), am_ob_p (kk_187 S2), am_I_ne1 (show 187 ≠ 258 by decide), H.2.2.2.1, am_i_add, am_tr_1]
  | cons c w ih =>
    intro l M S H hl hc
    rw [List.length_cons] at hl
    have hcb := hc c (by simp)
    have h3 := m_isOn S H (by rw [List.length_cons]; omega) hc (x := 3) (by omega) (d + 2)
    have h4 := m_isOn S H (by rw [List.length_cons]; omega) hc (x := 4) (by omega) (d + 2)
    have hh : ((c :: w) ++ be).head? = some c := rfl
    rw [hh] at h3 h4
    by_cases g : tT c = true
    · have g2 : c = 3 ∨ c = 4 := of_decide_eq_true g
      obtain ⟨M1, r1, S1, H1, f1⟩ := m_drops S H (by omega) (d + 1)
      obtain ⟨M2, r2, S2, H2, f2⟩ := ih (l ++ [c]) M1 S1 H1 (by rw [List.length_append, List.length_singleton]; omega) (fun c' hc' => hc c' (by rw [List.cons_append]; exact List.mem_cons_of_mem _ hc'))
      refine ⟨M2, ?_, S2, ?_, fr_tr f1 f2⟩
      · rw [t244_162, am_ob_p (kk_187 S), h3, am_bI_p]
        by_cases g3 : c = 3
        · rw [if_pos (by rw [g3]), am_br_ne (by omega) (by omega) (by omega) (by omega), if_neg (by omega), am_ob_p (kk_187 S), r1, am_bV_p]
          exact r2
        · rw [if_neg (fun h => g3 (Option.some.inj h)), am_br_ne (by omega) (by omega) (by omega) (by omega), if_pos rfl, am_ob_p (kk_187 S), h4, am_bI_p, if_pos (by rw [g2.resolve_left g3]), am_br_eq (by omega) (by omega) (by omega) (by omega), if_neg (by omega), am_ob_p (kk_187 S), r1, am_bV_p]
          exact r2
      · rw [List.takeWhile_cons, List.dropWhile_cons, if_pos g, if_pos g]
        rw [List.append_assoc] at H2
        exact H2
    · have g2 : ¬ (c = 3 ∨ c = 4) := fun h => g (decide_eq_true h)
      have S2 := S.sI 258 ((c :: w).length + be.length) (am_i x)
      refine ⟨_, ?_, S2.sI _ _ _, by rw [List.takeWhile_cons, List.dropWhile_cons, if_neg g, if_neg g, List.append_nil]; exact qH_push H x, fr_tr (fr_sI (Or.inr (Or.inl rfl))) (fr_sI (Or.inr (Or.inr ⟨rfl, by omega⟩)))⟩
      rw [t244_162, am_ob_p (kk_187 S), h3, am_bI_p, if_neg (fun h => g2 (Or.inl (Option.some.inj h))), am_br_ne (by omega) (by omega) (by omega) (by omega), if_pos rfl, am_ob_p (kk_187 S), h4, am_bI_p, if_neg (fun h => g2 (Or.inr (Option.some.inj h))), am_br_eq (by omega) (by omega) (by omega) (by omega), if_pos rfl, am_ob_p (kk_187 S), rr_187_93 S, am_gr_p, am_ob_p (kk_187 S), H.2.2.2.1, am_iw_p (kk_258 S) (by omega) (by omega) (by rw [List.length_cons]; omega) (by omega), am_i_ix (by omega) (by rw [List.length_cons]; omega), Int.toNat_natCast]
      simp only [am_lt]
      rw [am_ob_p (kk_187 S2), am_ob_p (kk_187 S2), am_I_ne1 (show 187 ≠ 258 by decide), H.2.2.2.1, am_i_add, am_tr_1]
theorem m_dropS {L : Nat} {q : am_Pq} {j : Nat} {be : List Int} {o : Nat} (hbe : noS4 be) (d : Nat) (x : Int) : ∀ (w l : List Int) (M : am_M), am_Sh L q M → qH M j be l w o → l.length + w.length + be.length ≤ 1600 → (∀ c ∈ w ++ be, 1 ≤ c ∧ c ≤ 60) → ∃ M', am_ev 244 (d + 3) 247 [.ref 187, .int (am_i x)] [] M = some (some (.int (am_i 1)), M') ∧ am_Sh L q M' ∧ qH M' j be (l ++ w.takeWhile tS) (x :: w.dropWhile tS) o ∧ fr qF1 M M' := by
  have noP : ∀ (w l : List Int) (M : am_M), am_Sh L q M → qH M j be l w o → l.length + w.length + be.length ≤ 1600 → (∀ c ∈ w ++ be, 1 ≤ c ∧ c ≤ 60) → (∀ y : Int, 1 ≤ y → y ≤ 4 → ¬ (w ++ be).head? = some y) → am_ev 244 (d + 3) 247 [.ref 187, .int (am_i x)] [] M = some (some (.int (am_i 1)), am_sI (am_sI M 258 (w.length + be.length) (am_i x)) 187 94 (am_i (((w.length + be.length : Nat) : Int) + 1))) := by
    intro w l M S H hl hc hy
    have h1 := m_isOn S H (by omega) hc (x := 1) (by omega) (d + 2)
    have h2 := m_isOn S H (by omega) hc (x := 2) (by omega) (d + 2)
    have h3 := m_isOn S H (by omega) hc (x := 3) (by omega) (d + 2)
    have h4 := m_isOn S H (by omega) hc (x := 4) (by omega) (d + 2)
    rw [if_neg (hy 1 (by omega) (by omega))] at h1
    rw [if_neg (hy 2 (by omega) (by omega))] at h2
    rw [if_neg (hy 3 (by omega) (by omega))] at h3
    rw [if_neg (hy 4 (by omega) (by omega))] at h4
    have S2 := S.sI 258 (w.length + be.length) (am_i x)
    rw [t244_247, am_ob_p (kk_187 S), h3, am_bI_p, am_br_ne (by omega) (by omega) (by omega) (by omega), if_pos rfl, am_ob_p (kk_187 S), h4, am_bI_p, am_br_ne (by omega) (by omega) (by omega) (by omega), if_pos rfl, am_ob_p (kk_187 S), h1, am_bI_p, am_br_ne (by omega) (by omega) (by omega) (by omega), if_pos rfl, am_ob_p (kk_187 S), h2, am_bI_p, am_br_eq (by omega) (by omega) (by omega) (by omega), if_pos rfl, am_ob_p (kk_187 S), rr_187_93 S, am_gr_p, am_ob_p (kk_187 S), H.2.2.2.1, am_iw_p (kk_258 S) (by omega) (by omega) (by omega) (by omega), am_i_ix (by omega) (by omega), Int.toNat_natCast]
    simp only [am_lt]
    rw [am_ob_p (kk_187 S2), am_ob_p (kk_187 S2), am_I_ne1 (show 187 ≠ 258 by decide), H.2.2.2.1, am_i_add, am_tr_1]
  intro w
  induction w with
  | nil =>
    intro l M S H hl hc
    have S2 := S.sI 258 (([] : List Int).length + be.length) (am_i x)
    refine ⟨_, noP [] l M S H hl hc (fun y h1 h2 h => ?_), S2.sI _ _ _, by rw [List.takeWhile_nil, List.append_nil, List.dropWhile_nil]; exact qH_push H x, fr_tr (fr_sI (Or.inr (Or.inl rfl))) (fr_sI (Or.inr (Or.inr ⟨rfl, by omega⟩)))⟩
    cases be with
    | nil => cases h
    | cons c r => have := hbe c r rfl; have h : some c = some y := h; have := Option.some.inj h; omega
  | cons c w ih =>
    intro l M S H hl hc
    have hl0 := hl
    rw [List.length_cons] at hl
    have hcb := hc c (by simp)
    have hh : ((c :: w) ++ be).head? = some c := rfl
    by_cases g : tS c = true
    · have g2 : 1 ≤ c ∧ c ≤ 4 := of_decide_eq_true g
      have h1 := m_isOn S H (by rw [List.length_cons]; omega) hc (x := 1) (by omega) (d + 2)
      have h2 := m_isOn S H (by rw [List.length_cons]; omega) hc (x := 2) (by omega) (d + 2)
      have h3 := m_isOn S H (by rw [List.length_cons]; omega) hc (x := 3) (by omega) (d + 2)
      have h4 := m_isOn S H (by rw [List.length_cons]; omega) hc (x := 4) (by omega) (d + 2)
      rw [hh] at h1 h2 h3 h4
      obtain ⟨M1, r1, S1, H1, f1⟩ := m_drops S H (by omega) (d + 1)
      obtain ⟨M2, r2, S2, H2, f2⟩ := ih (l ++ [c]) M1 S1 H1 (by rw [List.length_append, List.length_singleton]; omega) (fun c' hc' => hc c' (by rw [List.cons_append]; exact List.mem_cons_of_mem _ hc'))
      refine ⟨M2, ?_, S2, ?_, fr_tr f1 f2⟩
      · rw [t244_247, am_ob_p (kk_187 S), h3, am_bI_p]
        by_cases g3 : c = 3
        · rw [if_pos (by rw [g3]), am_br_ne (by omega) (by omega) (by omega) (by omega), if_neg (by omega), am_ob_p (kk_187 S), r1, am_bV_p]
          exact r2
        · rw [if_neg (fun h => g3 (Option.some.inj h)), am_br_ne (by omega) (by omega) (by omega) (by omega), if_pos rfl, am_ob_p (kk_187 S), h4, am_bI_p]
          by_cases g4 : c = 4
          · rw [if_pos (by rw [g4]), am_br_ne (by omega) (by omega) (by omega) (by omega), if_neg (by omega), am_ob_p (kk_187 S), r1, am_bV_p]
            exact r2
          · rw [if_neg (fun h => g4 (Option.some.inj h)), am_br_ne (by omega) (by omega) (by omega) (by omega), if_pos rfl, am_ob_p (kk_187 S), h1, am_bI_p]
            by_cases g5 : c = 1
            · rw [if_pos (by rw [g5]), am_br_ne (by omega) (by omega) (by omega) (by omega), if_neg (by omega), am_ob_p (kk_187 S), r1, am_bV_p]
              exact r2
            · rw [if_neg (fun h => g5 (Option.some.inj h)), am_br_ne (by omega) (by omega) (by omega) (by omega), if_pos rfl, am_ob_p (kk_187 S), h2, am_bI_p, if_pos (show some c = some 2 by rw [show c = 2 by omega]), am_br_eq (by omega) (by omega) (by omega) (by omega), if_neg (by omega), am_ob_p (kk_187 S), r1, am_bV_p]
              exact r2
      · rw [List.takeWhile_cons, List.dropWhile_cons, if_pos g, if_pos g]
        rw [List.append_assoc] at H2
        exact H2
    · have g2 : ¬ (1 ≤ c ∧ c ≤ 4) := fun h => g (decide_eq_true h)
      have S2 := S.sI 258 ((c :: w).length + be.length) (am_i x)
      exact ⟨_, noP (c :: w) l M S H hl0 hc (fun y h1 h2 h => g2 (by rw [hh] at h; have := Option.some.inj h; omega)), S2.sI _ _ _, by rw [List.takeWhile_cons, List.dropWhile_cons, if_neg g, if_neg g, List.append_nil]; exact qH_push H x, fr_tr (fr_sI (Or.inr (Or.inl rfl))) (fr_sI (Or.inr (Or.inr ⟨rfl, by omega⟩)))⟩
theorem tk_len (f : Int → Bool) (w : List Int) : (w.takeWhile f).length + (w.dropWhile f).length = w.length := by
  rw [← List.length_append, List.takeWhile_append_dropWhile]
theorem brk_top {w : List Int} (h : brk w ≠ -1) : ∃ w', w.dropWhile nb = brk w :: w' := by
  unfold brk at h ⊢
  cases hw : w.dropWhile nb with
  | nil => rw [hw] at h; exact absurd rfl h
  | cons c w' => exact ⟨w', rfl⟩
theorem drop_mem {f : Int → Bool} {w : List Int} {c : Int} (h : c ∈ w.dropWhile f) : c ∈ w := (List.dropWhile_sublist f).subset h
def pStB (L : Nat) (q : am_Pq) (Z : Nat → Nat → Int) (n j d : Nat) (be l0 w0 : List Int) (v1 : Value) (lhs : am_Q) (M : am_M) : am_Cf → Prop
  | .inl e => ∃ M', lhs = some (some (.int (am_i 0)), M') ∧ qFt L q Z n M' e ∧ fr qA M M'
  | .inr (0, s, t, l, w, o) => ∃ M', lhs = some (some (.int (am_i 1)), M') ∧ qC L q Z n j be M' s t l w o ∧ fr qA M M'
  | .inr (1, s, t, l, w, o) => ∃ M', lhs = am_bV (am_cl 242 (d + 6) [.ref 187] M') (fun M6 => am_ev 244 (d + 7) 0 [.ref 187, v1] [] M6) ∧ qC L q Z n j be M' s t l w o ∧ fr qA M M'
  | .inr (3, s, t, _, _, o) => ∃ M', lhs = some (some (.int (am_i 0)), M') ∧ qC L q Z n j be M' s t l0 w0 o ∧ fr qA M M'
  | _ => True
theorem m_stepB {L : Nat} {q : am_Pq} {Z : Nat → Nat → Int} {n j : Nat} {be : List Int} (hbe : noS4 be) {M : am_M} {s : Nat} {t : Bool} {l w : List Int} {o : Nat} (H : qC L q Z n j be M s t l w o) (ho1 : ∀ c ∈ w, 20 ≤ c → 1 ≤ o) (d : Nat) (v1 : Value) : pStB L q Z n j d be l w v1 (am_ev 244 (d + 7) 0 [.ref 187, v1] [] M) M (stB Z n s t l w o) := by
  obtain ⟨HP, HQ, hb⟩ := H
  obtain ⟨hbl, hs16, hj, ho, hc⟩ := hb
  obtain ⟨S, e5, hsn, hn, hz⟩ := mP_S HP
  obtain ⟨M1, r1, H1, f1⟩ := m_lk HP (d + 6)
  have S1 := H1.1.1
  have HQ1 : qH M1 j be l w o := qH_mv HQ (fun b k h => (f1 b k (by omega)).1)
  have fM1 : fr qA M M1 := fr_mono f1 (fun b k h => Or.inr (Or.inr ⟨h.1, by omega⟩))
  have e15 : am_I M1 187 5 = am_i 0 := H1.1.2.2.2.2.1
  have hG := isG_at (Z := Z) (n := n) (s := s) (t := t) (l := []) (c := 41) (by decide) (by decide)
  have hbz := hz s
  have hcb : -1 ≤ (if s < n then Z 0 s else -1) ∧ (if s < n then Z 0 s else -1) ≤ 255 := by split <;> omega
  have hlk : (if s < n then Z 0 s else -1) = 41 ↔ isG Z n 41 (.inr (s, t, [])) = true := by
    rw [hG]
    by_cases g : s < n
    · rw [if_pos g]; simp [g]
    · rw [if_neg g]; simp [g]
  have hbr : ∀ M', am_Sh L q M' → qH M' j be l w o → ∀ d', am_cl 237 (d' + 1) [.ref 187] M' = some (some (.int (am_i (brk w))), M') := fun M' S' H' d' => m_brk S' H' (by omega) hc d'
  have hbrb : -1 ≤ brk w ∧ brk w ≤ 60 := by
    by_cases g : brk w = -1
    · omega
    · obtain ⟨w', hw'⟩ := brk_top g
      have := hc (brk w) (List.mem_append_left _ (drop_mem (by rw [hw']; exact List.mem_cons_self)))
      omega
  -- what is done where no bracket is closed
  have h122 : ∃ M2, am_ev 244 (d + 7) 0 [.ref 187, v1] [] M = am_ev 244 (d + 7) 43 [.ref 187, v1] [] M1 ∧ (isG Z n 41 (.inr (s, t, [])) = true ∧ (brk w = 20 ∨ brk w = 23 ∨ brk w = 24)) ∧ M2 = M1 ∨ am_ev 244 (d + 7) 0 [.ref 187, v1] [] M = am_ev 244 (d + 7) 122 [.ref 187, v1] [] M1 ∧ ¬ (isG Z n 41 (.inr (s, t, [])) = true ∧ (brk w = 20 ∨ brk w = 23 ∨ brk w = 24)) := by
    refine ⟨M1, ?_⟩
    have h0 := t244_0 (d + 6) M 187 v1
    rw [am_ob_p (kk_187 S), e5, am_br_ne (by omega) (by omega) (by omega) (by omega), if_pos rfl, am_ob_p (kk_187 S), r1, am_bI_p, am_br_ne (by omega) (by omega) (by omega) (by omega)] at h0
    by_cases g1 : isG Z n 41 (.inr (s, t, [])) = true
    · rw [if_pos (hlk.mpr g1)] at h0
      simp only [am_ob_p (kk_187 S1), hbr M1 S1 HQ1 (d + 5), am_bI_p] at h0
      rw [am_br_eq (by omega) (by omega) (by omega) (by omega), am_br_eq (by omega) (by omega) (by omega) (by omega), am_br_ne (by omega) (by omega) (by omega) (by omega)] at h0
      by_cases g2 : brk w = 20
      · rw [if_pos g2] at h0
        exact Or.inl ⟨h0, ⟨g1, Or.inl g2⟩, rfl⟩
      · rw [if_neg g2] at h0
        by_cases g3 : brk w = 23
        · rw [if_pos g3] at h0
          exact Or.inl ⟨h0, ⟨g1, Or.inr (Or.inl g3)⟩, rfl⟩
        · rw [if_neg g3] at h0
          by_cases g4 : brk w = 24
          · rw [if_pos g4] at h0
            exact Or.inl ⟨h0, ⟨g1, Or.inr (Or.inr g4)⟩, rfl⟩
          · rw [if_neg g4] at h0
            exact Or.inr ⟨h0, fun h => h.2.elim g2 (fun h => h.elim g3 g4)⟩
    · rw [if_neg (fun h => g1 (hlk.mp h))] at h0
      exact Or.inr ⟨h0, fun h => g1 h.1⟩
  obtain ⟨-, ⟨h0, hcl, -⟩ | ⟨h0, hncl⟩⟩ := h122
  · unfold stB
    rw [if_pos hcl]
    have hs := hG.mp hcl.1
    have hnb := ns_bd (Z := Z) hs.1
    obtain ⟨w', hw'⟩ := brk_top (w := w) (by omega)
    have htl := tk_len nb w
    rw [hw', List.length_cons] at htl
    have H2 := mQt_step H1 hs.1 (by rw [hs.2]; decide) (by rw [hs.2]; decide)
    have S2 := (mP_S H2).1
    have HQ2 : qH (am_sI M1 187 2 (am_i ((s : Int) + 1))) j be l w o := qH_mv HQ1 (fun b k h => by
      by_cases g : b = 187
      · subst g; rw [am_I_ne2 (by omega)]
      · rw [am_I_ne1 g])
    obtain ⟨M3, r3, S3, HQ3, f3⟩ := m_dropsTo (d + 4) w l _ S2 HQ2 (by omega) hc
    rw [hw'] at HQ3
    have hbm : brk w ∈ w := drop_mem (f := nb) (by rw [hw']; exact List.mem_cons_self)
    have ho2 := ho1 _ hbm (by omega)
    have HQ4 := qH_o (qH_pop HQ3) (o - 1)
    have S4 := S3.sI 187 94 (am_i ((w'.length + be.length : Nat) : Int))
    have S5 := S4.sI 187 95 (am_i ((o - 1 : Nat) : Int))
    have hv : am_I (am_sI (am_sI M3 187 94 (am_i ((w'.length + be.length : Nat) : Int))) 187 95 (am_i ((o - 1 : Nat) : Int))) 258 (w'.length + be.length) = am_i (brk w) := by
      rw [am_I_ne1 (by decide), am_I_ne1 (by decide), ← List.length_append]
      exact HQ3.2.2.2.2.1.1
    have f5 : fr qF1 M3 (am_sI (am_sI M3 187 94 (am_i ((w'.length + be.length : Nat) : Int))) 187 95 (am_i ((o - 1 : Nat) : Int))) := fr_tr (fr_sI (Or.inr (Or.inr ⟨rfl, by omega⟩))) (fr_sI (Or.inr (Or.inr ⟨rfl, by omega⟩)))
    have HP5 := mP_F1 H2 S5 (fr_tr f3 f5)
    have hcw : ∀ c ∈ w' ++ be, 1 ≤ c ∧ c ≤ 60 := fun c hc' => by
      rcases List.mem_append.mp hc' with h | h
      · exact hc c (List.mem_append_left _ (drop_mem (f := nb) (by rw [hw']; exact List.mem_cons_of_mem _ h)))
      · exact hc c (List.mem_append_right _ h)
    have fM5 : fr qA M (am_sI (am_sI M3 187 94 (am_i ((w'.length + be.length : Nat) : Int))) 187 95 (am_i ((o - 1 : Nat) : Int))) := fr_tr fM1 (fr_tr (fr_sI (Or.inr (Or.inr ⟨rfl, by omega⟩))) (fr_mono (fr_tr f3 f5) (fun b k h => qF1_qA h)))
    rw [t244_43, am_ob_p (kk_187 S1), am_ob_p (kk_187 S1), mQ_at H1, am_i_add] at h0
    simp only [am_lt] at h0
    rw [am_ob_p (kk_187 S2), t238, r3, am_bV_p, am_ob_p (kk_187 S3), am_ob_p (kk_187 S3), HQ3.2.2.2.1, am_i_sub, show (((brk w :: w').length + be.length : Nat) : Int) - 1 = ((w'.length + be.length : Nat) : Int) by rw [List.length_cons]; omega, am_ob_p (kk_187 S4), am_ob_p (kk_187 S4), am_I_ne2 (show 95 ≠ 94 by decide), HQ3.2.2.2.2.2.1, am_i_sub, show (o : Int) - 1 = ((o - 1 : Nat) : Int) by omega, am_ob_p (kk_187 S5), rr_187_93 S5, am_gr_p, am_ob_p (kk_187 S5), am_I_ne2 (show 94 ≠ 95 by decide), am_I_same, am_ix_p (kk_258 S5) (by omega) (by omega) (by omega), am_i_ix (by omega) (by omega), Int.toNat_natCast, hv, am_br_eq (by omega) (by omega) (by omega) (by omega)] at h0
    rw [hw', List.tail_cons]
    by_cases g2 : brk w = 20
    · rw [if_pos g2, am_ob_p (kk_187 S5)] at h0
      rw [if_pos g2, List.append_nil]
      exact ⟨_, h0, ⟨HP5, HQ4, by rw [List.length_append]; omega, by omega, hj, by omega, hcw⟩, fM5⟩
    · rw [if_neg g2, am_ob_p (kk_187 S5), am_gr_p, am_ob_p (kk_187 S5), am_ix_p (kk_258 S5) (by omega) (by omega) (by omega), hv, am_br_ne (by omega) (by omega) (by omega) (by omega)] at h0
      rw [if_neg g2]
      have hl5 : (l ++ w.takeWhile nb).length < 1700 := by rw [List.length_append]; omega
      by_cases g3 : brk w = 23
      · obtain ⟨M6, r6, S6, HQ6, f6⟩ := m_emit S5 HQ4 hl5 5 (d + 6)
        rw [if_pos g3, am_ob_p (kk_187 S5), r6, am_bV_p, am_ob_p (kk_187 S6)] at h0
        rw [if_pos g3]
        exact ⟨M6, h0, ⟨mP_F1 HP5 S6 f6, HQ6, by rw [List.length_append, List.length_append, List.length_singleton]; omega, by omega, hj, by omega, hcw⟩, fr_tr fM5 (fr_mono f6 (fun b k h => qF1_qA h))⟩
      · obtain ⟨M6, r6, S6, HQ6, f6⟩ := m_emit S5 HQ4 hl5 6 (d + 6)
        rw [if_neg g3, am_ob_p (kk_187 S5), r6, am_bV_p, am_ob_p (kk_187 S6)] at h0
        rw [if_neg g3]
        exact ⟨M6, h0, ⟨mP_F1 HP5 S6 f6, HQ6, by rw [List.length_append, List.length_append, List.length_singleton]; omega, by omega, hj, by omega, hcw⟩, fr_tr fM5 (fr_mono f6 (fun b k h => qF1_qA h))⟩
  · unfold stB
    rw [if_neg hncl]
    rw [t244_122] at h0
    have e42 := m_tkG (mQ_P H1) (x := 42) (by omega) (by omega) (by decide) (by decide) (d + 5)
    obtain ⟨M2, r2, k20, k21, f2⟩ := e42
    rw [am_ob_p (kk_187 S1), r2, am_bI_p, br_ne_b] at h0
    have f2' : fr rR M1 M2 := fr_mono f2 (fun b k h => ⟨h.1, by omega⟩)
    -- behind a sign that is taken
    have sgn : ∀ (M' : am_M) (c : Int), fr rR M1 M' → isG Z n c (.inr (s, t, [])) = true → ¬ ltr c = 1 → ¬ dgt c = 1 → mP L q Z n M' (ns Z n s) (nt Z n s) → am_I M' 187 2 = am_i ((s : Int) + 1) → am_Sh L q M' ∧ qH M' j be l w o ∧ am_I M' 187 2 - am_i 1 = am_i (s : Int) ∧ s < 1600 ∧ am_I M' 188 s = am_i c := by
      intro M' c f' hg hc1 hc2 HP' hat
      have hsg := (isG_at hc1 hc2).mp hg
      obtain ⟨a, ⟨S', HI, -⟩, -⟩ := HP'
      exact ⟨S', qH_rR HQ1 f', by rw [hat, am_i_sub]; congr 1; omega, by omega, by rw [HI s (by omega), hsg.2]⟩
    have room : ∀ (f : Int → Bool) (x : Int), 1 ≤ x ∧ x ≤ 60 → s < n → qb (ns Z n s) j be (l ++ w.takeWhile f) (x :: w.dropWhile f) o := by
      intro f x hx hs
      have hnb := ns_bd (Z := Z) hs
      have htl := tk_len f w
      refine ⟨by rw [List.length_append, List.length_cons]; omega, by omega, hj, ho, fun c hc' => ?_⟩
      rw [List.cons_append] at hc'
      rcases List.mem_cons.mp hc' with rfl | hc'
      · exact hx
      · rcases List.mem_append.mp hc' with h | h
        · exact hc c (List.mem_append_left _ (drop_mem h))
        · exact hc c (List.mem_append_right _ h)
    by_cases g42 : isG Z n 42 (.inr (s, t, [])) = true
    · rw [if_pos g42] at h0 ⊢
      obtain ⟨HP2, hat⟩ := k21 g42
      obtain ⟨S2, HQ2, ea, hs1, ev⟩ := sgn M2 42 f2' g42 (by decide) (by decide) HP2 hat
      obtain ⟨M3, r3, S3, HQ3, f3⟩ := m_dropT hbe (d + 4) 3 w l M2 S2 HQ2 (by omega) hc
      rw [t244_140, am_ob_p (kk_187 S2), rr_187_0 S2, am_gr_p, am_ob_p (kk_187 S2), ea, am_ix_p (kk_188 S2) (by omega) (by omega) (by omega), am_i_ix (by omega) (by omega), Int.toNat_natCast, ev, am_br_ne (by omega) (by omega) (by omega) (by omega), if_pos rfl, r3] at h0
      exact ⟨M3, h0, ⟨mP_F1 HP2 S3 f3, HQ3, room tT 3 (by omega) (isG_lt g42)⟩, fr_tr fM1 (fr_tr (fr_mono f2' (fun b k h => rR_qA h)) (fr_mono f3 (fun b k h => qF1_qA h)))⟩
    · rw [if_neg g42] at h0 ⊢
      have H2 := k20 g42
      obtain ⟨M3, r3, k30, k31, f3⟩ := m_tkG (mQ_P H2) (x := 47) (by omega) (by omega) (by decide) (by decide) (d + 5)
      rw [am_ob_p (kk_187 H2.1.1), r3, am_bI_p, br_eq_b] at h0
      have f3' : fr rR M1 M3 := fr_tr f2' (fr_mono f3 (fun b k h => ⟨h.1, by omega⟩))
      by_cases g47 : isG Z n 47 (.inr (s, t, [])) = true
      · rw [if_pos g47] at h0 ⊢
        obtain ⟨HP3, hat⟩ := k31 g47
        obtain ⟨S3, HQ3, ea, hs1, ev⟩ := sgn M3 47 f3' g47 (by decide) (by decide) HP3 hat
        obtain ⟨M4, r4, S4, HQ4, f4⟩ := m_dropT hbe (d + 4) 4 w l M3 S3 HQ3 (by omega) hc
        rw [t244_140, am_ob_p (kk_187 S3), rr_187_0 S3, am_gr_p, am_ob_p (kk_187 S3), ea, am_ix_p (kk_188 S3) (by omega) (by omega) (by omega), am_i_ix (by omega) (by omega), Int.toNat_natCast, ev, am_br_ne (by omega) (by omega) (by omega) (by omega), if_neg (by omega), r4] at h0
        exact ⟨M4, h0, ⟨mP_F1 HP3 S4 f4, HQ4, room tT 4 (by omega) (isG_lt g47)⟩, fr_tr fM1 (fr_tr (fr_mono f3' (fun b k h => rR_qA h)) (fr_mono f4 (fun b k h => qF1_qA h)))⟩
      · rw [if_neg g47] at h0 ⊢
        have H3 := k30 g47
        obtain ⟨M4, r4, k40, k41, f4⟩ := m_tkG (mQ_P H3) (x := 43) (by omega) (by omega) (by decide) (by decide) (d + 5)
        rw [am_ob_p (kk_187 H3.1.1), r4, am_bI_p, br_ne_b] at h0
        have f4' : fr rR M1 M4 := fr_tr f3' (fr_mono f4 (fun b k h => ⟨h.1, by omega⟩))
        by_cases g43 : isG Z n 43 (.inr (s, t, [])) = true
        · rw [if_pos g43] at h0 ⊢
          obtain ⟨HP4, hat⟩ := k41 g43
          obtain ⟨S4, HQ4, ea, hs1, ev⟩ := sgn M4 43 f4' g43 (by decide) (by decide) HP4 hat
          obtain ⟨M5, r5, S5, HQ5, f5⟩ := m_dropS hbe (d + 4) 1 w l M4 S4 HQ4 (by omega) hc
          rw [t244_225, am_ob_p (kk_187 S4), rr_187_0 S4, am_gr_p, am_ob_p (kk_187 S4), ea, am_ix_p (kk_188 S4) (by omega) (by omega) (by omega), am_i_ix (by omega) (by omega), Int.toNat_natCast, ev, am_br_ne (by omega) (by omega) (by omega) (by omega), if_pos rfl, r5] at h0
          exact ⟨M5, h0, ⟨mP_F1 HP4 S5 f5, HQ5, room tS 1 (by omega) (isG_lt g43)⟩, fr_tr fM1 (fr_tr (fr_mono f4' (fun b k h => rR_qA h)) (fr_mono f5 (fun b k h => qF1_qA h)))⟩
        · rw [if_neg g43] at h0 ⊢
          have H4 := k40 g43
          obtain ⟨M5, r5, k50, k51, f5⟩ := m_tkG (mQ_P H4) (x := 45) (by omega) (by omega) (by decide) (by decide) (d + 5)
          rw [am_ob_p (kk_187 H4.1.1), r5, am_bI_p, br_eq_b] at h0
          have f5' : fr rR M1 M5 := fr_tr f4' (fr_mono f5 (fun b k h => ⟨h.1, by omega⟩))
          by_cases g45 : isG Z n 45 (.inr (s, t, [])) = true
          · rw [if_pos g45] at h0 ⊢
            obtain ⟨HP5, hat⟩ := k51 g45
            obtain ⟨S5, HQ5, ea, hs1, ev⟩ := sgn M5 45 f5' g45 (by decide) (by decide) HP5 hat
            obtain ⟨M6, r6, S6, HQ6, f6⟩ := m_dropS hbe (d + 4) 2 w l M5 S5 HQ5 (by omega) hc
            rw [t244_225, am_ob_p (kk_187 S5), rr_187_0 S5, am_gr_p, am_ob_p (kk_187 S5), ea, am_ix_p (kk_188 S5) (by omega) (by omega) (by omega), am_i_ix (by omega) (by omega), Int.toNat_natCast, ev, am_br_ne (by omega) (by omega) (by omega) (by omega), if_neg (by omega), r6] at h0
            exact ⟨M6, h0, ⟨mP_F1 HP5 S6 f6, HQ6, room tS 2 (by omega) (isG_lt g45)⟩, fr_tr fM1 (fr_tr (fr_mono f5' (fun b k h => rR_qA h)) (fr_mono f6 (fun b k h => qF1_qA h)))⟩
          · rw [if_neg g45] at h0 ⊢
            have H5 := k50 g45
            have S5 := H5.1.1
            have HQ5 := qH_rR HQ1 f5'
            have e55 : am_I M5 187 5 = am_i 0 := H5.1.2.2.2.2.1
            have fM5 : fr qA M M5 := fr_tr fM1 (fr_mono f5' (fun b k h => rR_qA h))
            simp only [am_ob_p (kk_187 S5), hbr M5 S5 HQ5 (d + 5), am_bI_p] at h0
            rw [am_br_eq (by omega) (by omega) (by omega) (by omega), am_br_ne (by omega) (by omega) (by omega) (by omega), am_br_eq (by omega) (by omega) (by omega) (by omega)] at h0
            by_cases g21 : brk w = 21 ∨ brk w = 22
            · have h326 : am_ev 244 (d + 7) 0 [.ref 187, v1] [] M = am_ev 244 (d + 6 + 1) 326 [.ref 187, v1] [] M5 := by
                rcases g21 with g | g
                · rw [if_pos g] at h0
                  exact h0
                · rw [if_neg (by omega), if_pos g] at h0
                  exact h0
              rw [if_pos g21]
              obtain ⟨M6, r6, H6, f6⟩ := m_asksG (st := .inr (s, t, [])) (mQ_P H5) (x := 44) (by omega) (by omega) (by decide) (by decide) (d + 4)
              rw [t244_326, am_ob_p (kk_187 S5), r6, am_bV_p] at h326
              by_cases g44 : isG Z n 44 (.inr (s, t, [])) = true
              · rw [if_pos g44]
                have hk : tkG Z n 44 (.inr (s, t, [])) = .inr (ns Z n s, nt Z n s, []) := if_pos g44
                rw [hk] at H6
                have hp6 := mP_S H6
                have S6 := hp6.1
                have HQ6 := qH_rR HQ5 f6
                obtain ⟨w', hw'⟩ := brk_top (w := w) (by omega)
                have htl := tk_len nb w
                rw [hw', List.length_cons] at htl
                obtain ⟨M7, r7, S7, HQ7, f7⟩ := m_dropsTo (d + 4) w l M6 S6 HQ6 (by omega) hc
                rw [hw'] at HQ7
                have hcw : ∀ c ∈ w' ++ be, 1 ≤ c ∧ c ≤ 60 := fun c hc' => by
                  rcases List.mem_append.mp hc' with h | h
                  · exact hc c (List.mem_append_left _ (drop_mem (f := nb) (by rw [hw']; exact List.mem_cons_of_mem _ h)))
                  · exact hc c (List.mem_append_right _ h)
                have hv : am_I M7 258 (w'.length + be.length) = am_i (brk w) := by
                  rw [← List.length_append]
                  exact HQ7.2.2.2.2.1.1
                have S8 := S7.sI 258 (w'.length + be.length) (am_i (brk w + 2))
                have HQ8 : qH (am_sI M7 258 (w'.length + be.length) (am_i (brk w + 2))) j be (l ++ w.takeWhile nb) ((brk w + 2) :: w') o := by
                  obtain ⟨q1, q2, q3, q4, q5, q6, q7⟩ := HQ7
                  refine ⟨by rw [am_I_ne1 (by decide)]; exact q1, by rw [am_I_ne1 (by decide)]; exact q2, fun i hi => by rw [am_I_ne1 (by decide)]; exact q3 i hi, by rw [am_I_ne1 (by decide)]; exact q4, ⟨?_, stI_mv q5.2 (fun k hk => ?_)⟩, by rw [am_I_ne1 (by decide)]; exact q6, by rw [am_I_ne1 (by decide)]; exact q7⟩
                  · show am_I _ 258 (w' ++ be).length = _
                    rw [List.length_append, am_I_same]
                  · have hk : k < (w' ++ be).length := hk
                    rw [List.length_append] at hk
                    rw [am_I_ne2 (by omega)]
                rw [am_ob_p (kk_187 S6), hp6.2.1, am_br_eq (by omega) (by omega) (by omega) (by omega), if_pos rfl, am_ob_p (kk_187 S6), t238, r7, am_bV_p, am_ob_p (kk_187 S7), rr_187_93 S7, am_gr_p, am_ob_p (kk_187 S7), HQ7.2.2.2.1, am_i_sub, show (((brk w :: w').length + be.length : Nat) : Int) - 1 = ((w'.length + be.length : Nat) : Int) by rw [List.length_cons]; omega, am_ix_p (kk_258 S7) (by omega) (by omega) (by omega), am_iw_p (kk_258 S7) (by omega) (by omega) (by omega) (by omega), am_i_ix (by omega) (by omega), Int.toNat_natCast, hv, am_i_add, am_lt, am_tr_1] at h326
                have hnb := ns_bd (Z := Z) (isG_lt g44)
                have f8 : fr qF1 M6 (am_sI M7 258 (w'.length + be.length) (am_i (brk w + 2))) := fr_tr f7 (fr_sI (Or.inr (Or.inl rfl)))
                rw [hw', List.tail_cons]
                refine ⟨_, h326, ⟨mP_F1 H6 S8 f8, HQ8, by rw [List.length_append, List.length_cons]; omega, by omega, hj, ho, fun c hc' => ?_⟩, fr_tr fM5 (fr_tr (fr_mono f6 (fun b k h => rR_qA h)) (fr_mono f8 (fun b k h => qF1_qA h)))⟩
                rw [List.cons_append] at hc'
                rcases List.mem_cons.mp hc' with rfl | hc'
                · omega
                · exact hcw c hc'
              · rw [if_neg g44]
                have hk : tkG Z n 44 (.inr (s, t, [])) = .inl (1, (s : Int)) := if_neg g44
                rw [hk] at H6
                have H6' : mFa L q Z n M6 (1, (s : Int)) := H6
                have e6' := H6'.2.2.1
                rw [am_ob_p (kk_187 H6'.1), e6', am_br_eq (by omega) (by omega) (by omega) (by omega), if_neg (by omega), am_tr_0] at h326
                exact ⟨M6, h326, ⟨H6', l.length, by omega, (qH_rR HQ5 f6).2.1⟩, fr_tr fM5 (fr_mono f6 (fun b k h => rR_qA h))⟩
            · rw [if_neg (fun h => g21 (Or.inl h)), if_neg (fun h => g21 (Or.inr h)), e55, am_br_ne (by omega) (by omega) (by omega) (by omega), if_pos rfl, mQ_at H5] at h0
              rw [if_neg g21]
              by_cases g1 : brk w = -1
              · rw [if_pos g1, am_tr_0] at h0
                rw [if_neg (fun h => h g1)]
                exact ⟨M5, h0, ⟨mQ_P H5, HQ5, hbl, hs16, hj, ho, hc⟩, fM5⟩
              · obtain ⟨M6, r6, H6, f6⟩ := m_fail (mQ_P H5) (c := 1) (p := (s : Int)) (by omega) (d + 6)
                rw [if_neg g1, r6, am_bV_p, am_tr_0] at h0
                rw [if_pos g1]
                exact ⟨M6, h0, ⟨H6, l.length, by omega, by rw [(f6 187 92 (by omega)).1]; exact HQ5.2.1⟩, fr_tr fM5 (fr_mono f6 (fun b k h => Or.inr (Or.inr ⟨h.1, by omega⟩)))⟩
