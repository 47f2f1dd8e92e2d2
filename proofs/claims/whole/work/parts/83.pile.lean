/-! The reference's codes and what waits. -/
/-- a pile of ints, its top first -/
def stI (R : Nat → Int32) : List Int → Prop
  | [] => True
  | c :: w => R w.length = am_i c ∧ stI R w
theorem stI_mv {R R' : Nat → Int32} : ∀ {w : List Int}, stI R w → (∀ k, k < w.length → R' k = R k) → stI R' w
  | [], _, _ => trivial
  | c :: w, h, e => ⟨(e _ (by rw [List.length_cons]; omega)).trans h.1, stI_mv h.2 (fun k hk => e k (by rw [List.length_cons]; omega))⟩
theorem stI_get {R : Nat → Int32} : ∀ {w : List Int} {c : Int} {w1 w2 : List Int}, stI R w → w = w1 ++ c :: w2 → R w2.length = am_i c
  | _, c, [], w2, h, e => by
    subst e
    exact h.1
  | _, c, a :: w1, w2, h, e => by
    subst e
    exact stI_get (w1 := w1) h.2 rfl
def qH (M : am_M) (j : Nat) (be l w : List Int) (o : Nat) : Prop := am_I M 187 53 = am_i (j : Int) ∧ am_I M 187 92 = am_i (l.length : Int) ∧ (∀ i, i < l.length → am_I M 257 i = am_i (l.getD i 0)) ∧ am_I M 187 94 = am_i ((w.length + be.length : Nat) : Int) ∧ stI (am_I M 258) (w ++ be) ∧ am_I M 187 95 = am_i (o : Int) ∧ am_I M 187 96 = am_i (be.length : Int)
/-- codes and pile are within their room, their numbers small -/
def qb (s j : Nat) (be l w : List Int) (o : Nat) : Prop := l.length + w.length + be.length ≤ s ∧ s ≤ 1600 ∧ j ≤ 3 ∧ o ≤ 6 ∧ ∀ c ∈ w ++ be, 1 ≤ c ∧ c ≤ 60
theorem qH_mv {M M' : am_M} {j : Nat} {be l w : List Int} {o : Nat} (H : qH M j be l w o) (e : ∀ b k, (b = 187 ∧ (k = 53 ∨ k = 92 ∨ k = 94 ∨ k = 95 ∨ k = 96)) ∨ b = 257 ∨ b = 258 → am_I M' b k = am_I M b k) : qH M' j be l w o := by
  obtain ⟨h1, h2, h3, h4, h5, h6, h7⟩ := H
  exact ⟨(e _ _ (by omega)).trans h1, (e _ _ (by omega)).trans h2, fun i hi => (e _ _ (by omega)).trans (h3 i hi), (e _ _ (by omega)).trans h4, stI_mv h5 (fun k hk => e _ _ (by omega)), (e _ _ (by omega)).trans h6, (e _ _ (by omega)).trans h7⟩
def qF1 (b k : Nat) : Prop := b = 257 ∨ b = 258 ∨ (b = 187 ∧ (k = 92 ∨ k = 94 ∨ k = 95 ∨ k = 96))
theorem qF1_nR {b k : Nat} (h : qF1 b k) : nR b k := by unfold qF1 at h; unfold nR; omega
theorem m_qCode {L : Nat} {q : am_Pq} {M : am_M} (S : am_Sh L q M) {k : Nat} (e : am_I M 187 92 = am_i (k : Int)) (hk : k < 1700) (v : Int32) (d : Nat) : am_cl 232 d [.ref 187, .int v] M = some (none, am_sI (am_sI M 257 k v) 187 92 (am_i ((k : Int) + 1))) := by
  rw [t232, am_ob_p (kk_187 S), rr_187_91 S, am_gr_p, am_ob_p (kk_187 S), e, am_iw_p (kk_257 S) (by omega) (by omega) (by omega) (by omega), am_i_ix (by omega) (by omega), Int.toNat_natCast]
  simp only [am_lt]
  rw [am_ob_p (kk_187 (S.sI 257 k v)), am_ob_p (kk_187 (S.sI 257 k v)), am_I_ne1 (by decide), e, am_i_add]
theorem l_get_app {l : List Int} {v : Int} {i : Nat} (h : i < l.length) : (l ++ [v]).getD i 0 = l.getD i 0 := by
  simp [List.getD_eq_getElem?_getD, List.getElem?_append_left h]
theorem l_get_end {l : List Int} {v : Int} : (l ++ [v]).getD l.length 0 = v := by
  simp [List.getD_eq_getElem?_getD]
theorem qH_code {M : am_M} {j : Nat} {be l w : List Int} {o : Nat} (H : qH M j be l w o) (v : Int) : qH (am_sI (am_sI M 257 l.length (am_i v)) 187 92 (am_i ((l.length : Int) + 1))) j be (l ++ [v]) w o := by
  obtain ⟨h1, h2, h3, h4, h5, h6, h7⟩ := H
  refine ⟨by rw [am_I_ne2 (by decide), am_I_ne1 (by decide)]; exact h1, by rw [am_I_same, List.length_append]; rfl, fun i hi => ?_, by rw [am_I_ne2 (by decide), am_I_ne1 (by decide)]; exact h4, stI_mv h5 (fun k hk => by rw [am_I_ne1 (by decide), am_I_ne1 (by decide)]), by rw [am_I_ne2 (by decide), am_I_ne1 (by decide)]; exact h6, by rw [am_I_ne2 (by decide), am_I_ne1 (by decide)]; exact h7⟩
  rw [am_I_ne1 (by decide)]
  rw [List.length_append, List.length_singleton] at hi
  by_cases g : i = l.length
  · subst g
    rw [am_I_same, l_get_end]
  · rw [am_I_ne2 g, l_get_app (by omega)]
    exact h3 i (by omega)
theorem m_emit {L : Nat} {q : am_Pq} {M : am_M} (S : am_Sh L q M) {j : Nat} {be l w : List Int} {o : Nat} (H : qH M j be l w o) (hl : l.length < 1700) (v : Int) (d : Nat) : ∃ M', am_cl 232 d [.ref 187, .int (am_i v)] M = some (none, M') ∧ am_Sh L q M' ∧ qH M' j be (l ++ [v]) w o ∧ fr qF1 M M' := ⟨_, m_qCode S H.2.1 hl _ d, (S.sI _ _ _).sI _ _ _, qH_code H v, fr_tr (fr_sI (Or.inl rfl)) (fr_sI (Or.inr (Or.inr ⟨rfl, Or.inl rfl⟩)))⟩
theorem m_drops {L : Nat} {q : am_Pq} {M : am_M} (S : am_Sh L q M) {j : Nat} {be l w : List Int} {c : Int} {o : Nat} (H : qH M j be l (c :: w) o) (hl : l.length + w.length + be.length < 1700) (d : Nat) : ∃ M', am_cl 235 (d + 1) [.ref 187] M = some (none, M') ∧ am_Sh L q M' ∧ qH M' j be (l ++ [c]) w o ∧ fr qF1 M M' := by
  obtain ⟨h1, h2, h3, h4, h5, h6, h7⟩ := H
  have S1 := S.sI 187 94 (am_i ((w.length + be.length : Nat) : Int))
  have H1 : qH (am_sI M 187 94 (am_i ((w.length + be.length : Nat) : Int))) j be l w o := ⟨by rw [am_I_ne2 (by decide)]; exact h1, by rw [am_I_ne2 (by decide)]; exact h2, fun i hi => by rw [am_I_ne1 (by decide)]; exact h3 i hi, am_I_same _ _ _ _, stI_mv h5.2 (fun k hk => by rw [am_I_ne1 (by decide)]), by rw [am_I_ne2 (by decide)]; exact h6, by rw [am_I_ne2 (by decide)]; exact h7⟩
  obtain ⟨M', r, S', H', f'⟩ := m_emit S1 H1 (by omega) c d
  refine ⟨M', ?_, S', H', fr_tr (fr_sI (Or.inr (Or.inr ⟨rfl, Or.inr (Or.inl rfl)⟩))) f'⟩
  have hc : am_I (am_sI M 187 94 (am_i ((w.length + be.length : Nat) : Int))) 258 (w.length + be.length) = am_i c := by
    rw [am_I_ne1 (by decide), ← List.length_append]
    exact h5.1
  rw [t235, am_ob_p (kk_187 S), am_ob_p (kk_187 S), h4, am_i_sub, show (((c :: w).length + be.length : Nat) : Int) - 1 = ((w.length + be.length : Nat) : Int) by rw [List.length_cons]; omega]
  simp only [am_lt]
  rw [am_ob_p (kk_187 S1), rr_187_93 S1, am_gr_p, am_ob_p (kk_187 S1), am_I_same, am_ix_p (kk_258 S1) (by omega) (by omega) (by omega), am_ob_p (kk_187 S1), am_i_ix (by omega) (by omega), Int.toNat_natCast, hc, r, am_bV_p]
theorem m_isOn {L : Nat} {q : am_Pq} {M : am_M} (S : am_Sh L q M) {j : Nat} {be l w : List Int} {o : Nat} (H : qH M j be l w o) (hb : w.length + be.length < 1700) (hc : ∀ c ∈ w ++ be, 1 ≤ c ∧ c ≤ 60) {x : Int} (hx : 1 ≤ x ∧ x ≤ 60) (d : Nat) : am_cl 234 d [.ref 187, .int (am_i x)] M = some (some (.int (am_i (if (w ++ be).head? = some x then 1 else 0))), M) := by
  obtain ⟨h1, h2, h3, h4, h5, h6, h7⟩ := H
  rw [← List.length_append] at h4 hb
  rw [t234, am_ob_p (kk_187 S), h4, am_br_le (by omega) (by omega) (by omega) (by omega)]
  cases hw : w ++ be with
  | nil =>
    rw [if_pos (by show ((0 : Nat) : Int) ≤ 0; omega), am_tr_0, if_neg (by intro h; cases h)]
  | cons c r =>
    rw [hw] at h4 h5 hb hc
    have hcb := hc c List.mem_cons_self
    rw [List.length_cons] at hb ⊢
    rw [List.length_cons] at h4
    rw [if_neg (by omega), am_ob_p (kk_187 S), rr_187_93 S, am_gr_p, am_ob_p (kk_187 S), am_i_sub, am_ix_p (kk_258 S) (by omega) (by omega) (by omega), am_i_ix (by omega) (by omega), show (((r.length + 1 : Nat) : Int) - 1).toNat = r.length by omega, h5.1, am_br_ne (by omega) (by omega) (by omega) (by omega), List.head?_cons]
    by_cases g : c = x
    · rw [if_pos g, am_tr_1, if_pos (by rw [g])]
    · rw [if_neg g, am_tr_0, if_neg (fun h => g (Option.some.inj h))]
theorem m_isBr {M : am_M} {x : Int} (h0 : 0 ≤ x) (h1 : x < 1000) (d : Nat) : am_cl 236 d [.int (am_i x)] M = some (some (.int (am_i (if nb x = true then 0 else 1))), M) := by
  rw [t236, am_br_lt (by omega) (by omega) (by omega) (by omega), am_br_gt (by omega) (by omega) (by omega) (by omega)]
  by_cases g : 20 ≤ x ∧ x ≤ 24
  · rw [if_neg (by omega), if_neg (by omega), am_tr_1, if_neg (fun h => (of_decide_eq_true h) g)]
  · rw [if_pos (show nb x = true from decide_eq_true g)]
    by_cases g2 : x < 20
    · rw [if_pos g2, am_tr_0]
    · rw [if_neg g2, if_pos (by omega), am_tr_0]
theorem m_brk {L : Nat} {q : am_Pq} {M : am_M} (S : am_Sh L q M) {j : Nat} {be l w : List Int} {o : Nat} (H : qH M j be l w o) (hb : w.length + be.length < 1700) (hc : ∀ c ∈ w ++ be, 1 ≤ c ∧ c ≤ 60) (d : Nat) : am_cl 237 (d + 1) [.ref 187] M = some (some (.int (am_i (brk w))), M) := by
  obtain ⟨h1, h2, h3, h4, h5, h6, h7⟩ := H
  have lp : ∀ (v w1 : List Int), w = w1 ++ v → am_ev 237 (d + 1) 7 [.ref 187, .int (am_i (((v.length + be.length : Nat) : Int) - 1))] [] M = some (some (.int (am_i (brk v))), M) := by
    intro v
    induction v with
    | nil =>
      intro w1 hv
      rw [List.length_nil, Nat.zero_add, t237_7, am_ob_p (kk_187 S), h7, am_br_lt (by omega) (by omega) (by omega) (by omega), if_pos (by omega), t237_33, am_ob_p (kk_187 S), h7, am_br_lt (by omega) (by omega) (by omega) (by omega), if_pos (by omega)]
      rfl
    | cons c v ih =>
      intro w1 hv
      have hlen : w.length = w1.length + (v.length + 1) := by rw [hv, List.length_append, List.length_cons]
      have hcb := hc c (by rw [hv]; simp)
      have hg : am_I M 258 (v.length + be.length) = am_i c := by
        rw [← List.length_append]
        exact stI_get h5 (w1 := w1) (by rw [hv]; simp)
      rw [List.length_cons]
      have e1 : ((v.length + 1 + be.length : Nat) : Int) - 1 = ((v.length + be.length : Nat) : Int) := by omega
      rw [e1, t237_7, am_ob_p (kk_187 S), h7, am_br_lt (by omega) (by omega) (by omega) (by omega), if_neg (by omega), am_ob_p (kk_187 S), rr_187_93 S, am_gr_p, am_ix_p (kk_258 S) (by omega) (by omega) (by omega), am_i_ix (by omega) (by omega), Int.toNat_natCast, hg, m_isBr (by omega) (by omega), am_bI_p]
      by_cases g : nb c = true
      · rw [if_pos g, am_br_ne (by omega) (by omega) (by omega) (by omega), if_pos rfl, am_i_add, show ((v.length + be.length : Nat) : Int) + -1 = ((v.length + be.length : Nat) : Int) - 1 by omega, ih (w1 ++ [c]) (by rw [hv]; simp)]
        unfold brk
        rw [List.dropWhile_cons, if_pos g]
      · rw [if_neg g, am_br_ne (by omega) (by omega) (by omega) (by omega), if_neg (by omega), t237_33, am_ob_p (kk_187 S), h7, am_br_lt (by omega) (by omega) (by omega) (by omega), if_neg (by omega), am_ob_p (kk_187 S), rr_187_93 S, am_gr_p, am_ix_p (kk_258 S) (by omega) (by omega) (by omega), am_i_ix (by omega) (by omega), Int.toNat_natCast, hg]
        unfold brk
        rw [List.dropWhile_cons, if_neg g]
        rfl
  rw [t237, am_ob_p (kk_187 S), h4, am_i_sub]
  exact lp w [] rfl
theorem m_dropsTo {L : Nat} {q : am_Pq} {j : Nat} {be : List Int} {o : Nat} (d : Nat) : ∀ (w l : List Int) (M : am_M), am_Sh L q M → qH M j be l w o → l.length + w.length + be.length < 1700 → (∀ c ∈ w ++ be, 1 ≤ c ∧ c ≤ 60) → ∃ M', am_ev 238 (d + 2) 0 [.ref 187] [] M = some (none, M') ∧ am_Sh L q M' ∧ qH M' j be (l ++ w.takeWhile nb) (w.dropWhile nb) o ∧ fr qF1 M M'
  | [], l, M, S, H, hl, hc => by
    refine ⟨M, ?_, S, by rw [List.takeWhile_nil, List.append_nil]; exact H, fr_rfl _ _⟩
    rw [t238_0, am_ob_p (kk_187 S), am_ob_p (kk_187 S), H.2.2.2.1, H.2.2.2.2.2.2, am_br_le (by omega) (by omega) (by omega) (by omega), if_pos (by rw [List.length_nil]; omega)]
  | c :: w, l, M, S, H, hl, hc => by
    have hcb := hc c (by simp)
    rw [List.length_cons] at hl
    have hg : am_I M 258 (w.length + be.length) = am_i c := by
      rw [← List.length_append]
      exact H.2.2.2.2.1.1
    have hst : ∀ x : am_Q, am_ev 238 (d + 2) 0 [.ref 187] [] M = am_br .ne (am_i (if nb c = true then 0 else 1)) (am_i 0) (some (none, M)) (am_bV (am_cl 235 (d + 1) [.ref 187] M) (fun M4 => am_ev 238 (d + 2) 0 [.ref 187] [] M4)) := fun _ => by
      rw [t238_0, am_ob_p (kk_187 S), am_ob_p (kk_187 S), H.2.2.2.1, H.2.2.2.2.2.2, List.length_cons, am_br_le (by omega) (by omega) (by omega) (by omega), if_neg (by omega), am_ob_p (kk_187 S), rr_187_93 S, am_gr_p, am_ob_p (kk_187 S), am_i_sub, show ((w.length + 1 + be.length : Nat) : Int) - 1 = ((w.length + be.length : Nat) : Int) by omega, am_ix_p (kk_258 S) (by omega) (by omega) (by omega), am_i_ix (by omega) (by omega), Int.toNat_natCast, hg, m_isBr (by omega) (by omega), am_bI_p, am_ob_p (kk_187 S)]
    rw [hst none]
    by_cases g : nb c = true
    · obtain ⟨M1, r1, S1, H1, f1⟩ := m_drops S H (by omega) d
      obtain ⟨M2, r2, S2, H2, f2⟩ := m_dropsTo d w (l ++ [c]) M1 S1 H1 (by rw [List.length_append, List.length_singleton]; omega) (fun c' hc' => hc c' (by rw [List.cons_append]; exact List.mem_cons_of_mem _ hc'))
      refine ⟨M2, ?_, S2, ?_, fr_tr f1 f2⟩
      · rw [if_pos g, am_br_ne (by omega) (by omega) (by omega) (by omega), if_pos rfl, r1, am_bV_p]
        exact r2
      · rw [List.takeWhile_cons, List.dropWhile_cons, if_pos g, if_pos g]
        rw [List.append_assoc] at H2
        exact H2
    · refine ⟨M, ?_, S, ?_, fr_rfl _ _⟩
      · rw [if_neg g, am_br_ne (by omega) (by omega) (by omega) (by omega), if_neg (by omega)]
      · rw [List.takeWhile_cons, List.dropWhile_cons, if_neg g, if_neg g, List.append_nil]
        exact H
/-- one is put on the pile -/
theorem qH_push {M : am_M} {j : Nat} {be l w : List Int} {o : Nat} (H : qH M j be l w o) (v : Int) : qH (am_sI (am_sI M 258 (w.length + be.length) (am_i v)) 187 94 (am_i (((w.length + be.length : Nat) : Int) + 1))) j be l (v :: w) o := by
  obtain ⟨h1, h2, h3, h4, h5, h6, h7⟩ := H
  refine ⟨by rw [am_I_ne2 (by decide), am_I_ne1 (by decide)]; exact h1, by rw [am_I_ne2 (by decide), am_I_ne1 (by decide)]; exact h2, fun i hi => by rw [am_I_ne1 (by decide), am_I_ne1 (by decide)]; exact h3 i hi, by rw [am_I_same, List.length_cons]; congr 1; omega, ⟨?_, stI_mv h5 (fun k hk => ?_)⟩, by rw [am_I_ne2 (by decide), am_I_ne1 (by decide)]; exact h6, by rw [am_I_ne2 (by decide), am_I_ne1 (by decide)]; exact h7⟩
  · show am_I _ 258 (w ++ be).length = _
    rw [am_I_ne1 (by decide), List.length_append, am_I_same]
  · have hk : k < (w ++ be).length := hk
    rw [List.length_append] at hk
    rw [am_I_ne1 (by decide), am_I_ne2 (by omega)]
theorem qH_o {M : am_M} {j : Nat} {be l w : List Int} {o : Nat} (H : qH M j be l w o) (o' : Nat) : qH (am_sI M 187 95 (am_i (o' : Int))) j be l w o' := by
  obtain ⟨h1, h2, h3, h4, h5, h6, h7⟩ := H
  exact ⟨by rw [am_I_ne2 (by decide)]; exact h1, by rw [am_I_ne2 (by decide)]; exact h2, fun i hi => by rw [am_I_ne1 (by decide)]; exact h3 i hi, by rw [am_I_ne2 (by decide)]; exact h4, stI_mv h5 (fun k hk => by rw [am_I_ne1 (by decide)]), am_I_same _ _ _ _, by rw [am_I_ne2 (by decide)]; exact h7⟩
/-- the top goes -/
theorem qH_pop {M : am_M} {j : Nat} {be l w : List Int} {c : Int} {o : Nat} (H : qH M j be l (c :: w) o) : qH (am_sI M 187 94 (am_i ((w.length + be.length : Nat) : Int))) j be l w o := by
  obtain ⟨h1, h2, h3, h4, h5, h6, h7⟩ := H
  exact ⟨by rw [am_I_ne2 (by decide)]; exact h1, by rw [am_I_ne2 (by decide)]; exact h2, fun i hi => by rw [am_I_ne1 (by decide)]; exact h3 i hi, am_I_same _ _ _ _, stI_mv h5.2 (fun k hk => by rw [am_I_ne1 (by decide)]), by rw [am_I_ne2 (by decide)]; exact h6, by rw [am_I_ne2 (by decide)]; exact h7⟩
