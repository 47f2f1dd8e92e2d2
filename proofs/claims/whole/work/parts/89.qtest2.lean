/-! The reference reads a test: its steps. -/
theorem uFt_mv {L : Nat} {q : am_Pq} {Z : Nat → Nat → Int} {n : Nat} {M : am_M} {e : Int × Int} (H : uFt L q Z n M e) : am_Sh L q M ∧ am_I M 187 5 = am_i e.1 ∧ 1 ≤ e.1 ∧ e.1 ≤ 5 := ⟨H.1.1, H.1.2.2.1, H.1.2.1.1, H.1.2.1.2⟩
theorem m_hasSq {L : Nat} {q : am_Pq} {M : am_M} (S : am_Sh L q M) {j : Nat} {l w : List Int} {o : Nat} (H : qH M j [] l w o) (hb : w.length < 1700) (hc : ∀ c ∈ w, 1 ≤ c ∧ c ≤ 60) (d : Nat) : am_cl 247 d [.ref 187] M = some (some (.int (am_i (if 25 ∈ w then 1 else 0))), M) := by
  have e94 := H.2.2.2.1
  rw [List.length_nil, Nat.add_zero] at e94
  have lp : ∀ (v w2 : List Int), w = v ++ w2 → 25 ∉ w2 → am_ev 247 d 2 [.ref 187, .int (am_i (w2.length : Int))] [] M = some (some (.int (am_i (if 25 ∈ w then 1 else 0))), M) := by
    intro v
    induction hv : v.length generalizing v with
    | zero =>
      intro w2 hw h25
      have : v = [] := List.length_eq_zero_iff.mp hv
      subst this
      rw [List.nil_append] at hw
      subst hw
      rw [t247_2, am_ob_p (kk_187 S), e94, am_br_ge (by omega) (by omega) (by omega) (by omega), if_pos (Int.le_refl _), am_tr_0, if_neg h25]
    | succ m ih =>
      intro w2 hw h25
      obtain ⟨v', c, hvc⟩ : ∃ v' c, v = v' ++ [c] := by
        cases hr : v.reverse with
        | nil => rw [List.reverse_eq_nil_iff] at hr; rw [hr] at hv; cases hv
        | cons c r => exact ⟨r.reverse, c, by rw [← List.reverse_reverse v, hr, List.reverse_cons]⟩
      subst hvc
      have hw3 : w = v' ++ c :: w2 := by rw [hw]; simp
      have hcb := hc c (by rw [hw3]; simp)
      have hlen : w.length = v'.length + (w2.length + 1) := by rw [hw3, List.length_append, List.length_cons]
      have hg : am_I M 258 w2.length = am_i c := stI_get H.2.2.2.2.1 (w1 := v') (by rw [List.append_nil]; exact hw3)
      rw [t247_2, am_ob_p (kk_187 S), e94, am_br_ge (by omega) (by omega) (by omega) (by omega), if_neg (by omega), am_ob_p (kk_187 S), rr_187_93 S, am_gr_p, am_ix_p (kk_258 S) (by omega) (by omega) (by omega), am_i_ix (by omega) (by omega), Int.toNat_natCast, hg, am_br_ne (by omega) (by omega) (by omega) (by omega)]
      by_cases g : c = 25
      · rw [if_pos g, am_tr_1, if_pos (by rw [hw3, g]; simp)]
      · rw [if_neg g, am_i_add]
        have := ih v' (by rw [List.length_append, List.length_singleton] at hv; omega) (c :: w2) hw3 (fun h => by
          rcases List.mem_cons.mp h with h | h
          · exact g h.symm
          · exact h25 h)
        rw [List.length_cons] at this
        exact this
  rw [t247]
  exact lp w [] (by rw [List.append_nil]) (by intro h; cases h)
/-- how many not and [ wait -/
def cnt2 (w : List Int) : Nat := (w.filter (fun c => decide (c = 12 ∨ c = 25))).length
theorem cnt2_cons (c : Int) (w : List Int) : cnt2 (c :: w) = (if c = 12 ∨ c = 25 then 1 else 0) + cnt2 w := by
  unfold cnt2
  rw [List.filter_cons]
  by_cases g : c = 12 ∨ c = 25
  · rw [if_pos (decide_eq_true g), if_pos g, List.length_cons]; omega
  · rw [if_neg (fun h => g (of_decide_eq_true h)), if_neg g]; omega
theorem cnt2_12 (w : List Int) : cnt2 (12 :: w) = 1 + cnt2 w := by rw [cnt2_cons, if_pos (Or.inl rfl)]
theorem cnt2_drop (f : Int → Bool) : ∀ w, cnt2 (w.dropWhile f) ≤ cnt2 w
  | [] => Nat.le_refl _
  | c :: w => by
    have := cnt2_drop f w
    rw [List.dropWhile_cons, cnt2_cons]
    split
    · omega
    · rw [cnt2_cons]; omega
theorem cnt2_mem {w : List Int} (h : 25 ∈ w) : 1 ≤ cnt2 w := by
  induction w with
  | nil => cases h
  | cons a w ih =>
    rw [cnt2_cons]
    rcases List.mem_cons.mp h with rfl | h
    · rw [if_pos (Or.inr rfl)]; omega
    · have := ih h; omega
theorem uE_in {s : Nat} {t : Bool} {l w : List Int} {o : Nat} : uE s t l w o = match w with
  | [] => .inr (2, s, t, l, [], o)
  | c :: w' => if c = 12 then .inr (1, s, t, l ++ [c], w', o - 1) else .inr (2, s, t, l, c :: w', o) := rfl
/-- a fact's end, one step -/
theorem m_stepUE {L : Nat} {q : am_Pq} {Z : Nat → Nat → Int} {n B j : Nat} {M : am_M} {s : Nat} {t : Bool} {l w : List Int} {o : Nat} (H : uC L q Z n B j M s t l w o) (hcn : cnt2 w ≤ o) (d : Nat) : (uE s t l w o = .inr (2, s, t, l, w, o) ∧ am_cl 248 (d + 3) [.ref 187] M = some (none, M)) ∨ ∃ w' M', w = 12 :: w' ∧ uE s t l w o = .inr (1, s, t, l ++ [12], w', o - 1) ∧ am_cl 248 (d + 3) [.ref 187] M = am_cl 248 (d + 3) [.ref 187] M' ∧ uC L q Z n B j M' s t (l ++ [12]) w' (o - 1) ∧ fr qA M M' := by
  obtain ⟨HP, HQ, ⟨hbl, hs16, hj, ho, hc⟩, hw, hB⟩ := H
  obtain ⟨S, e5, hsn, hn, hz⟩ := mP_S HP
  rw [List.length_nil, Nat.add_zero] at hbl
  have hc' := hc
  rw [List.append_nil] at hc'
  have h12 := m_isOn S HQ (by rw [List.length_nil]; omega) hc (x := 12) (by omega) (d + 2)
  rw [List.append_nil] at h12
  have h0 : am_cl 248 (d + 3) [.ref 187] M = am_ev 248 (d + 2 + 1) 0 [.ref 187] [] M := t248 (d + 2) M 187
  rw [t248_0, am_ob_p (kk_187 S), e5, am_br_ne (by omega) (by omega) (by omega) (by omega), if_pos rfl, am_ob_p (kk_187 S), h12, am_bI_p] at h0
  cases w with
  | nil =>
    rw [if_neg (by intro h; cases h), am_br_eq (by omega) (by omega) (by omega) (by omega), if_pos rfl] at h0
    exact Or.inl ⟨rfl, h0⟩
  | cons c w' =>
    by_cases g : c = 12
    · subst g
      have ho1 : 1 ≤ o := by
        rw [show cnt2 (12 :: w') = 1 + cnt2 w' from cnt2_12 w'] at hcn
        omega
      rw [List.length_cons] at hbl hB
      have HQ1 := qH_o HQ (o - 1)
      have S1 := S.sI 187 95 (am_i ((o - 1 : Nat) : Int))
      obtain ⟨M2, r2, S2, HQ2, f2⟩ := m_drops S1 HQ1 (by rw [List.length_nil]; omega) (d + 1)
      have fA : fr qF1 M M2 := fr_tr (fr_sI (Or.inr (Or.inr ⟨rfl, by omega⟩))) f2
      rw [List.head?_cons, if_pos rfl, am_br_eq (by omega) (by omega) (by omega) (by omega), if_neg (by omega), am_ob_p (kk_187 S), am_ob_p (kk_187 S), HQ.2.2.2.2.2.1, am_i_sub, show (o : Int) - 1 = ((o - 1 : Nat) : Int) by omega] at h0
      simp only [am_lt] at h0
      rw [am_ob_p (kk_187 S1), r2, am_bV_p] at h0
      refine Or.inr ⟨w', M2, rfl, if_pos (e := (.inr (2, s, t, l, 12 :: w', o) : am_Cf)) (show (12 : Int) = 12 from rfl), ?_, ⟨mP_F1 HP S2 fA, HQ2, ⟨by rw [List.length_append, List.length_singleton, List.length_nil]; omega, hs16, hj, by omega, fun c' hc'' => hc c' (by rw [List.append_nil] at hc'' ⊢; exact List.mem_cons_of_mem _ hc'')⟩, fun c' hc'' => hw c' (List.mem_cons_of_mem _ hc''), by rw [List.length_append, List.length_singleton]; omega⟩, fr_mono fA (fun b k h => qF1_qA h)⟩
      rw [h0, t248]
    · rw [List.head?_cons, if_neg (fun h => g (Option.some.inj h)), am_br_eq (by omega) (by omega) (by omega) (by omega), if_pos rfl] at h0
      exact Or.inl ⟨if_neg g, h0⟩
theorem m_dropTo25 {L : Nat} {q : am_Pq} {Z : Nat → Nat → Int} {n j : Nat} {o : Nat} (d : Nat) : ∀ (w l : List Int) (M : am_M) (s : Nat) (t : Bool), mP L q Z n M s t → qH M j [] l w o → l.length + w.length ≤ 1600 → (∀ c ∈ w, 1 ≤ c ∧ c ≤ 60) → 25 ∈ w → 1 ≤ o → ∃ M' w', w.dropWhile n25 = 25 :: w' ∧ am_ev 250 (d + 4) 33 [.ref 187] [] M = am_bV (am_cl 248 (d + 3) [.ref 187] M') (fun M5 => am_ev 250 (d + 4) 0 [.ref 187] [] M5) ∧ mP L q Z n M' s t ∧ qH M' j [] (l ++ w.takeWhile n25) w' (o - 1) ∧ fr qF1 M M' := by
  intro w
  induction w with
  | nil => intro l M s t HP HQ hl hc h; cases h
  | cons c w ih =>
    intro l M s t HP HQ hl hc h25 ho1
    obtain ⟨S, e5, hsn, hn, hz⟩ := mP_S HP
    rw [List.length_cons] at hl
    have hon := m_isOn S HQ (by rw [List.length_cons, List.length_nil]; omega) (by rw [List.append_nil]; exact hc) (x := 25) (by omega) (d + 3)
    rw [List.append_nil, List.head?_cons] at hon
    have h0 := t250_33 (d + 3) M 187
    rw [am_ob_p (kk_187 S), hon, am_bI_p] at h0
    by_cases g : c = 25
    · subst g
      have d1 : (25 :: w).takeWhile n25 = [] := by rw [List.takeWhile_cons, show n25 25 = false from rfl]; rfl
      have d2 : (25 :: w).dropWhile n25 = 25 :: w := by rw [List.dropWhile_cons, show n25 25 = false from rfl]; rfl
      have HQ1 := qH_o (qH_pop HQ) (o - 1)
      have S1 := S.sI 187 94 (am_i ((w.length + ([] : List Int).length : Nat) : Int))
      have S2 := S1.sI 187 95 (am_i ((o - 1 : Nat) : Int))
      have e94 := HQ.2.2.2.1
      rw [if_pos rfl, am_br_ne (by omega) (by omega) (by omega) (by omega), if_neg (by omega), am_ob_p (kk_187 S), am_ob_p (kk_187 S), e94, am_i_sub, show (((25 :: w).length + ([] : List Int).length : Nat) : Int) - 1 = ((w.length + ([] : List Int).length : Nat) : Int) by rw [List.length_cons]; omega] at h0
      simp only [am_lt] at h0
      rw [am_ob_p (kk_187 S1), am_ob_p (kk_187 S1), am_I_ne2 (show 95 ≠ 94 by decide), HQ.2.2.2.2.2.1, am_i_sub, show (o : Int) - 1 = ((o - 1 : Nat) : Int) by omega, am_ob_p (kk_187 S2)] at h0
      have f2 : fr qF1 M (am_sI (am_sI M 187 94 (am_i ((w.length + ([] : List Int).length : Nat) : Int))) 187 95 (am_i ((o - 1 : Nat) : Int))) := fr_tr (fr_sI (Or.inr (Or.inr ⟨rfl, by omega⟩))) (fr_sI (Or.inr (Or.inr ⟨rfl, by omega⟩)))
      exact ⟨_, w, d2, h0, mP_F1 HP S2 f2, by rw [d1, List.append_nil]; exact HQ1, f2⟩
    · obtain ⟨M1, r1, S1, HQ1, f1⟩ := m_drops S HQ (by rw [List.length_nil]; omega) (d + 2)
      have h25' : 25 ∈ w := by
        rcases List.mem_cons.mp h25 with h | h
        · exact absurd h.symm g
        · exact h
      obtain ⟨M2, w', q1, q2, q3, q4, q5⟩ := ih (l ++ [c]) M1 s t (mP_F1 HP S1 f1) HQ1 (by rw [List.length_append, List.length_singleton]; omega) (fun c' hc' => hc c' (List.mem_cons_of_mem _ hc')) h25' ho1
      rw [if_neg (fun h => g (Option.some.inj h)), am_br_ne (by omega) (by omega) (by omega) (by omega), if_pos rfl, am_ob_p (kk_187 S), r1, am_bV_p, q2] at h0
      have hnn : n25 c = true := decide_eq_true g
      refine ⟨M2, w', by rw [List.dropWhile_cons, hnn]; exact q1, h0, q3, ?_, fr_tr f1 q5⟩
      rw [List.takeWhile_cons, hnn]
      rw [List.append_assoc] at q4
      exact q4
theorem m_drop10 {L : Nat} {q : am_Pq} {j : Nat} {o : Nat} (d : Nat) : ∀ (w l : List Int) (M : am_M), am_Sh L q M → qH M j [] l w o → l.length + w.length ≤ 1600 → (∀ c ∈ w, 1 ≤ c ∧ c ≤ 60) → ∃ M', am_ev 250 (d + 3) 87 [.ref 187] [] M = some (some (.int (am_i 1)), M') ∧ am_Sh L q M' ∧ qH M' j [] (l ++ w.takeWhile w10) (10 :: w.dropWhile w10) o ∧ fr qF1 M M' := by
  intro w
  induction w with
  | nil =>
    intro l M S H hl hc
    have hon := m_isOn S H (by rw [List.length_nil]; omega) (by intro c h; cases h) (x := 10) (by omega) (d + 2)
    have S2 := S.sI 258 (([] : List Int).length + ([] : List Int).length) (am_i 10)
    refine ⟨_, ?_, S2.sI _ _ _, by rw [List.takeWhile_nil, List.append_nil, List.dropWhile_nil]; exact qH_push H 10, fr_tr (fr_sI (Or.inr (Or.inl rfl))) (fr_sI (Or.inr (Or.inr ⟨rfl, by omega⟩)))⟩
    rw [t250_87, am_ob_p (kk_187 S), hon, am_bI_p, if_neg (by intro h; cases h), am_br_eq (by omega) (by omega) (by omega) (by omega), if_pos rfl, am_ob_p (kk_187 S), rr_187_93 S, am_gr_p, am_ob_p (kk_187 S), H.2.2.2.1, am_iw_p (kk_258 S) (by omega) (by omega) (by rw [List.length_nil]; omega) (by omega), am_i_ix (by omega) (by rw [List.length_nil]; omega), Int.toNat_natCast]
    simp only [am_lt]
    rw [am_ob_p (kk_187 S2), am_ob_p (kk_187 S2), am_I_ne1 (show 187 ≠ 258 by decide), H.2.2.2.1, am_i_add, am_tr_1]
  | cons c w ih =>
    intro l M S H hl hc
    rw [List.length_cons] at hl
    have hon := m_isOn S H (by rw [List.length_cons, List.length_nil]; omega) (by rw [List.append_nil]; exact hc) (x := 10) (by omega) (d + 2)
    rw [List.append_nil, List.head?_cons] at hon
    by_cases g : c = 10
    · obtain ⟨M1, r1, S1, H1, f1⟩ := m_drops S H (by rw [List.length_nil]; omega) (d + 1)
      obtain ⟨M2, r2, S2, H2, f2⟩ := ih (l ++ [c]) M1 S1 H1 (by rw [List.length_append, List.length_singleton]; omega) (fun c' hc' => hc c' (List.mem_cons_of_mem _ hc'))
      have hw : w10 c = true := decide_eq_true g
      refine ⟨M2, ?_, S2, by rw [List.takeWhile_cons, List.dropWhile_cons, if_pos hw, if_pos hw]; rw [List.append_assoc] at H2; exact H2, fr_tr f1 f2⟩
      rw [t250_87, am_ob_p (kk_187 S), hon, am_bI_p, if_pos (by rw [g]), am_br_eq (by omega) (by omega) (by omega) (by omega), if_neg (by omega), am_ob_p (kk_187 S), r1, am_bV_p]
      exact r2
    · have hw : ¬ w10 c = true := fun h => g (of_decide_eq_true h)
      have S2 := S.sI 258 ((c :: w).length + ([] : List Int).length) (am_i 10)
      refine ⟨_, ?_, S2.sI _ _ _, by rw [List.takeWhile_cons, List.dropWhile_cons, if_neg hw, if_neg hw, List.append_nil]; exact qH_push H 10, fr_tr (fr_sI (Or.inr (Or.inl rfl))) (fr_sI (Or.inr (Or.inr ⟨rfl, by omega⟩)))⟩
      rw [t250_87, am_ob_p (kk_187 S), hon, am_bI_p, if_neg (fun h => g (Option.some.inj h)), am_br_eq (by omega) (by omega) (by omega) (by omega), if_pos rfl, am_ob_p (kk_187 S), rr_187_93 S, am_gr_p, am_ob_p (kk_187 S), H.2.2.2.1, am_iw_p (kk_258 S) (by omega) (by omega) (by rw [List.length_cons, List.length_nil]; omega) (by omega), am_i_ix (by omega) (by rw [List.length_cons, List.length_nil]; omega), Int.toNat_natCast]
      simp only [am_lt]
      rw [am_ob_p (kk_187 S2), am_ob_p (kk_187 S2), am_I_ne1 (show 187 ≠ 258 by decide), H.2.2.2.1, am_i_add, am_tr_1]
theorem m_drop11 {L : Nat} {q : am_Pq} {j : Nat} {o : Nat} (d : Nat) : ∀ (w l : List Int) (M : am_M), am_Sh L q M → qH M j [] l w o → l.length + w.length ≤ 1600 → (∀ c ∈ w, 1 ≤ c ∧ c ≤ 60) → ∃ M', am_ev 250 (d + 3) 137 [.ref 187] [] M = some (some (.int (am_i 1)), M') ∧ am_Sh L q M' ∧ qH M' j [] (l ++ w.takeWhile w11) (11 :: w.dropWhile w11) o ∧ fr qF1 M M' := by
  intro w
  induction w with
  | nil =>
    intro l M S H hl hc
    have hon := m_isOn S H (by rw [List.length_nil]; omega) (by intro c h; cases h) (x := 10) (by omega) (d + 2)
    have hon2 := m_isOn S H (by rw [List.length_nil]; omega) (by intro c h; cases h) (x := 11) (by omega) (d + 2)
    have S2 := S.sI 258 (([] : List Int).length + ([] : List Int).length) (am_i 11)
    refine ⟨_, ?_, S2.sI _ _ _, by rw [List.takeWhile_nil, List.append_nil, List.dropWhile_nil]; exact qH_push H 11, fr_tr (fr_sI (Or.inr (Or.inl rfl))) (fr_sI (Or.inr (Or.inr ⟨rfl, by omega⟩)))⟩
    rw [t250_137, am_ob_p (kk_187 S), hon, am_bI_p, if_neg (by intro h; cases h), am_br_ne (by omega) (by omega) (by omega) (by omega), if_pos rfl, am_ob_p (kk_187 S), hon2, am_bI_p, if_neg (by intro h; cases h), am_br_eq (by omega) (by omega) (by omega) (by omega), if_pos rfl, am_ob_p (kk_187 S), rr_187_93 S, am_gr_p, am_ob_p (kk_187 S), H.2.2.2.1, am_iw_p (kk_258 S) (by omega) (by omega) (by rw [List.length_nil]; omega) (by omega), am_i_ix (by omega) (by rw [List.length_nil]; omega), Int.toNat_natCast]
    simp only [am_lt]
    rw [am_ob_p (kk_187 S2), am_ob_p (kk_187 S2), am_I_ne1 (show 187 ≠ 258 by decide), H.2.2.2.1, am_i_add, am_tr_1]
  | cons c w ih =>
    intro l M S H hl hc
    rw [List.length_cons] at hl
    have hon := m_isOn S H (by rw [List.length_cons, List.length_nil]; omega) (by rw [List.append_nil]; exact hc) (x := 10) (by omega) (d + 2)
    have hon2 := m_isOn S H (by rw [List.length_cons, List.length_nil]; omega) (by rw [List.append_nil]; exact hc) (x := 11) (by omega) (d + 2)
    rw [List.append_nil, List.head?_cons] at hon hon2
    by_cases g : c = 10 ∨ c = 11
    · obtain ⟨M1, r1, S1, H1, f1⟩ := m_drops S H (by rw [List.length_nil]; omega) (d + 1)
      obtain ⟨M2, r2, S2, H2, f2⟩ := ih (l ++ [c]) M1 S1 H1 (by rw [List.length_append, List.length_singleton]; omega) (fun c' hc' => hc c' (List.mem_cons_of_mem _ hc'))
      have hw : w11 c = true := decide_eq_true g
      refine ⟨M2, ?_, S2, by rw [List.takeWhile_cons, List.dropWhile_cons, if_pos hw, if_pos hw]; rw [List.append_assoc] at H2; exact H2, fr_tr f1 f2⟩
      rw [t250_137, am_ob_p (kk_187 S), hon, am_bI_p]
      by_cases g1 : c = 10
      · rw [if_pos (by rw [g1]), am_br_ne (by omega) (by omega) (by omega) (by omega), if_neg (by omega), am_ob_p (kk_187 S), r1, am_bV_p]
        exact r2
      · rw [if_neg (fun h => g1 (Option.some.inj h)), am_br_ne (by omega) (by omega) (by omega) (by omega), if_pos rfl, am_ob_p (kk_187 S), hon2, am_bI_p, if_pos (by rw [g.resolve_left g1]), am_br_eq (by omega) (by omega) (by omega) (by omega), if_neg (by omega), am_ob_p (kk_187 S), r1, am_bV_p]
        exact r2
    · have hw : ¬ w11 c = true := fun h => g (of_decide_eq_true h)
      have S2 := S.sI 258 ((c :: w).length + ([] : List Int).length) (am_i 11)
      refine ⟨_, ?_, S2.sI _ _ _, by rw [List.takeWhile_cons, List.dropWhile_cons, if_neg hw, if_neg hw, List.append_nil]; exact qH_push H 11, fr_tr (fr_sI (Or.inr (Or.inl rfl))) (fr_sI (Or.inr (Or.inr ⟨rfl, by omega⟩)))⟩
      rw [t250_137, am_ob_p (kk_187 S), hon, am_bI_p, if_neg (fun h => g (Or.inl (Option.some.inj h))), am_br_ne (by omega) (by omega) (by omega) (by omega), if_pos rfl, am_ob_p (kk_187 S), hon2, am_bI_p, if_neg (fun h => g (Or.inr (Option.some.inj h))), am_br_eq (by omega) (by omega) (by omega) (by omega), if_pos rfl, am_ob_p (kk_187 S), rr_187_93 S, am_gr_p, am_ob_p (kk_187 S), H.2.2.2.1, am_iw_p (kk_258 S) (by omega) (by omega) (by rw [List.length_cons, List.length_nil]; omega) (by omega), am_i_ix (by omega) (by rw [List.length_cons, List.length_nil]; omega), Int.toNat_natCast]
      simp only [am_lt]
      rw [am_ob_p (kk_187 S2), am_ob_p (kk_187 S2), am_I_ne1 (show 187 ≠ 258 by decide), H.2.2.2.1, am_i_add, am_tr_1]
