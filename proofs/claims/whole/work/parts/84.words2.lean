/-! Words of formulas, as the reference asks for them. -/
theorem m_hereA {L : Nat} {q : am_Pq} {Z : Nat → Nat → Int} {n : Nat} {M : am_M} {s : Nat} {t : Bool} (H : mQt L q Z n M s t) (i k : Nat) (hi : i < 20) (hk : k < 35) (e : wlA.getD i [] = wlC.getD k []) {r : Nat} (hr : r = 237 + i) {c : Int} (hc : c = (k : Int)) (d : Nat) : am_cl 134 (d + 1) [.ref 187, .ref r] M = some (some (.int (am_i (if isW Z n c (.inr (s, t, [])) = true then 1 else 0))), M) := by
  subst hr
  subst hc
  rw [m_here H (wAt_A hi) d, isW_hrb hk, e]
theorem m_takeA {L : Nat} {q : am_Pq} {Z : Nat → Nat → Int} {n : Nat} {M : am_M} {s : Nat} {t : Bool} (H : mP L q Z n M s t) (i k : Nat) (hi : i < 20) (hk : k < 35) (e : wlA.getD i [] = wlC.getD k []) {r : Nat} (hr : r = 237 + i) {c : Int} (hc : c = (k : Int)) (d : Nat) : ∃ M', am_cl 135 (d + 2) [.ref 187, .ref r] M = some (some (.int (am_i (if isW Z n c (.inr (s, t, [])) = true then 1 else 0))), M') ∧ (¬ isW Z n c (.inr (s, t, [])) = true → mQt L q Z n M' s t) ∧ (isW Z n c (.inr (s, t, [])) = true → mP L q Z n M' (ns Z n s) (nt Z n s)) ∧ fr (fun b k => b = 187 ∧ (k = 2 ∨ k = 4)) M M' := by
  subst hr
  subst hc
  have := m_take H (wAt_A hi) d
  rw [isW_hrb (l := []) hk, ← e]
  exact this
theorem m_asksA {L : Nat} {q : am_Pq} {Z : Nat → Nat → Int} {n : Nat} {M : am_M} {st : am_PS} (H : mS L q Z n M st) (i k : Nat) (hi : i < 20) (hk : k < 35) (e : wlA.getD i [] = wlC.getD k []) {r : Nat} (hr : r = 237 + i) {c : Int} (hc : c = (k : Int)) (d : Nat) : ∃ M', am_cl 136 (d + 3) [.ref 187, .ref r] M = some (none, M') ∧ mS L q Z n M' (tkW Z n c st) ∧ fr rR M M' := by
  subst hr
  subst hc
  obtain ⟨M', r, H', f'⟩ := m_asks H (wAt_A hi) d
  refine ⟨M', r, ?_, f'⟩
  match st, H' with
  | .inl e, H' => exact H'
  | .inr (s, t, l), H' =>
    unfold tkW
    rw [isW_hrb hk, ← e]
    exact H'
/-- which word is here -/
def whv (Z : Nat → Nat → Int) (n j s : Nat) (t : Bool) : Int := if isW Z n 16 (.inr (s, t, [])) = true then 0 else if isW Z n 17 (.inr (s, t, [])) = true then 1 else if isW Z n 18 (.inr (s, t, [])) = true then (if j = 3 then 8 else 2) else if isW Z n 2 (.inr (s, t, [])) = true then 3 else if isW Z n 19 (.inr (s, t, [])) = true then 4 else if isW Z n 20 (.inr (s, t, [])) = true then 5 else if isW Z n 22 (.inr (s, t, [])) = true then 6 else if isW Z n 21 (.inr (s, t, [])) = true then 7 else -1
theorem whv_bd (Z : Nat → Nat → Int) (n j s : Nat) (t : Bool) : -1 ≤ whv Z n j s t ∧ whv Z n j s t ≤ 8 := by
  unfold whv
  repeat' split
  all_goals omega
theorem m_wordHere {L : Nat} {q : am_Pq} {Z : Nat → Nat → Int} {n : Nat} {M : am_M} {s : Nat} {t : Bool} (H : mQt L q Z n M s t) {j : Nat} (hj : j ≤ 3) (e53 : am_I M 187 53 = am_i (j : Int)) (d : Nat) : am_cl 239 (d + 2) [.ref 187] M = some (some (.int (am_i (whv Z n j s t))), M) := by
  have S := H.1.1
  have h0 := m_hereA H 12 16 (by omega) (by omega) (by decide +kernel) (r := 249) rfl (c := 16) rfl d
  have h1 := m_hereA H 13 17 (by omega) (by omega) (by decide +kernel) (r := 250) rfl (c := 17) rfl d
  have h2 := m_hereA H 14 18 (by omega) (by omega) (by decide +kernel) (r := 251) rfl (c := 18) rfl d
  have h3 := m_hereA H 15 2 (by omega) (by omega) (by decide +kernel) (r := 252) rfl (c := 2) rfl d
  have h4 := m_hereA H 16 19 (by omega) (by omega) (by decide +kernel) (r := 253) rfl (c := 19) rfl d
  have h5 := m_hereA H 17 20 (by omega) (by omega) (by decide +kernel) (r := 254) rfl (c := 20) rfl d
  have h6 := m_hereA H 18 22 (by omega) (by omega) (by decide +kernel) (r := 255) rfl (c := 22) rfl d
  have h7 := m_hereA H 19 21 (by omega) (by omega) (by decide +kernel) (r := 256) rfl (c := 21) rfl d
  rw [t239]
  simp only [am_ob_p (kk_187 S), rr_187_83 S, rr_187_84 S, rr_187_85 S, rr_187_86 S, rr_187_87 S, rr_187_88 S, rr_187_89 S, rr_187_90 S, am_gr_p, am_bI_p, h0, h1, h2, h3, h4, h5, h6, h7, br_eq_b, e53]
  rw [am_br_ne (by omega) (by omega) (by omega) (by omega)]
  unfold whv
  by_cases g : (j : Int) = 3
  · have g2 : j = 3 := by omega
    rw [if_pos g]
    simp only [if_pos g2]
    repeat' split
    all_goals rfl
  · have g2 : ¬ j = 3 := by omega
    rw [if_neg g]
    simp only [if_neg g2]
    repeat' split
    all_goals rfl
/-- may it be asked -/
def alq (j : Nat) (k : Int) : Bool := if j = 0 then decide (k < 3) else if j = 1 then decide (k < 2) else if j = 2 then decide (k = 0 ∨ (3 ≤ k ∧ k ≤ 5)) else decide (k = 0 ∨ 2 < k)
theorem m_alw {L : Nat} {q : am_Pq} {M : am_M} (S : am_Sh L q M) {j : Nat} (hj : j ≤ 3) (e53 : am_I M 187 53 = am_i (j : Int)) {k : Int} (h0 : 0 ≤ k) (h1 : k < 100) (d : Nat) : am_cl 142 (d + 1) [.ref 187, .int (am_i k)] M = some (some (.int (am_i (if alq j k = true then 1 else 0))), M) := by
  have hj2 : j = 0 ∨ j = 1 ∨ j = 2 ∨ j = 3 := by omega
  have e1 : (am_i k).toInt64 = am_l k := am_i2l (by omega) (by omega)
  rw [t142, am_ob_p (kk_187 S), e53, am_br_ge (by omega) (by omega) (by omega) (by omega), am_br_ge (by omega) (by omega) (by omega) (by omega), e1, m_isIn (by omega) (by omega) (by omega) (by omega) (by omega) (by omega), am_bI_p]
  simp only [am_br_eq (show -2147483648 ≤ k by omega) (show k < 2147483648 by omega) (show -2147483648 ≤ (0 : Int) by omega) (show (0 : Int) < 2147483648 by omega), am_br_le (show -2147483648 ≤ k by omega) (show k < 2147483648 by omega) (show -2147483648 ≤ (2 : Int) by omega) (show (2 : Int) < 2147483648 by omega), am_tr_0, am_tr_1]
  unfold isin
  rcases hj2 with rfl | rfl | rfl | rfl
  · rw [am_si_t (by rfl), show alq 0 k = decide (k < 3) from rfl]
    simp only [decide_eq_true_eq]
    by_cases g : 3 ≤ k
    · rw [if_pos g, if_neg (show ¬ k < 3 by omega)]
    · rw [if_neg g, if_pos (show k < 3 by omega)]
  · rw [am_si_f (by omega), am_si_t (by rfl), show alq 1 k = decide (k < 2) from rfl]
    simp only [decide_eq_true_eq]
    by_cases g : 2 ≤ k
    · rw [if_pos g, if_neg (show ¬ k < 2 by omega)]
    · rw [if_neg g, if_pos (show k < 2 by omega)]
  · rw [am_si_f (by omega), am_si_f (by omega), am_si_t (by rfl), show alq 2 k = decide (k = 0 ∨ (3 ≤ k ∧ k ≤ 5)) from rfl]
    simp only [decide_eq_true_eq]
    by_cases g : k = 0
    · rw [if_pos g, if_pos (show k = 0 ∨ (3 ≤ k ∧ k ≤ 5) by omega)]
    · rw [if_neg g]
      by_cases g2 : 3 ≤ k ∧ k ≤ 5
      · rw [if_pos g2, am_br_eq (by omega) (by omega) (by omega) (by omega), if_neg (show ¬ (1 : Int) = 0 by omega), if_pos (show k = 0 ∨ (3 ≤ k ∧ k ≤ 5) by omega)]
      · rw [if_neg g2, am_br_eq (by omega) (by omega) (by omega) (by omega), if_pos rfl, if_neg (show ¬ (k = 0 ∨ (3 ≤ k ∧ k ≤ 5)) by omega)]
  · rw [am_si_f (by omega), am_si_f (by omega), am_si_f (by omega), show alq 3 k = decide (k = 0 ∨ 2 < k) from rfl]
    simp only [decide_eq_true_eq]
    by_cases g : k = 0
    · rw [if_pos g, if_pos (show k = 0 ∨ 2 < k by omega)]
    · rw [if_neg g]
      by_cases g2 : k ≤ 2
      · rw [if_pos g2, if_neg (show ¬ (k = 0 ∨ 2 < k) by omega)]
      · rw [if_neg g2, if_pos (show k = 0 ∨ 2 < k by omega)]
def wof (Z : Nat → Nat → Int) (n j s : Nat) (t : Bool) (a b : Int) : Int := if a ≤ whv Z n j s t ∧ whv Z n j s t < b ∧ alq j (whv Z n j s t) = true then whv Z n j s t else -1
theorem m_wordOf {L : Nat} {q : am_Pq} {Z : Nat → Nat → Int} {n : Nat} {M : am_M} {s : Nat} {t : Bool} (H : mQt L q Z n M s t) {j : Nat} (hj : j ≤ 3) (e53 : am_I M 187 53 = am_i (j : Int)) {a b : Int} (ha : 0 ≤ a ∧ a ≤ 9) (hb : 0 ≤ b ∧ b ≤ 9) (d : Nat) : am_cl 240 (d + 3) [.ref 187, .int (am_i a), .int (am_i b)] M = some (some (.int (am_i (wof Z n j s t a b))), M) := by
  have S := H.1.1
  have hv := whv_bd Z n j s t
  rw [t240, am_ob_p (kk_187 S), m_wordHere H hj e53, am_bI_p, am_br_lt (by omega) (by omega) (by omega) (by omega), am_br_ge (by omega) (by omega) (by omega) (by omega)]
  unfold wof
  by_cases g1 : whv Z n j s t < a
  · rw [if_pos g1, if_neg (by omega)]
  · rw [if_neg g1]
    by_cases g2 : b ≤ whv Z n j s t
    · rw [if_pos g2, if_neg (by omega)]
    · rw [if_neg g2, am_ob_p (kk_187 S), m_alw S hj e53 (by omega) (by omega), am_bI_p, br_eq_b]
      by_cases g3 : alq j (whv Z n j s t) = true
      · rw [if_pos g3, if_pos ⟨by omega, by omega, g3⟩]
      · rw [if_neg g3, if_neg (fun h => g3 h.2.2)]
/-- a word that may be asked for -/
theorem wof_fch {Z : Nat → Nat → Int} {n j s : Nat} {t : Bool} (hj : j ≤ 3) : fch Z n j (.inr (s, t, [])) = if wof Z n j s t 0 8 = -1 then 0 else 40 + wof Z n j s t 0 8 := by
  have hj2 : j = 0 ∨ j = 1 ∨ j = 2 ∨ j = 3 := by omega
  show (if kd Z n s t = 1 then fcd j (wno Z s (te Z n s)) else 0) = _
  have hW : ∀ c : Int, isW Z n c (.inr (s, t, [])) = decide (kd Z n s t = 1 ∧ wno Z s (te Z n s) = c) := fun c => rfl
  unfold wof whv
  simp only [hW]
  obtain ⟨w, hw⟩ : ∃ w, w = wno Z s (te Z n s) := ⟨_, rfl⟩
  rw [← hw]
  clear hw
  by_cases hk : kd Z n s t = 1
  · simp only [hk, true_and, if_true, decide_eq_true_eq]
    unfold fcd alq
    have hc : w = 2 ∨ w = 16 ∨ w = 17 ∨ w = 18 ∨ w = 19 ∨ w = 20 ∨ w = 21 ∨ w = 22 ∨ (w ≠ 2 ∧ w ≠ 16 ∧ w ≠ 17 ∧ w ≠ 18 ∧ w ≠ 19 ∧ w ≠ 20 ∧ w ≠ 21 ∧ w ≠ 22) := by omega
    rcases hj2 with rfl | rfl | rfl | rfl
    all_goals
      rcases hc with rfl | rfl | rfl | rfl | rfl | rfl | rfl | rfl | ⟨h1, h2, h3, h4, h5, h6, h7, h8⟩
    all_goals first
      | decide
      | simp [*]
  · simp [hk]
theorem wof_8 {Z : Nat → Nat → Int} {n j s : Nat} {t : Bool} (hj : j ≤ 3) : wof Z n j s t 8 9 = if isW Z n 18 (.inr (s, t, [])) = true ∧ j = 3 then 8 else -1 := by
  have hj2 : j = 0 ∨ j = 1 ∨ j = 2 ∨ j = 3 := by omega
  have hW : ∀ c : Int, isW Z n c (.inr (s, t, [])) = decide (kd Z n s t = 1 ∧ wno Z s (te Z n s) = c) := fun c => rfl
  unfold wof whv
  simp only [hW]
  obtain ⟨w, hw⟩ : ∃ w, w = wno Z s (te Z n s) := ⟨_, rfl⟩
  rw [← hw]
  clear hw
  by_cases hk : kd Z n s t = 1
  · simp only [hk, true_and, decide_eq_true_eq]
    unfold alq
    have hc : w = 2 ∨ w = 16 ∨ w = 17 ∨ w = 18 ∨ w = 19 ∨ w = 20 ∨ w = 21 ∨ w = 22 ∨ (w ≠ 2 ∧ w ≠ 16 ∧ w ≠ 17 ∧ w ≠ 18 ∧ w ≠ 19 ∧ w ≠ 20 ∧ w ≠ 21 ∧ w ≠ 22) := by omega
    rcases hj2 with rfl | rfl | rfl | rfl
    all_goals
      rcases hc with rfl | rfl | rfl | rfl | rfl | rfl | rfl | rfl | ⟨h1, h2, h3, h4, h5, h6, h7, h8⟩
    all_goals first
      | decide
      | simp [*]
  · simp [hk]
/-- the word of that number is asked -/
def wcn (k : Int) : Int := if k = 0 then 16 else if k = 1 then 17 else if k = 2 then 18 else if k = 3 then 2 else if k = 4 then 19 else if k = 5 then 20 else if k = 6 then 22 else if k = 7 then 21 else 18
theorem m_asksWord {L : Nat} {q : am_Pq} {Z : Nat → Nat → Int} {n : Nat} {M : am_M} {st : am_PS} (H : mS L q Z n M st) {k : Int} (h0 : 0 ≤ k) (h1 : k ≤ 8) (d : Nat) : ∃ M', am_cl 241 (d + 4) [.ref 187, .int (am_i k)] M = some (none, M') ∧ mS L q Z n M' (tkW Z n (wcn k) st) ∧ fr rR M M' := by
  have S := (mS_S H).1
  have hk : k = 0 ∨ k = 1 ∨ k = 2 ∨ k = 3 ∨ k = 4 ∨ k = 5 ∨ k = 6 ∨ k = 7 ∨ k = 8 := by omega
  rw [t241]
  rcases hk with rfl | rfl | rfl | rfl | rfl | rfl | rfl | rfl | rfl
  · obtain ⟨M', r, H', f'⟩ := m_asksA H 12 16 (by omega) (by omega) (by decide +kernel) (r := 249) rfl (c := 16) rfl d
    exact ⟨M', by rw [am_si_t rfl, am_ob_p (kk_187 S), rr_187_83 S, am_gr_p, am_ob_p (kk_187 S), r, am_bV_p], H', f'⟩
  · obtain ⟨M', r, H', f'⟩ := m_asksA H 13 17 (by omega) (by omega) (by decide +kernel) (r := 250) rfl (c := 17) rfl d
    exact ⟨M', by rw [am_si_f (by omega), am_si_t rfl, am_ob_p (kk_187 S), rr_187_84 S, am_gr_p, am_ob_p (kk_187 S), r, am_bV_p], H', f'⟩
  · obtain ⟨M', r, H', f'⟩ := m_asksA H 14 18 (by omega) (by omega) (by decide +kernel) (r := 251) rfl (c := 18) rfl d
    exact ⟨M', by rw [am_si_f (by omega), am_si_f (by omega), am_si_t rfl, am_ob_p (kk_187 S), rr_187_85 S, am_gr_p, am_ob_p (kk_187 S), r, am_bV_p], H', f'⟩
  · obtain ⟨M', r, H', f'⟩ := m_asksA H 15 2 (by omega) (by omega) (by decide +kernel) (r := 252) rfl (c := 2) rfl d
    exact ⟨M', by rw [am_si_f (by omega), am_si_f (by omega), am_si_f (by omega), am_si_t rfl, am_ob_p (kk_187 S), rr_187_86 S, am_gr_p, am_ob_p (kk_187 S), r, am_bV_p], H', f'⟩
  · obtain ⟨M', r, H', f'⟩ := m_asksA H 16 19 (by omega) (by omega) (by decide +kernel) (r := 253) rfl (c := 19) rfl d
    exact ⟨M', by rw [am_si_f (by omega), am_si_f (by omega), am_si_f (by omega), am_si_f (by omega), am_si_t rfl, am_ob_p (kk_187 S), rr_187_87 S, am_gr_p, am_ob_p (kk_187 S), r, am_bV_p], H', f'⟩
  · obtain ⟨M', r, H', f'⟩ := m_asksA H 17 20 (by omega) (by omega) (by decide +kernel) (r := 254) rfl (c := 20) rfl d
    exact ⟨M', by rw [am_si_f (by omega), am_si_f (by omega), am_si_f (by omega), am_si_f (by omega), am_si_f (by omega), am_si_t rfl, am_ob_p (kk_187 S), rr_187_88 S, am_gr_p, am_ob_p (kk_187 S), r, am_bV_p], H', f'⟩
  · obtain ⟨M', r, H', f'⟩ := m_asksA H 18 22 (by omega) (by omega) (by decide +kernel) (r := 255) rfl (c := 22) rfl d
    exact ⟨M', by rw [am_si_f (by omega), am_si_f (by omega), am_si_f (by omega), am_si_f (by omega), am_si_f (by omega), am_si_f (by omega), am_si_t rfl, am_ob_p (kk_187 S), rr_187_89 S, am_gr_p, am_ob_p (kk_187 S), r, am_bV_p], H', f'⟩
  · obtain ⟨M', r, H', f'⟩ := m_asksA H 19 21 (by omega) (by omega) (by decide +kernel) (r := 256) rfl (c := 21) rfl d
    exact ⟨M', by rw [am_si_f (by omega), am_si_f (by omega), am_si_f (by omega), am_si_f (by omega), am_si_f (by omega), am_si_f (by omega), am_si_f (by omega), am_si_t rfl, am_ob_p (kk_187 S), rr_187_90 S, am_gr_p, am_ob_p (kk_187 S), r, am_bV_p], H', f'⟩
  · obtain ⟨M', r, H', f'⟩ := m_asksA H 14 18 (by omega) (by omega) (by decide +kernel) (r := 251) rfl (c := 18) rfl d
    exact ⟨M', by rw [am_si_f (by omega), am_si_f (by omega), am_si_f (by omega), am_si_f (by omega), am_si_f (by omega), am_si_f (by omega), am_si_f (by omega), am_si_f (by omega), am_ob_p (kk_187 S), rr_187_85 S, am_gr_p, am_ob_p (kk_187 S), r, am_bV_p], H', f'⟩
/-- the word that is here is the one that is asked -/
theorem whv_wcn {Z : Nat → Nat → Int} {n j s : Nat} {t : Bool} (h : 0 ≤ whv Z n j s t) : isW Z n (wcn (whv Z n j s t)) (.inr (s, t, [])) = true := by
  unfold whv at h ⊢
  by_cases g0 : isW Z n 16 (.inr (s, t, [])) = true
  · simp only [if_pos g0]; exact g0
  · simp only [if_neg g0] at h ⊢
    by_cases g1 : isW Z n 17 (.inr (s, t, [])) = true
    · simp only [if_pos g1]; exact g1
    · simp only [if_neg g1] at h ⊢
      by_cases g2 : isW Z n 18 (.inr (s, t, [])) = true
      · simp only [if_pos g2]
        by_cases g : j = 3
        · simp only [if_pos g]; exact g2
        · simp only [if_neg g]; exact g2
      · simp only [if_neg g2] at h ⊢
        by_cases g3 : isW Z n 2 (.inr (s, t, [])) = true
        · simp only [if_pos g3]; exact g3
        · simp only [if_neg g3] at h ⊢
          by_cases g4 : isW Z n 19 (.inr (s, t, [])) = true
          · simp only [if_pos g4]; exact g4
          · simp only [if_neg g4] at h ⊢
            by_cases g5 : isW Z n 20 (.inr (s, t, [])) = true
            · simp only [if_pos g5]; exact g5
            · simp only [if_neg g5] at h ⊢
              by_cases g6 : isW Z n 22 (.inr (s, t, [])) = true
              · simp only [if_pos g6]; exact g6
              · simp only [if_neg g6] at h ⊢
                by_cases g7 : isW Z n 21 (.inr (s, t, [])) = true
                · simp only [if_pos g7]; exact g7
                · simp only [if_neg g7] at h
                  omega
