/-! The reference's reader: signs. -/
def ltr (x : Int) : Int := if 97 ≤ x ∧ x ≤ 122 then 1 else 0
def dgt (x : Int) : Int := if 48 ≤ x ∧ x ≤ 57 then 1 else 0
theorem m_isLetter {M : am_M} {x : Int} (h0 : -2147483648 ≤ x) (h1 : x < 2147483648) (d : Nat) : am_cl 131 d [.int (am_i x)] M = some (some (.int (am_i (ltr x))), M) := by
  unfold ltr
  rw [t131, am_br_lt (by omega) (by omega) (by omega) (by omega)]
  by_cases g : x < 97
  · rw [if_pos g, if_neg (show ¬ (97 ≤ x ∧ x ≤ 122) by omega), am_tr_0]
  · rw [if_neg g, am_br_gt (by omega) (by omega) (by omega) (by omega)]
    by_cases g2 : 122 < x
    · rw [if_pos g2, if_neg (show ¬ (97 ≤ x ∧ x ≤ 122) by omega), am_tr_0]
    · rw [if_neg g2, if_pos (show 97 ≤ x ∧ x ≤ 122 by omega), am_tr_1]
theorem m_isDigit {M : am_M} {x : Int} (h0 : -2147483648 ≤ x) (h1 : x < 2147483648) (d : Nat) : am_cl 132 d [.int (am_i x)] M = some (some (.int (am_i (dgt x))), M) := by
  unfold dgt
  rw [t132, am_br_lt (by omega) (by omega) (by omega) (by omega)]
  by_cases g : x < 48
  · rw [if_pos g, if_neg (show ¬ (48 ≤ x ∧ x ≤ 57) by omega), am_tr_0]
  · rw [if_neg g, am_br_gt (by omega) (by omega) (by omega) (by omega)]
    by_cases g2 : 57 < x
    · rw [if_pos g2, if_neg (show ¬ (48 ≤ x ∧ x ≤ 57) by omega), am_tr_0]
    · rw [if_neg g2, if_pos (show 48 ≤ x ∧ x ≤ 57 by omega), am_tr_1]
/-- the reference's reader at a, without a fault -/
def mAt (L : Nat) (q : am_Pq) (M : am_M) (Z : Nat → Nat → Int) (n a : Nat) : Prop := am_Sh L q M ∧ (∀ k, k < 1600 → am_I M 188 k = am_i (Z 0 k)) ∧ am_I M 187 2 = am_i a ∧ am_I M 187 3 = am_i n ∧ am_I M 187 5 = am_i 0 ∧ a ≤ n ∧ n ≤ 1600
theorem m_lookAt {L : Nat} {q : am_Pq} {Z : Nat → Nat → Int} (hz : ∀ k, 0 ≤ Z 0 k ∧ Z 0 k ≤ 255) {n a : Nat} {M : am_M} (H : mAt L q M Z n a) (d : Nat) : ∃ M', am_cl 133 d [.ref 187] M = some (some (.int (am_i (if sk Z n a < n then Z 0 (sk Z n a) else -1))), M') ∧ fr (fun b k => b = 187 ∧ k = 2) M M' ∧ mAt L q M' Z n (sk Z n a) := by
  obtain ⟨S, HI, e2, e3, e5, ha, hn⟩ := H
  obtain ⟨M', r, S', f', e'⟩ := m_look' hz hn d (n - a) a rfl ha M S HI e2 e3
  refine ⟨M', ?_, f', S', fun k hk => by rw [(f' 188 k (by omega)).1]; exact HI k hk, e', by rw [(f' 187 3 (by omega)).1]; exact e3, by rw [(f' 187 5 (by omega)).1]; exact e5, (sk_bd Z n a).2 ha, hn⟩
  rw [t133]
  exact r
theorem m_takesSign {L : Nat} {q : am_Pq} {Z : Nat → Nat → Int} (hz : ∀ k, 0 ≤ Z 0 k ∧ Z 0 k ≤ 255) {n a : Nat} {M : am_M} (H : mAt L q M Z n a) {x : Int} (h0 : 0 ≤ x) (h1 : x < 1000) (d : Nat) : ∃ M', am_cl 137 (d + 1) [.ref 187, .int (am_i x)] M = some (some (.int (am_i (if sk Z n a < n ∧ Z 0 (sk Z n a) = x then 1 else 0))), M') ∧ fr (fun b k => b = 187 ∧ k = 2) M M' ∧ mAt L q M' Z n (if sk Z n a < n ∧ Z 0 (sk Z n a) = x then sk Z n a + 1 else sk Z n a) := by
  have S := H.1
  have e5 := H.2.2.2.2.1
  obtain ⟨M1, r1, f1, H1⟩ := m_lookAt hz H d
  obtain ⟨S1, HI1, e21, e31, e51, ha1, hn1⟩ := H1
  have b := hz (sk Z n a)
  by_cases g : sk Z n a < n ∧ Z 0 (sk Z n a) = x
  · rw [if_pos g, if_pos g]
    refine ⟨am_sI M1 187 2 (am_i ((sk Z n a : Int) + 1)), ?_, fr_tr f1 (fr_sI ⟨rfl, rfl⟩), S1.sI _ _ _, fun k hk => by rw [am_I_ne1 (by omega)]; exact HI1 k hk, am_I_same _ _ _ _, by rw [am_I_ne2 (by omega)]; exact e31, by rw [am_I_ne2 (by omega)]; exact e51, by omega, hn1⟩
    rw [t137, am_ob_p (kk_187 S), e5, am_br_ne (by omega) (by omega) (by omega) (by omega), if_pos rfl, am_ob_p (kk_187 S), r1, am_bI_p, if_pos g.1, am_br_eq (by omega) (by omega) (by omega) (by omega), if_pos g.2, am_ob_p (kk_187 S1), am_ob_p (kk_187 S1), e21, am_i_add, am_lt, am_tr_1]
  · rw [if_neg g, if_neg g]
    refine ⟨M1, ?_, f1, S1, HI1, e21, e31, e51, ha1, hn1⟩
    rw [t137, am_ob_p (kk_187 S), e5, am_br_ne (by omega) (by omega) (by omega) (by omega), if_pos rfl, am_ob_p (kk_187 S), r1, am_bI_p, am_tr_0]
    by_cases g1 : sk Z n a < n
    · rw [if_pos g1, am_br_eq (by omega) (by omega) (by omega) (by omega), if_neg (fun h => g ⟨g1, h⟩)]
    · rw [if_neg g1, am_br_eq (by omega) (by omega) (by omega) (by omega), if_neg (by omega)]
