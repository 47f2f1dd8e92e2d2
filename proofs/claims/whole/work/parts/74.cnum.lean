/-! The class's reader: numbers, names. -/
theorem nv_bd {Z : Nat → Nat → Int} {s : Nat} : ∀ i, i ≤ 4 → (∀ k, s ≤ k → k < s + i → dgt (Z 0 k) = 1) → 0 ≤ nv Z s i ∧ nv Z s i < 10 ^ i
  | 0, _, _ => ⟨Int.le_refl 0, by show (0 : Int) < 1; decide⟩
  | i + 1, h, hd => by
    have h1 := nv_bd i (by omega) (fun k h1 h2 => hd k h1 (by omega))
    have h2 := dgt_1 (hd (s + i) (by omega) (by omega))
    show 0 ≤ nv Z s i * 10 + Z 0 (s + i) - 48 ∧ nv Z s i * 10 + Z 0 (s + i) - 48 < 10 ^ (i + 1)
    rw [Int.pow_succ]
    omega
theorem kd_2 {Z : Nat → Nat → Int} {n s : Nat} {t : Bool} (h : kd Z n s t = 2) : s < n ∧ ¬ ltr (Z 0 s) = 1 ∧ dgt (Z 0 s) = 1 ∧ t = false ∧ te Z n s = rn dgt Z n s := by
  unfold kd at h
  by_cases g : s < n
  · rw [if_pos g] at h
    by_cases g1 : ltr (Z 0 s) = 1
    · rw [if_pos g1] at h
      split at h <;> omega
    · rw [if_neg g1] at h
      by_cases g2 : dgt (Z 0 s) = 1
      · rw [if_pos g2] at h
        refine ⟨g, g1, g2, ?_, ?_⟩
        · cases t
          · rfl
          · rw [if_pos rfl] at h; omega
        · unfold te; rw [if_pos g, if_neg g1, if_pos g2]
      · rw [if_neg g2] at h
        omega
  · rw [if_neg g] at h
    omega
theorem kd_1 {Z : Nat → Nat → Int} {n s : Nat} {t : Bool} (h : kd Z n s t = 1) : s < n ∧ ltr (Z 0 s) = 1 ∧ t = false ∧ te Z n s = rn ltr Z n s := by
  unfold kd at h
  by_cases g : s < n
  · rw [if_pos g] at h
    by_cases g1 : ltr (Z 0 s) = 1
    · rw [if_pos g1] at h
      refine ⟨g, g1, ?_, ?_⟩
      · cases t
        · rfl
        · rw [if_pos rfl] at h; omega
      · unfold te; rw [if_pos g, if_pos g1]
    · rw [if_neg g1] at h
      by_cases g2 : dgt (Z 0 s) = 1
      · rw [if_pos g2] at h
        split at h <;> omega
      · rw [if_neg g2] at h
        omega
  · rw [if_neg g] at h
    omega
theorem c_tkN {L : Nat} {q : am_Pq} {Z : Nat → Nat → Int} {n B : Nat} {fm : Int} {o : Nat} {M : am_M} {st : am_PS} (H : rS L q Z n B fm o M st) {lo hi : Int} (hlo : 0 ≤ lo ∧ lo ≤ 9999) (hhi : 0 ≤ hi ∧ hi ≤ 9999) (d : Nat) : ∃ M', am_cl 106 (d + 2) [.ref 3, .int (am_i lo), .int (am_i hi)] M = some (some (.int (am_i (tkN Z n lo hi st).2)), M') ∧ rS L q Z n B fm o M' (tkN Z n lo hi st).1 ∧ fr (pRd q B) M M' := by
  have H0 := H
  obtain ⟨HC, HT⟩ := H
  have S := HC.1
  match st, HT, H0 with
  | .inl e, HT, H0 =>
    obtain ⟨he, e0, e1, e8, -⟩ := HT
    obtain ⟨M', r, H', f'⟩ := c_fl H0 (c := 1) (by omega) (d + 1)
    refine ⟨M', ?_, H', f'⟩
    rw [t106, am_ob_p (kk_3 S), e8, am_br_eq (by omega) (by omega) (by omega) (by omega), if_neg (by omega), am_ob_p (kk_3 S), am_ob_p (kk_3 S), r, am_bV_p]
    rfl
  | .inr (s, t, l), HT, H0 =>
    obtain ⟨hs, e0, e1, ⟨e8, e9, e10, eW⟩, -⟩ := HT
    obtain ⟨-, hq, hn, hT, hw, e6, eF, eo, hB, hz⟩ := HC
    have hkb := kd_bd Z n s t
    have hte := te_bd Z hs
    by_cases g : kd Z n s t = 2
    · obtain ⟨hsn, g1, g2, ht, het⟩ := kd_2 g
      by_cases g3 : te Z n s - s ≤ 4
      · obtain ⟨v, hv⟩ : ∃ v, v = nv Z s (te Z n s - s) := ⟨_, rfl⟩
        have hdg : ∀ k, s ≤ k → k < te Z n s → dgt (Z 0 k) = 1 := fun k h1 h2 => by rw [het] at h2; exact rn_in h1 h2
        have hvb : 0 ≤ v ∧ v ≤ 9999 := by
          have h := nv_bd (te Z n s - s) g3 (fun k h1 h2 => hdg k h1 (by omega))
          have h2 : (10 : Int) ^ (te Z n s - s) ≤ 10000 := by
            have : te Z n s - s = 0 ∨ te Z n s - s = 1 ∨ te Z n s - s = 2 ∨ te Z n s - s = 3 ∨ te Z n s - s = 4 := by omega
            rcases this with h | h | h | h | h <;> rw [h] <;> decide
          omega
        have lp : ∀ m i : Nat, i + m = te Z n s - s → am_ev 106 (d + 2) 53 [.ref 3, .int (am_i lo), .int (am_i hi), .int (am_i (nv Z s i)), .int (am_i ((s : Int) + (i : Int)))] [] M = am_ev 106 (d + 2) 53 [.ref 3, .int (am_i lo), .int (am_i hi), .int (am_i v), .int (am_i (te Z n s : Int))] [] M := by
          intro m
          induction m with
          | zero =>
            intro i hi2
            rw [hv, show i = te Z n s - s by omega, show (s : Int) + ((te Z n s - s : Nat) : Int) = (te Z n s : Int) by omega]
          | succ m ih =>
            intro i hi2
            rw [← ih (i + 1) (by omega), t106_53, am_ob_p (kk_3 S), e10, am_br_ge (by omega) (by omega) (by omega) (by omega), if_neg (by omega), am_ob_p (kk_3 S), rr_3_5 S, am_gr_p, am_ix_p (kk_30 S) (by omega) (by omega) (by omega), am_i_ix (by omega) (by omega), show ((s : Int) + (i : Int)).toNat = s + i by omega, hT (s + i) (by omega), am_i_mul, am_i_add, am_i_sub, am_lt, am_i_add, show (s : Int) + (i : Int) + 1 = (s : Int) + ((i + 1 : Nat) : Int) by omega]
            rfl
        have h0 : am_cl 106 (d + 2) [.ref 3, .int (am_i lo), .int (am_i hi)] M = am_ev 106 (d + 2) 53 [.ref 3, .int (am_i lo), .int (am_i hi), .int (am_i v), .int (am_i (te Z n s : Int))] [] M := by
          rw [← lp (te Z n s - s) 0 (by omega), t106, am_ob_p (kk_3 S), e8, am_br_eq (by omega) (by omega) (by omega) (by omega), if_pos g, am_ob_p (kk_3 S), am_ob_p (kk_3 S), e10, e9, am_i_sub, am_br_le (by omega) (by omega) (by omega) (by omega), if_pos (by omega), am_ob_p (kk_3 S), show (s : Int) + ((0 : Nat) : Int) = (s : Int) by omega]
          rfl
        have hF : tkN Z n lo hi (.inr (s, t, l)) = if lo ≤ v ∧ v ≤ hi then (nx Z n (.inr (s, t, l)), v) else (.inl (2, (s : Int)), lo) := by
          show (if kd Z n s t = 2 then (if te Z n s - s ≤ 4 then (if lo ≤ nv Z s (te Z n s - s) ∧ nv Z s (te Z n s - s) ≤ hi then (nx Z n (.inr (s, t, l)), nv Z s (te Z n s - s)) else (.inl (2, (s : Int)), lo)) else (.inl (1, (s : Int) + 4), lo)) else (.inl (1, (s : Int)), lo)) = _
          rw [if_pos g, if_pos g3, ← hv]
        rw [hF, h0, t106_53, am_ob_p (kk_3 S), e10, am_br_ge (by omega) (by omega) (by omega) (by omega), if_pos (by omega), am_br_lt (by omega) (by omega) (by omega) (by omega), am_br_le (by omega) (by omega) (by omega) (by omega)]
        by_cases g4 : lo ≤ v ∧ v ≤ hi
        · obtain ⟨M', r, H', f'⟩ := c_nx H0 (show 1 ≤ kd Z n s t ∧ kd Z n s t ≤ 3 by omega) d
          rw [if_pos g4]
          refine ⟨M', ?_, H', f'⟩
          rw [if_neg (by omega), if_pos g4.2, am_ob_p (kk_3 S), r, am_bV_p]
        · obtain ⟨M', r, H', f'⟩ := c_fl H0 (c := 2) (by omega) (d + 1)
          rw [if_neg g4]
          refine ⟨M', ?_, H', f'⟩
          by_cases g5 : v < lo
          · rw [if_pos g5, am_ob_p (kk_3 S), am_ob_p (kk_3 S), r, am_bV_p]
          · rw [if_neg g5, if_neg (by omega), am_ob_p (kk_3 S), am_ob_p (kk_3 S), r, am_bV_p]
      · have hF : tkN Z n lo hi (.inr (s, t, l)) = (.inl (1, (s : Int) + 4), lo) := by
          show (if kd Z n s t = 2 then (if te Z n s - s ≤ 4 then (if lo ≤ nv Z s (te Z n s - s) ∧ nv Z s (te Z n s - s) ≤ hi then (nx Z n (.inr (s, t, l)), nv Z s (te Z n s - s)) else (.inl (2, (s : Int)), lo)) else (.inl (1, (s : Int) + 4), lo)) else (.inl (1, (s : Int)), lo)) = _
          rw [if_pos g, if_neg g3]
        obtain ⟨M', r, H', f'⟩ := c_flx H0 (c := 1) (p := (s : Int) + 4) (by omega) (x := am_I M 3 9 + am_i 4) (fun _ => by rw [e9, am_i_add]) (d + 1)
        rw [hF]
        refine ⟨M', ?_, H', f'⟩
        rw [t106, am_ob_p (kk_3 S), e8, am_br_eq (by omega) (by omega) (by omega) (by omega), if_pos g, am_ob_p (kk_3 S), am_ob_p (kk_3 S), e10, e9, am_i_sub, am_br_le (by omega) (by omega) (by omega) (by omega), if_neg (by omega), am_ob_p (kk_3 S), am_ob_p (kk_3 S), ← e9, r, am_bV_p]
    · have hF : tkN Z n lo hi (.inr (s, t, l)) = (.inl (1, (s : Int)), lo) := by
        show (if kd Z n s t = 2 then (if te Z n s - s ≤ 4 then (if lo ≤ nv Z s (te Z n s - s) ∧ nv Z s (te Z n s - s) ≤ hi then (nx Z n (.inr (s, t, l)), nv Z s (te Z n s - s)) else (.inl (2, (s : Int)), lo)) else (.inl (1, (s : Int) + 4), lo)) else (.inl (1, (s : Int)), lo)) = _
        rw [if_neg g]
      obtain ⟨M', r, H', f'⟩ := c_fl H0 (c := 1) (by omega) (d + 1)
      rw [hF]
      refine ⟨M', ?_, H', f'⟩
      rw [t106, am_ob_p (kk_3 S), e8, am_br_eq (by omega) (by omega) (by omega) (by omega), if_neg g, am_ob_p (kk_3 S), am_ob_p (kk_3 S), r, am_bV_p]
theorem c_nmH {L : Nat} {q : am_Pq} {Z : Nat → Nat → Int} {n B : Nat} {fm : Int} {o : Nat} {M : am_M} {st : am_PS} (H : rS L q Z n B fm o M st) (d : Nat) : ∃ M', am_cl 107 (d + 1) [.ref 3] M = some (some (.int (am_i (nmH Z n st).2)), M') ∧ rS L q Z n B fm o M' (nmH Z n st).1 ∧ fr (pRd q B) M M' := by
  have H0 := H
  obtain ⟨HC, HT⟩ := H
  have S := HC.1
  match st, HT, H0 with
  | .inl e, HT, H0 =>
    obtain ⟨he, e0, e1, e8, -⟩ := HT
    obtain ⟨M', r, H', f'⟩ := c_fl H0 (c := 1) (by omega) d
    refine ⟨M', ?_, H', f'⟩
    rw [t107, am_ob_p (kk_3 S), e8, am_br_ne (by omega) (by omega) (by omega) (by omega), if_neg (by omega), am_ob_p (kk_3 S), am_ob_p (kk_3 S), r, am_bV_p]
    rfl
  | .inr (s, t, l), HT, H0 =>
    obtain ⟨hs, e0, e1, ⟨e8, e9, e10, eW⟩, -⟩ := HT
    obtain ⟨-, hq, hn, hT, hw, e6, eF, eo, hB, hz⟩ := HC
    have hkb := kd_bd Z n s t
    have hte := te_bd Z hs
    have hwb := wno_bd Z s (te Z n s)
    have hF : nmH Z n (.inr (s, t, l)) = if kd Z n s t = 1 ∧ ¬ (0 ≤ wno Z s (te Z n s) ∧ wno Z s (te Z n s) < 29) then (if te Z n s - s ≤ 6 then (.inr (s, t, l), c5 (ltn Z s (te Z n s - s))) else (.inl (1, (s : Int) + 6), 0)) else (.inl (1, (s : Int)), 0) := rfl
    rw [hF, t107, am_ob_p (kk_3 S), e8, am_br_ne (by omega) (by omega) (by omega) (by omega)]
    by_cases g : kd Z n s t = 1
    · rw [if_pos g, am_ob_p (kk_3 S), (eW g).2, am_br_lt (by omega) (by omega) (by omega) (by omega), am_ob_p (kk_3 S), am_br_ge (by omega) (by omega) (by omega) (by omega)]
      by_cases g2 : 0 ≤ wno Z s (te Z n s) ∧ wno Z s (te Z n s) < 29
      · obtain ⟨M', r, H', f'⟩ := c_fl H0 (c := 1) (by omega) d
        rw [if_neg (show ¬ (kd Z n s t = 1 ∧ ¬ (0 ≤ wno Z s (te Z n s) ∧ wno Z s (te Z n s) < 29)) from fun h => h.2 g2)]
        refine ⟨M', ?_, H', f'⟩
        rw [if_neg (by omega), if_neg (by omega), am_ob_p (kk_3 S), am_ob_p (kk_3 S), r, am_bV_p]
      · rw [if_pos (show (kd Z n s t = 1 ∧ ¬ (0 ≤ wno Z s (te Z n s) ∧ wno Z s (te Z n s) < 29)) from ⟨g, g2⟩)]
        have h35 : (if wno Z s (te Z n s) < 0 then am_ev 107 (d + 1) 35 [.ref 3] [] M else if 29 ≤ wno Z s (te Z n s) then am_ev 107 (d + 1) 35 [.ref 3] [] M else am_ob M 3 4 (am_ob M 3 4 (am_bV (am_cl 99 d [.ref 3, .int (am_i 1), .int (am_I M 3 9)] M) (fun M2 => some (some (.int (am_i 0)), M2))) none) none) = am_ev 107 (d + 1) 35 [.ref 3] [] M := by
          by_cases g3 : wno Z s (te Z n s) < 0
          · rw [if_pos g3]
          · rw [if_neg g3, if_pos (by omega)]
        rw [h35, t107_35, am_ob_p (kk_3 S), am_ob_p (kk_3 S), e10, e9, am_i_sub, am_br_le (by omega) (by omega) (by omega) (by omega)]
        by_cases g3 : te Z n s - s ≤ 6
        · rw [if_pos g3, if_pos (by omega), am_ob_p (kk_3 S), (eW g).1, am_l2i]
          refine ⟨M, ?_, H0, fr_rfl _ _⟩
          unfold lt7
          rw [if_pos (by omega)]
        · obtain ⟨M', r, H', f'⟩ := c_flx H0 (c := 1) (p := (s : Int) + 6) (by omega) (x := am_I M 3 9 + am_i 6) (fun _ => by rw [e9, am_i_add]) d
          rw [if_neg g3, if_neg (by omega), am_ob_p (kk_3 S), am_ob_p (kk_3 S), ← e9]
          exact ⟨M', by rw [r, am_bV_p], H', f'⟩
    · obtain ⟨M', r, H', f'⟩ := c_fl H0 (c := 1) (by omega) d
      rw [if_neg (show ¬ (kd Z n s t = 1 ∧ ¬ (0 ≤ wno Z s (te Z n s) ∧ wno Z s (te Z n s) < 29)) from fun h => g h.1), if_neg g, am_ob_p (kk_3 S), am_ob_p (kk_3 S)]
      exact ⟨M', by rw [r, am_bV_p], H', f'⟩
