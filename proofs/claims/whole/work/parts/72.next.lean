/-! The class's reader: the next token. -/
/-- what the class holds of the token at s -/
def tkS (M : am_M) (Z : Nat → Nat → Int) (n s : Nat) (t : Bool) : Prop := am_I M 3 8 = am_i (kd Z n s t) ∧ am_I M 3 9 = am_i (s : Int) ∧ am_I M 3 10 = am_i (te Z n s : Int) ∧ (kd Z n s t = 1 → am_L M 3 11 = am_l (c5 (lt7 Z s (te Z n s))) ∧ am_I M 3 12 = am_i (wno Z s (te Z n s)))
theorem kd_bd (Z : Nat → Nat → Int) (n s : Nat) (t : Bool) : 0 ≤ kd Z n s t ∧ kd Z n s t ≤ 4 := by
  unfold kd
  repeat' split
  all_goals omega
theorem c_next0 {L : Nat} {q : am_Pq} {Z : Nat → Nat → Int} {n : Nat} {M : am_M} (S : am_Sh L q M) (hT : ∀ k, k < 1600 → am_I M 30 k = am_i (Z 0 k)) (hz : ∀ k, 0 ≤ Z 0 k ∧ Z 0 k ≤ 255) (hw : cWw M) (hn : n ≤ 1600) (e6 : am_I M 3 6 = am_i n) {e : Nat} (he : e ≤ n) (g : Bool) (e9 : am_I M 3 9 = am_i e) (d : Nat) (v2 : Value) :
    ∃ M', am_ev 100 (d + 1) 41 [.ref 3, .int (am_i (if g = true then (e : Int) else -1)), v2] [] M = some (none, M') ∧ am_Sh L q M' ∧ fr (fun b k => b = 3 ∧ 8 ≤ k ∧ k ≤ 12) M M' ∧ tkS M' Z n (sk Z n e) (g && decide (sk Z n e = e)) := by
  -- blanks
  have k1 : ∀ m a : Nat, n - a = m → a ≤ n → ∀ M1, am_Sh L q M1 → (∀ k, k < 1600 → am_I M1 30 k = am_i (Z 0 k)) → am_I M1 3 6 = am_i n → am_I M1 3 9 = am_i a → ∀ x1, ∃ M', am_ev 100 (d + 1) 41 [.ref 3, .int x1, v2] [] M1 = am_ev 100 (d + 1) 93 [.ref 3, .int x1, v2] [] M' ∧ am_Sh L q M' ∧ fr (fun b k => b = 3 ∧ k = 9) M1 M' ∧ am_I M' 3 9 = am_i (sk Z n a : Int) := by
    intro m
    induction m with
    | zero =>
      intro a hm ha M1 S1 hT1 g6 g9 x1
      refine ⟨M1, ?_, S1, fr_rfl _ _, by rw [g9, sk_stop (by omega)]⟩
      rw [t100_41, am_ob_p (kk_3 S1), am_ob_p (kk_3 S1), g9, g6, am_br_ge (by omega) (by omega) (by omega) (by omega), if_pos (by omega)]
    | succ m ih =>
      intro a hm ha M1 S1 hT1 g6 g9 x1
      have han : a < n := by omega
      have b := hz a
      have ek := hT1 a (by omega)
      by_cases g1 : Z 0 a = 10 ∨ Z 0 a = 32
      · obtain ⟨M', r, S', f', e'⟩ := ih (a + 1) (by omega) (by omega) (am_sI M1 3 9 (am_i ((a : Int) + 1))) (S1.sI _ _ _) (fun k hk => by rw [am_I_ne1 (by decide)]; exact hT1 k hk) (by rw [am_I_ne2 (by decide)]; exact g6) (am_I_same _ _ _ _) x1
        refine ⟨M', ?_, S', fr_tr (fr_sI ⟨rfl, rfl⟩) f', by rw [sk_step han g1]; exact e'⟩
        rw [← r, t100_41]
        simp (disch := omega) only [am_ob_p (kk_3 S1), rr_3_5 S1, am_gr_p, g9, g6, am_br_ge, am_ix_p (kk_30 S1), am_i_ix, Int.toNat_natCast, ek, am_br_eq, am_br_ne, am_i_add, am_lt]
        rw [if_neg (show ¬ (n : Int) ≤ a by omega)]
        by_cases g2 : Z 0 a = 10
        · rw [if_pos g2]
        · rw [if_neg g2, if_pos (show Z 0 a = 32 by omega)]
      · refine ⟨M1, ?_, S1, fr_rfl _ _, by rw [g9, sk_here han g1]⟩
        rw [t100_41]
        simp (disch := omega) only [am_ob_p (kk_3 S1), rr_3_5 S1, am_gr_p, g9, g6, am_br_ge, am_ix_p (kk_30 S1), am_i_ix, Int.toNat_natCast, ek, am_br_eq, am_br_ne, am_i_add, am_lt]
        rw [if_neg (show ¬ (n : Int) ≤ a by omega), if_neg (fun h => g1 (Or.inl h)), if_neg (fun h => g1 (Or.inr h))]
  -- a word's bytes, a number's
  have kl : ∀ m a : Nat, n - a = m → a ≤ n → ∀ M1, am_Sh L q M1 → (∀ k, k < 1600 → am_I M1 30 k = am_i (Z 0 k)) → am_I M1 3 6 = am_i n → am_I M1 3 10 = am_i a → ∀ x1 v, ∃ M', am_ev 100 (d + 1) 162 [.ref 3, .int x1, v] [] M1 = am_bV (am_cl 101 d [.ref 3] M') (fun M1 => am_ev 100 (d + 1) 305 [.ref 3, .int x1, v] [] M1) ∧ am_Sh L q M' ∧ fr (fun b k => b = 3 ∧ k = 10) M1 M' ∧ am_I M' 3 10 = am_i (rn ltr Z n a : Int) := by
    intro m
    induction m with
    | zero =>
      intro a hm ha M1 S1 hT1 g6 g9 x1 v
      refine ⟨M1, ?_, S1, fr_rfl _ _, by rw [g9, rn_stop (by omega)]⟩
      rw [t100_162, am_ob_p (kk_3 S1), am_ob_p (kk_3 S1), g9, g6, am_br_ge (by omega) (by omega) (by omega) (by omega), if_pos (by omega), am_ob_p (kk_3 S1)]
    | succ m ih =>
      intro a hm ha M1 S1 hT1 g6 g9 x1 v
      have han : a < n := by omega
      have b := hz a
      have ek := hT1 a (by omega)
      by_cases g1 : ltr (Z 0 a) = 1
      · have g2 := ltr_1 g1
        obtain ⟨M', r, S', f', e'⟩ := ih (a + 1) (by omega) (by omega) (am_sI M1 3 10 (am_i ((a : Int) + 1))) (S1.sI _ _ _) (fun k hk => by rw [am_I_ne1 (by decide)]; exact hT1 k hk) (by rw [am_I_ne2 (by decide)]; exact g6) (am_I_same _ _ _ _) x1 v
        refine ⟨M', ?_, S', fr_tr (fr_sI ⟨rfl, rfl⟩) f', by rw [rn_step han g1]; exact e'⟩
        rw [← r, t100_162]
        simp (disch := omega) only [am_ob_p (kk_3 S1), rr_3_5 S1, am_gr_p, g9, g6, am_br_ge, am_ix_p (kk_30 S1), am_i_ix, Int.toNat_natCast, ek, am_br_lt, am_br_gt, am_i_add, am_lt]
        rw [if_neg (show ¬ (n : Int) ≤ a by omega), if_neg (show ¬ Z 0 a < 97 by omega), if_neg (show ¬ 122 < Z 0 a by omega)]
      · have g2 := ltr_0 g1
        refine ⟨M1, ?_, S1, fr_rfl _ _, by rw [g9, rn_here han g1]⟩
        rw [t100_162]
        simp (disch := omega) only [am_ob_p (kk_3 S1), rr_3_5 S1, am_gr_p, g9, g6, am_br_ge, am_ix_p (kk_30 S1), am_i_ix, Int.toNat_natCast, ek, am_br_lt, am_br_gt, am_i_add, am_lt]
        rw [if_neg (show ¬ (n : Int) ≤ a by omega)]
        by_cases g3 : Z 0 a < 97
        · rw [if_pos g3]
        · rw [if_neg g3, if_pos (show 122 < Z 0 a by omega)]
  have kn : ∀ m a : Nat, n - a = m → a ≤ n → ∀ M1, am_Sh L q M1 → (∀ k, k < 1600 → am_I M1 30 k = am_i (Z 0 k)) → am_I M1 3 6 = am_i n → am_I M1 3 10 = am_i a → ∀ x1 v, ∃ M', am_ev 100 (d + 1) 238 [.ref 3, .int x1, v] [] M1 = am_ev 100 (d + 1) 305 [.ref 3, .int x1, v] [] M' ∧ am_Sh L q M' ∧ fr (fun b k => b = 3 ∧ k = 10) M1 M' ∧ am_I M' 3 10 = am_i (rn dgt Z n a : Int) := by
    intro m
    induction m with
    | zero =>
      intro a hm ha M1 S1 hT1 g6 g9 x1 v
      refine ⟨M1, ?_, S1, fr_rfl _ _, by rw [g9, rn_stop (by omega)]⟩
      rw [t100_238, am_ob_p (kk_3 S1), am_ob_p (kk_3 S1), g9, g6, am_br_ge (by omega) (by omega) (by omega) (by omega), if_pos (by omega)]
    | succ m ih =>
      intro a hm ha M1 S1 hT1 g6 g9 x1 v
      have han : a < n := by omega
      have b := hz a
      have ek := hT1 a (by omega)
      by_cases g1 : dgt (Z 0 a) = 1
      · have g2 := dgt_1 g1
        obtain ⟨M', r, S', f', e'⟩ := ih (a + 1) (by omega) (by omega) (am_sI M1 3 10 (am_i ((a : Int) + 1))) (S1.sI _ _ _) (fun k hk => by rw [am_I_ne1 (by decide)]; exact hT1 k hk) (by rw [am_I_ne2 (by decide)]; exact g6) (am_I_same _ _ _ _) x1 v
        refine ⟨M', ?_, S', fr_tr (fr_sI ⟨rfl, rfl⟩) f', by rw [rn_step han g1]; exact e'⟩
        rw [← r, t100_238]
        simp (disch := omega) only [am_ob_p (kk_3 S1), rr_3_5 S1, am_gr_p, g9, g6, am_br_ge, am_ix_p (kk_30 S1), am_i_ix, Int.toNat_natCast, ek, am_br_lt, am_br_gt, am_i_add, am_lt]
        rw [if_neg (show ¬ (n : Int) ≤ a by omega), if_neg (show ¬ Z 0 a < 48 by omega), if_neg (show ¬ 57 < Z 0 a by omega)]
      · have g2 := dgt_0 g1
        refine ⟨M1, ?_, S1, fr_rfl _ _, by rw [g9, rn_here han g1]⟩
        rw [t100_238]
        simp (disch := omega) only [am_ob_p (kk_3 S1), rr_3_5 S1, am_gr_p, g9, g6, am_br_ge, am_ix_p (kk_30 S1), am_i_ix, Int.toNat_natCast, ek, am_br_lt, am_br_gt, am_i_add, am_lt]
        rw [if_neg (show ¬ (n : Int) ≤ a by omega)]
        by_cases g3 : Z 0 a < 48
        · rw [if_pos g3]
        · rw [if_neg g3, if_pos (show 57 < Z 0 a by omega)]
  obtain ⟨s, hs⟩ : ∃ s, s = sk Z n e := ⟨_, rfl⟩
  have hsb := sk_bd Z n e
  rw [← hs] at hsb
  have hse : s ≤ n := hsb.2 he
  obtain ⟨x1, hx1⟩ : ∃ x1 : Int, x1 = if g = true then (e : Int) else -1 := ⟨_, rfl⟩
  have hxb : -1 ≤ x1 ∧ x1 ≤ n := by rw [hx1]; split <;> omega
  -- does it touch
  have k305 : ∀ (k : Int) (M1 : am_M) (v : Value), am_Sh L q M1 → am_I M1 3 9 = am_i s → am_I M1 3 8 = am_i k → 0 ≤ k → k ≤ 3 → ∃ M', am_ev 100 (d + 1) 305 [.ref 3, .int (am_i x1), v] [] M1 = some (none, M') ∧ am_Sh L q M' ∧ fr (fun b k => b = 3 ∧ k = 8) M1 M' ∧ am_I M' 3 8 = am_i (if (g && decide (s = e)) = true ∧ (k = 1 ∨ k = 2) then 4 else k) := by
    intro k M1 v S1 g9 g8 hk0 hk3
    have hx : x1 = s ↔ (g && decide (s = e)) = true := by
      rw [hx1]
      cases g
      · simp
      · simp; omega
    by_cases c1 : x1 = s
    · by_cases c2 : k = 1 ∨ k = 2
      · refine ⟨am_sI M1 3 8 (am_i 4), ?_, S1.sI _ _ _, fr_sI ⟨rfl, rfl⟩, by rw [am_I_same, if_pos ⟨hx.mp c1, c2⟩]⟩
        rw [t100_305, am_ob_p (kk_3 S1), g9, am_br_ne (by omega) (by omega) (by omega) (by omega), if_pos c1, am_ob_p (kk_3 S1), g8, am_br_eq (by omega) (by omega) (by omega) (by omega)]
        by_cases c3 : k = 1
        · rw [if_pos c3, am_ob_p (kk_3 S1), am_lt]
        · rw [if_neg c3, am_ob_p (kk_3 S1), am_br_ne (by omega) (by omega) (by omega) (by omega), if_pos (by omega), am_ob_p (kk_3 S1), am_lt]
      · refine ⟨M1, ?_, S1, fr_rfl _ _, by rw [g8, if_neg (fun h => c2 h.2)]⟩
        rw [t100_305, am_ob_p (kk_3 S1), g9, am_br_ne (by omega) (by omega) (by omega) (by omega), if_pos c1, am_ob_p (kk_3 S1), g8, am_br_eq (by omega) (by omega) (by omega) (by omega), if_neg (by omega), am_ob_p (kk_3 S1), am_br_ne (by omega) (by omega) (by omega) (by omega), if_neg (by omega)]
    · refine ⟨M1, ?_, S1, fr_rfl _ _, by rw [g8, if_neg (fun h => c1 (hx.mpr h.1))]⟩
      rw [t100_305, am_ob_p (kk_3 S1), g9, am_br_ne (by omega) (by omega) (by omega) (by omega), if_neg c1]
  obtain ⟨M1, r1, S1, f1, g9⟩ := k1 (n - e) e rfl he M S hT e6 e9 (am_i x1)
  rw [← hs] at g9
  have S2 := S1.sI 3 10 (am_i (s : Int))
  have g9' : am_I (am_sI M1 3 10 (am_i (s : Int))) 3 9 = am_i s := by rw [am_I_ne2 (by decide)]; exact g9
  have g6' : am_I (am_sI M1 3 10 (am_i (s : Int))) 3 6 = am_i n := by rw [am_I_ne2 (by decide), (f1 3 6 (by omega)).1]; exact e6
  have hT2 : ∀ k, k < 1600 → am_I (am_sI M1 3 10 (am_i (s : Int))) 30 k = am_i (Z 0 k) := fun k hk => by rw [am_I_ne1 (by decide), (f1 30 k (by omega)).1]; exact hT k hk
  have hw2 : cWw (am_sI M1 3 10 (am_i (s : Int))) := fun k hk => by rw [am_L_sI', (f1 31 k (by omega)).2]; exact hw k hk
  have fA : fr (fun b k => b = 3 ∧ 8 ≤ k ∧ k ≤ 12) M (am_sI M1 3 10 (am_i (s : Int))) := fr_tr (fr_mono f1 (fun b k h => ⟨h.1, by omega⟩)) (fr_sI ⟨rfl, by omega⟩)
  rw [← hs, ← hx1, r1]
  by_cases c0 : s < n
  · have b := hz s
    have ek := hT2 s (by omega)
    have h0 : am_ev 100 (d + 1) 93 [.ref 3, .int (am_i x1), v2] [] M1 = am_ev 100 (d + 1) 125 [.ref 3, .int (am_i x1), v2] [.int (am_i (Z 0 s))] (am_sI M1 3 10 (am_i (s : Int))) := by
      rw [t100_93, am_ob_p (kk_3 S1), am_ob_p (kk_3 S1), g9]
      simp only [am_lt]
      rw [am_ob_p (kk_3 S2), am_ob_p (kk_3 S2), g9', g6', am_br_ge (by omega) (by omega) (by omega) (by omega), if_neg (by omega), am_ob_p (kk_3 S2), rr_3_5 S2, am_gr_p, am_ob_p (kk_3 S2), am_ix_p (kk_30 S2) (by omega) (by omega) (by omega), am_i_ix (by omega) (by omega), Int.toNat_natCast, ek]
    rw [h0, t100_125, am_ob_p (kk_3 S2), am_ob_p (kk_3 S2), g9', g6', am_br_lt (by omega) (by omega) (by omega) (by omega), if_pos (by omega), am_br_lt (by omega) (by omega) (by omega) (by omega), am_br_gt (by omega) (by omega) (by omega) (by omega)]
    by_cases c1 : ltr (Z 0 s) = 1
    · have c2 := ltr_1 c1
      have hte : te Z n s = rn ltr Z n s := by unfold te; rw [if_pos c0, if_pos c1]
      have hrb := rn_bd ltr Z n s
      rw [if_neg (by omega), if_neg (by omega), am_ob_p (kk_3 S2)]
      simp only [am_lt]
      have S3 := S2.sI 3 8 (am_i 1)
      obtain ⟨M4, r4, S4, f4, e4⟩ := kl (n - s) s rfl hse (am_sI (am_sI M1 3 10 (am_i (s : Int))) 3 8 (am_i 1)) S3 (fun k hk => by rw [am_I_ne1 (by decide)]; exact hT2 k hk) (by rw [am_I_ne2 (by decide)]; exact g6') (by rw [am_I_ne2 (by decide), am_I_same]) (am_i x1) (.int (am_i (Z 0 s)))
      obtain ⟨M5, r5, S5, f5, e5, e52⟩ := c_know S4 (fun k hk => by rw [(f4 30 k (by omega)).1, am_I_ne1 (by decide)]; exact hT2 k hk) (fun k hk => by rw [(f4 31 k (by omega)).2]; exact hw2 k hk) (by rw [(f4 3 9 (by omega)).1, am_I_ne2 (by decide)]; exact g9') e4 hrb.1 (by omega) (fun k h1 h2 => rn_in h1 h2) d
      have e58 : am_I M5 3 8 = am_i 1 := by rw [(f5 3 8 (by omega)).1, (f4 3 8 (by omega)).1, am_I_same]
      have e59 : am_I M5 3 9 = am_i s := by rw [(f5 3 9 (by omega)).1, (f4 3 9 (by omega)).1, am_I_ne2 (by decide)]; exact g9'
      obtain ⟨M6, r6, S6, f6, e6'⟩ := k305 1 M5 (.int (am_i (Z 0 s))) S5 e59 e58 (by omega) (by omega)
      refine ⟨M6, by rw [r4, r5, am_bV_p, r6], S6, fr_tr fA (fr_tr (fr_sI ⟨rfl, by omega⟩) (fr_tr (fr_mono f4 (fun b k h => ⟨h.1, by omega⟩)) (fr_tr (fr_mono f5 (fun b k h => ⟨h.1, by omega⟩)) (fr_mono f6 (fun b k h => ⟨h.1, by omega⟩))))), ?_, ?_, ?_, fun hk => ⟨?_, ?_⟩⟩
      · rw [e6']
        congr 1
        unfold kd
        rw [if_pos c0, if_pos c1]
        by_cases c3 : (g && decide (s = e)) = true
        · rw [if_pos ⟨c3, Or.inl rfl⟩, if_pos c3]
        · rw [if_neg (fun h => c3 h.1), if_neg c3]
      · rw [(f6 3 9 (by omega)).1]; exact e59
      · rw [(f6 3 10 (by omega)).1, (f5 3 10 (by omega)).1, hte]; exact e4
      · rw [(f6 3 11 (by omega)).2, hte]; exact e5
      · rw [(f6 3 12 (by omega)).1, hte]; exact e52
    · have c2 := ltr_0 c1
      have hd0 : (if Z 0 s < 97 then am_ev 100 (d + 1) 221 [.ref 3, .int (am_i x1), .int (am_i (Z 0 s))] [] (am_sI M1 3 10 (am_i (s : Int))) else if 122 < Z 0 s then am_ev 100 (d + 1) 221 [.ref 3, .int (am_i x1), .int (am_i (Z 0 s))] [] (am_sI M1 3 10 (am_i (s : Int))) else am_ob (am_sI M1 3 10 (am_i (s : Int))) 3 4 (am_lt (am_sI (am_sI M1 3 10 (am_i (s : Int))) 3 8 (am_i 1)) (fun M1 => am_ev 100 (d + 1) 162 [.ref 3, .int (am_i x1), .int (am_i (Z 0 s))] [] M1)) none) = am_ev 100 (d + 1) 221 [.ref 3, .int (am_i x1), .int (am_i (Z 0 s))] [] (am_sI M1 3 10 (am_i (s : Int))) := by
        by_cases c3 : Z 0 s < 97
        · rw [if_pos c3]
        · rw [if_neg c3, if_pos (by omega)]
      rw [hd0, t100_221, am_br_lt (by omega) (by omega) (by omega) (by omega), am_br_gt (by omega) (by omega) (by omega) (by omega)]
      by_cases c3 : dgt (Z 0 s) = 1
      · have c4 := dgt_1 c3
        have hte : te Z n s = rn dgt Z n s := by unfold te; rw [if_pos c0, if_neg c1, if_pos c3]
        rw [if_neg (by omega), if_neg (by omega), am_ob_p (kk_3 S2)]
        simp only [am_lt]
        have S3 := S2.sI 3 8 (am_i 2)
        obtain ⟨M4, r4, S4, f4, e4⟩ := kn (n - s) s rfl hse (am_sI (am_sI M1 3 10 (am_i (s : Int))) 3 8 (am_i 2)) S3 (fun k hk => by rw [am_I_ne1 (by decide)]; exact hT2 k hk) (by rw [am_I_ne2 (by decide)]; exact g6') (by rw [am_I_ne2 (by decide), am_I_same]) (am_i x1) (.int (am_i (Z 0 s)))
        have e58 : am_I M4 3 8 = am_i 2 := by rw [(f4 3 8 (by omega)).1, am_I_same]
        have e59 : am_I M4 3 9 = am_i s := by rw [(f4 3 9 (by omega)).1, am_I_ne2 (by decide)]; exact g9'
        obtain ⟨M6, r6, S6, f6, e6'⟩ := k305 2 M4 (.int (am_i (Z 0 s))) S4 e59 e58 (by omega) (by omega)
        have hkd : kd Z n s (g && decide (s = e)) = if (g && decide (s = e)) = true then 4 else 2 := by unfold kd; rw [if_pos c0, if_neg c1, if_pos c3]
        refine ⟨M6, by rw [r4, r6], S6, fr_tr fA (fr_tr (fr_sI ⟨rfl, by omega⟩) (fr_tr (fr_mono f4 (fun b k h => ⟨h.1, by omega⟩)) (fr_mono f6 (fun b k h => ⟨h.1, by omega⟩)))), ?_, ?_, ?_, fun hk => ?_⟩
        · rw [e6', hkd]
          congr 1
          by_cases c3 : (g && decide (s = e)) = true
          · rw [if_pos ⟨c3, Or.inr rfl⟩, if_pos c3]
          · rw [if_neg (fun h => c3 h.1), if_neg c3]
        · rw [(f6 3 9 (by omega)).1]; exact e59
        · rw [(f6 3 10 (by omega)).1, hte]; exact e4
        · rw [hkd] at hk
          split at hk <;> omega
      · have c4 := dgt_0 c3
        have hte : te Z n s = s + 1 := by unfold te; rw [if_pos c0, if_neg c1, if_neg c3]
        have hd1 : (if Z 0 s < 48 then am_ev 100 (d + 1) 290 [.ref 3, .int (am_i x1), .int (am_i (Z 0 s))] [] (am_sI M1 3 10 (am_i (s : Int))) else if 57 < Z 0 s then am_ev 100 (d + 1) 290 [.ref 3, .int (am_i x1), .int (am_i (Z 0 s))] [] (am_sI M1 3 10 (am_i (s : Int))) else am_ob (am_sI M1 3 10 (am_i (s : Int))) 3 4 (am_lt (am_sI (am_sI M1 3 10 (am_i (s : Int))) 3 8 (am_i 2)) (fun M1 => am_ev 100 (d + 1) 238 [.ref 3, .int (am_i x1), .int (am_i (Z 0 s))] [] M1)) none) = am_ev 100 (d + 1) 290 [.ref 3, .int (am_i x1), .int (am_i (Z 0 s))] [] (am_sI M1 3 10 (am_i (s : Int))) := by
          by_cases c3 : Z 0 s < 48
          · rw [if_pos c3]
          · rw [if_neg c3, if_pos (by omega)]
        have S3 := S2.sI 3 8 (am_i 3)
        have S4 := S3.sI 3 10 (am_i ((s : Int) + 1))
        obtain ⟨M6, r6, S6, f6, e6'⟩ := k305 3 (am_sI (am_sI (am_sI M1 3 10 (am_i (s : Int))) 3 8 (am_i 3)) 3 10 (am_i ((s : Int) + 1))) (.int (am_i (Z 0 s))) S4 (by rw [am_I_ne2 (by decide), am_I_ne2 (by decide)]; exact g9') (by rw [am_I_ne2 (by decide), am_I_same]) (by omega) (by omega)
        have hkd : kd Z n s (g && decide (s = e)) = 3 := by unfold kd; rw [if_pos c0, if_neg c1, if_neg c3]
        refine ⟨M6, ?_, S6, fr_tr fA (fr_tr (fr_sI ⟨rfl, by omega⟩) (fr_tr (fr_sI ⟨rfl, by omega⟩) (fr_mono f6 (fun b k h => ⟨h.1, by omega⟩)))), ?_, ?_, ?_, fun hk => ?_⟩
        · rw [hd1, t100_290, am_ob_p (kk_3 S2)]
          simp only [am_lt]
          rw [am_ob_p (kk_3 S3), am_ob_p (kk_3 S3), am_I_ne2 (by decide), am_I_same, am_i_add]
          exact r6
        · rw [e6', hkd, if_neg (by omega)]
        · rw [(f6 3 9 (by omega)).1, am_I_ne2 (by decide), am_I_ne2 (by decide)]; exact g9'
        · rw [(f6 3 10 (by omega)).1, am_I_same, hte]
          congr 1
        · rw [hkd] at hk
          omega
  · have hte : te Z n s = s := by unfold te; rw [if_neg c0]
    have hkd : kd Z n s (g && decide (s = e)) = 0 := by unfold kd; rw [if_neg c0]
    have S3 := S2.sI 3 8 (am_i 0)
    obtain ⟨M6, r6, S6, f6, e6'⟩ := k305 0 (am_sI (am_sI M1 3 10 (am_i (s : Int))) 3 8 (am_i 0)) (.int (am_i 0)) S3 (by rw [am_I_ne2 (by decide)]; exact g9') (am_I_same _ _ _ _) (by omega) (by omega)
    refine ⟨M6, ?_, S6, fr_tr fA (fr_tr (fr_sI ⟨rfl, by omega⟩) (fr_mono f6 (fun b k h => ⟨h.1, by omega⟩))), ?_, ?_, ?_, fun hk => ?_⟩
    · rw [t100_93, am_ob_p (kk_3 S1), am_ob_p (kk_3 S1), g9]
      simp only [am_lt]
      rw [am_ob_p (kk_3 S2), am_ob_p (kk_3 S2), g9', g6', am_br_ge (by omega) (by omega) (by omega) (by omega), if_pos (by omega), t100_125, am_ob_p (kk_3 S2), am_ob_p (kk_3 S2), g9', g6', am_br_lt (by omega) (by omega) (by omega) (by omega), if_neg (by omega), am_ob_p (kk_3 S2), am_lt]
      exact r6
    · rw [e6', hkd, if_neg (by omega)]
    · rw [(f6 3 9 (by omega)).1, am_I_ne2 (by decide)]; exact g9'
    · rw [(f6 3 10 (by omega)).1, am_I_ne2 (by decide), am_I_same, hte]
    · rw [hkd] at hk
      omega
