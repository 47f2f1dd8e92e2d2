/-! on: the account that was read. -/
theorem rdT_v (X : am_X) (Z : Nat → Nat → Int) (p : Nat) (A : am_A) : ∀ n i q k, rdT X Z p A n i q k = if i = 2 ∧ q = p ∧ k < n then tw Z (pf X q + 2 * k) else A i q k
  | 0, i, q, k => (if_neg (by omega)).symm
  | n + 1, i, q, k => by
    show uA (rdT X Z p A n) 2 p n (tw Z (pf X p + 2 * n)) i q k = _
    by_cases g : i = 2 ∧ q = p ∧ k = n
    · obtain ⟨rfl, rfl, rfl⟩ := g
      rw [uA_eq, if_pos (by omega)]
    · rw [uA_ne g, rdT_v X Z p A n i q k]
      by_cases g2 : i = 2 ∧ q = p ∧ k < n
      · rw [if_pos g2, if_pos (by omega)]
      · rw [if_neg g2, if_neg (by omega)]
theorem rdS_v (X : am_X) (Z : Nat → Nat → Int) (p : Nat) (A : am_A) : ∀ n i q k, rdS X Z p A n i q k = if i = 3 ∧ q = p ∧ k < n then Z 0 (pf X q + 2 * nK X + k) else A i q k
  | 0, i, q, k => (if_neg (by omega)).symm
  | n + 1, i, q, k => by
    show uA (rdS X Z p A n) 3 p n (Z 0 (pf X p + 2 * nK X + n)) i q k = _
    by_cases g : i = 3 ∧ q = p ∧ k = n
    · obtain ⟨rfl, rfl, rfl⟩ := g
      rw [uA_eq, if_pos (by omega)]
    · rw [uA_ne g, rdS_v X Z p A n i q k]
      by_cases g2 : i = 3 ∧ q = p ∧ k < n
      · rw [if_pos g2, if_pos (by omega)]
      · rw [if_neg g2, if_neg (by omega)]
theorem rdQ_v (X : am_X) (Z : Nat → Nat → Int) (A : am_A) : ∀ n i q k, rdQ X Z A n i q k = if i = 2 ∧ q < n ∧ k < nK X then tw Z (pf X q + 2 * k) else if i = 3 ∧ q < n ∧ k < nF X then Z 0 (pf X q + 2 * nK X + k) else A i q k
  | 0, i, q, k => by rw [if_neg (by omega), if_neg (by omega)]; rfl
  | n + 1, i, q, k => by
    show rdS X Z n (rdT X Z n (rdQ X Z A n) (nK X)) (nF X) i q k = _
    rw [rdS_v, rdT_v, rdQ_v X Z A n i q k]
    by_cases g : i = 3 ∧ q = n ∧ k < nF X
    · rw [if_pos g, if_neg (by omega), if_pos (by omega)]
    · rw [if_neg g]
      by_cases g2 : i = 2 ∧ q = n ∧ k < nK X
      · rw [if_pos g2, if_pos (by omega)]
      · rw [if_neg g2]
        by_cases g3 : i = 2 ∧ q < n ∧ k < nK X
        · rw [if_pos g3, if_pos (by omega)]
        · rw [if_neg g3, if_neg (show ¬ (i = 2 ∧ q < n + 1 ∧ k < nK X) by omega)]
          by_cases g4 : i = 3 ∧ q < n ∧ k < nF X
          · rw [if_pos g4, if_pos (by omega)]
          · rw [if_neg g4, if_neg (by omega)]
theorem rdP_v (X : am_X) (Z : Nat → Nat → Int) (A : am_A) (hA : A 1 0 0 = 0) : ∀ n i q k, rdP X Z A n i q k = if i = 1 ∧ q = 0 ∧ k = 0 then (orV X Z n).toInt else if i = 4 ∧ q < n ∧ k = 0 then tw Z (pb X + 3 * q + 1) else A i q k
  | 0, i, q, k => by
    by_cases g : i = 1 ∧ q = 0 ∧ k = 0
    · obtain ⟨rfl, rfl, rfl⟩ := g
      rw [if_pos ⟨rfl, rfl, rfl⟩]
      show A 1 0 0 = (am_i 0).toInt
      rw [hA, am_i_toInt (by decide) (by decide)]
    · rw [if_neg g, if_neg (by omega)]; rfl
  | n + 1, i, q, k => by
    show uA (uA (rdP X Z A n) 1 0 0 (orV X Z (n + 1)).toInt) 4 n 0 (tw Z (pb X + 3 * n + 1)) i q k = _
    by_cases g : i = 4 ∧ q = n ∧ k = 0
    · obtain ⟨rfl, rfl, rfl⟩ := g
      rw [uA_eq, if_neg (by omega), if_pos (by omega)]
    · rw [uA_ne g]
      by_cases g2 : i = 1 ∧ q = 0 ∧ k = 0
      · obtain ⟨rfl, rfl, rfl⟩ := g2
        rw [uA_eq, if_pos ⟨rfl, rfl, rfl⟩]
      · rw [uA_ne g2, rdP_v X Z A hA n i q k, if_neg g2, if_neg g2]
        by_cases g3 : i = 4 ∧ q < n ∧ k = 0
        · rw [if_pos g3, if_pos (by omega)]
        · rw [if_neg g3, if_neg (by omega)]
theorem okT_1 {Z : Nat → Nat → Int} {o : Nat} {f : Int} : ∀ {n : Nat}, okT Z o n f = 1 → f = 1 ∧ ∀ k, k < n → tw Z (o + 2 * k) ≤ 999
  | 0, h => ⟨h, fun k hk => absurd hk (by omega)⟩
  | n + 1, h => by
    unfold okT at h
    split at h
    · rename_i g
      obtain ⟨g1, g2⟩ := okT_1 g.1
      refine ⟨g1, fun k hk => ?_⟩
      by_cases e : k = n
      · subst e; exact g.2
      · exact g2 k (by omega)
    · omega
theorem okS_1 {X : am_X} {Z : Nat → Nat → Int} {o : Nat} {f : Int} : ∀ {n : Nat}, okS X Z o n f = 1 → f = 1 ∧ ∀ k, k < n → Z 0 (o + k) ≤ X 2 k 0
  | 0, h => ⟨h, fun k hk => absurd hk (by omega)⟩
  | n + 1, h => by
    unfold okS at h
    split at h
    · rename_i g
      obtain ⟨g1, g2⟩ := okS_1 g.1
      refine ⟨g1, fun k hk => ?_⟩
      by_cases e : k = n
      · subst e; exact g.2
      · exact g2 k (by omega)
    · omega
theorem okQ_1 {X : am_X} {Z : Nat → Nat → Int} {f : Int} : ∀ {n : Nat}, okQ X Z n f = 1 → f = 1 ∧ ∀ q, q < n → (∀ k, k < nK X → tw Z (pf X q + 2 * k) ≤ 999) ∧ ∀ k, k < nF X → Z 0 (pf X q + 2 * nK X + k) ≤ X 2 k 0
  | 0, h => ⟨h, fun k hk => absurd hk (by omega)⟩
  | n + 1, h => by
    obtain ⟨h1, h2⟩ := okS_1 (show okS X Z (pf X n + 2 * nK X) (nF X) (okT Z (pf X n) (nK X) (okQ X Z n f)) = 1 from h)
    obtain ⟨h3, h4⟩ := okT_1 h1
    obtain ⟨h5, h6⟩ := okQ_1 h3
    refine ⟨h5, fun q hq => ?_⟩
    by_cases e : q = n
    · subst e; exact ⟨h4, h2⟩
    · exact h6 q (by omega)
theorem okP_1 {X : am_X} {Z : Nat → Nat → Int} : ∀ {n : Nat}, okP X Z n = 1 → ∀ k, k < n → Z 0 (pb X + 3 * k) ≤ 1 ∧ tw Z (pb X + 3 * k + 1) ≤ 9999
  | 0, _ => fun k hk => absurd hk (by omega)
  | n + 1, h => by
    unfold okP at h
    split at h
    · rename_i g
      intro k hk
      by_cases e : k = n
      · subst e; exact g.2
      · exact okP_1 g.1 k (by omega)
    · omega
/-- the pressers read -/
def bitsN (X : am_X) (Z : Nat → Nat → Int) : Nat → Int
  | 0 => 0
  | n + 1 => if Z 0 (pb X + 3 * n) = 1 then bon (bitsN X Z n) n else bitsN X Z n
theorem bon_f : ∀ P : Fin 32, ∀ n : Fin 5, P.val < 2 ^ n.val → (0 ≤ bon P.val n.val ∧ bon P.val n.val < ((2 ^ (n.val + 1) : Nat) : Int)) ∧ bon P.val n.val / ((2 ^ n.val : Nat) : Int) % 2 = 1 ∧ (∀ r : Fin 5, r < n → bon P.val n.val / ((2 ^ r.val : Nat) : Int) % 2 = (P.val : Int) / ((2 ^ r.val : Nat) : Int) % 2) ∧ (P.val : Int) / ((2 ^ n.val : Nat) : Int) % 2 = 0 := by decide +kernel
theorem shl_zero : ∀ n : Fin 5, am_i 0 <<< (am_i (n.val : Int) &&& 31) = am_i 0 := by decide +kernel
theorem or_zero (x : Int32) : x ||| am_i 0 = x := by
  rw [← Int32.toBitVec_inj, Int32.toBitVec_or]
  show x.toBitVec ||| 0#32 = x.toBitVec
  exact BitVec.or_zero
theorem bitsN_f {X : am_X} {Z : Nat → Nat → Int} (BZ : zB X Z) : ∀ n, n ≤ 5 → okP X Z n = 1 → (0 ≤ bitsN X Z n ∧ bitsN X Z n < ((2 ^ n : Nat) : Int)) ∧ orV X Z n = am_i (bitsN X Z n) ∧ ∀ p, p < n → bitsN X Z n / ((2 ^ p : Nat) : Int) % 2 = Z 0 (pb X + 3 * p)
  | 0, _, _ => ⟨⟨Int.le_refl _, by show (0 : Int) < ((2 ^ 0 : Nat) : Int); decide⟩, rfl, fun p hp => absurd hp (by omega)⟩
  | n + 1, hn, h => by
    have hk := okP_1 h n (by omega)
    have b0 := BZ.1 (pb X + 3 * n)
    have hprev : okP X Z n = 1 := by
      unfold okP at h
      split at h
      · rename_i g; exact g.1
      · omega
    obtain ⟨⟨i1, i2⟩, i3, i4⟩ := bitsN_f BZ n (by omega) hprev
    have h32 : 2 ^ n ≤ 2 ^ 4 := Nat.pow_le_pow_right (by decide) (by omega)
    have e : (((bitsN X Z n).toNat : Nat) : Int) = bitsN X Z n := by omega
    obtain ⟨k1, k2, k3, k4⟩ := bon_f ⟨(bitsN X Z n).toNat, by omega⟩ ⟨n, by omega⟩ (by show (bitsN X Z n).toNat < 2 ^ n; omega)
    dsimp only at k1 k2 k3 k4
    rw [e] at k1 k2 k4
    have hp2 : 2 ^ (n + 1) = 2 * 2 ^ n := by rw [Nat.pow_succ]; omega
    have eo : orV X Z (n + 1) = orV X Z n ||| (am_i (Z 0 (pb X + 3 * n)) <<< (am_i (n : Int) &&& 31)) := rfl
    have eb : bitsN X Z (n + 1) = if Z 0 (pb X + 3 * n) = 1 then bon (bitsN X Z n) n else bitsN X Z n := rfl
    by_cases g : Z 0 (pb X + 3 * n) = 1
    · rw [if_pos g] at eb
      have hb := (bit_1 ⟨(bitsN X Z n).toNat, by omega⟩ ⟨n, by omega⟩).1
      dsimp only at hb
      rw [e] at hb
      refine ⟨by rw [eb]; exact k1, by rw [eo, eb, i3, g]; exact hb, fun p hp => ?_⟩
      rw [eb]
      by_cases gp : p = n
      · subst gp; rw [k2, g]
      · have := k3 ⟨p, by omega⟩ (by show p < n; omega)
        dsimp only at this
        rw [e] at this
        rw [this]; exact i4 p (by omega)
    · rw [if_neg g] at eb
      have hz : Z 0 (pb X + 3 * n) = 0 := by omega
      refine ⟨by rw [eb, hp2]; omega, by rw [eo, eb, i3, hz, shl_zero ⟨n, by omega⟩, or_zero], fun p hp => ?_⟩
      rw [eb]
      by_cases gp : p = n
      · subst gp; rw [k4, hz]
      · exact i4 p (by omega)
/-- the account read -/
def nA (X : am_X) (Z : Nat → Nat → Int) : am_A := rdP X Z (rdQ X Z (rd0 Z) (nP X + 1)) (nP X)
theorem rdQ_100 (X : am_X) (Z : Nat → Nat → Int) (n : Nat) : rdQ X Z (rd0 Z) n 1 0 0 = 0 := by
  rw [rdQ_v, if_neg (by omega), if_neg (by omega)]
  exact uA_ne (by omega)
theorem nA_v {X : am_X} {Z : Nat → Nat → Int} (BZ : zB X Z) (hP5 : nP X ≤ 5) (h2 : okP X Z (nP X) = 1) (i q k : Nat) : nA X Z i q k = if i = 1 ∧ q = 0 ∧ k = 0 then bitsN X Z (nP X) else if i = 4 ∧ q < nP X ∧ k = 0 then tw Z (pb X + 3 * q + 1) else if i = 2 ∧ q < nP X + 1 ∧ k < nK X then tw Z (pf X q + 2 * k) else if i = 3 ∧ q < nP X + 1 ∧ k < nF X then Z 0 (pf X q + 2 * nK X + k) else rd0 Z i q k := by
  unfold nA
  obtain ⟨⟨b1, b2⟩, b3, -⟩ := bitsN_f BZ (nP X) hP5 h2
  have h32 : 2 ^ nP X ≤ 2 ^ 5 := Nat.pow_le_pow_right (by decide) hP5
  rw [rdP_v X Z _ (rdQ_100 X Z _), rdQ_v, b3, am_i_toInt (by omega) (by omega)]
theorem nA_B {X : am_X} {Z : Nat → Nat → Int} (B : hB X) (BZ : zB X Z) (h1 : okQ X Z (nP X + 1) (ok0 Z) = 1) (h2 : okP X Z (nP X) = 1) : aB X (nA X Z) := by
  have hP5 := (hB_P B).2
  have hv := nA_v BZ hP5 h2
  obtain ⟨g1, g2⟩ := okQ_1 h1
  have g3 := okP_1 h2
  obtain ⟨c1, -, -⟩ := bitsN_f BZ (nP X) hP5 h2
  have g0 : tw Z 0 ≤ 999 ∧ Z 0 2 < 24 := by
    unfold ok0 at g1
    split at g1
    · assumption
    · omega
  have bw := tw_bd BZ 0
  have b2 := BZ.1 2
  have r0 : ∀ i q k, ¬ (i = 0 ∧ q = 0 ∧ k = 0) → rd0 Z i q k = 0 := fun i q k h => uA_ne h
  refine ⟨?_, ?_, fun q hq k hk => ?_, fun q hq f hf => ⟨?_, fun hfF => ?_⟩, fun p hp => ?_, fun q hq k hk hz => ?_, fun q hq f hf hz => ?_, fun p hp hz => ?_⟩
  · rw [hv, if_neg (by omega), if_neg (by omega), if_neg (by omega), if_neg (by omega)]
    unfold rd0
    rw [uA_eq, if_pos g1]
    omega
  · rw [hv, if_pos ⟨rfl, rfl, rfl⟩]; exact c1
  · rw [hv, if_neg (by omega), if_neg (by omega)]
    by_cases e : q < nP X + 1 ∧ k < nK X
    · rw [if_pos ⟨rfl, e.1, e.2⟩]
      exact ⟨(tw_bd BZ _).1, (g2 q e.1).1 k e.2⟩
    · rw [if_neg (by omega), if_neg (by omega), r0 _ _ _ (by omega)]; omega
  · rw [hv, if_neg (by omega), if_neg (by omega), if_neg (by omega)]
    split
    · exact (BZ.1 _).1
    · rw [r0 _ _ _ (by omega)]; omega
  · rw [hv, if_neg (by omega), if_neg (by omega), if_neg (by omega)]
    by_cases e : q < nP X + 1
    · rw [if_pos ⟨rfl, e, hfF⟩]
      exact (g2 q e).2 f hfF
    · rw [if_neg (by omega), r0 _ _ _ (by omega)]
      exact Int.le_trans (by decide) (hB_pt B hfF).1
  · rw [hv, if_neg (by omega)]
    by_cases e : p < nP X
    · rw [if_pos ⟨rfl, e, rfl⟩]
      exact ⟨(tw_bd BZ _).1, (g3 p e).2⟩
    · rw [if_neg (by omega), if_neg (by omega), if_neg (by omega), r0 _ _ _ (by omega)]; omega
  · rw [hv, if_neg (by omega), if_neg (by omega), if_neg (by omega), if_neg (by omega), r0 _ _ _ (by omega)]
  · rw [hv, if_neg (by omega), if_neg (by omega), if_neg (by omega), if_neg (by omega), r0 _ _ _ (by omega)]
  · rw [hv, if_neg (by omega), if_neg (by omega), if_neg (by omega), if_neg (by omega), r0 _ _ _ (by omega)]
