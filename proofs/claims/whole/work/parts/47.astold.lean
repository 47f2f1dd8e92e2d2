/-! As told. -/
/-- what each saw and which films were seen -/
def I24 (n : Nat) (Q : am_Qh) : Prop := (∀ f : Nat, Q 4 f = 0 ∨ Q 4 f = 1) ∧ (∀ f : Nat, Q 4 f = 1 ↔ ∃ p : Nat, p < n ∧ Q 2 p = f) ∧ ∀ p : Nat, p < n → -1 ≤ Q 2 p ∧ Q 2 p < 8
theorem I24_no {n : Nat} {Q Q' : am_Qh} (h : I24 n Q) (h4 : ∀ f, Q' 4 f = Q 4 f) (hn : Q' 2 n = -1) (hp : ∀ p, p < n → Q' 2 p = Q 2 p) : I24 (n + 1) Q' := by
  obtain ⟨g1, g2, g3⟩ := h
  refine ⟨fun f => by rw [h4]; exact g1 f, fun f => ?_, fun p hp2 => ?_⟩
  · rw [h4, g2]
    constructor
    · rintro ⟨p, k1, k2⟩
      exact ⟨p, by omega, by rw [hp p k1]; exact k2⟩
    · rintro ⟨p, k1, k2⟩
      by_cases g : p = n
      · subst g; omega
      · exact ⟨p, by omega, by rw [← hp p (by omega)]; exact k2⟩
  · by_cases g : p = n
    · subst g; omega
    · rw [hp p (by omega)]; exact g3 p (by omega)
theorem I24_yes {n : Nat} {Q Q' : am_Qh} (h : I24 n Q) (F : Nat) (hF : F < 8) (h4 : ∀ f, Q' 4 f = if f = F then 1 else Q 4 f) (hn : Q' 2 n = F) (hp : ∀ p, p < n → Q' 2 p = Q 2 p) : I24 (n + 1) Q' := by
  obtain ⟨g1, g2, g3⟩ := h
  refine ⟨fun f => by rw [h4]; split; exact Or.inr rfl; exact g1 f, fun f => ?_, fun p hp2 => ?_⟩
  · rw [h4]
    by_cases gf : f = F
    · subst gf
      rw [if_pos rfl]
      exact ⟨fun _ => ⟨n, by omega, hn⟩, fun _ => rfl⟩
    · rw [if_neg gf, g2]
      constructor
      · rintro ⟨p, k1, k2⟩
        exact ⟨p, by omega, by rw [hp p k1]; exact k2⟩
      · rintro ⟨p, k1, k2⟩
        by_cases g : p = n
        · subst g; omega
        · exact ⟨p, by omega, by rw [← hp p (by omega)]; exact k2⟩
  · by_cases g : p = n
    · subst g; omega
    · rw [hp p (by omega)]; exact g3 p (by omega)
theorem hP_24 {X : am_X} {G : am_Gf} (B : hB X) {n : Nat} (hn : n < nP X) {s : am_Hs} (BA : aB X s.1) (h : I24 n s.2.1) : I24 (n + 1) (hP X G n s).2.1 := by
  have hP5 := (hB_P B).2
  have hF := hB_F B
  have hs := sug_bd (G := G) B BA (show n < 5 by omega)
  unfold hP
  by_cases g1 : fnow X G s.1 n = -1
  · rw [if_pos g1]
    exact I24_no h (fun f => (uq_ne (by omega) : uq s.2.1 2 n (-1) 4 f = s.2.1 4 f)) (uq_eq _ _ _ _) (fun p hp => (uq_ne (by omega) : uq s.2.1 2 n (-1) 2 p = s.2.1 2 p))
  · rw [if_neg g1]
    by_cases g2 : X 8 0 0 ≤ s.2.1 3 0
    · rw [if_pos g2]
      refine I24_no h (fun f => ?_) ?_ (fun p hp => ?_)
      · show uq (uq s.2.1 2 n (-1)) 1 n (s.2.1 1 n + 1) 4 f = _
        rw [uq_ne (by omega), uq_ne (by omega)]
      · show uq (uq s.2.1 2 n (-1)) 1 n (s.2.1 1 n + 1) 2 n = _
        rw [uq_ne (by omega), uq_eq]
      · show uq (uq s.2.1 2 n (-1)) 1 n (s.2.1 1 n + 1) 2 p = _
        rw [uq_ne (by omega), uq_ne (by omega)]
    · rw [if_neg g2]
      have hfn : fnow X G s.1 n = sug X G s.1 n := by
        unfold fnow at g1 ⊢
        split
        · rfl
        · rename_i g; rw [if_neg g] at g1; exact absurd rfl g1
      have b1 : 0 ≤ fnow X G s.1 n := by rw [hfn] at g1 ⊢; omega
      have b2 : fnow X G s.1 n < 8 := by rw [hfn]; omega
      refine I24_yes h (fnow X G s.1 n).toNat (by omega) (fun f => ?_) ?_ (fun p hp => ?_)
      · dsimp only
        rw [uq_ne (by omega)]
        by_cases g3 : f = (fnow X G s.1 n).toNat
        · rw [if_pos g3, g3, uq_eq]
        · rw [if_neg g3, uq_ne (by omega), uq_ne (by omega), uq_ne (by omega)]
      · dsimp only
        rw [uq_ne (by omega), uq_ne (by omega), uq_ne (by omega), uq_eq]; omega
      · dsimp only
        rw [uq_ne (by omega), uq_ne (by omega), uq_ne (by omega), uq_ne (by omega)]
theorem hPs_24 {X : am_X} {G : am_Gf} (B : hB X) {s : am_Hs} (BA : aB X s.1) (h : ∀ f, s.2.1 4 f = 0) : ∀ n, n ≤ nP X → I24 n (hPs X G s n).2.1
  | 0, _ => ⟨fun f => Or.inl (h f), fun f => ⟨fun g => by have := h f; have g' : s.2.1 4 f = 1 := g; omega, fun ⟨p, hp, _⟩ => absurd hp (by omega)⟩, fun p hp => absurd hp (by omega)⟩
  | n + 1, hn => hP_24 B (by omega) (hPs_bd B BA n (by omega)) (hPs_24 B BA h n (by omega))
theorem hour_24 {X : am_X} {G : am_Gf} (B : hB X) {s : am_Hs} (BA : aB X s.1) : I24 (nP X) (hour X G s).2.1 := hPs_24 (s := (s.1, q0 s.2.1, s.2.2)) B BA (fun f => q0_4 s.2.1 f) (nP X) (Nat.le_refl _)
theorem fbit_1 : ∀ m : Fin 256, ∀ f : Fin 8, ((am_i (m.val : Int) >>> ((am_i (f.val : Int)) &&& 31)) &&& am_i 1) = am_i ((m.val / 2 ^ f.val % 2 : Nat) : Int) := by decide +kernel
theorem fbit_2 {m : Nat} (hm : m < 256) {f : Int} (h0 : 0 ≤ f) (h1 : f < 8) : ((am_i (m : Int) >>> ((am_i f) &&& 31)) &&& am_i 1) = am_i ((m / 2 ^ f.toNat % 2 : Nat) : Int) := by
  have h := fbit_1 ⟨m, hm⟩ ⟨f.toNat, by omega⟩
  dsimp only at h
  rw [show ((f.toNat : Nat) : Int) = f by omega] at h
  exact h
/-- rows told -/
def toldT (Z : Nat → Nat → Int) : Nat → Int
  | 0 => 0
  | n + 1 => if toldT Z n < Z 3 (3 * n) + 1 then Z 3 (3 * n) + 1 else toldT Z n
def rowsK (Z : Nat → Nat → Int) (Q : am_Qh) (k : Nat) : Nat → Nat → Int
  | 0, _ => 1
  | m + 1, r => if Z 3 (3 * r) = k ∧ ¬ Q 4 (Z 3 (3 * r + 1)).toNat = Z 3 (3 * r + 2) then 0 else rowsK Z Q k m (r + 1)
theorem rowsK_01 (Z : Nat → Nat → Int) (Q : am_Qh) (k : Nat) : ∀ m r, rowsK Z Q k m r = 0 ∨ rowsK Z Q k m r = 1
  | 0, _ => Or.inr rfl
  | m + 1, r => by
    unfold rowsK
    split
    · exact Or.inl rfl
    · exact rowsK_01 Z Q k m (r + 1)
theorem rowsK_congr {Z : Nat → Nat → Int} {Q Q' : am_Qh} (h : ∀ f, Q 4 f = Q' 4 f) (k : Nat) : ∀ m r, rowsK Z Q k m r = rowsK Z Q' k m r
  | 0, _ => rfl
  | m + 1, r => by
    unfold rowsK
    rw [h, rowsK_congr h k m (r + 1)]
theorem toldT_bd {X : am_X} {Z : Nat → Nat → Int} (B : zB X Z) : ∀ n : Nat, (n : Int) ≤ Z 4 0 → 0 ≤ toldT Z n ∧ toldT Z n ≤ 24
  | 0, _ => by show (0 : Int) ≤ 0 ∧ (0 : Int) ≤ 24; omega
  | n + 1, h => by
    have b := (B.2.2.2.1 n (by omega)).1
    have := toldT_bd B n (by omega)
    unfold toldT
    split <;> omega
/-- the world's hours with the pressers P -/
def hrsP (W : am_Wo) (P : Int) (k : Nat) : am_Hs := hours (wX W) (wG W) (aP (wA W) P, qz, wK W) k
def asT (W : am_Wo) (P : Int) : Nat → Nat → Int
  | 0, _ => 1
  | m + 1, k => if rowsK (wZ W) (hrsP W P (k + 1)).2.1 k (wZ W 4 0).toNat 0 = 1 then asT W P m (k + 1) else 0
theorem asT_01 (W : am_Wo) (P : Int) : ∀ m k, asT W P m k = 0 ∨ asT W P m k = 1
  | 0, _ => Or.inr rfl
  | m + 1, k => by
    unfold asT
    split
    · exact asT_01 W P m (k + 1)
    · exact Or.inl rfl
theorem c_toldHours {L : Nat} {q : am_Pq} {M : am_M} (S : am_Sh L q M) {X : am_X} {Z : Nat → Nat → Int} (HZ : cWz M Z) (BZ : zB X Z) {R : Nat} (hR : Z 4 0 = R) (d : Nat) : am_cl 49 (d + 1) [.ref 2] M = some (some (.int (am_i (toldT Z R))), M) := by
  have e9 := HZ.2.2.2.2.2.1
  have b3 := BZ.2.2.1
  have key : ∀ m r : Nat, r + m = R → am_ev 49 (d + 1) 4 [.ref 2, .int (am_i (toldT Z r)), .int (am_i r)] [] M = some (some (.int (am_i (toldT Z R))), M) := by
    intro m
    induction m with
    | zero =>
      intro r hr
      have : r = R := by omega
      subst this
      rw [t49_4, am_ob_p (kk_2 S), e9, am_br_ge (by omega) (by omega) (by omega) (by omega), if_pos (by omega)]
    | succ m ih =>
      intro r hr
      have b := toldT_bd BZ r (by omega)
      have b0 := (BZ.2.2.2.1 r (by omega)).1
      have u : (3 * (r : Int)).toNat = 3 * r := by omega
      have e := HZ.2.2.2.2.1 (3 * r) (by omega)
      rw [t49_4, am_ob_p (kk_2 S), e9, am_br_ge (by omega) (by omega) (by omega) (by omega), if_neg (by omega)]
      simp (disch := omega) only [am_ob_p (kk_2 S), rr_2_8 S, am_ix_p (kk_33 S), am_gr_p, am_i_ix, Int.toNat_zero, Int.toNat_one, Int.toNat_natCast, Int.reduceToNat, am_lt, am_i_add, am_i_sub, am_i_mul, u, e]
      rw [j_maxI (by omega) (by omega) (by omega) (by omega), am_bI_p]
      exact ih (r + 1) (by omega)
  rw [t49]
  exact key R 0 (by omega)
theorem m_lastHour {L : Nat} {q : am_Pq} {M : am_M} (S : am_Sh L q M) {X : am_X} {Z : Nat → Nat → Int} (BZ : zB X Z) {R : Nat} (hR : Z 4 0 = R) (h65 : am_I M 187 65 = am_i R) (h235 : ∀ k, k < 48 → am_I M 235 k = am_i (Z 3 k)) (d : Nat) : am_cl 219 d [.ref 187] M = some (some (.int (am_i (toldT Z R - 1))), M) := by
  have b3 := BZ.2.2.1
  have key : ∀ m r : Nat, r + m = R → am_ev 219 d 4 [.ref 187, .int (am_i (toldT Z r - 1)), .int (am_i r)] [] M = some (some (.int (am_i (toldT Z R - 1))), M) := by
    intro m
    induction m with
    | zero =>
      intro r hr
      have : r = R := by omega
      subst this
      rw [t219_4, am_ob_p (kk_187 S), h65, am_br_ge (by omega) (by omega) (by omega) (by omega), if_pos (by omega)]
    | succ m ih =>
      intro r hr
      have b := toldT_bd BZ r (by omega)
      have b0 := (BZ.2.2.2.1 r (by omega)).1
      have u : (3 * (r : Int)).toNat = 3 * r := by omega
      have e := h235 (3 * r) (by omega)
      have et : toldT Z (r + 1) = if toldT Z r < Z 3 (3 * r) + 1 then Z 3 (3 * r) + 1 else toldT Z r := rfl
      rw [t219_4, am_ob_p (kk_187 S), h65, am_br_ge (by omega) (by omega) (by omega) (by omega), if_neg (by omega)]
      simp (disch := omega) only [am_ob_p (kk_187 S), rr_187_66 S, am_ix_p (kk_235 S), am_gr_p, am_i_ix, Int.toNat_zero, Int.toNat_one, Int.toNat_natCast, Int.reduceToNat, am_lt, am_i_add, am_i_sub, am_i_mul, u, e, am_br_le]
      have := ih (r + 1) (by omega)
      rw [et] at this
      by_cases g : Z 3 (3 * r) ≤ toldT Z r - 1
      · rw [if_neg (by omega)] at this
        rw [if_pos g]; exact this
      · rw [if_pos (by omega), show Z 3 (3 * r) + 1 - 1 = Z 3 (3 * r) by omega] at this
        rw [if_neg g]; exact this
  rw [t219]
  exact key R 0 (by omega)
theorem m_isSeenNow {L : Nat} {q : am_Pq} {M : am_M} (S : am_Sh L q M) {X : am_X} (HX : mH M X) (B : hB X) {Q : am_Qh} (HQ : ∀ p, p < nP X → am_I M 231 p = am_i (Q 2 p)) (h24 : I24 (nP X) Q) {f : Int} (h0 : 0 ≤ f) (h1 : f < 8) (d : Nat) : am_cl 218 (d + 1) [.ref 187, .int (am_i f)] M = some (some (.int (am_i (Q 4 f.toNat))), M) := by
  obtain ⟨hPP, hP5⟩ := hB_P B
  obtain ⟨g1, g2, g3⟩ := h24
  have hf : ((f.toNat : Nat) : Int) = f := by omega
  have key : ∀ m p : Nat, p + m = nP X → (∀ p', p' < p → ¬ Q 2 p' = f) → am_ev 218 (d + 1) 2 [.ref 187, .int (am_i f), .int (am_i p)] [] M = some (some (.int (am_i (Q 4 f.toNat))), M) := by
    intro m
    induction m with
    | zero =>
      intro p hp hno
      have : Q 4 f.toNat = 0 := by
        rcases g1 f.toNat with h | h
        · exact h
        · obtain ⟨p', k1, k2⟩ := (g2 f.toNat).mp h
          exact absurd (k2.trans hf) (hno p' (by omega))
      rw [t218_2, am_ob_p (kk_187 S), m_personMany S HX, am_bI_p, am_br_ge (by omega) (by omega) (by omega) (by omega), if_pos (by omega), am_tr_0, this]
    | succ m ih =>
      intro p hp hno
      have b := g3 p (by omega)
      have e := HQ p (by omega)
      rw [t218_2, am_ob_p (kk_187 S), m_personMany S HX, am_bI_p, am_br_ge (by omega) (by omega) (by omega) (by omega), if_neg (by omega)]
      simp (disch := omega) only [am_ob_p (kk_187 S), rr_187_61 S, am_ix_p (kk_231 S), am_gr_p, am_i_ix, Int.toNat_zero, Int.toNat_one, Int.toNat_natCast, Int.reduceToNat, am_lt, am_i_add, am_i_sub, am_i_mul, e, am_br_ne]
      by_cases g : Q 2 p = f
      · rw [if_pos g, am_tr_1, show Q 4 f.toNat = 1 from (g2 f.toNat).mpr ⟨p, by omega, by omega⟩]
      · rw [if_neg g]
        exact ih (p + 1) (by omega) (fun p' h => by
          by_cases e2 : p' = p
          · subst e2; exact g
          · exact hno p' (by omega))
  rw [t218]
  exact key (nP X) 0 (by omega) (fun p' h => absurd h (by omega))
