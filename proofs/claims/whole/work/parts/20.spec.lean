/-! What a house and an account are, apart from any machine; what is reckoned of them. -/
/-- a house: 0 how many of a sort, 2 parts, 3 weights, 4 first hours, 5 last hours, 6 likes, 7 who presses, 8 screens, 9 price, 10 bother, 11 strange -/
abbrev am_X : Type := Nat → Nat → Nat → Int
/-- an account: 0 time, 1 who presses, 2 tastes, 3 parts seen, 4 hours seen -/
abbrev am_A : Type := Nat → Nat → Nat → Int
/-- formulas: 0 learns, 1 fades, 2 may -/
abbrev am_Gf : Type := Nat → Option (List Int)
def sm (f : Nat → Int) : Nat → Int
  | 0 => 0
  | n + 1 => sm f n + f n
theorem sm_bd {f : Nat → Int} {n : Nat} {c : Int} (h : ∀ k, k < n → 0 ≤ f k ∧ f k ≤ c) : 0 ≤ sm f n ∧ sm f n ≤ n * c := by
  induction n with
  | zero => simp [sm]
  | succ n ih =>
    have h1 := ih (fun k hk => h k (by omega))
    have h2 := h n (by omega)
    show 0 ≤ sm f n + f n ∧ sm f n + f n ≤ ((n + 1 : Nat) : Int) * c
    have h3 : ((n + 1 : Nat) : Int) * c = n * c + c := by rw [Int.natCast_add, Int.add_mul]; simp
    rw [h3]
    omega
theorem sm_congr {f g : Nat → Int} {n : Nat} (h : ∀ k, k < n → f k = g k) : sm f n = sm g n := by
  induction n with
  | zero => rfl
  | succ n ih =>
    show sm f n + f n = sm g n + g n
    rw [ih (fun k hk => h k (by omega)), h n (by omega)]
def nK (X : am_X) : Nat := (X 0 0 0).toNat
def nF (X : am_X) : Nat := (X 0 1 0).toNat
def nP (X : am_X) : Nat := (X 0 2 0).toNat
/-- the bounds of a house -/
def hB (X : am_X) : Prop := (0 ≤ X 0 0 0 ∧ X 0 0 0 ≤ 6) ∧ (0 ≤ X 0 1 0 ∧ X 0 1 0 ≤ 8) ∧ (0 ≤ X 0 2 0 ∧ X 0 2 0 ≤ 5) ∧ (∀ f, f < nF X → 1 ≤ X 2 f 0 ∧ X 2 f 0 ≤ 9) ∧ (∀ f, f < nF X → ∀ k, k < 6 → 0 ≤ X 3 f k ∧ X 3 f k ≤ 9) ∧
  (∀ p, p < nP X → 0 ≤ X 4 p 0 ∧ X 4 p 0 ≤ 23) ∧ (∀ p, p < nP X → 0 ≤ X 5 p 0 ∧ X 5 p 0 ≤ 23) ∧ (∀ p, p < nP X → ∀ k, k < 6 → 0 ≤ X 6 p k ∧ X 6 p k ≤ 9) ∧ (0 ≤ X 7 0 0 ∧ X 7 0 0 < ((2 ^ nP X : Nat) : Int)) ∧ (1 ≤ X 8 0 0 ∧ X 8 0 0 ≤ 5) ∧ (0 ≤ X 9 0 0 ∧ X 9 0 0 ≤ 999) ∧ (0 ≤ X 10 0 0 ∧ X 10 0 0 ≤ 99) ∧ (0 ≤ X 11 0 0 ∧ X 11 0 0 ≤ 100) ∧ (∀ f, f < nF X → ∀ k, nK X ≤ k → k < 6 → X 3 f k = 0)
theorem hB_K {X : am_X} (B : hB X) : ((nK X : Nat) : Int) = X 0 0 0 ∧ nK X ≤ 6 := by have := B.1; unfold nK; omega
theorem hB_F {X : am_X} (B : hB X) : ((nF X : Nat) : Int) = X 0 1 0 ∧ nF X ≤ 8 := by have := B.2.1; unfold nF; omega
theorem hB_P {X : am_X} (B : hB X) : ((nP X : Nat) : Int) = X 0 2 0 ∧ nP X ≤ 5 := by have := B.2.2.1; unfold nP; omega
theorem hB_pt {X : am_X} (B : hB X) {f : Nat} (hf : f < nF X) : 1 ≤ X 2 f 0 ∧ X 2 f 0 ≤ 9 := B.2.2.2.1 f hf
theorem hB_w {X : am_X} (B : hB X) {f k : Nat} (hf : f < nF X) (hk : k < 6) : 0 ≤ X 3 f k ∧ X 3 f k ≤ 9 := B.2.2.2.2.1 f hf k hk
theorem hB_h4 {X : am_X} (B : hB X) {p : Nat} (hp : p < nP X) : 0 ≤ X 4 p 0 ∧ X 4 p 0 ≤ 23 := B.2.2.2.2.2.1 p hp
theorem hB_h5 {X : am_X} (B : hB X) {p : Nat} (hp : p < nP X) : 0 ≤ X 5 p 0 ∧ X 5 p 0 ≤ 23 := B.2.2.2.2.2.2.1 p hp
theorem hB_l {X : am_X} (B : hB X) {p k : Nat} (hp : p < nP X) (hk : k < 6) : 0 ≤ X 6 p k ∧ X 6 p k ≤ 9 := B.2.2.2.2.2.2.2.1 p hp k hk
theorem hB_pr {X : am_X} (B : hB X) : 0 ≤ X 7 0 0 ∧ X 7 0 0 < ((2 ^ nP X : Nat) : Int) := B.2.2.2.2.2.2.2.2.1
theorem hB_sc {X : am_X} (B : hB X) : 1 ≤ X 8 0 0 ∧ X 8 0 0 ≤ 5 := B.2.2.2.2.2.2.2.2.2.1
theorem hB_pc {X : am_X} (B : hB X) : 0 ≤ X 9 0 0 ∧ X 9 0 0 ≤ 999 := B.2.2.2.2.2.2.2.2.2.2.1
theorem hB_bo {X : am_X} (B : hB X) : 0 ≤ X 10 0 0 ∧ X 10 0 0 ≤ 99 := B.2.2.2.2.2.2.2.2.2.2.2.1
theorem hB_st {X : am_X} (B : hB X) : 0 ≤ X 11 0 0 ∧ X 11 0 0 ≤ 100 := B.2.2.2.2.2.2.2.2.2.2.2.2.1
theorem hB_wz {X : am_X} (B : hB X) {f k : Nat} (hf : f < nF X) (hk : nK X ≤ k) (hk6 : k < 6) : X 3 f k = 0 := B.2.2.2.2.2.2.2.2.2.2.2.2.2 f hf k hk hk6
def worth (X : am_X) (p f : Nat) : Int := sm (fun k => X 3 f k * X 6 p k) (nK X)
def score (X : am_X) (A : am_A) (q f : Nat) : Int := 1 + sm (fun k => X 3 f k * A 2 q k) (nK X)
/-- the class's house at h holds X -/
def cH (M : am_M) (h : Nat) (X : am_X) : Prop := (∀ k, k < 3 → am_I M (h + 1) k = am_i (X 0 k 0)) ∧ (∀ f, f < nF X → am_I M (h + 6) f = am_i (X 2 f 0)) ∧ (∀ f, f < nF X → ∀ k, k < 6 → am_I M (h + 8 + f) k = am_i (X 3 f k)) ∧ (∀ p, p < nP X → am_I M (h + 16) p = am_i (X 4 p 0)) ∧ (∀ p, p < nP X → am_I M (h + 17) p = am_i (X 5 p 0)) ∧ (∀ p, p < nP X → ∀ k, k < 6 → am_I M (h + 19 + p) k = am_i (X 6 p k)) ∧ (∀ j, j < 5 → am_I M h (7 + j) = am_i (X (7 + j) 0 0))
/-- the reference's house holds X -/
def mH (M : am_M) (X : am_X) : Prop := (∀ k, k < 3 → am_I M 219 (3 + k) = am_i (X 0 k 0)) ∧ (∀ f, f < nF X → am_I M 221 (8 + f) = am_i (X 2 f 0)) ∧ (∀ f, f < nF X → ∀ k, k < 6 → am_I M 222 (48 + 6 * f + k) = am_i (X 3 f k)) ∧ (∀ p, p < nP X → am_I M 223 (10 + 2 * p) = am_i (X 4 p 0)) ∧ (∀ p, p < nP X → am_I M 223 (11 + 2 * p) = am_i (X 5 p 0)) ∧ (∀ p, p < nP X → ∀ k, k < 6 → am_I M 224 (30 + 6 * p + k) = am_i (X 6 p k)) ∧ (∀ j, j < 4 → am_I M 225 (4 + j) = am_i (X (8 + j) 0 0))
theorem mul9 {a b : Int} (h1 : 0 ≤ a) (h2 : a ≤ 9) (h3 : 0 ≤ b) (c : Int) (h4 : b ≤ c) : 0 ≤ a * b ∧ a * b ≤ 9 * c := by
  refine ⟨Int.mul_nonneg h1 h3, ?_⟩
  calc a * b ≤ 9 * b := Int.mul_le_mul_of_nonneg_right h2 h3
    _ ≤ 9 * c := Int.mul_le_mul_of_nonneg_left h4 (by decide)
theorem worth_bd {X : am_X} (B : hB X) {p f : Nat} (hp : p < nP X) (hf : f < nF X) : 0 ≤ worth X p f ∧ worth X p f ≤ 486 := by
  have hk := (hB_K B).2
  have h := sm_bd (f := fun k => X 3 f k * X 6 p k) (n := nK X) (c := 81) (fun k hk2 => by
    have h1 := hB_w B hf (k := k) (by omega)
    have h2 := hB_l B hp (k := k) (by omega)
    exact mul9 h1.1 h1.2 h2.1 9 h2.2)
  have h3 : (nK X : Int) * 81 ≤ 486 := by omega
  exact ⟨h.1, Int.le_trans h.2 h3⟩
/-- does p press -/
def prs (A : am_A) (p : Nat) : Int := A 1 0 0 / ((2 ^ p : Nat) : Int) % 2
/-- by which profile p goes -/
def prof (A : am_A) (p : Nat) : Nat := if prs A p = 1 then p + 1 else 0
/-- the bounds of an account in a house -/
def aB (X : am_X) (A : am_A) : Prop := (0 ≤ A 0 0 0 ∧ A 0 0 0 ≤ 23999) ∧ (0 ≤ A 1 0 0 ∧ A 1 0 0 < ((2 ^ nP X : Nat) : Int)) ∧ (∀ q, q < 6 → ∀ k, k < 6 → 0 ≤ A 2 q k ∧ A 2 q k ≤ 999) ∧ (∀ q, q < 6 → ∀ f, f < 8 → 0 ≤ A 3 q f ∧ (f < nF X → A 3 q f ≤ X 2 f 0)) ∧ (∀ p, p < 5 → 0 ≤ A 4 p 0 ∧ A 4 p 0 ≤ 9999) ∧
  (∀ q, q < 6 → ∀ k, k < 6 → (nP X < q ∨ nK X ≤ k) → A 2 q k = 0) ∧ (∀ q, q < 6 → ∀ f, f < 8 → (nP X < q ∨ nF X ≤ f) → A 3 q f = 0) ∧ (∀ p, p < 5 → nP X ≤ p → A 4 p 0 = 0)
theorem aB_t {X : am_X} {A : am_A} (B : aB X A) : 0 ≤ A 0 0 0 ∧ A 0 0 0 ≤ 23999 := B.1
theorem aB_p {X : am_X} {A : am_A} (B : aB X A) : 0 ≤ A 1 0 0 ∧ A 1 0 0 < ((2 ^ nP X : Nat) : Int) := B.2.1
theorem aB_p5 {X : am_X} {A : am_A} (BX : hB X) (B : aB X A) : 0 ≤ A 1 0 0 ∧ A 1 0 0 < 32 := by
  have h := aB_p B
  have h5 := (hB_P BX).2
  have : 2 ^ nP X ≤ 2 ^ 5 := Nat.pow_le_pow_right (by decide) h5
  omega
theorem aB_ta {X : am_X} {A : am_A} (B : aB X A) {q k : Nat} (hq : q < 6) (hk : k < 6) : 0 ≤ A 2 q k ∧ A 2 q k ≤ 999 := B.2.2.1 q hq k hk
theorem aB_se {X : am_X} {A : am_A} (B : aB X A) {q f : Nat} (hq : q < 6) (hf : f < 8) : 0 ≤ A 3 q f ∧ (f < nF X → A 3 q f ≤ X 2 f 0) := B.2.2.2.1 q hq f hf
theorem aB_se9 {X : am_X} {A : am_A} (BX : hB X) (B : aB X A) {q f : Nat} (hq : q < 6) (hf : f < 8) : 0 ≤ A 3 q f ∧ A 3 q f ≤ 9 := by
  have h := aB_se B hq hf
  by_cases g : f < nF X
  · have := h.2 g
    have := hB_pt BX g
    omega
  · have := B.2.2.2.2.2.2.1 q hq f hf (Or.inr (by omega))
    omega
theorem aB_sa {X : am_X} {A : am_A} (B : aB X A) {p : Nat} (hp : p < 5) : 0 ≤ A 4 p 0 ∧ A 4 p 0 ≤ 9999 := B.2.2.2.2.1 p hp
def cA (M : am_M) (a : Nat) (A : am_A) : Prop := am_I M a 0 = am_i (A 0 0 0) ∧ am_I M a 1 = am_i (A 1 0 0) ∧ (∀ q, q < 6 → ∀ k, k < 6 → am_I M (a + 1) (6 * q + k) = am_i (A 2 q k)) ∧ (∀ q, q < 6 → ∀ f, f < 8 → am_I M (a + 2) (8 * q + f) = am_i (A 3 q f)) ∧ (∀ p, p < 5 → am_I M (a + 3) p = am_i (A 4 p 0))
/-- an account in a row of the reference at b, from o on -/
def mAo (M : am_M) (b o : Nat) (A : am_A) : Prop := am_I M b o = am_i (A 0 0 0 / 24) ∧ am_I M b (o + 1) = am_i (A 0 0 0 % 24) ∧ (∀ q, q < 6 → ∀ k, k < 6 → am_I M b (o + (2 + 14 * q + k)) = am_i (A 2 q k)) ∧ (∀ q, q < 6 → ∀ f, f < 8 → am_I M b (o + (2 + 14 * q + 6 + f)) = am_i (A 3 q f)) ∧ (∀ p, p < 5 → am_I M b (o + (86 + 2 * p)) = am_i (prs A p)) ∧ (∀ p, p < 5 → am_I M b (o + (87 + 2 * p)) = am_i (A 4 p 0))
def mA (M : am_M) (A : am_A) : Prop := am_I M 229 0 = am_i (A 0 0 0 / 24) ∧ am_I M 229 1 = am_i (A 0 0 0 % 24) ∧ (∀ q, q < 6 → ∀ k, k < 6 → am_I M 229 (2 + 14 * q + k) = am_i (A 2 q k)) ∧ (∀ q, q < 6 → ∀ f, f < 8 → am_I M 229 (2 + 14 * q + 6 + f) = am_i (A 3 q f)) ∧ (∀ p, p < 5 → am_I M 229 (86 + 2 * p) = am_i (prs A p)) ∧ (∀ p, p < 5 → am_I M 229 (87 + 2 * p) = am_i (A 4 p 0))
theorem prs_01 (A : am_A) (p : Nat) : prs A p = 0 ∨ prs A p = 1 := by unfold prs; omega
theorem prof_lt (A : am_A) {p : Nat} (hp : p < 5) : prof A p < 6 := by unfold prof; split <;> omega
theorem prof_le {X : am_X} {A : am_A} {p : Nat} (hp : p < nP X) : prof A p ≤ nP X := by unfold prof; split <;> omega
theorem score_bd {X : am_X} {A : am_A} (B : hB X) (BA : aB X A) {q f : Nat} (hq : q < 6) (hf : f < nF X) : 1 ≤ score X A q f ∧ score X A q f ≤ 53947 := by
  have hk := (hB_K B).2
  have h := sm_bd (f := fun k => X 3 f k * A 2 q k) (n := nK X) (c := 8991) (fun k hk2 => by
    have h1 := hB_w B hf (k := k) (by omega)
    have h2 := aB_ta BA hq (k := k) (by omega)
    exact mul9 h1.1 h1.2 h2.1 999 h2.2)
  have h3 : (nK X : Int) * 8991 ≤ 53946 := by omega
  unfold score
  exact ⟨by omega, by omega⟩
/-! What a walk leaves as it was. -/
/-- all but where P holds is as it was -/
def fr (P : Nat → Nat → Prop) (M M' : am_M) : Prop := ∀ b k, ¬ P b k → am_I M' b k = am_I M b k ∧ am_L M' b k = am_L M b k
theorem fr_rfl (P : Nat → Nat → Prop) (M : am_M) : fr P M M := fun _ _ _ => ⟨rfl, rfl⟩
theorem fr_tr {P : Nat → Nat → Prop} {M M1 M2 : am_M} (h : fr P M M1) (h' : fr P M1 M2) : fr P M M2 := fun b k hp => ⟨(h' b k hp).1.trans (h b k hp).1, (h' b k hp).2.trans (h b k hp).2⟩
theorem fr_mono {P P' : Nat → Nat → Prop} {M M1 : am_M} (h : fr P M M1) (hp : ∀ b k, P b k → P' b k) : fr P' M M1 := fun b k h2 => h b k (fun h3 => h2 (hp b k h3))
theorem fr_sI {P : Nat → Nat → Prop} {M : am_M} {a j : Nat} {v : Int32} (hp : P a j) : fr P M (am_sI M a j v) := by
  intro b k h2
  refine ⟨?_, rfl⟩
  show (if b = a ∧ k = j then v else am_I M b k) = am_I M b k
  rw [if_neg]
  rintro ⟨rfl, rfl⟩
  exact h2 hp
theorem fr_sL {P : Nat → Nat → Prop} {M : am_M} {a j : Nat} {v : Int64} (hp : P a j) : fr P M (am_sL M a j v) := by
  intro b k h2
  refine ⟨rfl, ?_⟩
  show (if b = a ∧ k = j then v else am_L M b k) = am_L M b k
  rw [if_neg]
  rintro ⟨rfl, rfl⟩
  exact h2 hp
theorem fr_sR {P : Nat → Nat → Prop} {M : am_M} {a j v : Nat} : fr P M (am_sR M a j v) := fun _ _ _ => ⟨rfl, rfl⟩
theorem am_I_same (M : am_M) (a j : Nat) (v : Int32) : am_I (am_sI M a j v) a j = v := if_pos ⟨rfl, rfl⟩
theorem am_I_ne1 {M : am_M} {a j b k : Nat} {v : Int32} (h : b ≠ a) : am_I (am_sI M a j v) b k = am_I M b k := if_neg (fun g => h g.1)
theorem am_I_ne2 {M : am_M} {a j b k : Nat} {v : Int32} (h : k ≠ j) : am_I (am_sI M a j v) b k = am_I M b k := if_neg (fun g => h g.2)
theorem am_L_same (M : am_M) (a j : Nat) (v : Int64) : am_L (am_sL M a j v) a j = v := if_pos ⟨rfl, rfl⟩
theorem am_L_ne1 {M : am_M} {a j b k : Nat} {v : Int64} (h : b ≠ a) : am_L (am_sL M a j v) b k = am_L M b k := if_neg (fun g => h g.1)
theorem am_L_ne2 {M : am_M} {a j b k : Nat} {v : Int64} (h : k ≠ j) : am_L (am_sL M a j v) b k = am_L M b k := if_neg (fun g => h g.2)
theorem am_L_sI' (M : am_M) (a j : Nat) (v : Int32) (b k : Nat) : am_L (am_sI M a j v) b k = am_L M b k := rfl
theorem am_I_sL' (M : am_M) (a j : Nat) (v : Int64) (b k : Nat) : am_I (am_sL M a j v) b k = am_I M b k := rfl
theorem am_K_sI' (M : am_M) (a j : Nat) (v : Int32) (b : Nat) : am_K (am_sI M a j v) b = am_K M b := rfl
theorem am_R_sI' (M : am_M) (a j : Nat) (v : Int32) (b k : Nat) : am_R (am_sI M a j v) b k = am_R M b k := rfl
theorem am_K_sL' (M : am_M) (a j : Nat) (v : Int64) (b : Nat) : am_K (am_sL M a j v) b = am_K M b := rfl
theorem am_R_sL' (M : am_M) (a j : Nat) (v : Int64) (b k : Nat) : am_R (am_sL M a j v) b k = am_R M b k := rfl
theorem cH_mv {M M' : am_M} {h : Nat} {X : am_X} (H : cH M h X) (B : hB X) (e : ∀ b k, h ≤ b → b < h + 24 → am_I M' b k = am_I M b k) : cH M' h X := by
  have hF := (hB_F B).2
  have hP := (hB_P B).2
  obtain ⟨h1, h2, h3, h4, h5, h6, h7⟩ := H
  exact ⟨fun k hk => (e _ _ (by omega) (by omega)).trans (h1 k hk), fun k hk => (e _ _ (by omega) (by omega)).trans (h2 k hk), fun f hf k hk => (e _ _ (by omega) (by omega)).trans (h3 f hf k hk), fun k hk => (e _ _ (by omega) (by omega)).trans (h4 k hk), fun k hk => (e _ _ (by omega) (by omega)).trans (h5 k hk), fun f hf k hk => (e _ _ (by omega) (by omega)).trans (h6 f hf k hk), fun k hk => (e _ _ (by omega) (by omega)).trans (h7 k hk)⟩
theorem cA_mv {M M' : am_M} {a : Nat} {A : am_A} (H : cA M a A) (e : ∀ b k, a ≤ b → b < a + 4 → (b = a → k < 2) → am_I M' b k = am_I M b k) : cA M' a A := by
  obtain ⟨h1, h2, h3, h4, h5⟩ := H
  exact ⟨(e _ _ (by omega) (by omega) (by omega)).trans h1, (e _ _ (by omega) (by omega) (by omega)).trans h2, fun q hq k hk => (e _ _ (by omega) (by omega) (by omega)).trans (h3 q hq k hk), fun q hq k hk => (e _ _ (by omega) (by omega) (by omega)).trans (h4 q hq k hk), fun p hp => (e _ _ (by omega) (by omega) (by omega)).trans (h5 p hp)⟩
theorem mH_mv {M M' : am_M} {X : am_X} (H : mH M X) (B : hB X) (e : ∀ b k, 219 ≤ b → b < 226 → (b = 219 ∨ b = 225 → k < 10) → am_I M' b k = am_I M b k) : mH M' X := by
  obtain ⟨h1, h2, h3, h4, h5, h6, h7⟩ := H
  exact ⟨fun k hk => (e _ _ (by omega) (by omega) (by omega)).trans (h1 k hk), fun k hk => (e _ _ (by omega) (by omega) (by omega)).trans (h2 k hk), fun f hf k hk => (e _ _ (by omega) (by omega) (by omega)).trans (h3 f hf k hk), fun k hk => (e _ _ (by omega) (by omega) (by omega)).trans (h4 k hk), fun k hk => (e _ _ (by omega) (by omega) (by omega)).trans (h5 k hk), fun f hf k hk => (e _ _ (by omega) (by omega) (by omega)).trans (h6 f hf k hk), fun k hk => (e _ _ (by omega) (by omega) (by omega)).trans (h7 k hk)⟩
theorem mA_mv {M M' : am_M} {A : am_A} (H : mA M A) (e : ∀ k, k < 96 → am_I M' 229 k = am_I M 229 k) : mA M' A := by
  obtain ⟨h1, h2, h3, h4, h5, h6⟩ := H
  exact ⟨(e _ (by omega)).trans h1, (e _ (by omega)).trans h2, fun q hq k hk => (e _ (by omega)).trans (h3 q hq k hk), fun q hq k hk => (e _ (by omega)).trans (h4 q hq k hk), fun p hp => (e _ (by omega)).trans (h5 p hp), fun p hp => (e _ (by omega)).trans (h6 p hp)⟩
/-- one number of an account anew -/
def uA (A : am_A) (i j k : Nat) (v : Int) : am_A := fun a b c => if a = i ∧ b = j ∧ c = k then v else A a b c
theorem uA_eq (A : am_A) (i j k : Nat) (v : Int) : uA A i j k v i j k = v := if_pos ⟨rfl, rfl, rfl⟩
theorem uA_ne {A : am_A} {i j k a b c : Nat} {v : Int} (h : ¬ (a = i ∧ b = j ∧ c = k)) : uA A i j k v a b c = A a b c := if_neg h
/-! Formulas: codes one behind the other, on a pile. -/
def clip (v : Int) : Int := if 1000000 < v then 1000000 else if v < -1000000 then -1000000 else v
def held (v : Int) : Int := if v < 0 then 0 else if 999 < v then 999 else v
theorem clip_bd (v : Int) : -1000000 ≤ clip v ∧ clip v ≤ 1000000 := by unfold clip; split; omega; split <;> omega
theorem held_bd (v : Int) : 0 ≤ held v ∧ held v ≤ 999 := by unfold held; split; omega; split <;> omega
def opv (c : Int) (a b : Int) : Int :=
  if c = 1 then clip (a + b) else if c = 2 then clip (a - b) else if c = 3 then clip (a * b) else if c = 4 then (if b = 0 then 0 else Int.fdiv a b)
  else if c = 5 then (if a < b then a else b) else if c = 6 then (if b < a then a else b) else if c = 7 then (if a < b then 1 else 0) else if c = 8 then (if b < a then 1 else 0)
  else if c = 9 then (if a = b then 1 else 0) else if c = 10 then a * b else (if 0 < a + b then 1 else 0)
/-- one code, on a pile (its top first) -/
def fst1 (F : Nat → Int) (W : Int → Int) (s : List Int) (c : Int) : List Int :=
  if 1000 ≤ c then (c - 1000) :: s
  else if 60 ≤ c then (match s with | [] => [] | a :: t => W a :: t)
  else if 40 ≤ c then F (c - 40).toNat :: s
  else if c = 13 then 1 :: s
  else if c = 12 then (match s with | [] => [] | a :: t => (1 - a) :: t)
  else (match s with | b :: a :: t => opv c a b :: t | _ => [])
def fev (F : Nat → Int) (W : Int → Int) (l : List Int) : Int := (l.foldl (fst1 F W) []).getD 0 0
/-- what sorts lie on the pile behind a code (true: a truth); al: what may be asked; wf: may a weight be asked of a number -/
def ty1 (al : Nat → Bool) (of : Bool) (t : List Bool) (c : Int) : Option (List Bool) :=
  if 1000 ≤ c then (if c ≤ 10999 ∧ t.length < 60 then some (false :: t) else none)
  else if 60 ≤ c then (if c = 60 ∧ of = true then (match t with | false :: r => some (false :: r) | _ => none) else none)
  else if 40 ≤ c then (if c < 48 ∧ al (c - 40).toNat = true ∧ t.length < 60 then some (false :: t) else none)
  else if c = 13 then (if t.length < 60 then some (true :: t) else none)
  else if c = 12 then (match t with | true :: r => some (true :: r) | _ => none)
  else if 10 ≤ c ∧ c ≤ 11 then (match t with | true :: true :: r => some (true :: r) | _ => none)
  else if 7 ≤ c ∧ c ≤ 9 then (match t with | false :: false :: r => some (true :: r) | _ => none)
  else if 1 ≤ c ∧ c ≤ 6 then (match t with | false :: false :: r => some (false :: r) | _ => none)
  else none
def tys (al : Nat → Bool) (of : Bool) : List Int → List Bool → Option (List Bool)
  | [], t => some t
  | c :: l, t => match ty1 al of t c with | none => none | some t' => tys al of l t'
/-- a good formula, of a sort -/
def wf (al : Nat → Bool) (of : Bool) (b : Bool) (l : List Int) : Prop := tys al of l [] = some [b]
def okv : List Int → List Bool → Prop
  | [], [] => True
  | v :: s, b :: t => (-1000000 ≤ v ∧ v ≤ 1000000 ∧ (b = true → v = 0 ∨ v = 1)) ∧ okv s t
  | _, _ => False
/-- what may be asked in: 0 learns, 1 fades, 2 may, 3 a question -/
def alw (j : Nat) (k : Nat) : Bool := match j with
  | 0 => Nat.blt k 3
  | 1 => Nat.blt k 2
  | 2 => Nat.beq k 0 || (Nat.ble 3 k && Nat.ble k 5)
  | _ => Nat.beq k 0 || (Nat.ble 3 k && Nat.ble k 7)
/-- the class's code of a code -/
def wd (k : Nat) : Int := match k with | 0 => 16 | 1 => 17 | 2 => 18 | 3 => 2 | 4 => 19 | 5 => 20 | 6 => 22 | _ => 21
def cc (c : Int) : Int := if 1000 ≤ c then c - 1000 else if 60 ≤ c then 20002 else if 40 ≤ c then 10000 + wd (c - 40).toNat else if c = 13 then 1 else if c = 12 then 20001 else 20002 + c
/-- the parts of a formula: hour, taste, weight, parts, seen, score, number, worth -/
def fct (X : am_X) (A : am_A) (q f p : Nat) (t w : Int) : Nat → Int
  | 0 => A 0 0 0 % 24
  | 1 => t
  | 2 => w
  | 3 => X 2 f 0
  | 4 => A 3 q f
  | 5 => score X A q f
  | 6 => f
  | _ => worth X p f
/-! Hours. -/
/-- a taste grows by -/
def grow (X : am_X) (G : am_Gf) (A : am_A) (q f k : Nat) : Int := match G 0 with
  | none => X 3 f k
  | some l => held (fev (fct X A q f 0 (A 2 q k) (X 3 f k)) (fun _ => 0) l)
def seeT (X : am_X) (G : am_Gf) (q f : Nat) (A : am_A) : Nat → am_A
  | 0 => A
  | n + 1 => if 0 < X 3 f n then uA (seeT X G q f A n) 2 q n (held (seeT X G q f A n 2 q n + grow X G (seeT X G q f A n) q f n)) else seeT X G q f A n
/-- a part of a film is seen by a profile -/
def see (X : am_X) (G : am_Gf) (A : am_A) (q f : Nat) : am_A := seeT X G q f (uA A 3 q f (A 3 q f + 1)) (nK X)
def mayT (X : am_X) (G : am_Gf) (A : am_A) (q f : Nat) : Int := match G 2 with
  | none => 1
  | some l => fev (fct X A q f 0 0 0) (fun _ => 0) l
/-- the best film so far, and its score -/
def sugF (X : am_X) (G : am_Gf) (A : am_A) (q : Nat) : Nat → Int × Int
  | 0 => (-1, 0)
  | n + 1 => if A 3 q n < X 2 n 0 ∧ (sugF X G A q n).2 < score X A q n ∧ mayT X G A q n = 1 then ((n : Int), score X A q n) else sugF X G A q n
def sug (X : am_X) (G : am_Gf) (A : am_A) (p : Nat) : Int := (sugF X G A (prof A p) (nF X)).1
/-- is p free in the hour hr -/
def fre (X : am_X) (p : Nat) (hr : Int) : Int := if X 4 p 0 ≤ hr ∧ hr ≤ X 5 p 0 then 1 else 0
/-- p sees a part of f -/
def watch (X : am_X) (G : am_Gf) (A : am_A) (p f : Nat) : am_A := uA (see X G A (prof A p) f) 4 p 0 (if A 4 p 0 + 1 < 9999 then A 4 p 0 + 1 else 9999)
/-- by how much p is pleased -/
def plz (X : am_X) (A : am_A) (p f : Nat) : Int := worth X p f - (if prs A p = 1 then X 10 0 0 else 0)
def rowc (A : am_A) (p f : Nat) : Int := (A 0 0 0 * 16 + p) * 8 + f
def kpush (K : List Int) (r : Int) : List Int := if K.length < 40 then K ++ [r] else K.tail ++ [r]
/-- an hour's numbers: 0 pleased, 1 refused, 2 what each saw, 3 how many saw, 4 whether a film was seen -/
abbrev am_Qh : Type := Nat → Nat → Int
def uq (Q : am_Qh) (i j : Nat) (v : Int) : am_Qh := fun a b => if a = i ∧ b = j then v else Q a b
abbrev am_Hs : Type := am_A × am_Qh × List Int
/-- what p sees now -/
def fnow (X : am_X) (G : am_Gf) (A : am_A) (p : Nat) : Int := if fre X p (A 0 0 0 % 24) = 1 then sug X G A p else -1
def hP (X : am_X) (G : am_Gf) (p : Nat) (s : am_Hs) : am_Hs :=
  if fnow X G s.1 p = -1 then (s.1, uq s.2.1 2 p (-1), s.2.2)
  else if X 8 0 0 ≤ s.2.1 3 0 then (s.1, uq (uq s.2.1 2 p (-1)) 1 p (s.2.1 1 p + 1), s.2.2)
  else (watch X G s.1 p (fnow X G s.1 p).toNat, uq (uq (uq (uq s.2.1 2 p (fnow X G s.1 p)) 0 p (s.2.1 0 p + plz X s.1 p (fnow X G s.1 p).toNat)) 4 (fnow X G s.1 p).toNat 1) 3 0 (s.2.1 3 0 + 1), kpush s.2.2 (rowc s.1 p (fnow X G s.1 p).toNat))
def hPs (X : am_X) (G : am_Gf) (s : am_Hs) : Nat → am_Hs
  | 0 => s
  | n + 1 => hP X G n (hPs X G s n)
def fadeA (X : am_X) (G : am_Gf) (A : am_A) : am_A := match G 1 with
  | none => A
  | some l => fun i q k => if i = 2 ∧ q ≤ nP X ∧ k < nK X then held (fev (fct X A q 0 0 (A 2 q k) 0) (fun _ => 0) l) else A i q k
/-- the numbers at an hour's begin -/
def q0 (Q : am_Qh) : am_Qh := fun a b => if a = 3 ∨ a = 4 then 0 else Q a b
def tick (A : am_A) : am_A := uA A 0 0 0 (A 0 0 0 + 1)
def hour (X : am_X) (G : am_Gf) (s : am_Hs) : am_Hs :=
  (tick (fadeA X G (hPs X G (s.1, q0 s.2.1, s.2.2) (nP X)).1), (hPs X G (s.1, q0 s.2.1, s.2.2) (nP X)).2)
def hours (X : am_X) (G : am_Gf) (s : am_Hs) : Nat → am_Hs
  | 0 => s
  | n + 1 => hour X G (hours X G s n)
