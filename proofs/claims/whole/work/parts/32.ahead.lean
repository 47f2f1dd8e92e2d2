/-! Hours ahead: pure facts. -/
/-- who presses anew -/
def aP (A : am_A) (P : Int) : am_A := uA A 1 0 0 P
theorem aB_aP {X : am_X} {A : am_A} (BA : aB X A) {P : Int} (h0 : 0 ≤ P) (h1 : P < ((2 ^ nP X : Nat) : Int)) : aB X (aP A P) := by
  obtain ⟨g1, g2, g3, g4, g5, g6, g7, g8⟩ := BA
  unfold aP
  refine ⟨?_, ?_, fun q' hq' k hk => ?_, fun q' hq' f' hf' => ?_, fun p' hp' => ?_, fun q' hq' k hk hz => ?_, fun q' hq' f' hf' hz => ?_, fun p' hp' hz => ?_⟩
  · rw [uA_ne (by omega)]; exact g1
  · rw [uA_eq]; exact ⟨h0, h1⟩
  · rw [uA_ne (by omega)]; exact g3 q' hq' k hk
  · rw [uA_ne (by omega)]; exact g4 q' hq' f' hf'
  · rw [uA_ne (by omega)]; exact g5 p' hp'
  · rw [uA_ne (by omega)]; exact g6 q' hq' k hk hz
  · rw [uA_ne (by omega)]; exact g7 q' hq' f' hf' hz
  · rw [uA_ne (by omega)]; exact g8 p' hp' hz
def qz : am_Qh := fun _ _ => 0
/-- the same, but for who is pleased and refused -/
def sim (s s' : am_Hs) : Prop := s.1 = s'.1 ∧ s.2.2 = s'.2.2 ∧ s.2.1 3 0 = s'.2.1 3 0 ∧ ∀ f, s.2.1 4 f = s'.2.1 4 f
theorem hP_sim {X : am_X} {G : am_Gf} {p : Nat} {s s' : am_Hs} (h : sim s s') : sim (hP X G p s) (hP X G p s') := by
  obtain ⟨h1, h2, h3, h4⟩ := h
  have hf : fnow X G s.1 p = fnow X G s'.1 p := by rw [h1]
  unfold hP
  rw [← hf]
  by_cases g1 : fnow X G s.1 p = -1
  · rw [if_pos g1, if_pos g1]
    exact ⟨h1, h2, by dsimp only; rw [uq_ne (by omega), uq_ne (by omega)]; exact h3, fun f => by dsimp only; rw [uq_ne (by omega), uq_ne (by omega)]; exact h4 f⟩
  · rw [if_neg g1, if_neg g1]
    by_cases g2 : X 8 0 0 ≤ s.2.1 3 0
    · rw [if_pos g2, if_pos (by rw [← h3]; exact g2)]
      exact ⟨h1, h2, by dsimp only; rw [uq_ne (by omega), uq_ne (by omega), uq_ne (by omega), uq_ne (by omega)]; exact h3, fun f => by dsimp only; rw [uq_ne (by omega), uq_ne (by omega), uq_ne (by omega), uq_ne (by omega)]; exact h4 f⟩
    · rw [if_neg g2, if_neg (by rw [← h3]; exact g2)]
      refine ⟨by dsimp only; rw [h1], by dsimp only; rw [h1, h2], by dsimp only; rw [uq_eq, uq_eq, h3], fun f => ?_⟩
      dsimp only
      by_cases g3 : f = (fnow X G s.1 p).toNat
      · subst g3
        simp (disch := omega) only [uq_ne, uq_eq]
      · simp (disch := omega) only [uq_ne]
        exact h4 f
theorem hPs_sim {X : am_X} {G : am_Gf} {s s' : am_Hs} (h : sim s s') : ∀ n, sim (hPs X G s n) (hPs X G s' n)
  | 0 => h
  | n + 1 => hP_sim (hPs_sim h n)
theorem q0_3 (Q : am_Qh) (j : Nat) : q0 Q 3 j = 0 := if_pos (Or.inl rfl)
theorem q0_4 (Q : am_Qh) (j : Nat) : q0 Q 4 j = 0 := if_pos (Or.inr rfl)
theorem hour_sim {X : am_X} {G : am_Gf} {s s' : am_Hs} (h1 : s.1 = s'.1) (h2 : s.2.2 = s'.2.2) : sim (hour X G s) (hour X G s') := by
  have h := hPs_sim (X := X) (G := G) (s := (s.1, q0 s.2.1, s.2.2)) (s' := (s'.1, q0 s'.2.1, s'.2.2)) ⟨h1, h2, by dsimp only; rw [q0_3, q0_3], fun f => by dsimp only; rw [q0_4, q0_4]⟩ (nP X)
  obtain ⟨g1, g2, g3, g4⟩ := h
  unfold hour
  exact ⟨by dsimp only; rw [g1], g2, g3, g4⟩
theorem hours_sim {X : am_X} {G : am_Gf} {s s' : am_Hs} (h1 : s.1 = s'.1) (h2 : s.2.2 = s'.2.2) : ∀ n, (hours X G s n).1 = (hours X G s' n).1 ∧ (hours X G s n).2.2 = (hours X G s' n).2.2
  | 0 => ⟨h1, h2⟩
  | n + 1 => by
    obtain ⟨g1, g2⟩ := hours_sim h1 h2 n
    have := hour_sim (X := X) (G := G) g1 g2
    exact ⟨this.1, this.2.1⟩
theorem hours_bd {X : am_X} {G : am_Gf} (B : hB X) {s : am_Hs} (BA : aB X s.1) : ∀ n : Nat, s.1 0 0 0 + n ≤ 23999 → aB X (hours X G s n).1 ∧ (hours X G s n).1 0 0 0 = s.1 0 0 0 + n
  | 0, _ => ⟨BA, by show s.1 0 0 0 = s.1 0 0 0 + ((0 : Nat) : Int); omega⟩
  | n + 1, h => by
    obtain ⟨g1, g2⟩ := hours_bd (G := G) B BA n (by omega)
    obtain ⟨g3, g4⟩ := hour_bd (G := G) B g1 (by omega)
    exact ⟨g3, by show (hour X G (hours X G s n)).1 0 0 0 = _; omega⟩
/-- how many parts are seen in n hours -/
def hsum (X : am_X) (G : am_Gf) (s : am_Hs) : Nat → Int
  | 0 => 0
  | n + 1 => hsum X G s n + (hours X G s (n + 1)).2.1 3 0
theorem hP_q {X : am_X} {G : am_Gf} (B : hB X) {p : Nat} (hp : p < nP X) {s : am_Hs} (BA : aB X s.1) (r : Nat) : (r ≠ p → (hP X G p s).2.1 0 r = s.2.1 0 r ∧ (hP X G p s).2.1 1 r = s.2.1 1 r) ∧ (s.2.1 0 r - 99 ≤ (hP X G p s).2.1 0 r ∧ (hP X G p s).2.1 0 r ≤ s.2.1 0 r + 486) ∧ (s.2.1 1 r ≤ (hP X G p s).2.1 1 r ∧ (hP X G p s).2.1 1 r ≤ s.2.1 1 r + 1) := by
  have hP5 := (hB_P B).2
  have hsb := sug_bd (G := G) B BA (show p < 5 by omega)
  unfold hP
  split
  · dsimp only
    rw [uq_ne (by omega), uq_ne (by omega)]
    exact ⟨fun _ => ⟨rfl, rfl⟩, by omega, by omega⟩
  · split
    · dsimp only
      rw [uq_ne (show ¬ (0 = 1 ∧ r = p) by omega), uq_ne (by omega)]
      by_cases g : r = p
      · subst g
        rw [uq_eq]
        exact ⟨fun h => absurd rfl h, by omega, by omega⟩
      · rw [uq_ne (by omega), uq_ne (by omega)]
        exact ⟨fun _ => ⟨rfl, rfl⟩, by omega, by omega⟩
    · rename_i g1 _
      have hfn : fnow X G s.1 p = sug X G s.1 p := by
        unfold fnow at g1 ⊢
        split
        · rfl
        · rename_i g; rw [if_neg g] at g1; exact absurd rfl g1
      have hz := plz_bd (A := s.1) B hp (f := (fnow X G s.1 p).toNat) (by omega)
      dsimp only
      by_cases g : r = p
      · subst g
        simp (disch := omega) only [uq_ne, uq_eq]
        exact ⟨fun h => absurd rfl h, by omega, by omega⟩
      · simp (disch := omega) only [uq_ne]
        exact ⟨fun _ => ⟨trivial, trivial⟩, by omega, by omega⟩
theorem hPs_q {X : am_X} {G : am_Gf} (B : hB X) {s : am_Hs} (BA : aB X s.1) (r : Nat) : ∀ n, n ≤ nP X → (n ≤ r → (hPs X G s n).2.1 0 r = s.2.1 0 r ∧ (hPs X G s n).2.1 1 r = s.2.1 1 r) ∧ (s.2.1 0 r - 99 ≤ (hPs X G s n).2.1 0 r ∧ (hPs X G s n).2.1 0 r ≤ s.2.1 0 r + 486) ∧ (s.2.1 1 r ≤ (hPs X G s n).2.1 1 r ∧ (hPs X G s n).2.1 1 r ≤ s.2.1 1 r + 1)
  | 0, _ => ⟨fun _ => ⟨rfl, rfl⟩, by show s.2.1 0 r - 99 ≤ s.2.1 0 r ∧ s.2.1 0 r ≤ s.2.1 0 r + 486; omega, by show s.2.1 1 r ≤ s.2.1 1 r ∧ s.2.1 1 r ≤ s.2.1 1 r + 1; omega⟩
  | n + 1, h => by
    obtain ⟨i1, i2, i3⟩ := hPs_q (G := G) B BA r n (by omega)
    obtain ⟨j1, j2, j3⟩ := hP_q (G := G) B (p := n) (by omega) (hPs_bd (G := G) B BA n (by omega)) r
    have e : hPs X G s (n + 1) = hP X G n (hPs X G s n) := rfl
    rw [e]
    by_cases g : n ≤ r
    · obtain ⟨k1, k2⟩ := i1 g
      rw [k1, k2] at j1
      rw [k1] at j2
      rw [k2] at j3
      refine ⟨fun h2 => ?_, j2, j3⟩
      exact j1 (by omega)
    · obtain ⟨k1, k2⟩ := j1 (by omega)
      rw [k1, k2]
      exact ⟨fun h2 => absurd h2 (by omega), i2, i3⟩
theorem hours_q {X : am_X} {G : am_Gf} (B : hB X) {s : am_Hs} (BA : aB X s.1) (r : Nat) : ∀ n : Nat, s.1 0 0 0 + n ≤ 23999 → (s.2.1 0 r - 99 * n ≤ (hours X G s n).2.1 0 r ∧ (hours X G s n).2.1 0 r ≤ s.2.1 0 r + 486 * n) ∧ (s.2.1 1 r ≤ (hours X G s n).2.1 1 r ∧ (hours X G s n).2.1 1 r ≤ s.2.1 1 r + n)
  | 0, _ => by
    show (s.2.1 0 r - 99 * ((0 : Nat) : Int) ≤ s.2.1 0 r ∧ s.2.1 0 r ≤ s.2.1 0 r + 486 * ((0 : Nat) : Int)) ∧ s.2.1 1 r ≤ s.2.1 1 r ∧ s.2.1 1 r ≤ s.2.1 1 r + ((0 : Nat) : Int)
    omega
  | n + 1, h => by
    obtain ⟨i2, i3⟩ := hours_q (G := G) B BA r n (by omega)
    obtain ⟨g1, g2⟩ := hours_bd (G := G) B BA n (by omega)
    obtain ⟨-, j2, j3⟩ := hPs_q (G := G) B (s := ((hours X G s n).1, q0 (hours X G s n).2.1, (hours X G s n).2.2)) g1 r (nP X) (Nat.le_refl _)
    have e : (hours X G s (n + 1)).2 = (hPs X G ((hours X G s n).1, q0 (hours X G s n).2.1, (hours X G s n).2.2) (nP X)).2 := rfl
    rw [e]
    have e0 : q0 (hours X G s n).2.1 0 r = (hours X G s n).2.1 0 r := if_neg (by omega)
    have e1 : q0 (hours X G s n).2.1 1 r = (hours X G s n).2.1 1 r := if_neg (by omega)
    dsimp only at j2 j3
    rw [e0] at j2
    rw [e1] at j3
    omega
/-! Bits. -/
def bon (P : Int) (p : Nat) : Int := if P / ((2 ^ p : Nat) : Int) % 2 = 1 then P else P + ((2 ^ p : Nat) : Int)
def boff (P : Int) (p : Nat) : Int := if P / ((2 ^ p : Nat) : Int) % 2 = 1 then P - ((2 ^ p : Nat) : Int) else P
def bflip (P : Int) (p : Nat) : Int := if P / ((2 ^ p : Nat) : Int) % 2 = 1 then P - ((2 ^ p : Nat) : Int) else P + ((2 ^ p : Nat) : Int)
theorem bit_1 : ∀ P : Fin 32, ∀ p : Fin 5, (am_i (P.val : Int) ||| (am_i 1 <<< (am_i (p.val : Int) &&& 31))) = am_i (bon P.val p.val) ∧ (am_i (P.val : Int) &&& ((am_i 1 <<< (am_i (p.val : Int) &&& 31)) ^^^ am_i (-1))) = am_i (boff P.val p.val) ∧ (am_i (P.val : Int) ^^^ (am_i 1 <<< (am_i (p.val : Int) &&& 31))) = am_i (bflip P.val p.val) ∧ (bon P.val p.val / ((2 ^ p.val : Nat) : Int) % 2 = 1) ∧ (boff P.val p.val / ((2 ^ p.val : Nat) : Int) % 2 = 0) ∧
    (∀ n : Fin 6, p.val < n.val → P.val < 2 ^ n.val → (0 ≤ bon P.val p.val ∧ bon P.val p.val < ((2 ^ n.val : Nat) : Int)) ∧ (0 ≤ boff P.val p.val ∧ boff P.val p.val < ((2 ^ n.val : Nat) : Int)) ∧ (0 ≤ bflip P.val p.val ∧ bflip P.val p.val < ((2 ^ n.val : Nat) : Int))) := by decide +kernel
theorem bit_q {P : Int} (h0 : 0 ≤ P) {n p : Nat} (hn : n ≤ 5) (h1 : P < ((2 ^ n : Nat) : Int)) (hp : p < n) : (am_i P ||| (am_i 1 <<< (am_i (p : Int) &&& 31))) = am_i (bon P p) ∧ (am_i P &&& ((am_i 1 <<< (am_i (p : Int) &&& 31)) ^^^ am_i (-1))) = am_i (boff P p) ∧ (am_i P ^^^ (am_i 1 <<< (am_i (p : Int) &&& 31))) = am_i (bflip P p) ∧
    (0 ≤ bon P p ∧ bon P p < ((2 ^ n : Nat) : Int)) ∧ (0 ≤ boff P p ∧ boff P p < ((2 ^ n : Nat) : Int)) ∧ (0 ≤ bflip P p ∧ bflip P p < ((2 ^ n : Nat) : Int)) := by
  have h32 : 2 ^ n ≤ 2 ^ 5 := Nat.pow_le_pow_right (by decide) hn
  obtain ⟨k1, k2, k3, -, -, k4⟩ := bit_1 ⟨P.toNat, by omega⟩ ⟨p, by omega⟩
  have e : ((P.toNat : Nat) : Int) = P := by omega
  simp only [e] at k1 k2 k3 k4
  obtain ⟨k5, k6, k7⟩ := k4 ⟨n, by omega⟩ hp (by show P.toNat < 2 ^ n; omega)
  exact ⟨k1, k2, k3, k5, k6, k7⟩
theorem bit_2 : ∀ P : Fin 32, ∀ p : Fin 5, ∀ n : Fin 6, n.val ≤ p.val → P.val < 2 ^ n.val → P.val / 2 ^ p.val % 2 = 0 := by decide +kernel
theorem prs_hi {P : Int} (h0 : 0 ≤ P) {n p : Nat} (hn : n ≤ 5) (h1 : P < ((2 ^ n : Nat) : Int)) (hp : n ≤ p) (hp5 : p < 5) : P / ((2 ^ p : Nat) : Int) % 2 = 0 := by
  have h32 : 2 ^ n ≤ 2 ^ 5 := Nat.pow_le_pow_right (by decide) hn
  have k := bit_2 ⟨P.toNat, by omega⟩ ⟨p, hp5⟩ ⟨n, by omega⟩ hp (by show P.toNat < 2 ^ n; omega)
  have k' : P.toNat / 2 ^ p % 2 = 0 := k
  have e : ((P.toNat : Nat) : Int) = P := by omega
  rw [← e]
  have : (((P.toNat / 2 ^ p % 2 : Nat)) : Int) = 0 := by rw [k']; rfl
  exact this
theorem bit_3 : ∀ P : Fin 32, ∀ p : Fin 5, (P.val / 2 ^ p.val % 2 = 1 → (am_i ((P.val % 2 ^ p.val : Nat) : Int) ||| (am_i 1 <<< (am_i (p.val : Int) &&& 31))) = am_i ((P.val % 2 ^ (p.val + 1) : Nat) : Int)) ∧ (P.val / 2 ^ p.val % 2 = 0 → P.val % 2 ^ p.val = P.val % 2 ^ (p.val + 1)) := by decide +kernel
/-! The class: an account copied, hours ahead. -/
theorem am_ac_p {M : am_M} {r q n1 n2 w : Nat} {sp dp n : Int} (hr : am_K M r = (2, n1)) (hq : am_K M q = (2, n2)) (h : 2 ≤ r ∧ 2 ≤ q ∧ r ≠ q ∧ 0 ≤ sp ∧ 0 ≤ dp ∧ 0 ≤ n ∧ sp + n ≤ n1 ∧ dp + n ≤ n2 ∧ n1 ≤ 65536 ∧ n2 ≤ 65536 ∧ w ≤ 8) (t s : am_Q) : am_ac M r (am_i sp) q (am_i dp) (am_i n) w t s = t := by
  obtain ⟨h1, h2, h3, h4, h5, h6, h7, h8, h9, h10, h11⟩ := h
  unfold am_ac
  refine if_pos ⟨h1, h2, h3, by rw [hr], by rw [hq], ?_, ?_, ?_, ?_, ?_, h11⟩
  · rw [am_i_0, am_i_lt (by omega) (by omega) (by omega) (by omega)]; omega
  · rw [am_i_0, am_i_lt (by omega) (by omega) (by omega) (by omega)]; omega
  · rw [am_i_0, am_i_lt (by omega) (by omega) (by omega) (by omega)]; omega
  · rw [am_i_ix (by omega) (by omega), am_i_ix (by omega) (by omega), hr]; show sp.toNat + n.toNat ≤ n1; omega
  · rw [am_i_ix (by omega) (by omega), am_i_ix (by omega) (by omega), hq]; show dp.toNat + n.toNat ≤ n2; omega
theorem am_I_cp (M : am_M) (a sp b dp n c k : Nat) : am_I (am_cp M a sp b dp n) c k = if c = b ∧ dp ≤ k ∧ k < dp + n then am_I M a (sp + (k - dp)) else am_I M c k := rfl
theorem am_I_cp_ne {M : am_M} {a sp b dp n c k : Nat} (h : c ≠ b) : am_I (am_cp M a sp b dp n) c k = am_I M c k := if_neg (fun g => h g.1)
theorem am_I_cp_in {M : am_M} {a sp b n k : Nat} (h : k < n) : am_I (am_cp M a sp b 0 n) b k = am_I M a (sp + k) := by
  rw [am_I_cp, if_pos ⟨rfl, Nat.zero_le _, by omega⟩, Nat.sub_zero]
theorem Sh_cp {L : Nat} {q : am_Pq} {M : am_M} (S : am_Sh L q M) (a sp b dp n : Nat) : am_Sh L q (am_cp M a sp b dp n) := S
theorem fr_cp {P : Nat → Nat → Prop} {M : am_M} {a sp b dp n : Nat} (h : ∀ k, P b k) : fr P M (am_cp M a sp b dp n) := by
  intro c k hp
  refine ⟨am_I_cp_ne ?_, rfl⟩
  rintro rfl
  exact hp (h k)
theorem am_ob_cp (M : am_M) (a sp b dp n : Nat) (r k : Nat) (t s : am_Q) : am_ob (am_cp M a sp b dp n) r k t s = am_ob M r k t s := rfl
theorem am_R_cp (M : am_M) (a sp b dp n : Nat) (r k : Nat) : am_R (am_cp M a sp b dp n) r k = am_R M r k := rfl
theorem am_K_cp (M : am_M) (a sp b dp n : Nat) (r : Nat) : am_K (am_cp M a sp b dp n) r = am_K M r := rfl
theorem am_ac_cp (M : am_M) (a sp b dp n : Nat) (r : Nat) (s1 : Int32) (q : Nat) (d1 n1 : Int32) (w : Nat) (t s : am_Q) : am_ac (am_cp M a sp b dp n) r s1 q d1 n1 w t s = am_ac M r s1 q d1 n1 w t s := rfl
theorem am_ac_sI (M : am_M) (a j : Nat) (v : Int32) (r : Nat) (s1 : Int32) (q : Nat) (d1 n1 : Int32) (w : Nat) (t s : am_Q) : am_ac (am_sI M a j v) r s1 q d1 n1 w t s = am_ac M r s1 q d1 n1 w t s := rfl
theorem isA_ch {a : Nat} (h : isA a) : a = 64 ∨ a = 76 ∨ (87 ≤ a ∧ a ≤ 182 ∧ (a - 87) % 5 = 0) := by unfold isA at h; omega
theorem isA_dj {a b : Nat} (ha : isA a) (hb : isA b) (h : a ≠ b) : a + 5 ≤ b ∨ b + 5 ≤ a := by
  have h1 := isA_ch ha
  have h2 := isA_ch hb
  omega
def pA (a b k : Nat) : Prop := (b = a ∧ (k = 0 ∨ k = 1 ∨ k = 6)) ∨ (a < b ∧ b < a + 5)
set_option maxHeartbeats 4000000 in
theorem c_copyFrom {L : Nat} {q : am_Pq} {M : am_M} {a b : Nat} (S : am_Sh L q M) (ha : isA a) (hb : isA b) (hab : a ≠ b) {A : am_A} {K : List Int} {bk : Nat} (HA : cA M b A) (HK : cK M b K bk) (d : Nat) :
    ∃ M', am_cl 66 (d + 1) [.ref a, .ref b] M = some (none, M') ∧ am_Sh L q M' ∧ fr (pA a) M M' ∧ cA M' a A ∧ cK M' a K bk := by
  have hdj := isA_dj ha hb hab
  have ha4 := isA_ch ha
  have hb4 := isA_ch hb
  obtain ⟨h1, h2, h3, h4, h5⟩ := HA
  obtain ⟨e, k1, k2, k3, k4⟩ := HK
  have n36 : nI 36 = am_i 36 := am_i_nI 36
  have n48 : nI 48 = am_i 48 := am_i_nI 48
  have i6 : ∀ k, k < 36 → k = 6 * (k / 6) + k % 6 := fun k hk => by omega
  refine ⟨am_sI (am_cp (am_cp (am_cp (am_cp (am_sI (am_sI M a 0 (am_i (A 0 0 0))) a 1 (am_i (A 1 0 0))) (b + 1) 0 (a + 1) 0 36) (b + 2) 0 (a + 2) 0 48) (b + 3) 0 (a + 3) 0 5) (b + 4) 0 (a + 4) 0 40) a 6 (am_i e), ?_, ?_, ?_, ⟨?_, ?_, fun q' hq' k' hk' => ?_, fun q' hq' f' hf' => ?_, fun p hp => ?_⟩, ⟨e, k1, ?_, k3, fun k hk => ?_⟩⟩
  · rw [t66]
    simp (disch := omega) only [am_ob_p (A_k0 S ha), am_ix_p (A_k1 S ha), am_iw_p (A_k1 S ha), am_ix_p (A_k2 S ha), am_iw_p (A_k2 S ha), am_ix_p (A_k3 S ha), am_iw_p (A_k3 S ha), am_ix_p (A_k4 S ha), am_iw_p (A_k4 S ha), A_r0_2 S ha, A_r0_3 S ha, A_r0_4 S ha, A_r0_5 S ha, am_ob_p (A_k0 S hb), am_ix_p (A_k1 S hb), am_iw_p (A_k1 S hb), am_ix_p (A_k2 S hb), am_iw_p (A_k2 S hb), am_ix_p (A_k3 S hb), am_iw_p (A_k3 S hb), am_ix_p (A_k4 S hb), am_iw_p (A_k4 S hb), A_r0_2 S hb, A_r0_3 S hb, A_r0_4 S hb, A_r0_5 S hb, A_k1 S ha, A_k2 S ha, am_gr_p, am_i_ix, Int.toNat_zero, Int.toNat_one, Int.toNat_natCast, Int.reduceToNat, am_lt, am_i_add, am_i_sub, am_i_mul, am_ob_sI, am_ix_sI, am_iw_sI, am_iq_sI, am_R_sI', am_ob_sL, am_ix_sL, am_iw_sL, am_iq_sL, am_R_sL', am_I_same, am_I_ne1, am_I_ne2, am_L_same, am_L_ne1, am_L_ne2, am_L_sI', am_I_sL', am_ob_cp, am_R_cp, am_K_cp, am_ac_cp, am_ac_sI, am_K_sI', am_if_t, n36, n48, h1, h2, am_ac_p (A_k1 S hb) (A_k1 S ha), am_ac_p (A_k2 S hb) (A_k2 S ha), am_ac_p (A_k3 S hb) (A_k3 S ha), am_ac_p (A_k4 S hb) (A_k4 S ha), am_I_cp_ne, k2]
  · exact (Sh_cp (Sh_cp (Sh_cp (Sh_cp ((S.sI _ _ _).sI _ _ _) _ _ _ _ _) _ _ _ _ _) _ _ _ _ _) _ _ _ _ _).sI _ _ _
  · refine fr_tr (fr_tr (fr_tr (fr_tr (fr_tr (fr_tr (fr_sI ?_) (fr_sI ?_)) (fr_cp fun k => ?_)) (fr_cp fun k => ?_)) (fr_cp fun k => ?_)) (fr_cp fun k => ?_)) (fr_sI ?_) <;> unfold pA <;> omega
  · simp (disch := omega) only [am_I_ne2, am_I_cp_ne, am_I_same]
  · simp (disch := omega) only [am_I_ne2, am_I_cp_ne, am_I_same]
  · simp (disch := omega) only [am_I_ne1, am_I_cp_ne, am_I_cp_in, Nat.zero_add]
    exact h3 q' hq' k' hk'
  · simp (disch := omega) only [am_I_ne1, am_I_cp_ne, am_I_cp_in, Nat.zero_add]
    exact h4 q' hq' f' hf'
  · simp (disch := omega) only [am_I_ne1, am_I_cp_ne, am_I_cp_in, Nat.zero_add]
    exact h5 p hp
  · exact am_I_same _ _ _ _
  · simp (disch := omega) only [am_I_ne1, am_I_cp_ne, am_I_cp_in, Nat.zero_add]
    exact k4 k hk
