/-! Class and reference hold the same world. -/
/-- house, names, formulas, account, rows kept, acts that can be undone (the latest first), numbers (0 tape, 1 its length, 2 fault and place, 3 rows told, 4 how many, 5 image, 6 its length, 7 refusals, 8 seed) -/
abbrev am_Wo : Type := am_X × (Nat → Nat → List Int) × am_Gf × am_A × List Int × List (am_A × List Int) × (Nat → Nat → Int)
def wX (W : am_Wo) : am_X := W.1
def wN (W : am_Wo) : Nat → Nat → List Int := W.2.1
def wG (W : am_Wo) : am_Gf := W.2.2.1
def wA (W : am_Wo) : am_A := W.2.2.2.1
def wK (W : am_Wo) : List Int := W.2.2.2.2.1
def wP (W : am_Wo) : List (am_A × List Int) := W.2.2.2.2.2.1
def wZ (W : am_Wo) : Nat → Nat → Int := W.2.2.2.2.2.2
/-- a name by five bits a letter, by digits of 27 -/
def c5 : List Int → Int
  | [] => 0
  | a :: l => a + 32 * c5 l
def c27 (l : List Int) : Int := l.foldl (fun v a => 27 * v + a) 0
def nM (X : am_X) (sort : Nat) : Nat := (X 0 sort 0).toNat
def nB (N : Nat → Nat → List Int) (X : am_X) : Prop := ∀ s, s < 3 → ∀ w, w < nM X s → 1 ≤ (N s w).length ∧ (N s w).length ≤ 6 ∧ ∀ a ∈ N s w, 1 ≤ a ∧ a ≤ 26
def cN (M : am_M) (h : Nat) (N : Nat → Nat → List Int) (X : am_X) : Prop := ∀ s, s < 3 → ∀ w, w < nM X s → am_I M (h + 3 + s) w = am_i (c5 (N s w))
def mN (M : am_M) (N : Nat → Nat → List Int) (X : am_X) : Prop := ∀ s, s < 3 → ∀ w, w < nM X s → am_L M 220 (24 + 8 * s + w) = am_l (c27 (N s w))
def kB (K : List Int) : Prop := ∀ r ∈ K, 0 ≤ r ∧ r < 3072000
/-- the numbers' bounds -/
def zB (X : am_X) (Z : Nat → Nat → Int) : Prop := (∀ k, 0 ≤ Z 0 k ∧ Z 0 k ≤ 255) ∧ (0 ≤ Z 1 0 ∧ Z 1 0 ≤ 1600) ∧ (0 ≤ Z 4 0 ∧ Z 4 0 ≤ 16) ∧ (∀ r : Nat, (r : Int) < Z 4 0 → (0 ≤ Z 3 (3 * r) ∧ Z 3 (3 * r) ≤ 23) ∧ (0 ≤ Z 3 (3 * r + 1) ∧ Z 3 (3 * r + 1) < X 0 1 0) ∧ (0 ≤ Z 3 (3 * r + 2) ∧ Z 3 (3 * r + 2) ≤ 1)) ∧ (0 ≤ Z 6 0 ∧ Z 6 0 ≤ 139) ∧ (0 ≤ Z 8 0 ∧ Z 8 0 ≤ 2147483647)
def wB (W : am_Wo) : Prop := hB (wX W) ∧ nB (wN W) (wX W) ∧ gB (wG W) ∧ aB (wX W) (wA W) ∧ kB (wK W) ∧ (∀ a ∈ wP W, aB (wX W) a.1 ∧ kB a.2) ∧ zB (wX W) (wZ W)
/-- the words of the language, by the numbers of their letters -/
def wlH : List (List Int) := [[107, 105, 110, 100], [102, 105, 108, 109], [112, 97, 114, 116, 115], [105, 115], [112, 101, 114, 115, 111, 110], [97, 116], [116, 111], [108, 105, 107, 101, 115], [112, 114, 101, 115, 115], [108, 101, 97, 114, 110, 115], [102, 97, 100, 101, 115], [109, 97, 121], [115, 99, 114, 101, 101, 110, 115], [112, 114, 105, 99, 101], [98, 111, 116, 104, 101, 114], [115, 116, 114, 97, 110, 103, 101], [104, 111, 117, 114], [116, 97, 115, 116, 101], [119, 101, 105, 103, 104, 116], [115, 101, 101, 110], [115, 99, 111, 114, 101], [119, 111, 114, 116, 104], [110, 117, 109, 98, 101, 114], [111, 114], [97, 110, 100], [110, 111, 116], [97, 108, 108], [109, 105, 110], [109, 97, 120]]
def wlA : List (List Int) := [[102, 105, 114, 115, 116], [108, 97, 115, 116], [111, 102, 116, 101, 110], [116, 111, 116, 97, 108], [109, 111, 115, 116], [108, 101, 97, 115, 116], [110, 111, 116], [97, 110, 100], [111, 114], [97, 108, 108], [109, 105, 110], [109, 97, 120], [104, 111, 117, 114], [116, 97, 115, 116, 101], [119, 101, 105, 103, 104, 116], [112, 97, 114, 116, 115], [115, 101, 101, 110], [115, 99, 111, 114, 101], [110, 117, 109, 98, 101, 114], [119, 111, 114, 116, 104]]
/-- the class's words: 29 own, then those of questions -/
def wlC : List (List Int) := wlH ++ wlA.take 6
def cWw (M : am_M) : Prop := ∀ k, k < 35 → am_L M 31 k = am_l (c5 ((wlC.getD k []).map (fun a => a - 96)))
def mWw (M : am_M) : Prop := (∀ j, j < 29 → ∀ k, k < (wlH.getD j []).length → am_I M (190 + j) k = am_i ((wlH.getD j []).getD k 0)) ∧ (∀ j, j < 20 → ∀ k, k < (wlA.getD j []).length → am_I M (237 + j) k = am_i ((wlA.getD j []).getD k 0))
def cWp (M : am_M) (P : List (am_A × List Int)) (b : Nat) : Prop := ∃ o : Nat, o < 20 ∧ am_I M 2 6 = am_i o ∧ am_I M 2 7 = am_i P.length ∧ P.length ≤ 20 ∧ ∀ j a, P[j]? = some a → cA M (87 + 5 * ((o + (P.length - 1 - j)) % 20)) a.1 ∧ cK M (87 + 5 * ((o + (P.length - 1 - j)) % 20)) a.2 b
def mKo (M : am_M) (b o : Nat) (K : List Int) : Prop := am_I M b (o + 96) = am_i K.length ∧ K.length ≤ 40 ∧ ∀ k, k < K.length → am_I M b (o + (97 + 4 * k)) = am_i (K.getD k 0 / 128 / 24) ∧ am_I M b (o + (98 + 4 * k)) = am_i (K.getD k 0 / 128 % 24) ∧ am_I M b (o + (99 + 4 * k)) = am_i (K.getD k 0 / 8 % 16) ∧ am_I M b (o + (100 + 4 * k)) = am_i (K.getD k 0 % 8)
def mWp (M : am_M) (P : List (am_A × List Int)) : Prop := ∃ w : Nat, w < 20 ∧ am_I M 187 69 = am_i w ∧ am_I M 187 68 = am_i P.length ∧ P.length ≤ 20 ∧ ∀ j a, P[j]? = some a → mAo M 236 (257 * ((w + 20 - j) % 20)) a.1 ∧ mKo M 236 (257 * ((w + 20 - j) % 20)) a.2
def cWz (M : am_M) (Z : Nat → Nat → Int) : Prop := (∀ k, k < 1600 → am_I M 30 k = am_i (Z 0 k)) ∧ am_I M 2 2 = am_i (Z 1 0) ∧ am_I M 3 0 = am_i (Z 2 0) ∧ am_I M 3 1 = am_i (Z 2 1) ∧ (∀ k, k < 48 → am_I M 33 k = am_i (Z 3 k)) ∧ am_I M 2 9 = am_i (Z 4 0) ∧ (∀ k, k < 139 → am_I M 34 k = am_i (Z 5 k)) ∧ am_I M 2 11 = am_i (Z 6 0) ∧ (∀ k, k < 6 → am_I M 37 k = am_i (Z 7 k)) ∧ am_I M 2 15 = am_i (Z 8 0)
def mWz (M : am_M) (Z : Nat → Nat → Int) : Prop := (∀ k, k < 1600 → am_I M 188 k = am_i (Z 0 k)) ∧ am_I M 187 1 = am_i (Z 1 0) ∧ am_I M 187 7 = am_i (Z 2 0) ∧ am_I M 187 8 = am_i (Z 2 1) ∧ (∀ k, k < 48 → am_I M 235 k = am_i (Z 3 k)) ∧ am_I M 187 65 = am_i (Z 4 0) ∧ (∀ k, k < 139 → am_I M 260 k = am_i (Z 5 k)) ∧ am_I M 187 102 = am_i (Z 6 0) ∧ (∀ k, k < 6 → am_I M 189 k = am_i (Z 7 k)) ∧ am_L M 187 70 = am_l (Z 8 0)
/-- which houses are which -/
def qok (q : am_Pq) : Prop := (q.2.2.1 = 4 ∧ q.1 = 38 ∨ q.2.2.1 = 38 ∧ q.1 = 4) ∧ (q.2.2.2 = 4 ∨ q.2.2.2 = 38) ∧ (q.2.1 = 29 ∨ q.2.1 = 28 ∨ q.2.1 = 62)
/-- the class holds the world W, b bounds how many rows were kept ever -/
def cWo (q : am_Pq) (M : am_M) (W : am_Wo) (b : Nat) : Prop := cH M q.2.2.1 (wX W) ∧ cN M q.2.2.1 (wN W) (wX W) ∧ cG M q.2.2.1 (wG W) ∧ cA M 64 (wA W) ∧ cK M 64 (wK W) b ∧ cWp M (wP W) b ∧ cWz M (wZ W) ∧ cWw M
/-- the reference holds it -/
def mWo (M : am_M) (W : am_Wo) : Prop := mH M (wX W) ∧ mN M (wN W) (wX W) ∧ mG M (wG W) ∧ mA M (wA W) ∧ mK M (wK W) ∧ mWp M (wP W) ∧ mWz M (wZ W) ∧ mWw M ∧ am_I M 187 60 = am_i 0
def Rel (L : Nat) (xs : Nat → Int32) (M : am_M) (W : am_Wo) (b : Nat) : Prop := ∃ q, qok q ∧ am_Sh L q M ∧ cWo q M W b ∧ mWo M W ∧ wB W ∧ ∀ k, am_I M 0 k = xs k
/-- what the class may write for a while -/
def sC (q : am_Pq) (b k : Nat) : Prop := b = 35 ∨ b = 36 ∨ b = 29 ∨ (b = 3 ∧ 2 ≤ k) ∨ (q.1 ≤ b ∧ b < q.1 + 25) ∨ (b = 63 ∧ k = 4) ∨ (69 ≤ b ∧ b ≤ 70) ∨ (71 ≤ b ∧ b < 87) ∨ 187 ≤ b
/-- what the reference may -/
def sM (b k : Nat) : Prop := b < 187 ∨ (230 ≤ b ∧ b ≤ 234) ∨ (257 ≤ b ∧ b ≤ 259) ∨ (b = 219 ∧ k < 3) ∨ (b = 220 ∧ k < 24) ∨ (b = 221 ∧ k < 8) ∨ (b = 222 ∧ k < 48) ∨ (b = 223 ∧ k < 10) ∨ (b = 224 ∧ k < 30) ∨ (b = 225 ∧ k < 4) ∨ (b = 226 ∧ k < 3) ∨ (b = 227 ∧ k < 3) ∨ (b = 228 ∧ k < 1600) ∨ (b = 187 ∧ ((2 ≤ k ∧ k ≤ 6) ∨ k = 39 ∨ k = 46 ∨ (51 ≤ k ∧ k ≤ 53) ∨ (56 ≤ k ∧ k ≤ 59) ∨ k = 92 ∨ (94 ≤ k ∧ k ≤ 96) ∨ (98 ≤ k ∧ k ≤ 100)))
theorem sC_c {q : am_Pq} {b k : Nat} (h : 69 ≤ b ∧ b ≤ 70) : sC q b k := Or.inr (Or.inr (Or.inr (Or.inr (Or.inr (Or.inr (Or.inl h))))))
theorem sC_m {q : am_Pq} {b k : Nat} (h : 71 ≤ b ∧ b < 87) : sC q b k := Or.inr (Or.inr (Or.inr (Or.inr (Or.inr (Or.inr (Or.inr (Or.inl h)))))))
theorem sC_r {q : am_Pq} {b k : Nat} (h : 187 ≤ b) : sC q b k := Or.inr (Or.inr (Or.inr (Or.inr (Or.inr (Or.inr (Or.inr (Or.inr h)))))))
theorem sC_63 {q : am_Pq} {b k : Nat} (h : b = 63 ∧ k = 4) : sC q b k := Or.inr (Or.inr (Or.inr (Or.inr (Or.inr (Or.inl h)))))
theorem sC_h {q : am_Pq} {b k : Nat} (h : q.1 ≤ b ∧ b < q.1 + 25) : sC q b k := Or.inr (Or.inr (Or.inr (Or.inr (Or.inl h))))
theorem sC_3 {q : am_Pq} {b k : Nat} (h : b = 3 ∧ 2 ≤ k) : sC q b k := Or.inr (Or.inr (Or.inr (Or.inl h)))
theorem sC_29 {q : am_Pq} {b k : Nat} (h : b = 29) : sC q b k := Or.inr (Or.inr (Or.inl h))
theorem sC_35 {q : am_Pq} {b k : Nat} (h : b = 35) : sC q b k := Or.inl h
theorem sC_36 {q : am_Pq} {b k : Nat} (h : b = 36) : sC q b k := Or.inr (Or.inl h)
theorem sM_lt {b k : Nat} (h : b < 187) : sM b k := Or.inl h
theorem sM_230 {b k : Nat} (h : 230 ≤ b ∧ b ≤ 234) : sM b k := Or.inr (Or.inl h)
theorem sM_257 {b k : Nat} (h : 257 ≤ b ∧ b ≤ 259) : sM b k := Or.inr (Or.inr (Or.inl h))
theorem sM_187 {b k : Nat} (h : b = 187 ∧ ((2 ≤ k ∧ k ≤ 6) ∨ k = 39 ∨ k = 46 ∨ (51 ≤ k ∧ k ≤ 53) ∨ (56 ≤ k ∧ k ≤ 59) ∨ k = 92 ∨ (94 ≤ k ∧ k ≤ 96) ∨ (98 ≤ k ∧ k ≤ 100))) : sM b k := Or.inr (Or.inr (Or.inr (Or.inr (Or.inr (Or.inr (Or.inr (Or.inr (Or.inr (Or.inr (Or.inr (Or.inr (Or.inr h))))))))))))
theorem pM_s {b k : Nat} (h : pM b k) : sM b k ∧ 187 ≤ b := by
  rcases h with h | ⟨h, h2⟩
  · exact ⟨sM_257 (by omega), by omega⟩
  · exact ⟨sM_187 ⟨h, by omega⟩, by omega⟩
theorem mAo_mv {M M' : am_M} {b o : Nat} {A : am_A} (H : mAo M b o A) (e : ∀ k, am_I M' b k = am_I M b k) : mAo M' b o A := by
  obtain ⟨h1, h2, h3, h4, h5, h6⟩ := H
  exact ⟨(e _).trans h1, (e _).trans h2, fun q hq k hk => (e _).trans (h3 q hq k hk), fun q hq k hk => (e _).trans (h4 q hq k hk), fun p hp => (e _).trans (h5 p hp), fun p hp => (e _).trans (h6 p hp)⟩
theorem mKo_mv {M M' : am_M} {b o : Nat} {K : List Int} (H : mKo M b o K) (e : ∀ k, am_I M' b k = am_I M b k) : mKo M' b o K := by
  obtain ⟨h1, h2, h3⟩ := H
  exact ⟨(e _).trans h1, h2, fun k hk => ⟨(e _).trans (h3 k hk).1, (e _).trans (h3 k hk).2.1, (e _).trans (h3 k hk).2.2.1, (e _).trans (h3 k hk).2.2.2⟩⟩
theorem nM_8 {X : am_X} (B : hB X) {s : Nat} (hs : s < 3) : nM X s ≤ 8 := by
  have := nX_bd B hs
  unfold nM
  omega
theorem cWo_mv {q q' : am_Pq} {M M' : am_M} {W : am_Wo} {b : Nat} (H : cWo q M W b) (hq : qok q) (hB1 : hB (wX W)) (hq' : q'.2.2.1 = q.2.2.1) (f : fr (sC q) M M') : cWo q' M' W b := by
  obtain ⟨h1, h2, h3, h4, h5, h6, h7, h8⟩ := H
  obtain ⟨g1, -, -⟩ := hq
  have e : ∀ b k, ¬ sC q b k → am_I M' b k = am_I M b k := fun b k h => (f b k h).1
  have eh : ∀ b k, q.2.2.1 ≤ b → b < q.2.2.1 + 25 → am_I M' b k = am_I M b k := fun b k k1 k2 => e b k (by unfold sC; omega)
  unfold cWo
  rw [hq']
  refine ⟨cH_mv h1 hB1 (fun b k k1 k2 => eh b k k1 (by omega)), fun s hs w hw => (eh _ _ (by omega) (by omega)).trans (h2 s hs w hw), cG_mv h3 eh, cA_mv h4 (fun b k k1 k2 k3 => e b k (by unfold sC; omega)), cK_mv h5 (e _ _ (by unfold sC; omega)) (fun k => e _ _ (by unfold sC; omega)), ?_, ?_, fun k hk => by rw [(f 31 k (by unfold sC; omega)).2]; exact h8 k hk⟩
  · obtain ⟨o, k1, k2, k3, k4, k5⟩ := h6
    refine ⟨o, k1, (e _ _ (by unfold sC; omega)).trans k2, (e _ _ (by unfold sC; omega)).trans k3, k4, fun j a hj => ?_⟩
    obtain ⟨k6, k7⟩ := k5 j a hj
    exact ⟨cA_mv k6 (fun b k j1 j2 j3 => e b k (by unfold sC; omega)), cK_mv k7 (e _ _ (by unfold sC; omega)) (fun k => e _ _ (by unfold sC; omega))⟩
  · obtain ⟨k1, k2, k3, k4, k5, k6, k7, k8, k9, k10⟩ := h7
    exact ⟨fun k hk => (e _ _ (by unfold sC; omega)).trans (k1 k hk), (e _ _ (by unfold sC; omega)).trans k2, (e _ _ (by unfold sC; omega)).trans k3, (e _ _ (by unfold sC; omega)).trans k4, fun k hk => (e _ _ (by unfold sC; omega)).trans (k5 k hk), (e _ _ (by unfold sC; omega)).trans k6, fun k hk => (e _ _ (by unfold sC; omega)).trans (k7 k hk), (e _ _ (by unfold sC; omega)).trans k8, fun k hk => (e _ _ (by unfold sC; omega)).trans (k9 k hk), (e _ _ (by unfold sC; omega)).trans k10⟩
theorem mWo_mv {M M' : am_M} {W : am_Wo} (H : mWo M W) (hB1 : hB (wX W)) (f : fr sM M M') : mWo M' W := by
  obtain ⟨h1, h2, h3, h4, h5, h6, h7, h8, h9⟩ := H
  have e : ∀ b k, ¬ sM b k → am_I M' b k = am_I M b k := fun b k h => (f b k h).1
  obtain ⟨u1, u2, u3, u4, u5, u6, u7⟩ := h1
  refine ⟨⟨fun k hk => (e _ _ (by unfold sM; omega)).trans (u1 k hk), fun k hk => (e _ _ (by unfold sM; omega)).trans (u2 k hk), fun p hp k hk => (e _ _ (by unfold sM; omega)).trans (u3 p hp k hk), fun k hk => (e _ _ (by unfold sM; omega)).trans (u4 k hk), fun k hk => (e _ _ (by unfold sM; omega)).trans (u5 k hk), fun p hp k hk => (e _ _ (by unfold sM; omega)).trans (u6 p hp k hk), fun k hk => (e _ _ (by unfold sM; omega)).trans (u7 k hk)⟩, fun s hs w hw => ?_, ?_, mA_mv h4 (fun k hk => e _ _ (by unfold sM; omega)), mK_mv h5 (fun k hk => e _ _ (by unfold sM; omega)), ?_, ?_, ?_, (e _ _ (by unfold sM; omega)).trans h9⟩
  · have := nM_8 hB1 hs
    rw [(f 220 _ (by unfold sM; omega)).2]
    exact h2 s hs w hw
  · exact mG_mv h3 (fun b k k1 k2 k3 k4 => e _ _ (by unfold sM; omega))
  · obtain ⟨w, k1, k2, k3, k4, k5⟩ := h6
    refine ⟨w, k1, (e _ _ (by unfold sM; omega)).trans k2, (e _ _ (by unfold sM; omega)).trans k3, k4, fun j a hj => ?_⟩
    obtain ⟨k6, k7⟩ := k5 j a hj
    exact ⟨mAo_mv k6 (fun k => e _ _ (by unfold sM; omega)), mKo_mv k7 (fun k => e _ _ (by unfold sM; omega))⟩
  · obtain ⟨k1, k2, k3, k4, k5, k6, k7, k8, k9, k10⟩ := h7
    exact ⟨fun k hk => (e _ _ (by unfold sM; omega)).trans (k1 k hk), (e _ _ (by unfold sM; omega)).trans k2, (e _ _ (by unfold sM; omega)).trans k3, (e _ _ (by unfold sM; omega)).trans k4, fun k hk => (e _ _ (by unfold sM; omega)).trans (k5 k hk), (e _ _ (by unfold sM; omega)).trans k6, fun k hk => (e _ _ (by unfold sM; omega)).trans (k7 k hk), (e _ _ (by unfold sM; omega)).trans k8, fun k hk => (e _ _ (by unfold sM; omega)).trans (k9 k hk), by rw [(f 187 70 (by unfold sM; omega)).2]; exact k10⟩
  · exact ⟨fun j hj k hk => (e _ _ (by unfold sM; omega)).trans (h8.1 j hj k hk), fun j hj k hk => (e _ _ (by unfold sM; omega)).trans (h8.2 j hj k hk)⟩
theorem cWp_le {M : am_M} {P : List (am_A × List Int)} {b b' : Nat} (H : cWp M P b) (h : b ≤ b') : cWp M P b' := by
  obtain ⟨o, k1, k2, k3, k4, k5⟩ := H
  exact ⟨o, k1, k2, k3, k4, fun j a hj => ⟨(k5 j a hj).1, cK_le (k5 j a hj).2 h⟩⟩
theorem cWo_le {q : am_Pq} {M : am_M} {W : am_Wo} {b b' : Nat} (H : cWo q M W b) (h : b ≤ b') : cWo q M W b' := by
  obtain ⟨h1, h2, h3, h4, h5, h6, h7, h8⟩ := H
  exact ⟨h1, h2, h3, h4, cK_le h5 h, cWp_le h6 h, h7, h8⟩
/-- what a call owes -/
def Call (L : Nat) (xs : Nat → Int32) (mc mm : Nat) (a : List Value) (M : am_M) (b : Nat) : Prop := ∃ (v : Value) (M1 M2 : am_M) (W' : am_Wo), am_cl mc 599 (.ref 2 :: a) M = some (some v, M1) ∧ am_cl mm 599 (.ref 187 :: a) M1 = some (some v, M2) ∧ Rel L xs M2 W' (b + 600) ∧ ((∃ z, v = .int z) ∨ ∃ z, v = .long z)
/-- a call that leaves the world as it was -/
theorem Call_of {L : Nat} {xs : Nat → Int32} {mc mm : Nat} {a : List Value} {M M1 M2 : am_M} {W : am_Wo} {b : Nat} {q q' : am_Pq} {v : Value} (hv : (∃ z, v = .int z) ∨ ∃ z, v = .long z) (hq : qok q) (HC : cWo q M W b) (HM : mWo M W) (B : wB W) (h0 : ∀ k, am_I M 0 k = xs k)
    (r1 : am_cl mc 599 (.ref 2 :: a) M = some (some v, M1)) (f1 : fr (fun b k => sC q b k ∧ b < 187) M M1) (hq' : qok q') (hqq : q'.2.2.1 = q.2.2.1) (r2 : am_cl mm 599 (.ref 187 :: a) M1 = some (some v, M2)) (f2 : fr (fun b k => sM b k ∧ 187 ≤ b) M1 M2) (S2 : am_Sh L q' M2) : Call L xs mc mm a M b := by
  refine ⟨v, M1, M2, W, r1, r2, ⟨q', hq', S2, cWo_le (cWo_mv HC hq B.1 hqq ?_) (by omega), mWo_mv HM B.1 ?_, B, fun k => ?_⟩, hv⟩
  · exact fr_tr (fr_mono f1 (fun b k h => h.1)) (fr_mono f2 (fun b k h => sC_r h.2))
  · exact fr_tr (fr_mono f1 (fun b k h => sM_lt h.2)) (fr_mono f2 (fun b k h => h.1))
  · rw [(f2 0 k (by unfold sM; omega)).1, (f1 0 k ?_).1]
    · exact h0 k
    · obtain ⟨g1, -, -⟩ := hq
      unfold sC
      omega
theorem mWo_back {M M' : am_M} {W : am_Wo} (H : mWo M W) (hB1 : hB (wX W)) (f : fr (fun b k => sM b k ∨ (b = 229 ∧ k < 96) ∨ (b = 187 ∧ k = 60)) M M') (hA : mA M' (wA W)) (h60 : am_I M' 187 60 = am_i 0) : mWo M' W := by
  -- the memory with the old account's cells and flag put in its place
  have hI : ∀ b k, am_I M' b k = am_I M' b k := fun _ _ => rfl
  let N : am_M := (am_K M', (fun b k => if (b = 229 ∧ k < 96) ∨ (b = 187 ∧ k = 60) then am_I M b k else am_I M' b k), (fun b k => if (b = 229 ∧ k < 96) ∨ (b = 187 ∧ k = 60) then am_L M b k else am_L M' b k), am_R M', am_n M', am_s M')
  have eI : ∀ b k, ¬ ((b = 229 ∧ k < 96) ∨ (b = 187 ∧ k = 60)) → am_I M' b k = am_I N b k := fun b k h => (if_neg h).symm
  have eL : ∀ b k, ¬ ((b = 229 ∧ k < 96) ∨ (b = 187 ∧ k = 60)) → am_L M' b k = am_L N b k := fun b k h => (if_neg h).symm
  have hN : mWo N W := by
    refine mWo_mv H hB1 (fun b k h => ?_)
    by_cases g : (b = 229 ∧ k < 96) ∨ (b = 187 ∧ k = 60)
    · exact ⟨if_pos g, if_pos g⟩
    · obtain ⟨g1, g2⟩ := f b k (fun h2 => h2.elim h g)
      exact ⟨(if_neg g).trans g1, (if_neg g).trans g2⟩
  obtain ⟨h1, h2, h3, h4, h5, h6, h7, h8, h9⟩ := hN
  refine ⟨mH_mv h1 hB1 (fun b k k1 k2 k3 => eI b k (by omega)), fun s hs w hw => by rw [eL 220 _ (by omega)]; exact h2 s hs w hw, mG_mv h3 (fun b k k1 k2 k3 k4 => eI b k (by omega)), hA, mK_mv h5 (fun k hk => eI _ _ (by omega)), ?_, ?_, ⟨fun j hj k hk => (eI _ _ (by omega)).trans (h8.1 j hj k hk), fun j hj k hk => (eI _ _ (by omega)).trans (h8.2 j hj k hk)⟩, h60⟩
  · obtain ⟨w, k1, k2, k3, k4, k5⟩ := h6
    refine ⟨w, k1, (eI _ _ (by omega)).trans k2, (eI _ _ (by omega)).trans k3, k4, fun j a hj => ?_⟩
    obtain ⟨k6, k7⟩ := k5 j a hj
    exact ⟨mAo_mv k6 (fun k => eI _ _ (by omega)), mKo_mv k7 (fun k => eI _ _ (by omega))⟩
  · obtain ⟨k1, k2, k3, k4, k5, k6, k7, k8, k9, k10⟩ := h7
    exact ⟨fun k hk => (eI _ _ (by omega)).trans (k1 k hk), (eI _ _ (by omega)).trans k2, (eI _ _ (by omega)).trans k3, (eI _ _ (by omega)).trans k4, fun k hk => (eI _ _ (by omega)).trans (k5 k hk), (eI _ _ (by omega)).trans k6, fun k hk => (eI _ _ (by omega)).trans (k7 k hk), (eI _ _ (by omega)).trans k8, fun k hk => (eI _ _ (by omega)).trans (k9 k hk), by rw [eL 187 70 (by omega)]; exact k10⟩
/-- a call that looks ahead: the account is back at its end -/
theorem Call_ahead {L : Nat} {xs : Nat → Int32} {mc mm : Nat} {a : List Value} {M M1 M2 : am_M} {W : am_Wo} {b : Nat} {q q' : am_Pq} {v : Value} (hv : (∃ z, v = .int z) ∨ ∃ z, v = .long z) (hq : qok q) (HC : cWo q M W b) (HM : mWo M W) (B : wB W) (h0 : ∀ k, am_I M 0 k = xs k)
    (r1 : am_cl mc 599 (.ref 2 :: a) M = some (some v, M1)) (f1 : fr (fun b k => sC q b k ∧ b < 187) M M1) (hq' : qok q') (hqq : q'.2.2.1 = q.2.2.1) (r2 : am_cl mm 599 (.ref 187 :: a) M1 = some (some v, M2)) (f2 : fr (fun b k => (sM b k ∨ (b = 229 ∧ k < 96) ∨ (b = 187 ∧ k = 60)) ∧ 187 ≤ b) M1 M2) (hA : mA M2 (wA W)) (h60 : am_I M2 187 60 = am_i 0) (S2 : am_Sh L q' M2) : Call L xs mc mm a M b := by
  refine ⟨v, M1, M2, W, r1, r2, ⟨q', hq', S2, cWo_le (cWo_mv HC hq B.1 hqq ?_) (by omega), mWo_back HM B.1 ?_ hA h60, B, fun k => ?_⟩, hv⟩
  · exact fr_tr (fr_mono f1 (fun b k h => h.1)) (fr_mono f2 (fun b k h => sC_r h.2))
  · exact fr_tr (fr_mono f1 (fun b k h => Or.inl (sM_lt h.2))) (fr_mono f2 (fun b k h => h.1))
  · rw [(f2 0 k (by omega)).1, (f1 0 k ?_).1]
    · exact h0 k
    · obtain ⟨g1, -, -⟩ := hq
      unfold sC
      omega
