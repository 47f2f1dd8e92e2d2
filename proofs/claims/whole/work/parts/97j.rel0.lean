/-! Class and reference, once they are made, hold the same world: no house, nobody. -/
def q00 : am_Pq := (4, 29, 38, 38)
def Z00 : Nat → Nat → Int := fun a b => if a = 2 ∧ b = 1 then -1 else if a = 8 ∧ b = 0 then 1 else 0
def W00 : am_Wo := (X0h, fun _ _ => [], fun _ => none, azr, [], [], Z00)
def eqz : List Nat → List Nat → Bool
  | [], m => m.all (fun x => Nat.beq x 0)
  | l, [] => l.all (fun x => Nat.beq x 0)
  | a :: l, b :: m => Nat.beq a b && eqz l m
theorem all0 : ∀ (m : List Nat), m.all (fun x => Nat.beq x 0) = true → ∀ j, m.getD j 0 = 0
  | [], _, _ => rfl
  | a :: m, h, 0 => by
    rw [List.all_cons, Bool.and_eq_true] at h
    exact Nat.eq_of_beq_eq_true h.1
  | a :: m, h, j + 1 => by
    rw [List.all_cons, Bool.and_eq_true] at h
    exact all0 m h.2 j
theorem eqz_get : ∀ (l m : List Nat), eqz l m = true → ∀ j, l.getD j 0 = m.getD j 0
  | [], m, h, j => (all0 m (by unfold eqz at h; exact h) j).symm
  | a :: l, [], h, j => all0 (a :: l) (by unfold eqz at h; exact h) j
  | a :: l, b :: m, h, j => by
    unfold eqz at h
    rw [Bool.and_eq_true] at h
    match j with
    | 0 => exact Nat.eq_of_beq_eq_true h.1
    | j + 1 => exact eqz_get l m h.2 j
theorem cv_rows : ∀ r : Fin 261, eqz (cvS4.2.2.2.1.getD r.val []) ((ls_cell 0 (ls_cell 0 (ls_cell 0 (ls_cell 0 am_rl0 3 2 4) 3 14 29) 63 0 38) 75 0 38).getD r.val []) = true := by decide +kernel
theorem am_r0_o (r j : Nat) : am_r0 r j = cv_o ((am_rl0.getD r []).getD j 0) := by
  unfold am_r0
  cases (am_rl0.getD r []).getD j 0 with
  | zero => rfl
  | succ t => rfl
theorem cv_Sh (L : Nat) (xs : Nat → Int32) : am_Sh L q00 (den L xs cvS4) := by
  refine ⟨fun r => ?_, fun r hr j hj => ?_, show cvS4.1.length = 261 by decide +kernel, rfl⟩
  · have e : cvS4.1 = am_kl0 := by decide +kernel
    show (if r = 0 then (2, L) else cvS4.1.getD r (0, 0)) = am_kk L r
    rw [e]
    rfl
  · have h := eqz_get _ _ (cv_rows ⟨r, hr⟩) j
    show cv_o ((cvS4.2.2.2.1.getD r []).getD j 0) = am_rr q00 r j
    have h : (cvS4.2.2.2.1.getD r []).getD j 0 = ((ls_cell 0 (ls_cell 0 (ls_cell 0 (ls_cell 0 am_rl0 3 2 4) 3 14 29) 63 0 38) 75 0 38).getD r []).getD j 0 := h
    rw [h, ls_cell_get, ls_cell_get, ls_cell_get, ls_cell_get]
    unfold am_rr
    by_cases g1 : r = 3 ∧ j = 2
    · rw [if_pos g1, if_neg (by omega), if_neg (by omega), if_neg (by omega), if_pos g1]; rfl
    · rw [if_neg g1, if_neg g1]
      by_cases g2 : r = 3 ∧ j = 14
      · rw [if_pos g2, if_neg (by omega), if_neg (by omega), if_pos g2]; rfl
      · rw [if_neg g2, if_neg g2]
        by_cases g3 : r = 63 ∧ j = 0
        · rw [if_pos g3, if_neg (by omega), if_pos g3]; rfl
        · rw [if_neg g3, if_neg g3]
          by_cases g4 : r = 75 ∧ j = 0
          · rw [if_pos g4, if_pos g4]; rfl
          · rw [if_neg g4, if_neg g4, am_r0_o]
/-- where a number stands at the beginning -/
def spc (b : Nat) : Prop := b = 2 ∨ b = 3 ∨ b = 4 ∨ b = 38 ∨ b = 187 ∨ b = 225 ∨ b = 226 ∨ (190 ≤ b ∧ b < 219) ∨ (237 ≤ b ∧ b < 257)
theorem cv_zr : ∀ b : Fin 257, (b.val = 2 ∨ b.val = 3 ∨ b.val = 4 ∨ b.val = 38 ∨ b.val = 187 ∨ b.val = 225 ∨ b.val = 226 ∨ (190 ≤ b.val ∧ b.val < 219) ∨ (237 ≤ b.val ∧ b.val < 257)) ∨ (cvS4.2.1.getD b.val []).all (fun x => decide (x = 0)) = true := by decide +kernel
theorem allI0 : ∀ (m : List Int), m.all (fun x => decide (x = 0)) = true → ∀ j, m.getD j 0 = 0
  | [], _, _ => rfl
  | a :: m, h, 0 => by
    rw [List.all_cons, Bool.and_eq_true] at h
    exact of_decide_eq_true h.1
  | a :: m, h, j + 1 => by
    rw [List.all_cons, Bool.and_eq_true] at h
    exact allI0 m h.2 j
theorem cv_il : cvS4.2.1.length = 257 := by decide +kernel
theorem cv_z {L : Nat} {xs : Nat → Int32} {b : Nat} (h : ¬ spc b) (h0 : b ≠ 0) (k : Nat) : am_I (den L xs cvS4) b k = am_i 0 := by
  show (if b = 0 then xs k else am_i (cv_I cvS4 b k)) = am_i 0
  rw [if_neg h0]
  have : cv_I cvS4 b k = 0 := by
    unfold cv_I
    by_cases g : b < 257
    · exact allI0 _ ((cv_zr ⟨b, g⟩).resolve_left h) k
    · rw [getD_out _ cvS4.2.1 b (by rw [cv_il]; omega)]
      rfl
  rw [this]
theorem cv_i {L : Nat} {xs : Nat → Int32} {b k : Nat} {v : Int} (h0 : b ≠ 0) (h : cv_I cvS4 b k = v) : am_I (den L xs cvS4) b k = am_i v := by
  show (if b = 0 then xs k else am_i (cv_I cvS4 b k)) = am_i v
  rw [if_neg h0, h]
theorem cv_w1 : ∀ k : Fin 35, cv_L cvS4 31 k.val = c5 ((wlC.getD k.val []).map (fun a => a - 96)) := by decide +kernel
theorem cv_w2 : ∀ j : Fin 29, (wlH.getD j.val []).length ≤ 8 ∧ ∀ k : Fin 8, k.val < (wlH.getD j.val []).length → cv_I cvS4 (190 + j.val) k.val = (wlH.getD j.val []).getD k.val 0 := by decide +kernel
theorem cv_w3 : ∀ j : Fin 20, (wlA.getD j.val []).length ≤ 8 ∧ ∀ k : Fin 8, k.val < (wlA.getD j.val []).length → cv_I cvS4 (237 + j.val) k.val = (wlA.getD j.val []).getD k.val 0 := by decide +kernel
theorem azr_0 (a b c : Nat) : azr a b c = 0 := rfl
theorem X0h_0 {a b c : Nat} (h : a ≠ 8) : X0h a b c = 0 := if_neg h
theorem cv_cWo (L : Nat) (xs : Nat → Int32) : cWo q00 (den L xs cvS4) W00 0 := by
  have z : ∀ b k, ¬ spc b → b ≠ 0 → am_I (den L xs cvS4) b k = am_i 0 := fun b k h h0 => cv_z h h0 k
  refine ⟨⟨fun k hk => ?_, fun f hf => absurd hf (Nat.not_lt_zero f), fun f hf => absurd hf (Nat.not_lt_zero f), fun f hf => absurd hf (Nat.not_lt_zero f), fun f hf => absurd hf (Nat.not_lt_zero f), fun f hf => absurd hf (Nat.not_lt_zero f), fun j hj => ?_⟩, fun s hs w hw => ?_, fun j hj => ?_, ⟨?_, ?_, fun q hq k hk => ?_, fun q hq k hk => ?_, fun p hp => ?_⟩, ⟨0, Nat.le_refl 0, ?_, rfl, fun k hk => absurd hk (Nat.not_lt_zero k)⟩, ⟨0, by decide, ?_, ?_, by show 0 ≤ 20; omega, fun j a h => by cases h⟩, ⟨fun k hk => ?_, ?_, ?_, ?_, fun k hk => ?_, ?_, fun k hk => ?_, ?_, fun k hk => ?_, ?_⟩, fun k hk => ?_⟩
  · show am_I (den L xs cvS4) 39 k = am_i (X0h 0 k 0)
    rw [X0h_0 (by decide)]
    exact z _ _ (by unfold spc; omega) (by omega)
  · have key : ∀ j : Fin 5, cv_I cvS4 38 (7 + j.val) = X0h (7 + j.val) 0 0 := by decide +kernel
    exact cv_i (by decide) (key ⟨j, hj⟩)
  · exfalso
    have e : nM X0h s = 0 := by
      unfold nM
      rw [X0h_0 (by decide)]
      rfl
    have hw : w < nM X0h s := hw
    omega
  · have key : ∀ j : Fin 3, cv_I cvS4 38 (12 + j.val) = -1 := by decide +kernel
    exact cv_i (by decide) (key ⟨j, hj⟩)
  · exact z _ _ (by unfold spc; omega) (by omega)
  · exact z _ _ (by unfold spc; omega) (by omega)
  · exact z _ _ (by unfold spc; omega) (by omega)
  · exact z _ _ (by unfold spc; omega) (by omega)
  · exact z _ _ (by unfold spc; omega) (by omega)
  · exact z _ _ (by unfold spc; omega) (by omega)
  · exact cv_i (by decide) (by decide +kernel)
  · exact cv_i (by decide) (by decide +kernel)
  · rw [z _ _ (by unfold spc; omega) (by omega)]; rfl
  · exact cv_i (by decide) (by decide +kernel)
  · exact cv_i (by decide) (by decide +kernel)
  · exact cv_i (by decide) (by decide +kernel)
  · rw [z _ _ (by unfold spc; omega) (by omega)]; rfl
  · exact cv_i (by decide) (by decide +kernel)
  · rw [z _ _ (by unfold spc; omega) (by omega)]; rfl
  · exact cv_i (by decide) (by decide +kernel)
  · rw [z _ _ (by unfold spc; omega) (by omega)]; rfl
  · exact cv_i (by decide) (by decide +kernel)
  · exact congrArg am_l (cv_w1 ⟨k, hk⟩)
theorem cv_mWo (L : Nat) (xs : Nat → Int32) : mWo (den L xs cvS4) W00 := by
  have z : ∀ b k, ¬ spc b → b ≠ 0 → am_I (den L xs cvS4) b k = am_i 0 := fun b k h h0 => cv_z h h0 k
  have p0 : ∀ p, prs azr p = 0 := fun p => by
    unfold prs
    rw [azr_0]
    simp
  refine ⟨⟨fun k hk => ?_, fun f hf => absurd hf (Nat.not_lt_zero f), fun f hf => absurd hf (Nat.not_lt_zero f), fun f hf => absurd hf (Nat.not_lt_zero f), fun f hf => absurd hf (Nat.not_lt_zero f), fun f hf => absurd hf (Nat.not_lt_zero f), fun j hj => ?_⟩, fun s hs w hw => ?_, fun j hj => ?_, ⟨?_, ?_, fun q hq k hk => ?_, fun q hq k hk => ?_, fun p hp => ?_, fun p hp => ?_⟩, ⟨?_, by show 0 ≤ 40; omega, fun k hk => absurd hk (Nat.not_lt_zero k)⟩, ⟨0, by decide, ?_, ?_, by show 0 ≤ 20; omega, fun j a h => by cases h⟩, ⟨fun k hk => ?_, ?_, ?_, ?_, fun k hk => ?_, ?_, fun k hk => ?_, ?_, fun k hk => ?_, ?_⟩, ⟨fun j hj k hk => ?_, fun j hj k hk => ?_⟩, ?_⟩
  · show am_I (den L xs cvS4) 219 (3 + k) = am_i (X0h 0 k 0)
    rw [X0h_0 (by decide)]
    exact z _ _ (by unfold spc; omega) (by omega)
  · have key : ∀ j : Fin 4, cv_I cvS4 225 (4 + j.val) = X0h (8 + j.val) 0 0 := by decide +kernel
    exact cv_i (by decide) (key ⟨j, hj⟩)
  · exfalso
    have e : nM X0h s = 0 := by
      unfold nM
      rw [X0h_0 (by decide)]
      rfl
    have hw : w < nM X0h s := hw
    omega
  · have key : ∀ j : Fin 3, cv_I cvS4 226 (3 + j.val) = -1 := by decide +kernel
    exact cv_i (by decide) (key ⟨j, hj⟩)
  · rw [z _ _ (by unfold spc; omega) (by omega)]; rfl
  · rw [z _ _ (by unfold spc; omega) (by omega)]; rfl
  · exact z _ _ (by unfold spc; omega) (by omega)
  · exact z _ _ (by unfold spc; omega) (by omega)
  · rw [z _ _ (by unfold spc; omega) (by omega)]
    exact (congrArg am_i (p0 p)).symm
  · exact z _ _ (by unfold spc; omega) (by omega)
  · exact z _ _ (by unfold spc; omega) (by omega)
  · exact cv_i (by decide) (by decide +kernel)
  · exact cv_i (by decide) (by decide +kernel)
  · rw [z _ _ (by unfold spc; omega) (by omega)]; rfl
  · exact cv_i (by decide) (by decide +kernel)
  · exact cv_i (by decide) (by decide +kernel)
  · exact cv_i (by decide) (by decide +kernel)
  · rw [z _ _ (by unfold spc; omega) (by omega)]; rfl
  · exact cv_i (by decide) (by decide +kernel)
  · rw [z _ _ (by unfold spc; omega) (by omega)]; rfl
  · exact cv_i (by decide) (by decide +kernel)
  · rw [z _ _ (by unfold spc; omega) (by omega)]; rfl
  · show am_l (cv_L cvS4 187 70) = am_l (Z00 8 0)
    exact congrArg am_l (by decide +kernel)
  · have h := cv_w2 ⟨j, hj⟩
    exact cv_i (by omega) (h.2 ⟨k, Nat.lt_of_lt_of_le hk h.1⟩ hk)
  · have h := cv_w3 ⟨j, hj⟩
    exact cv_i (by omega) (h.2 ⟨k, Nat.lt_of_lt_of_le hk h.1⟩ hk)
  · exact cv_i (by decide) (by decide +kernel)
theorem W00_B : wB W00 := by
  have h := (hI_0 0).1
  have hg := (hI_0 0).2.1
  have z9 : ∀ c : Int, 0 ≤ c → (0 : Int) ≤ 0 ∧ (0 : Int) ≤ c := fun c hc => ⟨Int.le_refl 0, hc⟩
  have ha : aB X0h azr := ⟨z9 23999 (by decide), ⟨Int.le_refl 0, by decide⟩, fun q hq k hk => z9 999 (by decide), fun q hq f hf => ⟨Int.le_refl 0, fun g => absurd g (Nat.not_lt_zero f)⟩, fun p hp => z9 9999 (by decide), fun q hq k hk g => rfl, fun q hq k hk g => rfl, fun p hp g => rfl⟩
  refine ⟨h.1, h.2.1, hg, ha, fun r hr => (by cases hr), fun a ha => (by cases ha), ⟨fun k => ?_, ?_, ?_, fun r hr => ?_, ?_, ?_⟩⟩
  · show 0 ≤ Z00 0 k ∧ Z00 0 k ≤ 255
    have e : Z00 0 k = 0 := by unfold Z00; rw [if_neg (by omega), if_neg (by omega)]
    rw [e]; omega
  · show 0 ≤ Z00 1 0 ∧ Z00 1 0 ≤ 1600; decide
  · show 0 ≤ Z00 4 0 ∧ Z00 4 0 ≤ 16; decide
  · have e : Z00 4 0 = 0 := by decide
    have hr : (r : Int) < Z00 4 0 := hr
    omega
  · show 0 ≤ Z00 6 0 ∧ Z00 6 0 ≤ 139; decide
  · show 0 ≤ Z00 8 0 ∧ Z00 8 0 ≤ 2147483647; decide
theorem cv_Rel (L : Nat) (xs : Nat → Int32) : Rel L xs (den L xs cvS4) W00 0 := ⟨q00, ⟨Or.inr ⟨rfl, rfl⟩, Or.inr rfl, Or.inl rfl⟩, cv_Sh L xs, cv_cWo L xs, cv_mWo L xs, W00_B, fun k => (if_pos rfl : (if (0 : Nat) = 0 then xs k else am_i (cv_I cvS4 0 k)) = xs k)⟩
theorem cv_M0 (L : Nat) (xs : Nat → Int32) : ((fun r => if r = 0 then (2, L) else (0, 0), fun r j => if r = 0 then xs j else 0, fun _ _ => 0, fun _ _ => none, 2, 0) : am_M) = den L xs cvS0 := by
  refine am_ext ?_ ?_ ?_ ?_ rfl rfl
  · funext r
    show (if r = 0 then (2, L) else (0, 0)) = if r = 0 then (2, L) else cvS0.1.getD r (0, 0)
    by_cases g : r = 0
    · rw [if_pos g, if_pos g]
    · rw [if_neg g, if_neg g]
      match r, g with
      | 1, _ => rfl
      | r + 2, _ => rfl
  · funext r j
    show (if r = 0 then xs j else 0) = if r = 0 then xs j else am_i (cv_I cvS0 r j)
    by_cases g : r = 0
    · rw [if_pos g, if_pos g]
    · rw [if_neg g, if_neg g]; rfl
  · funext r j
    rfl
  · funext r j
    rfl
