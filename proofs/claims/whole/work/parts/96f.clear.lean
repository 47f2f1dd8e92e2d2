/-! The class: a house is cleared. -/
theorem Sh_314 {L : Nat} {q : am_Pq} {M : am_M} (S : am_Sh L q M) (v : Nat) : am_Sh L (q.1, v, q.2.2.1, q.2.2.2) (am_sR M 3 14 v) := by
  obtain ⟨h1, h2, h3, h4⟩ := S
  refine ⟨h1, fun r hr j hj => ?_, h3, h4⟩
  show (if r = 3 ∧ j = 14 then some v else am_R M r j) = am_rr (q.1, v, q.2.2.1, q.2.2.2) r j
  unfold am_rr
  by_cases g : r = 3 ∧ j = 14
  · rw [if_pos g, if_neg (by omega), if_pos g]
  · rw [if_neg g, h2 r hr j hj]
    unfold am_rr
    simp only [if_neg g]
theorem c_clr30 {L : Nat} {q : am_Pq} {h : Nat} (hh : isH h) {k : Nat} (hk : k < 6) (d : Nat) : ∀ m f : Nat, f + m = 8 → ∀ {M}, am_Sh L q M → ∃ M', am_ev 85 d 30 [.ref h, .int (am_i (k : Int)), .int (am_i (f : Int))] [] M = am_ev 85 d 53 [.ref h, .int (am_i (k : Int)), .int (am_i 0)] [] M' ∧ am_Sh L q M' ∧ fr (fun b j => h + 8 + f ≤ b ∧ b < h + 16 ∧ j = k) M M' ∧ ∀ i, f ≤ i → i < 8 → am_I M' (h + 8 + i) k = am_i 0 := by
  have hh' : h = 4 ∨ h = 38 := hh
  intro m
  induction m with
  | zero =>
    intro f hf M S
    refine ⟨M, ?_, S, fun b j _ => ⟨rfl, rfl⟩, fun i h1 h2 => by omega⟩
    rw [t85_30, am_br_ge (by omega) (by omega) (by omega) (by omega), if_pos (by omega)]
  | succ m ih =>
    intro f hf M S
    have S1 := S.sI (h + 8 + f) k (am_i 0)
    obtain ⟨M', r, S', f', e'⟩ := ih (f + 1) (by omega) S1
    refine ⟨M', ?_, S', fr_tr (fr_sI (by omega)) (fr_mono f' (fun b j hb => by omega)), fun i h1 h2 => ?_⟩
    · rw [t85_30, am_br_ge (by omega) (by omega) (by omega) (by omega), if_neg (by omega), am_ob_p (H_k0 S hh), H_r0_3 S hh, am_gr_p, am_iq_p (H_k7 S hh) (by omega) (by omega) (by omega) (by omega), am_i_ix (by omega) (by omega), Int.toNat_natCast, H_r7 S hh (show f < 8 by omega), am_gr_p, am_iw_p (H_q7 S hh (show f < 8 by omega)) (by omega) (by omega) (by omega) (by omega), am_i_ix (by omega) (by omega), Int.toNat_natCast, am_lt, am_i_add]
      exact r
    · by_cases g : i = f
      · subst g
        rw [(f' _ _ (by omega)).1, am_I_same]
      · exact e' i (by omega) h2
theorem c_clr53 {L : Nat} {q : am_Pq} {h : Nat} (hh : isH h) {k : Nat} (hk : k < 6) (d : Nat) : ∀ m f : Nat, f + m = 5 → ∀ {M}, am_Sh L q M → ∃ M' v, am_ev 85 d 53 [.ref h, .int (am_i (k : Int)), .int (am_i (f : Int))] [] M = am_ev 85 d 22 [.ref h, .int (am_i ((k + 1 : Nat) : Int)), v] [] M' ∧ am_Sh L q M' ∧ fr (fun b j => h + 19 + f ≤ b ∧ b < h + 24 ∧ j = k) M M' ∧ ∀ i, f ≤ i → i < 5 → am_I M' (h + 19 + i) k = am_i 0 := by
  have hh' : h = 4 ∨ h = 38 := hh
  intro m
  induction m with
  | zero =>
    intro f hf M S
    refine ⟨M, .int (am_i (f : Int)), ?_, S, fun b j _ => ⟨rfl, rfl⟩, fun i h1 h2 => by omega⟩
    rw [t85_53, am_br_ge (by omega) (by omega) (by omega) (by omega), if_pos (by omega), am_i_add]
    rfl
  | succ m ih =>
    intro f hf M S
    have S1 := S.sI (h + 19 + f) k (am_i 0)
    obtain ⟨M', v, r, S', f', e'⟩ := ih (f + 1) (by omega) S1
    refine ⟨M', v, ?_, S', fr_tr (fr_sI (by omega)) (fr_mono f' (fun b j hb => by omega)), fun i h1 h2 => ?_⟩
    · rw [t85_53, am_br_ge (by omega) (by omega) (by omega) (by omega), if_neg (by omega), am_ob_p (H_k0 S hh), H_r0_6 S hh, am_gr_p, am_iq_p (H_k18 S hh) (by omega) (by omega) (by omega) (by omega), am_i_ix (by omega) (by omega), Int.toNat_natCast, H_r18 S hh (show f < 5 by omega), am_gr_p, am_iw_p (H_q18 S hh (show f < 5 by omega)) (by omega) (by omega) (by omega) (by omega), am_i_ix (by omega) (by omega), Int.toNat_natCast, am_lt, am_i_add]
      exact r
    · by_cases g : i = f
      · subst g
        rw [(f' _ _ (by omega)).1, am_I_same]
      · exact e' i (by omega) h2
theorem c_clr22 {L : Nat} {q : am_Pq} {h : Nat} (hh : isH h) (d : Nat) : ∀ m k : Nat, k + m = 6 → ∀ {M}, am_Sh L q M → ∀ (v : Value), ∃ M', am_ev 85 d 22 [.ref h, .int (am_i (k : Int)), v] [] M = some (none, M') ∧ am_Sh L q M' ∧ fr (fun b j => (h + 8 ≤ b ∧ b < h + 16 ∧ k ≤ j) ∨ (h + 19 ≤ b ∧ b < h + 24 ∧ k ≤ j) ∨ (b = h ∧ 7 ≤ j)) M M' ∧ (∀ j, k ≤ j → j < 6 → (∀ i, i < 8 → am_I M' (h + 8 + i) j = am_i 0) ∧ ∀ i, i < 5 → am_I M' (h + 19 + i) j = am_i 0) ∧ am_I M' h 7 = am_i 0 ∧ am_I M' h 8 = am_i 5 ∧ am_I M' h 9 = am_i 0 ∧ am_I M' h 10 = am_i 0 ∧ am_I M' h 11 = am_i 0 ∧ ∀ j, j < 3 → am_I M' h (12 + j) = am_i (-1) := by
  have hh' : h = 4 ∨ h = 38 := hh
  intro m
  induction m with
  | zero =>
    intro k hk M S v
    have S1 := S.sI h 7 (am_i 0)
    have S2 := S1.sI h 8 (am_i 5)
    have S3 := S2.sI h 9 (am_i 0)
    have S4 := S3.sI h 10 (am_i 0)
    have S5 := S4.sI h 11 (am_i 0)
    have S6 := S5.sI h 12 (am_i (-1))
    have S7 := S6.sI h 13 (am_i (-1))
    have S8 := S7.sI h 14 (am_i (-1))
    refine ⟨_, ?_, S8, fr_tr (fr_sI (by omega)) (fr_tr (fr_sI (by omega)) (fr_tr (fr_sI (by omega)) (fr_tr (fr_sI (by omega)) (fr_tr (fr_sI (by omega)) (fr_tr (fr_sI (by omega)) (fr_tr (fr_sI (by omega)) (fr_sI (by omega)))))))), fun j h1 h2 => by omega, ?_, ?_, ?_, ?_, ?_, ?_⟩
    · rw [t85_22, am_br_ge (by omega) (by omega) (by omega) (by omega), if_pos (by omega), am_ob_p (H_k0 S hh), am_lt, am_ob_p (H_k0 S1 hh), am_lt, am_ob_p (H_k0 S2 hh), am_lt, am_ob_p (H_k0 S3 hh), am_lt, am_ob_p (H_k0 S4 hh), am_lt, am_ob_p (H_k0 S5 hh), am_lt, am_ob_p (H_k0 S6 hh), am_lt, am_ob_p (H_k0 S7 hh), am_lt]
    · rw [am_I_ne2 (by omega), am_I_ne2 (by omega), am_I_ne2 (by omega), am_I_ne2 (by omega), am_I_ne2 (by omega), am_I_ne2 (by omega), am_I_ne2 (by omega), am_I_same]
    · rw [am_I_ne2 (by omega), am_I_ne2 (by omega), am_I_ne2 (by omega), am_I_ne2 (by omega), am_I_ne2 (by omega), am_I_ne2 (by omega), am_I_same]
    · rw [am_I_ne2 (by omega), am_I_ne2 (by omega), am_I_ne2 (by omega), am_I_ne2 (by omega), am_I_ne2 (by omega), am_I_same]
    · rw [am_I_ne2 (by omega), am_I_ne2 (by omega), am_I_ne2 (by omega), am_I_ne2 (by omega), am_I_same]
    · rw [am_I_ne2 (by omega), am_I_ne2 (by omega), am_I_ne2 (by omega), am_I_same]
    · intro j hj
      have : j = 0 ∨ j = 1 ∨ j = 2 := by omega
      rcases this with rfl | rfl | rfl
      · rw [am_I_ne2 (by omega), am_I_ne2 (by omega), am_I_same]
      · rw [am_I_ne2 (by omega), am_I_same]
      · rw [am_I_same]
  | succ m ih =>
    intro k hk M S v
    obtain ⟨M1, r1, S1, f1, e1⟩ := c_clr30 hh (show k < 6 by omega) d 8 0 (by omega) S
    obtain ⟨M2, v2, r2, S2, f2, e2⟩ := c_clr53 hh (show k < 6 by omega) d 5 0 (by omega) S1
    obtain ⟨M3, r3, S3, f3, e3, e4⟩ := ih (k + 1) (by omega) S2 v2
    refine ⟨M3, ?_, S3, fr_tr (fr_mono f1 (fun b j hb => by omega)) (fr_tr (fr_mono f2 (fun b j hb => by omega)) (fr_mono f3 (fun b j hb => by omega))), fun j h1 h2 => ?_, e4⟩
    · rw [t85_22, am_br_ge (by omega) (by omega) (by omega) (by omega), if_neg (by omega)]
      exact r1.trans (r2.trans r3)
    · by_cases g : j = k
      · subst g
        refine ⟨fun i hi => ?_, fun i hi => ?_⟩
        · rw [(f3 _ _ (by omega)).1, (f2 _ _ (by omega)).1]
          exact e1 i (by omega) hi
        · rw [(f3 _ _ (by omega)).1]
          exact e2 i (by omega) hi
      · exact e3 j (by omega) h2
def X0h : am_X := fun a _ _ => if a = 8 then 5 else 0
def H0h : am_HS := (X0h, fun _ _ => [], fun _ => none, 0, 0)
theorem hI_0 (s : Nat) : hI H0h s := by
  have e : ∀ a b c, a ≠ 8 → X0h a b c = 0 := fun a b c h => if_neg h
  have hF : nF X0h = 0 := rfl
  have hP : nP X0h = 0 := rfl
  refine ⟨⟨⟨by decide, by decide, by decide, fun f hf => ?_, fun f hf => ?_, fun f hf => ?_, fun f hf => ?_, fun f hf => ?_, by decide, by decide, by decide, by decide, by decide, fun f hf => ?_⟩, fun a ha w hw => ?_, fun f _ _ k _ => rfl, fun p _ k _ => by show 0 ≤ (0 : Int) ∧ (0 : Int) ≤ 9; omega⟩, ⟨fun l h => (by cases h), fun l h => (by cases h), fun l h => (by cases h)⟩, Nat.zero_le _, Nat.le_refl _⟩
  · have hf : f < 0 := hf
    omega
  · have hf : f < 0 := hf
    omega
  · have hf : f < 0 := hf
    omega
  · have hf : f < 0 := hf
    omega
  · have hf : f < 0 := hf
    omega
  · have hf : f < 0 := hf
    omega
  · have hw : w < 0 := hw
    omega
theorem c_clearH {L : Nat} {q : am_Pq} {h : Nat} (hh : isH h) {M : am_M} (S : am_Sh L q M) (d : Nat) : ∃ M', am_cl 85 d [.ref h] M = some (none, M') ∧ am_Sh L q M' ∧ fr (fun b _ => h ≤ b ∧ b < h + 24) M M' ∧ cHt M' h H0h := by
  have hh' : h = 4 ∨ h = 38 := hh
  have S1 := S.sI (h + 1) 0 (am_i 0)
  have S2 := S1.sI (h + 1) 1 (am_i 0)
  have S3 := S2.sI (h + 1) 2 (am_i 0)
  obtain ⟨M4, r4, S4, f4, e4, k7, k8, k9, k10, k11, k12⟩ := c_clr22 hh d 6 0 (by omega) S3 .null
  have f03 : fr (fun b _ => h ≤ b ∧ b < h + 24) M (am_sI (am_sI (am_sI M (h + 1) 0 (am_i 0)) (h + 1) 1 (am_i 0)) (h + 1) 2 (am_i 0)) := fr_tr (fr_sI (by omega)) (fr_tr (fr_sI (by omega)) (fr_sI (by omega)))
  refine ⟨M4, ?_, S4, fr_tr f03 (fr_mono f4 (fun b j hb => by omega)), ⟨⟨fun k hk => ?_, fun s hs w hw => ?_, xI_x (hI_0 0).1⟩, ⟨fun f hf => ?_, fun f hf k hk => (e4 k (by omega) hk).1 f hf, fun f hf => ?_, fun f hf => ?_, fun p hp k hk => (e4 k (by omega) hk).2 p hp, fun j hj => ?_⟩, fun j hj => k12 j hj⟩⟩
  · have e2 : ∀ k : Nat, k < 3 → ∀ M, am_Sh L q M → am_ev 85 d 2 [.ref h, .int (am_i (k : Int)), .null] [] M = am_ev 85 d 2 [.ref h, .int (am_i ((k + 1 : Nat) : Int)), .null] [] (am_sI M (h + 1) k (am_i 0)) := fun k hk M S => by
      rw [t85_2, am_br_gt (by omega) (by omega) (by omega) (by omega), if_neg (by omega), am_ob_p (H_k0 S hh), H_r0_0 S hh, am_gr_p, am_iw_p (H_k1 S hh) (by omega) (by omega) (by omega) (by omega), am_i_ix (by omega) (by omega), Int.toNat_natCast, am_lt, am_i_add]
      rfl
    have e3 : ∀ M, am_ev 85 d 2 [.ref h, .int (am_i ((3 : Nat) : Int)), .null] [] M = am_ev 85 d 22 [.ref h, .int (am_i 0), .null] [] M := fun M => by
      rw [t85_2, am_br_gt (by omega) (by omega) (by omega) (by omega), if_pos (by omega)]
    rw [t85]
    exact (e2 0 (by omega) _ S).trans ((e2 1 (by omega) _ S1).trans ((e2 2 (by omega) _ S2).trans ((e3 _).trans r4)))
  · rw [(f4 _ _ (by omega)).1]
    have : k = 0 ∨ k = 1 ∨ k = 2 := by omega
    rcases this with rfl | rfl | rfl
    · rw [am_I_ne2 (by omega), am_I_ne2 (by omega), am_I_same]; rfl
    · rw [am_I_ne2 (by omega), am_I_same]; rfl
    · rw [am_I_same]; rfl
  · have hw : w < 0 := hw
    omega
  · have hf : f < 0 := hf
    omega
  · have hf : f < 0 := hf
    omega
  · have hf : f < 0 := hf
    omega
  · have : j = 0 ∨ j = 1 ∨ j = 2 ∨ j = 3 ∨ j = 4 := by omega
    rcases this with rfl | rfl | rfl | rfl | rfl
    · exact k7
    · exact k8
    · exact k9
    · exact k10
    · exact k11
