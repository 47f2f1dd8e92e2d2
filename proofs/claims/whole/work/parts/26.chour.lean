/-! The class: what is suggested. -/
def pF (c b _k : Nat) : Prop := b = c + 9 ∨ b = c + 10
theorem cF_sI {M : am_M} {c : Nat} {al : Nat → Bool} {F : Nat → Int} (H : cF M c al F) {a j : Nat} {v : Int32} (h : a ≠ c + 10) : cF (am_sI M a j v) c al F := fun k hk ha => (am_I_ne1 (by omega)).trans (H k hk ha)
theorem c_filmFacts {L : Nat} {q0 : am_Pq} {M : am_M} {c h : Nat} (S : am_Sh L q0 M) (hc : isC c) (hh : isH h) (hch : am_R M c 0 = some h) {X : am_X} {A : am_A} (HX : cH M h X) (HA : cA M (c + 1) A) (B : hB X) (BA : aB X A) {q f : Nat} (hq : q < 6) (hf : f < nF X) (sc : Int) (d : Nat) :
    ∃ M', am_cl 80 d [.ref c, .int (am_i q), .int (am_i f), .int (am_i sc)] M = some (none, M') ∧ am_Sh L q0 M' ∧ fr (fun b _ => b = c + 10) M M' ∧
      am_I M' (c + 10) 16 = am_i (A 0 0 0 % 24) ∧ am_I M' (c + 10) 2 = am_i (X 2 f 0) ∧ am_I M' (c + 10) 19 = am_i (A 3 q f) ∧ am_I M' (c + 10) 20 = am_i sc := by
  have hF8 := (hB_F B).2
  have hc' : c = 63 ∨ c = 75 := hc
  have hh' : h = 4 ∨ h = 38 := hh
  have bt := aB_t BA
  have e0 := HA.1
  have e1 : (am_i (A 0 0 0) - am_i (A 0 0 0) / am_i 24 * am_i 24) = am_i (A 0 0 0 % 24) := am_i_rem (by omega) (by omega) (by omega) (by omega)
  have e2 := HX.2.1 f hf
  have e3 := HA.2.2.2.1 q hq f (by omega)
  have e4 : ((q : Int) * 8 + (f : Int)).toNat = 8 * q + f := by omega
  refine ⟨am_sI (am_sI (am_sI (am_sI M (c + 10) 16 (am_i (A 0 0 0 % 24))) (c + 10) 2 (am_i (X 2 f 0))) (c + 10) 19 (am_i (A 3 q f))) (c + 10) 20 (am_i sc), ?_, (((S.sI _ _ _).sI _ _ _).sI _ _ _).sI _ _ _, fr_tr (fr_tr (fr_tr (fr_sI rfl) (fr_sI rfl)) (fr_sI rfl)) (fr_sI rfl), ?_, ?_, ?_, am_I_same _ _ _ _⟩
  · rw [t80]
    simp (disch := omega) only [am_ob_p (C_k0 S hc), am_ob_p (C_k1 S hc), am_ob_p (C_k8 S hc), am_ix_p (C_k2 S hc), am_iw_p (C_k2 S hc), am_ix_p (C_k3 S hc), am_iw_p (C_k3 S hc), am_ix_p (C_k4 S hc), am_iw_p (C_k4 S hc), am_ix_p (C_k5 S hc), am_iw_p (C_k5 S hc), am_ix_p (C_k6 S hc), am_iw_p (C_k6 S hc), am_ix_p (C_k7 S hc), am_iw_p (C_k7 S hc), am_ix_p (C_k9 S hc), am_iw_p (C_k9 S hc), am_ix_p (C_k10 S hc), am_iw_p (C_k10 S hc), am_ix_p (C_k11 S hc), am_iw_p (C_k11 S hc), C_r0_1 S hc, C_r0_2 S hc, C_r0_3 S hc, C_r0_5 S hc, C_r1_2 S hc, C_r1_3 S hc, C_r1_4 S hc, C_r1_5 S hc, C_r8_0 S hc, C_r8_1 S hc, C_r8_2 S hc, hch, am_ob_p (H_k0 S hh), am_ix_p (H_k1 S hh), am_iw_p (H_k1 S hh), am_ix_p (H_k6 S hh), am_iw_p (H_k6 S hh), am_ix_p (H_k16 S hh), am_iw_p (H_k16 S hh), am_ix_p (H_k17 S hh), am_iw_p (H_k17 S hh), am_ix_p (H_k24 S hh), am_iw_p (H_k24 S hh), H_r0_0 S hh, H_r0_1 S hh, H_r0_2 S hh, H_r0_3 S hh, H_r0_4 S hh, H_r0_5 S hh, H_r0_6 S hh, H_r0_15 S hh, H_r2 S hh, H_r7 S hh, H_r18 S hh, am_iq_p (H_k2 S hh), am_iq_p (H_k7 S hh), am_iq_p (H_k18 S hh), am_gr_p, am_i_ix, Int.toNat_zero, Int.toNat_one, Int.toNat_natCast, Int.reduceToNat, am_lt, am_i_add, am_i_sub, am_i_mul, am_ob_sI, am_ix_sI, am_iw_sI, am_iq_sI, am_R_sI', am_ob_sL, am_ix_sL, am_iw_sL, am_iq_sL, am_R_sL', am_I_same, am_I_ne1, am_I_ne2, am_L_same, am_L_ne1, am_L_ne2, am_L_sI', am_I_sL', am_if_f am_i24, e0, e1, e2, e3, e4]
  · simp (disch := omega) only [am_I_ne2, am_I_same]
  · simp (disch := omega) only [am_I_ne2, am_I_same]
  · simp (disch := omega) only [am_I_ne2, am_I_same]
theorem c_mayBe {L : Nat} {q0 : am_Pq} {M : am_M} {c h : Nat} (S : am_Sh L q0 M) (hc : isC c) (hh : isH h) (hch : am_R M c 0 = some h) {X : am_X} {G : am_Gf} {A : am_A} (HX : cH M h X) (HG : cG M h G) (HA : cA M (c + 1) A) (B : hB X) (BG : gB G) (BA : aB X A) {q f : Nat} (hq : q < 6) (hf : f < nF X) (d : Nat) :
    ∃ M', am_cl 81 (d + 3) [.ref c, .int (am_i q), .int (am_i f), .int (am_i (score X A q f))] M = some (some (.int (am_i (mayT X G A q f))), M') ∧ am_Sh L q0 M' ∧ fr (pF c) M M' := by
  have hF8 := (hB_F B).2
  have hc' : c = 63 ∨ c = 75 := hc
  have hh' : h = 4 ∨ h = 38 := hh
  rw [t81]
  unfold mayT
  cases hG : G 2 with
  | none =>
    have e := cG_none HG (j := 2) (by decide) hG
    refine ⟨M, ?_, S, fr_rfl _ _⟩
    simp (disch := omega) only [am_ob_p (C_k0 S hc), am_ob_p (C_k1 S hc), am_ob_p (C_k8 S hc), am_ix_p (C_k2 S hc), am_iw_p (C_k2 S hc), am_ix_p (C_k3 S hc), am_iw_p (C_k3 S hc), am_ix_p (C_k4 S hc), am_iw_p (C_k4 S hc), am_ix_p (C_k5 S hc), am_iw_p (C_k5 S hc), am_ix_p (C_k6 S hc), am_iw_p (C_k6 S hc), am_ix_p (C_k7 S hc), am_iw_p (C_k7 S hc), am_ix_p (C_k9 S hc), am_iw_p (C_k9 S hc), am_ix_p (C_k10 S hc), am_iw_p (C_k10 S hc), am_ix_p (C_k11 S hc), am_iw_p (C_k11 S hc), C_r0_1 S hc, C_r0_2 S hc, C_r0_3 S hc, C_r0_5 S hc, C_r1_2 S hc, C_r1_3 S hc, C_r1_4 S hc, C_r1_5 S hc, C_r8_0 S hc, C_r8_1 S hc, C_r8_2 S hc, hch, am_ob_p (H_k0 S hh), am_ix_p (H_k1 S hh), am_iw_p (H_k1 S hh), am_ix_p (H_k6 S hh), am_iw_p (H_k6 S hh), am_ix_p (H_k16 S hh), am_iw_p (H_k16 S hh), am_ix_p (H_k17 S hh), am_iw_p (H_k17 S hh), am_ix_p (H_k24 S hh), am_iw_p (H_k24 S hh), H_r0_0 S hh, H_r0_1 S hh, H_r0_2 S hh, H_r0_3 S hh, H_r0_4 S hh, H_r0_5 S hh, H_r0_6 S hh, H_r0_15 S hh, H_r2 S hh, H_r7 S hh, H_r18 S hh, am_iq_p (H_k2 S hh), am_iq_p (H_k7 S hh), am_iq_p (H_k18 S hh), am_gr_p, am_i_ix, Int.toNat_zero, Int.toNat_one, Int.toNat_natCast, Int.reduceToNat, am_lt, am_i_add, am_i_sub, am_i_mul, e, am_br_ne, am_tr_1]
    rfl
  | some l =>
    obtain ⟨o, h1, h2, h3, h4⟩ := cG_some HG (j := 2) (by decide) hG
    obtain ⟨M1, r1, S1, f1, g1, g2, g3, g4⟩ := c_filmFacts S hc hh hch HX HA B BA hq hf (score X A q f) (d + 2)
    have hwf := BG.2.2 l hG
    have hFok : Fok (alw 2) (fct X A q f 0 0 0) := fct_ok B BA (by decide) (fun _ => ⟨hq, hf⟩) (fun h => by omega) (fun h => by omega) (fun h => by omega)
    have hch1 : am_R M1 c 0 = some h := by
      rw [S1.2.1 c (by omega) 0 (by omega), ← S.2.1 c (by omega) 0 (by omega)]; exact hch
    have h2' : am_I M1 h 14 = am_i o := by rw [(f1 h 14 (by omega)).1]; exact h2
    obtain ⟨M2, r2, S2, f2⟩ := c_value (o := o) S1 hc (r1 := h + 24) (by omega) (fun M S => H_k24 S hh) hFok Wok0 h1 (fun j hj => by rw [(f1 _ _ (by omega)).1]; exact h3 j hj) (by rw [(f1 _ _ (by omega)).1]; exact h4) hwf (fun k hk ha => by
      rcases alw2 ha with rfl | rfl | rfl | rfl
      · exact g1
      · exact g2
      · exact g3
      · exact g4) (fun h => by cases h) d
    have hv := fev_ok hFok Wok0 hwf
    refine ⟨M2, ?_, S2, fr_tr (fr_mono f1 (fun b k h => Or.inr h)) (fr_mono f2 (fun b k h => Or.inl h))⟩
    simp (disch := omega) only [am_ob_p (C_k0 S hc), am_ob_p (C_k1 S hc), am_ob_p (C_k8 S hc), am_ix_p (C_k2 S hc), am_iw_p (C_k2 S hc), am_ix_p (C_k3 S hc), am_iw_p (C_k3 S hc), am_ix_p (C_k4 S hc), am_iw_p (C_k4 S hc), am_ix_p (C_k5 S hc), am_iw_p (C_k5 S hc), am_ix_p (C_k6 S hc), am_iw_p (C_k6 S hc), am_ix_p (C_k7 S hc), am_iw_p (C_k7 S hc), am_ix_p (C_k9 S hc), am_iw_p (C_k9 S hc), am_ix_p (C_k10 S hc), am_iw_p (C_k10 S hc), am_ix_p (C_k11 S hc), am_iw_p (C_k11 S hc), C_r0_1 S hc, C_r0_2 S hc, C_r0_3 S hc, C_r0_5 S hc, C_r1_2 S hc, C_r1_3 S hc, C_r1_4 S hc, C_r1_5 S hc, C_r8_0 S hc, C_r8_1 S hc, C_r8_2 S hc, hch, am_ob_p (H_k0 S hh), am_ix_p (H_k1 S hh), am_iw_p (H_k1 S hh), am_ix_p (H_k6 S hh), am_iw_p (H_k6 S hh), am_ix_p (H_k16 S hh), am_iw_p (H_k16 S hh), am_ix_p (H_k17 S hh), am_iw_p (H_k17 S hh), am_ix_p (H_k24 S hh), am_iw_p (H_k24 S hh), H_r0_0 S hh, H_r0_1 S hh, H_r0_2 S hh, H_r0_3 S hh, H_r0_4 S hh, H_r0_5 S hh, H_r0_6 S hh, H_r0_15 S hh, H_r2 S hh, H_r7 S hh, H_r18 S hh, am_iq_p (H_k2 S hh), am_iq_p (H_k7 S hh), am_iq_p (H_k18 S hh), am_gr_p, am_i_ix, Int.toNat_zero, Int.toNat_one, Int.toNat_natCast, Int.reduceToNat, am_lt, am_i_add, am_i_sub, am_i_mul, h2, am_br_ne]
    rw [if_neg (by omega), r1, am_bV_p]
    simp (disch := omega) only [am_ob_p (C_k0 S1 hc), am_ob_p (C_k1 S1 hc), am_ob_p (C_k8 S1 hc), am_ix_p (C_k2 S1 hc), am_iw_p (C_k2 S1 hc), am_ix_p (C_k3 S1 hc), am_iw_p (C_k3 S1 hc), am_ix_p (C_k4 S1 hc), am_iw_p (C_k4 S1 hc), am_ix_p (C_k5 S1 hc), am_iw_p (C_k5 S1 hc), am_ix_p (C_k6 S1 hc), am_iw_p (C_k6 S1 hc), am_ix_p (C_k7 S1 hc), am_iw_p (C_k7 S1 hc), am_ix_p (C_k9 S1 hc), am_iw_p (C_k9 S1 hc), am_ix_p (C_k10 S1 hc), am_iw_p (C_k10 S1 hc), am_ix_p (C_k11 S1 hc), am_iw_p (C_k11 S1 hc), C_r0_1 S1 hc, C_r0_2 S1 hc, C_r0_3 S1 hc, C_r0_5 S1 hc, C_r1_2 S1 hc, C_r1_3 S1 hc, C_r1_4 S1 hc, C_r1_5 S1 hc, C_r8_0 S1 hc, C_r8_1 S1 hc, C_r8_2 S1 hc, hch1, am_ob_p (H_k0 S1 hh), am_ix_p (H_k1 S1 hh), am_iw_p (H_k1 S1 hh), am_ix_p (H_k6 S1 hh), am_iw_p (H_k6 S1 hh), am_ix_p (H_k16 S1 hh), am_iw_p (H_k16 S1 hh), am_ix_p (H_k17 S1 hh), am_iw_p (H_k17 S1 hh), am_ix_p (H_k24 S1 hh), am_iw_p (H_k24 S1 hh), H_r0_0 S1 hh, H_r0_1 S1 hh, H_r0_2 S1 hh, H_r0_3 S1 hh, H_r0_4 S1 hh, H_r0_5 S1 hh, H_r0_6 S1 hh, H_r0_15 S1 hh, H_r2 S1 hh, H_r7 S1 hh, H_r18 S1 hh, am_iq_p (H_k2 S1 hh), am_iq_p (H_k7 S1 hh), am_iq_p (H_k18 S1 hh), am_gr_p, am_i_ix, Int.toNat_zero, Int.toNat_one, Int.toNat_natCast, Int.reduceToNat, am_lt, am_i_add, am_i_sub, am_i_mul, h2']
    rw [r2, am_bI_p, am_br_eq (by omega) (by omega) (by omega) (by omega)]
    rcases hv.2.2 rfl with e | e
    · rw [e, if_pos rfl]; exact am_tr_0 _ _
    · rw [e, if_neg (by decide)]; exact am_tr_1 _ _
theorem mayT_01 {X : am_X} {G : am_Gf} {A : am_A} (B : hB X) (BG : gB G) (BA : aB X A) {q f : Nat} (hq : q < 6) (hf : f < nF X) : mayT X G A q f = 0 ∨ mayT X G A q f = 1 := by
  unfold mayT
  cases hG : G 2 with
  | none => exact Or.inr rfl
  | some l => exact (fev_ok (fct_ok B BA (j := 2) (by decide) (fun _ => ⟨hq, hf⟩) (fun h => by omega) (fun h => by omega) (fun h => by omega)) Wok0 (BG.2.2 l hG)).2.2 rfl
theorem sugF_bd {X : am_X} {G : am_Gf} {A : am_A} (B : hB X) (BA : aB X A) {q : Nat} (hq : q < 6) : ∀ n, n ≤ nF X → (-1 ≤ (sugF X G A q n).1 ∧ (sugF X G A q n).1 < n) ∧ (0 ≤ (sugF X G A q n).2 ∧ (sugF X G A q n).2 ≤ 53947) ∧ ((sugF X G A q n).1 = -1 → (sugF X G A q n).2 = 0) ∧ ((sugF X G A q n).1 ≠ -1 → (sugF X G A q n).2 = score X A q (sugF X G A q n).1.toNat ∧ A 3 q (sugF X G A q n).1.toNat < X 2 (sugF X G A q n).1.toNat 0)
  | 0, _ => ⟨⟨show (-1 : Int) ≤ -1 by decide, show (-1 : Int) < ((0 : Nat) : Int) by decide⟩, ⟨show (0 : Int) ≤ 0 by decide, show (0 : Int) ≤ 53947 by decide⟩, fun _ => rfl, fun h => absurd rfl h⟩
  | n + 1, hn => by
    have ih := sugF_bd (G := G) B BA hq n (by omega)
    have hs := score_bd B BA hq (f := n) (by omega)
    unfold sugF
    split
    · rename_i h
      refine ⟨⟨by show (-1 : Int) ≤ (n : Int); omega, by show (n : Int) < ((n + 1 : Nat) : Int); omega⟩, ⟨by show 0 ≤ score X A q n; omega, hs.2⟩, fun h => ?_, fun _ => ⟨?_, ?_⟩⟩
      · have : (n : Int) = -1 := h
        omega
      · rfl
      · exact h.1
    · exact ⟨⟨ih.1.1, by have := ih.1.2; omega⟩, ih.2⟩
theorem sug_bd {X : am_X} {G : am_Gf} {A : am_A} (B : hB X) (BA : aB X A) {p : Nat} (hp : p < 5) : -1 ≤ sug X G A p ∧ sug X G A p < nF X ∧ (sug X G A p ≠ -1 → A 3 (prof A p) (sug X G A p).toNat < X 2 (sug X G A p).toNat 0) := by
  have h := sugF_bd (G := G) B BA (prof_lt A hp) (nF X) (Nat.le_refl _)
  exact ⟨h.1.1, h.1.2, fun g => (h.2.2.2 g).2⟩
theorem Sh_R {L : Nat} {q0 : am_Pq} {M M' : am_M} (S : am_Sh L q0 M) (S' : am_Sh L q0 M') {c j : Nat} (hc : c < 261) (hj : j < 120) : am_R M' c j = am_R M c j := by
  rw [S'.2.1 c hc j hj, S.2.1 c hc j hj]
theorem c_suggested {L : Nat} {q0 : am_Pq} {M : am_M} {c h : Nat} (S : am_Sh L q0 M) (hc : isC c) (hh : isH h) (hch : am_R M c 0 = some h) {X : am_X} {G : am_Gf} {A : am_A} (HX : cH M h X) (HG : cG M h G) (HA : cA M (c + 1) A) (B : hB X) (BG : gB G) (BA : aB X A) {p : Nat} (hp : p < nP X) (d : Nat) :
    ∃ M', am_cl 74 (d + 4) [.ref c, .int (am_i p)] M = some (some (.int (am_i (sug X G A p))), M') ∧ am_Sh L q0 M' ∧ fr (pF c) M M' := by
  have hF8 := (hB_F B).2
  have hFF := (hB_F B).1
  have hP5 := (hB_P B).2
  have hc' : c = 63 ∨ c = 75 := hc
  have hh' : h = 4 ∨ h = 38 := hh
  have hq := prof_lt A (show p < 5 by omega)
  have key : ∀ m n : Nat, n + m = nF X → ∀ (M : am_M) (v1 v6 : Value), am_Sh L q0 M → am_R M c 0 = some h → cH M h X → cG M h G → cA M (c + 1) A →
      ∃ M', am_ev 74 (d + 4) 17 [.ref c, v1, .int (am_i (prof A p)), .int (am_i (sugF X G A (prof A p) n).1), .int (am_i (sugF X G A (prof A p) n).2), .int (am_i n), v6] [] M = some (some (.int (am_i (sug X G A p))), M') ∧ am_Sh L q0 M' ∧ fr (pF c) M M' := by
    intro m
    induction m with
    | zero =>
      intro n hn M v1 v6 S hch HX HG HA
      have e0 := HX.1 1 (by decide)
      refine ⟨M, ?_, S, fr_rfl _ _⟩
      rw [t74_17]
      simp (disch := omega) only [am_ob_p (C_k0 S hc), am_ob_p (C_k1 S hc), am_ob_p (C_k8 S hc), am_ix_p (C_k2 S hc), am_iw_p (C_k2 S hc), am_ix_p (C_k3 S hc), am_iw_p (C_k3 S hc), am_ix_p (C_k4 S hc), am_iw_p (C_k4 S hc), am_ix_p (C_k5 S hc), am_iw_p (C_k5 S hc), am_ix_p (C_k6 S hc), am_iw_p (C_k6 S hc), am_ix_p (C_k7 S hc), am_iw_p (C_k7 S hc), am_ix_p (C_k9 S hc), am_iw_p (C_k9 S hc), am_ix_p (C_k10 S hc), am_iw_p (C_k10 S hc), am_ix_p (C_k11 S hc), am_iw_p (C_k11 S hc), C_r0_1 S hc, C_r0_2 S hc, C_r0_3 S hc, C_r0_5 S hc, C_r1_2 S hc, C_r1_3 S hc, C_r1_4 S hc, C_r1_5 S hc, C_r8_0 S hc, C_r8_1 S hc, C_r8_2 S hc, hch, am_ob_p (H_k0 S hh), am_ix_p (H_k1 S hh), am_iw_p (H_k1 S hh), am_ix_p (H_k6 S hh), am_iw_p (H_k6 S hh), am_ix_p (H_k16 S hh), am_iw_p (H_k16 S hh), am_ix_p (H_k17 S hh), am_iw_p (H_k17 S hh), am_ix_p (H_k24 S hh), am_iw_p (H_k24 S hh), H_r0_0 S hh, H_r0_1 S hh, H_r0_2 S hh, H_r0_3 S hh, H_r0_4 S hh, H_r0_5 S hh, H_r0_6 S hh, H_r0_15 S hh, H_r2 S hh, H_r7 S hh, H_r18 S hh, am_iq_p (H_k2 S hh), am_iq_p (H_k7 S hh), am_iq_p (H_k18 S hh), am_gr_p, am_i_ix, Int.toNat_zero, Int.toNat_one, Int.toNat_natCast, Int.reduceToNat, am_lt, am_i_add, am_i_sub, am_i_mul, e0, am_br_ge]
      rw [if_pos (by omega)]
      have : n = nF X := by omega
      rw [this]
      rfl
    | succ m ih =>
      intro n hn M v1 v6 S hch HX HG HA
      have hnF : n < nF X := by omega
      have e0 := HX.1 1 (by decide)
      have e1 := HA.2.2.2.1 _ hq n (by omega)
      have e2 : (((prof A p : Nat) : Int) * 8 + (n : Int)).toNat = 8 * prof A p + n := by omega
      have e3 := HX.2.1 n hnF
      have b1 := aB_se9 B BA hq (show n < 8 by omega)
      have b2 := hB_pt B hnF
      have b3 := sugF_bd (G := G) B BA hq n (by omega)
      have b4 := score_bd B BA hq hnF
      rw [t74_17]
      simp (disch := omega) only [am_ob_p (C_k0 S hc), am_ob_p (C_k1 S hc), am_ob_p (C_k8 S hc), am_ix_p (C_k2 S hc), am_iw_p (C_k2 S hc), am_ix_p (C_k3 S hc), am_iw_p (C_k3 S hc), am_ix_p (C_k4 S hc), am_iw_p (C_k4 S hc), am_ix_p (C_k5 S hc), am_iw_p (C_k5 S hc), am_ix_p (C_k6 S hc), am_iw_p (C_k6 S hc), am_ix_p (C_k7 S hc), am_iw_p (C_k7 S hc), am_ix_p (C_k9 S hc), am_iw_p (C_k9 S hc), am_ix_p (C_k10 S hc), am_iw_p (C_k10 S hc), am_ix_p (C_k11 S hc), am_iw_p (C_k11 S hc), C_r0_1 S hc, C_r0_2 S hc, C_r0_3 S hc, C_r0_5 S hc, C_r1_2 S hc, C_r1_3 S hc, C_r1_4 S hc, C_r1_5 S hc, C_r8_0 S hc, C_r8_1 S hc, C_r8_2 S hc, hch, am_ob_p (H_k0 S hh), am_ix_p (H_k1 S hh), am_iw_p (H_k1 S hh), am_ix_p (H_k6 S hh), am_iw_p (H_k6 S hh), am_ix_p (H_k16 S hh), am_iw_p (H_k16 S hh), am_ix_p (H_k17 S hh), am_iw_p (H_k17 S hh), am_ix_p (H_k24 S hh), am_iw_p (H_k24 S hh), H_r0_0 S hh, H_r0_1 S hh, H_r0_2 S hh, H_r0_3 S hh, H_r0_4 S hh, H_r0_5 S hh, H_r0_6 S hh, H_r0_15 S hh, H_r2 S hh, H_r7 S hh, H_r18 S hh, am_iq_p (H_k2 S hh), am_iq_p (H_k7 S hh), am_iq_p (H_k18 S hh), am_gr_p, am_i_ix, Int.toNat_zero, Int.toNat_one, Int.toNat_natCast, Int.reduceToNat, am_lt, am_i_add, am_i_sub, am_i_mul, e0, e1, e2, e3, am_br_ge]
      rw [if_neg (by omega)]
      have skip : ∀ M1, am_Sh L q0 M1 → fr (pF c) M M1 → ∀ v6, sugF X G A (prof A p) (n + 1) = sugF X G A (prof A p) n → ∃ M', am_ev 74 (d + 4) 17 [.ref c, v1, .int (am_i (prof A p)), .int (am_i (sugF X G A (prof A p) n).1), .int (am_i (sugF X G A (prof A p) n).2), .int (am_i ((n : Int) + 1)), v6] [] M1 = some (some (.int (am_i (sug X G A p))), M') ∧ am_Sh L q0 M' ∧ fr (pF c) M M' := by
        intro M1 S1 f1 v6 hs
        obtain ⟨M', r, S', f'⟩ := ih (n + 1) (by omega) M1 v1 v6 S1 (by rw [Sh_R S S1 (by omega) (by omega)]; exact hch) (cH_mv HX B (fun b k h1 h2 => (f1 b k (by unfold pF; omega)).1)) (cG_mv HG (fun b k h1 h2 => (f1 b k (by unfold pF; omega)).1)) (cA_mv HA (fun b k h1 h2 h3 => (f1 b k (by unfold pF; omega)).1))
        rw [hs] at r
        exact ⟨M', r, S', fr_tr f1 f'⟩
      by_cases g1 : A 3 (prof A p) n < X 2 n 0
      · rw [if_neg (by omega), c_scoreOf S hc hh hch HX HA B hq hnF, am_bI_p, am_br_le (by omega) (by omega) (by omega) (by omega)]
        by_cases g2 : (sugF X G A (prof A p) n).2 < score X A (prof A p) n
        · rw [if_neg (by omega)]
          obtain ⟨M1, r1, S1, f1⟩ := c_mayBe S hc hh hch HX HG HA B BG BA hq hnF d
          have hm := mayT_01 B BG BA hq hnF
          simp (disch := omega) only [am_ob_p (C_k0 S hc), am_ob_p (C_k1 S hc), am_ob_p (C_k8 S hc), am_ix_p (C_k2 S hc), am_iw_p (C_k2 S hc), am_ix_p (C_k3 S hc), am_iw_p (C_k3 S hc), am_ix_p (C_k4 S hc), am_iw_p (C_k4 S hc), am_ix_p (C_k5 S hc), am_iw_p (C_k5 S hc), am_ix_p (C_k6 S hc), am_iw_p (C_k6 S hc), am_ix_p (C_k7 S hc), am_iw_p (C_k7 S hc), am_ix_p (C_k9 S hc), am_iw_p (C_k9 S hc), am_ix_p (C_k10 S hc), am_iw_p (C_k10 S hc), am_ix_p (C_k11 S hc), am_iw_p (C_k11 S hc), C_r0_1 S hc, C_r0_2 S hc, C_r0_3 S hc, C_r0_5 S hc, C_r1_2 S hc, C_r1_3 S hc, C_r1_4 S hc, C_r1_5 S hc, C_r8_0 S hc, C_r8_1 S hc, C_r8_2 S hc, r1, am_bI_p, am_br_eq]
          by_cases g3 : mayT X G A (prof A p) n = 1
          · rw [if_neg (by omega)]
            have hs : sugF X G A (prof A p) (n + 1) = ((n : Int), score X A (prof A p) n) := if_pos ⟨g1, g2, g3⟩
            obtain ⟨M', r, S', f'⟩ := ih (n + 1) (by omega) M1 v1 (.int (am_i (score X A (prof A p) n))) S1 (by rw [Sh_R S S1 (by omega) (by omega)]; exact hch) (cH_mv HX B (fun b k h1 h2 => (f1 b k (by unfold pF; omega)).1)) (cG_mv HG (fun b k h1 h2 => (f1 b k (by unfold pF; omega)).1)) (cA_mv HA (fun b k h1 h2 h3 => (f1 b k (by unfold pF; omega)).1))
            rw [hs] at r
            exact ⟨M', r, S', fr_tr f1 f'⟩
          · rw [if_pos (by omega)]
            exact skip M1 S1 f1 _ (if_neg (fun h => g3 h.2.2))
        · rw [if_pos (by omega)]
          exact skip M S (fr_rfl _ _) _ (if_neg (fun h => g2 h.2.1))
      · rw [if_pos (by omega)]
        exact skip M S (fr_rfl _ _) _ (if_neg (fun h => g1 h.1))
  rw [t74]
  simp (disch := omega) only [am_ob_p (C_k0 S hc), am_ob_p (C_k1 S hc), am_ob_p (C_k8 S hc), am_ix_p (C_k2 S hc), am_iw_p (C_k2 S hc), am_ix_p (C_k3 S hc), am_iw_p (C_k3 S hc), am_ix_p (C_k4 S hc), am_iw_p (C_k4 S hc), am_ix_p (C_k5 S hc), am_iw_p (C_k5 S hc), am_ix_p (C_k6 S hc), am_iw_p (C_k6 S hc), am_ix_p (C_k7 S hc), am_iw_p (C_k7 S hc), am_ix_p (C_k9 S hc), am_iw_p (C_k9 S hc), am_ix_p (C_k10 S hc), am_iw_p (C_k10 S hc), am_ix_p (C_k11 S hc), am_iw_p (C_k11 S hc), C_r0_1 S hc, C_r0_2 S hc, C_r0_3 S hc, C_r0_5 S hc, C_r1_2 S hc, C_r1_3 S hc, C_r1_4 S hc, C_r1_5 S hc, C_r8_0 S hc, C_r8_1 S hc, C_r8_2 S hc, am_gr_p]
  rw [c_profileOf S (C_k1 S hc) HA (aB_p5 B BA) (by omega), am_bI_p]
  exact key (nF X) 0 (by omega) M _ _ S hch HX HG HA
/-! The class: a part is seen. -/
def pS (c b k : Nat) : Prop := b = c + 2 ∨ b = c + 3 ∨ b = c + 5 ∨ (b = c + 1 ∧ k = 6) ∨ b = c + 9 ∨ b = c + 10
theorem isA_of {c : Nat} (h : isC c) : isA (c + 1) := by unfold isC at h; unfold isA; omega
theorem seeT_succ_pos {X : am_X} {G : am_Gf} {q f : Nat} {A : am_A} {n : Nat} (h : 0 < X 3 f n) : seeT X G q f A (n + 1) = uA (seeT X G q f A n) 2 q n (held (seeT X G q f A n 2 q n + grow X G (seeT X G q f A n) q f n)) := if_pos h
theorem seeT_succ_neg {X : am_X} {G : am_Gf} {q f : Nat} {A : am_A} {n : Nat} (h : ¬ 0 < X 3 f n) : seeT X G q f A (n + 1) = seeT X G q f A n := if_neg h
theorem c_seePart {L : Nat} {q0 : am_Pq} {M : am_M} {c h : Nat} (S : am_Sh L q0 M) (hc : isC c) (hh : isH h) (hch : am_R M c 0 = some h) {X : am_X} {G : am_Gf} {A : am_A} {K : List Int} {bk : Nat} (HX : cH M h X) (HG : cG M h G) (HA : cA M (c + 1) A) (HK : cK M (c + 1) K bk) (hbk : bk < 2000000000) (B : hB X) (BG : gB G) (BA : aB X A)
    {q f : Nat} (hq : q ≤ nP X) (hf : f < nF X) (hs : A 3 q f < X 2 f 0) (w : Nat) (d : Nat) :
    ∃ M', am_cl 77 (d + 3) [.ref c, .int (am_i q), .int (am_i f), .int (am_i w)] M = some (none, M') ∧ am_Sh L q0 M' ∧ fr (pS c) M M' ∧ cA M' (c + 1) (see X G A q f) ∧ cK M' (c + 1) (kpush K (rowc A w f)) (bk + 1) := by
  have hF8 := (hB_F B).2
  obtain ⟨hKK, hK6⟩ := hB_K B
  have hP5 := (hB_P B).2
  have hc' : c = 63 ∨ c = 75 := hc
  have hh' : h = 4 ∨ h = 38 := hh
  have hq6 : q < 6 := by omega
  have bs := aB_se9 B BA hq6 (show f < 8 by omega)
  have bs2 := hB_pt B hf
  have e4 : ((q : Int) * 8 + (f : Int)).toNat = 8 * q + f := by omega
  have e3 := HA.2.2.2.1 q hq6 f (by omega)
  -- the loop
  have key : ∀ m n : Nat, n + m = nK X → ∀ (M : am_M) (v5 v6 : Value), am_Sh L q0 M → am_R M c 0 = some h → cH M h X → cG M h G → cA M (c + 1) (seeT X G q f (uA A 3 q f (A 3 q f + 1)) n) → cK M (c + 1) K bk →
      ∃ M', am_ev 77 (d + 3) 21 [.ref c, .int (am_i q), .int (am_i f), .int (am_i w), .int (am_i n), v5, v6] [] M = some (none, M') ∧ am_Sh L q0 M' ∧ fr (pS c) M M' ∧ cA M' (c + 1) (see X G A q f) ∧ cK M' (c + 1) (kpush K (rowc A w f)) (bk + 1) := by
    intro m
    induction m with
    | zero =>
      intro n hn M v5 v6 S hch HX HG HA HK
      have hn' : n = nK X := by omega
      subst hn'
      have e0 := HX.1 0 (by decide)
      obtain ⟨M', r, S', f', HK'⟩ := c_keep S (isA_of hc) HA HK hbk w f (d + 2)
      have hrow : rowc (seeT X G q f (uA A 3 q f (A 3 q f + 1)) (nK X)) w f = rowc A w f := by
        unfold rowc
        rw [seeT_ne _ _ _ _ _ _ (by omega), uA_ne (by omega)]
      rw [hrow] at HK'
      refine ⟨M', ?_, S', fr_mono f' (fun b k h => ?_), cA_mv HA (fun b k h1 h2 h3 => (f' b k (by omega)).1), HK'⟩
      · rw [t77_21]
        simp (disch := omega) only [am_ob_p (C_k0 S hc), am_ob_p (C_k1 S hc), am_ob_p (C_k8 S hc), am_ix_p (C_k2 S hc), am_iw_p (C_k2 S hc), am_ix_p (C_k3 S hc), am_iw_p (C_k3 S hc), am_ix_p (C_k4 S hc), am_iw_p (C_k4 S hc), am_ix_p (C_k5 S hc), am_iw_p (C_k5 S hc), am_ix_p (C_k6 S hc), am_iw_p (C_k6 S hc), am_ix_p (C_k7 S hc), am_iw_p (C_k7 S hc), am_ix_p (C_k9 S hc), am_iw_p (C_k9 S hc), am_ix_p (C_k10 S hc), am_iw_p (C_k10 S hc), am_ix_p (C_k11 S hc), am_iw_p (C_k11 S hc), C_r0_1 S hc, C_r0_2 S hc, C_r0_3 S hc, C_r0_5 S hc, C_r1_2 S hc, C_r1_3 S hc, C_r1_4 S hc, C_r1_5 S hc, C_r8_0 S hc, C_r8_1 S hc, C_r8_2 S hc, hch, am_ob_p (H_k0 S hh), am_ix_p (H_k1 S hh), am_iw_p (H_k1 S hh), am_ix_p (H_k6 S hh), am_iw_p (H_k6 S hh), am_ix_p (H_k16 S hh), am_iw_p (H_k16 S hh), am_ix_p (H_k17 S hh), am_iw_p (H_k17 S hh), am_ix_p (H_k24 S hh), am_iw_p (H_k24 S hh), H_r0_0 S hh, H_r0_1 S hh, H_r0_2 S hh, H_r0_3 S hh, H_r0_4 S hh, H_r0_5 S hh, H_r0_6 S hh, H_r0_15 S hh, H_r2 S hh, H_r7 S hh, H_r18 S hh, am_iq_p (H_k2 S hh), am_iq_p (H_k7 S hh), am_iq_p (H_k18 S hh), am_gr_p, am_i_ix, Int.toNat_zero, Int.toNat_one, Int.toNat_natCast, Int.reduceToNat, am_lt, am_i_add, am_i_sub, am_i_mul, e0, am_br_ge]
        rw [if_pos (by omega), r, am_bV_p]
      · unfold pS; omega
    | succ m ih =>
      intro n hn M v5 v6 S hch HX HG HA HK
      have hnK : n < nK X := by omega
      have e0 := HX.1 0 (by decide)
      have ew := HX.2.2.1 f hf n (by omega)
      have bw := hB_w B hf (show n < 6 by omega)
      have bT := seeT_bd (X := X) (G := G) (q := q) (f := f) (A := uA A 3 q f (A 3 q f + 1)) n (fun k hk => by rw [uA_ne (by omega)]; exact aB_ta BA hq6 hk) (show n < 6 by omega)
      have eT := HA.2.2.1 q hq6 n (by omega)
      have e5 : ((q : Int) * 6 + (n : Int)).toNat = 6 * q + n := by omega
      have et : seeT X G q f (uA A 3 q f (A 3 q f + 1)) n 0 0 0 = A 0 0 0 := by rw [seeT_ne _ _ _ _ _ _ (by omega), uA_ne (by omega)]
      have bt := aB_t BA
      have eti := HA.1
      rw [et] at eti
      have etm : (am_i (A 0 0 0) - am_i (A 0 0 0) / am_i 24 * am_i 24) = am_i (A 0 0 0 % 24) := am_i_rem (by omega) (by omega) (by omega) (by omega)
      generalize hT : seeT X G q f (uA A 3 q f (A 3 q f + 1)) n = T at *
      -- behind a growth of v
      have grown : ∀ (M1 : am_M) (v : Int), 0 < X 3 f n → am_Sh L q0 M1 → fr (pS c) M M1 → cA M1 (c + 1) T → cK M1 (c + 1) K bk → v = grow X G T q f n → 0 ≤ v → v ≤ 999 →
          ∃ M', am_ev 77 (d + 3) 153 [.ref c, .int (am_i q), .int (am_i f), .int (am_i w), .int (am_i n), .int (am_i v), .int (am_i ((q : Int) * 6 + (n : Int)))] [] M1 = some (none, M') ∧ am_Sh L q0 M' ∧ fr (pS c) M M' ∧ cA M' (c + 1) (see X G A q f) ∧ cK M' (c + 1) (kpush K (rowc A w f)) (bk + 1) := by
        intro M1 v hpos S1 f1 HA1 HK1 hv hv0 hv9
        have eT1 := HA1.2.2.1 q hq6 n (by omega)
        have S2 := S1.sI (c + 2) (6 * q + n) (am_i (held (T 2 q n + v)))
        have f2 : fr (pS c) M (am_sI M1 (c + 2) (6 * q + n) (am_i (held (T 2 q n + v)))) := fr_tr f1 (fr_sI (Or.inl rfl))
        obtain ⟨M', r, S', f', HA', HK'⟩ := ih (n + 1) (by omega) _ (.int (am_i v)) (.int (am_i ((q : Int) * 6 + (n : Int)))) S2 (by rw [Sh_R S S2 (by omega) (by omega)]; exact hch) (cH_mv HX B (fun b k h1 h2 => (f2 b k (by unfold pS; omega)).1)) (cG_mv HG (fun b k h1 h2 => (f2 b k (by unfold pS; omega)).1)) (by
          rw [seeT_succ_pos hpos, hT, ← hv]
          exact cA_w2 HA1 hq6 (by omega) _) (cK_mv HK1 (am_I_ne1 (by omega)) (fun k => am_I_ne1 (by omega)))
        refine ⟨M', ?_, S', fr_tr f2 f', HA', HK'⟩
        rw [t77_153]
        simp (disch := omega) only [am_ob_p (C_k0 S1 hc), am_ob_p (C_k1 S1 hc), am_ob_p (C_k8 S1 hc), am_ix_p (C_k2 S1 hc), am_iw_p (C_k2 S1 hc), am_ix_p (C_k3 S1 hc), am_iw_p (C_k3 S1 hc), am_ix_p (C_k4 S1 hc), am_iw_p (C_k4 S1 hc), am_ix_p (C_k5 S1 hc), am_iw_p (C_k5 S1 hc), am_ix_p (C_k6 S1 hc), am_iw_p (C_k6 S1 hc), am_ix_p (C_k7 S1 hc), am_iw_p (C_k7 S1 hc), am_ix_p (C_k9 S1 hc), am_iw_p (C_k9 S1 hc), am_ix_p (C_k10 S1 hc), am_iw_p (C_k10 S1 hc), am_ix_p (C_k11 S1 hc), am_iw_p (C_k11 S1 hc), C_r0_1 S1 hc, C_r0_2 S1 hc, C_r0_3 S1 hc, C_r0_5 S1 hc, C_r1_2 S1 hc, C_r1_3 S1 hc, C_r1_4 S1 hc, C_r1_5 S1 hc, C_r8_0 S1 hc, C_r8_1 S1 hc, C_r8_2 S1 hc, am_gr_p, am_i_ix, Int.toNat_zero, Int.toNat_one, Int.toNat_natCast, Int.reduceToNat, am_lt, am_i_add, am_i_sub, am_i_mul, e5, eT1, c_held, am_bI_p]
        exact r
      rw [t77_21]
      simp (disch := omega) only [am_ob_p (C_k0 S hc), am_ob_p (C_k1 S hc), am_ob_p (C_k8 S hc), am_ix_p (C_k2 S hc), am_iw_p (C_k2 S hc), am_ix_p (C_k3 S hc), am_iw_p (C_k3 S hc), am_ix_p (C_k4 S hc), am_iw_p (C_k4 S hc), am_ix_p (C_k5 S hc), am_iw_p (C_k5 S hc), am_ix_p (C_k6 S hc), am_iw_p (C_k6 S hc), am_ix_p (C_k7 S hc), am_iw_p (C_k7 S hc), am_ix_p (C_k9 S hc), am_iw_p (C_k9 S hc), am_ix_p (C_k10 S hc), am_iw_p (C_k10 S hc), am_ix_p (C_k11 S hc), am_iw_p (C_k11 S hc), C_r0_1 S hc, C_r0_2 S hc, C_r0_3 S hc, C_r0_5 S hc, C_r1_2 S hc, C_r1_3 S hc, C_r1_4 S hc, C_r1_5 S hc, C_r8_0 S hc, C_r8_1 S hc, C_r8_2 S hc, hch, am_ob_p (H_k0 S hh), am_ix_p (H_k1 S hh), am_iw_p (H_k1 S hh), am_ix_p (H_k6 S hh), am_iw_p (H_k6 S hh), am_ix_p (H_k16 S hh), am_iw_p (H_k16 S hh), am_ix_p (H_k17 S hh), am_iw_p (H_k17 S hh), am_ix_p (H_k24 S hh), am_iw_p (H_k24 S hh), H_r0_0 S hh, H_r0_1 S hh, H_r0_2 S hh, H_r0_3 S hh, H_r0_4 S hh, H_r0_5 S hh, H_r0_6 S hh, H_r0_15 S hh, H_r2 S hh, H_r7 S hh, H_r18 S hh, am_iq_p (H_k2 S hh), am_iq_p (H_k7 S hh), am_iq_p (H_k18 S hh), H_r7 S hh, am_ix_p (H_q7 S hh (show f < 8 by omega)), am_gr_p, am_i_ix, Int.toNat_zero, Int.toNat_one, Int.toNat_natCast, Int.reduceToNat, am_lt, am_i_add, am_i_sub, am_i_mul, e0, ew, am_br_ge, am_br_le]
      rw [if_neg (by omega)]
      by_cases g : 0 < X 3 f n
      · rw [if_neg (by omega)]
        cases hG : G 0 with
        | none =>
          have e := cG_none HG (j := 0) (by decide) hG
          simp (disch := omega) only [Nat.add_zero] at e
          simp (disch := omega) only [e, am_br_eq]
          rw [if_pos trivial]
          exact grown M _ g S (fr_rfl _ _) HA HK (by unfold grow; rw [hG]) (by omega) (by omega)
        | some l =>
          obtain ⟨o, h1, h2, h3, h4⟩ := cG_some HG (j := 0) (by decide) hG
          simp (disch := omega) only [Nat.add_zero] at h2
          have S3 := ((S.sI (c + 10) 16 (am_i (A 0 0 0 % 24))).sI (c + 10) 17 (am_i (T 2 q n))).sI (c + 10) 18 (am_i (X 3 f n))
          have f3 : fr (fun b _ => b = c + 10) M (am_sI (am_sI (am_sI M (c + 10) 16 (am_i (A 0 0 0 % 24))) (c + 10) 17 (am_i (T 2 q n))) (c + 10) 18 (am_i (X 3 f n))) := fr_tr (fr_tr (fr_sI rfl) (fr_sI rfl)) (fr_sI rfl)
          have hwf := BG.1 l hG
          have hFok : Fok (alw 0) (fct X T q f 0 (T 2 q n) (X 3 f n)) := by
            intro k hk ha
            rcases alw0 ha with rfl | rfl | rfl
            · show -1000000 ≤ T 0 0 0 % 24 ∧ T 0 0 0 % 24 ≤ 1000000
              omega
            · show -1000000 ≤ T 2 q n ∧ T 2 q n ≤ 1000000
              omega
            · show -1000000 ≤ X 3 f n ∧ X 3 f n ≤ 1000000
              omega
          obtain ⟨M4, r4, S4, f4⟩ := c_value (o := o) S3 hc (r1 := h + 24) (by omega) (fun M S => H_k24 S hh) hFok Wok0 h1 (fun j hj => by rw [(f3 _ _ (by omega)).1]; exact h3 j hj) (by rw [(f3 _ _ (by omega)).1]; exact h4) hwf (fun k hk ha => by
            rcases alw0 ha with rfl | rfl | rfl
            · show am_I _ (c + 10) 16 = am_i (T 0 0 0 % 24)
              rw [et]
              simp (disch := omega) only [am_I_ne2, am_I_same]
            · show am_I _ (c + 10) 17 = am_i (T 2 q n)
              simp (disch := omega) only [am_I_ne2, am_I_same]
            · show am_I _ (c + 10) 18 = am_i (X 3 f n)
              simp (disch := omega) only [am_I_same]) (fun h => by cases h) d
          have hv := fev_ok hFok Wok0 hwf
          have hb := held_bd (fev (fct X T q f 0 (T 2 q n) (X 3 f n)) (fun _ => 0) l)
          have f4' : fr (pS c) M M4 := fr_tr (fr_mono f3 (fun b k h => by unfold pS; omega)) (fr_mono f4 (fun b k h => by unfold pS; omega))
          have f4n : fr (pF c) M M4 := fr_tr (fr_mono f3 (fun b k h => Or.inr h)) (fr_mono f4 (fun b k h => Or.inl h))
          obtain ⟨M', r, hR⟩ := grown M4 (held (fev (fct X T q f 0 (T 2 q n) (X 3 f n)) (fun _ => 0) l)) g S4 f4' (cA_mv HA (fun b k h1 h2 h3 => (f4n b k (by unfold pF; omega)).1)) (cK_mv HK (f4n _ _ (by unfold pF; omega)).1 (fun k => (f4n _ _ (by unfold pF; omega)).1)) (by unfold grow; rw [hG]) hb.1 hb.2
          refine ⟨M', ?_, hR⟩
          simp (disch := omega) only [h2, am_br_eq]
          rw [if_neg (by omega)]
          simp (disch := omega) only [am_ob_p (C_k0 S hc), am_ob_p (C_k1 S hc), am_ob_p (C_k8 S hc), am_ix_p (C_k2 S hc), am_iw_p (C_k2 S hc), am_ix_p (C_k3 S hc), am_iw_p (C_k3 S hc), am_ix_p (C_k4 S hc), am_iw_p (C_k4 S hc), am_ix_p (C_k5 S hc), am_iw_p (C_k5 S hc), am_ix_p (C_k6 S hc), am_iw_p (C_k6 S hc), am_ix_p (C_k7 S hc), am_iw_p (C_k7 S hc), am_ix_p (C_k9 S hc), am_iw_p (C_k9 S hc), am_ix_p (C_k10 S hc), am_iw_p (C_k10 S hc), am_ix_p (C_k11 S hc), am_iw_p (C_k11 S hc), C_r0_1 S hc, C_r0_2 S hc, C_r0_3 S hc, C_r0_5 S hc, C_r1_2 S hc, C_r1_3 S hc, C_r1_4 S hc, C_r1_5 S hc, C_r8_0 S hc, C_r8_1 S hc, C_r8_2 S hc, hch, am_ob_p (H_k0 S hh), am_ix_p (H_k1 S hh), am_iw_p (H_k1 S hh), am_ix_p (H_k6 S hh), am_iw_p (H_k6 S hh), am_ix_p (H_k16 S hh), am_iw_p (H_k16 S hh), am_ix_p (H_k17 S hh), am_iw_p (H_k17 S hh), am_ix_p (H_k24 S hh), am_iw_p (H_k24 S hh), H_r0_0 S hh, H_r0_1 S hh, H_r0_2 S hh, H_r0_3 S hh, H_r0_4 S hh, H_r0_5 S hh, H_r0_6 S hh, H_r0_15 S hh, H_r2 S hh, H_r7 S hh, H_r18 S hh, am_iq_p (H_k2 S hh), am_iq_p (H_k7 S hh), am_iq_p (H_k18 S hh), am_gr_p, am_i_ix, Int.toNat_zero, Int.toNat_one, Int.toNat_natCast, Int.reduceToNat, am_lt, am_i_add, am_i_sub, am_i_mul, am_ob_sI, am_ix_sI, am_iw_sI, am_iq_sI, am_R_sI', am_ob_sL, am_ix_sL, am_iw_sL, am_iq_sL, am_R_sL', am_I_same, am_I_ne1, am_I_ne2, am_L_same, am_L_ne1, am_L_ne2, am_L_sI', am_I_sL', am_if_f am_i24, eti, etm, e5, eT, h2]
          rw [r4, am_bI_p, am_ob_p (C_k0 S4 hc), c_held (by omega) (by omega), am_bI_p]
          exact r
      · rw [if_pos (by omega)]
        obtain ⟨M', r, hR⟩ := ih (n + 1) (by omega) M (.int (am_i (X 3 f n))) v6 S hch HX HG (by rw [seeT_succ_neg g, hT]; exact HA) HK
        exact ⟨M', r, hR⟩
  have S1 := S.sI (c + 3) (8 * q + f) (am_i (A 3 q f + 1))
  have f1 : fr (pS c) M (am_sI M (c + 3) (8 * q + f) (am_i (A 3 q f + 1))) := fr_sI (Or.inr (Or.inl rfl))
  obtain ⟨M', r, S', f', hR⟩ := key (nK X) 0 (by omega) _ .null .null S1 (by rw [Sh_R S S1 (by omega) (by omega)]; exact hch) (cH_mv HX B (fun b k h1 h2 => (f1 b k (by unfold pS; omega)).1)) (cG_mv HG (fun b k h1 h2 => (f1 b k (by unfold pS; omega)).1)) (cA_w3 HA hq6 (by omega) _) (cK_mv HK (am_I_ne1 (by omega)) (fun k => am_I_ne1 (by omega)))
  refine ⟨M', ?_, S', fr_tr f1 f', hR⟩
  rw [t77]
  simp (disch := omega) only [am_ob_p (C_k0 S hc), am_ob_p (C_k1 S hc), am_ob_p (C_k8 S hc), am_ix_p (C_k2 S hc), am_iw_p (C_k2 S hc), am_ix_p (C_k3 S hc), am_iw_p (C_k3 S hc), am_ix_p (C_k4 S hc), am_iw_p (C_k4 S hc), am_ix_p (C_k5 S hc), am_iw_p (C_k5 S hc), am_ix_p (C_k6 S hc), am_iw_p (C_k6 S hc), am_ix_p (C_k7 S hc), am_iw_p (C_k7 S hc), am_ix_p (C_k9 S hc), am_iw_p (C_k9 S hc), am_ix_p (C_k10 S hc), am_iw_p (C_k10 S hc), am_ix_p (C_k11 S hc), am_iw_p (C_k11 S hc), C_r0_1 S hc, C_r0_2 S hc, C_r0_3 S hc, C_r0_5 S hc, C_r1_2 S hc, C_r1_3 S hc, C_r1_4 S hc, C_r1_5 S hc, C_r8_0 S hc, C_r8_1 S hc, C_r8_2 S hc, am_gr_p, am_i_ix, Int.toNat_zero, Int.toNat_one, Int.toNat_natCast, Int.reduceToNat, am_lt, am_i_add, am_i_sub, am_i_mul, e3, e4]
  exact r
