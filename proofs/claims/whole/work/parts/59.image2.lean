/-! image, the call. -/
theorem imK_B {X : am_X} {A : am_A} (BA : aB X A) {q : Nat} (hq : q < 6) {l : List Int} (h : lB l) : ∀ n, n ≤ 6 → lB (imK A q l n)
  | 0, _ => h
  | n + 1, hn => by
    have b := BA.2.2.1 q hq n (by omega)
    exact lB_2 (imK_B BA hq h n (by omega)) b.1 (by omega)
theorem imF_B {X : am_X} {A : am_A} (BX : hB X) (BA : aB X A) {q : Nat} (hq : q < 6) {l : List Int} (h : lB l) : ∀ n, n ≤ 8 → lB (imF A q l n)
  | 0, _ => h
  | n + 1, hn => by
    have b := aB_se9 BX BA hq (show n < 8 by omega)
    exact lB_s (imF_B BX BA hq h n (by omega)) b.1 (by omega)
theorem imQ_B {X : am_X} {A : am_A} (BX : hB X) (BA : aB X A) {K F : Nat} (hK : K ≤ 6) (hF : F ≤ 8) {l : List Int} (h : lB l) : ∀ n, n ≤ 6 → lB (imQ K F A l n)
  | 0, _ => h
  | n + 1, hn => imF_B BX BA (by omega) (imK_B BA (by omega) (imQ_B BX BA hK hF h n (by omega)) K hK) F hF
theorem imP_B {X : am_X} {A : am_A} (BA : aB X A) {l : List Int} (h : lB l) : ∀ n, n ≤ 5 → lB (imP A l n)
  | 0, _ => h
  | n + 1, hn => by
    have b := aB_sa BA (show n < 5 by omega)
    have b1 := prs_01 A n
    exact lB_2 (lB_s (imP_B BA h n (by omega)) (by omega) (by omega)) b.1 (by omega)
/-- the image but for its last byte -/
def img (X : am_X) (A : am_A) : List Int := imP A (imQ (nK X) (nF X) A ([A 0 0 0 / 24 / 256, A 0 0 0 / 24 % 256] ++ [A 0 0 0 % 24]) (nP X + 1)) (nP X)
theorem call_image {L : Nat} {xs : Nat → Int32} {M : am_M} {W : am_Wo} {b : Nat} (R : Rel L xs M W b) : Call L xs 33 264 [] M b := by
  obtain ⟨q, hq, S, HC, HM, B, h0⟩ := R
  have hh := qok_h hq
  have hh' : q.2.2.1 = 4 ∨ q.2.2.1 = 38 := hh
  have B1 := B.1
  have BA := B.2.2.2.1
  have BZ := B.2.2.2.2.2.2
  obtain ⟨hKK, hK6⟩ := hB_K B1
  obtain ⟨hFF, hF8⟩ := hB_F B1
  obtain ⟨hPP, hP5⟩ := hB_P B1
  have bT := aB_t BA
  have bp := aB_p5 B1 BA
  have HZc := HC.2.2.2.2.2.2.1
  obtain ⟨A, hA⟩ : ∃ A, A = wA W := ⟨_, rfl⟩
  obtain ⟨Z, hZ⟩ : ∃ Z, Z = wZ W := ⟨_, rfl⟩
  obtain ⟨X, hX⟩ : ∃ X, X = wX W := ⟨_, rfl⟩
  have HCX := HC.1
  have HCA := HC.2.2.2.1
  rw [← hA] at BA bT bp HCA
  rw [← hX] at B1 hKK hK6 hFF hF8 hPP hP5 BA BZ HCX
  rw [← hZ] at HZc BZ
  -- the first bytes
  obtain ⟨l0, hl0⟩ : ∃ l0 : List Int, l0 = [A 0 0 0 / 24 / 256, A 0 0 0 / 24 % 256] ++ [A 0 0 0 % 24] := ⟨_, rfl⟩
  have hl3 : l0.length = 3 := by rw [hl0]; rfl
  have hlB : lB l0 := by
    rw [hl0]
    have h := lB_2 (l := []) (fun k hk => absurd hk (by show ¬ k < 0; omega)) (x := A 0 0 0 / 24) (by omega) (by omega)
    exact lB_s h (by omega) (by omega)
  have qlen := imQ_len hK6 hF8 A l0
  obtain ⟨lq, hlq⟩ : ∃ lq : Nat → List Int, lq = imQ (nK X) (nF X) A l0 := ⟨_, rfl⟩
  rw [← hlq] at qlen
  have lqs : ∀ n, lq (n + 1) = imF A n (imK A n (lq n) (nK X)) (nF X) := fun n => by rw [hlq]; rfl
  have eimg : img X A = imP A (lq (nP X + 1)) (nP X) := by unfold img; rw [← hl0, hlq]
  have blen : (img X A).length ≤ 138 := by
    have h1 := qlen (nP X + 1)
    rw [eimg, imP_len]
    omega
  have bB : lB (img X A) := by
    rw [eimg, hlq]
    exact imP_B BA (imQ_B B1 BA hK6 hF8 hlB _ (by omega)) _ hP5
  -- the class
  have cz0 : cIm L q M (am_sI M 2 11 (am_i 0)) Z [] := by
    refine ⟨S.sI _ _ _, fr_sI (Or.inr ⟨rfl, rfl⟩), ?_⟩
    obtain ⟨k1, k2, k3, k4, k5, k6, k7, k8, k9, k10⟩ := HZc
    have e : ∀ a b, a ≠ 6 → imgZ Z [] a b = Z a b := fun a b h => (if_neg (fun g => absurd g.2 (by show ¬ b < 0; omega))).trans (if_neg (fun g => h g.1))
    refine ⟨fun k hk => ?_, ?_, ?_, ?_, fun k hk => ?_, ?_, fun k hk => ?_, ?_, fun k hk => ?_, ?_⟩
    · rw [am_I_ne1 (by omega), e _ _ (by decide)]; exact k1 k hk
    · rw [am_I_ne2 (by omega), e _ _ (by decide)]; exact k2
    · rw [am_I_ne1 (by omega), e _ _ (by decide)]; exact k3
    · rw [am_I_ne1 (by omega), e _ _ (by decide)]; exact k4
    · rw [am_I_ne1 (by omega), e _ _ (by decide)]; exact k5 k hk
    · rw [am_I_ne2 (by omega), e _ _ (by decide)]; exact k6
    · rw [am_I_ne1 (by omega), e _ _ (by decide)]; exact k7 k hk
    · rw [am_I_same, imgZ_6]; rfl
    · rw [am_I_ne1 (by omega), e _ _ (by decide)]; exact k9 k hk
    · rw [am_I_ne2 (by omega), e _ _ (by decide)]; exact k10
  have cX : ∀ {M1 : am_M}, fr pI M M1 → cH M1 q.2.2.1 X ∧ cA M1 64 A := fun {M1} f => ⟨cH_mv HCX B1 (fun b k k1 k2 => (f b k (by unfold pI; omega)).1), cA_mv HCA (fun b k k1 k2 k3 => (f b k (by unfold pI; omega)).1)⟩
  have cK : ∀ m n p : Nat, n + m = nK X → p ≤ nP X → ∀ M1, cIm L q M M1 Z (imK A p (lq p) n) → ∃ M2, am_ev 33 599 58 [.ref 2, .ref 64, .int (am_i (X 0 2 0)), .int (am_i p), .int (am_i n)] [] M1 = am_ev 33 599 100 [.ref 2, .ref 64, .int (am_i (X 0 2 0)), .int (am_i p), .int (am_i ((0 : Nat) : Int))] [] M2 ∧ cIm L q M M2 Z (imK A p (lq p) (nK X)) := by
    intro m
    induction m with
    | zero =>
      intro n p hn hp M1 H1
      have : n = nK X := by omega
      subst this
      have S1 := H1.1
      have e0 := (cX H1.2.1).1.1 0 (by decide)
      refine ⟨M1, ?_, H1⟩
      rw [t33_58]
      simp (disch := omega) only [am_ob_p (kk_2 S1), am_ob_p (kk_3 S1), am_ob_p (kk_63 S1), am_ob_p (kk_64 S1), rr_63_0 S1, rr_63_1 S1, rr_64_2 S1, rr_64_3 S1, rr_64_4 S1, rr_64_5 S1, rr_2_0 S1, rr_2_1 S1, rr_2_3 S1, rr_2_4 S1, rr_2_5 S1, rr_2_8 S1, rr_2_10 S1, rr_2_12 S1, rr_2_13 S1, rr_2_14 S1, am_ix_p (kk_30 S1), am_iw_p (kk_30 S1), am_ix_p (kk_33 S1), am_iw_p (kk_33 S1), am_ix_p (kk_34 S1), am_iw_p (kk_34 S1), am_ix_p (kk_35 S1), am_iw_p (kk_35 S1), am_ix_p (kk_36 S1), am_iw_p (kk_36 S1), am_ix_p (kk_37 S1), am_iw_p (kk_37 S1), am_ix_p (kk_65 S1), am_iw_p (kk_65 S1), am_ix_p (kk_66 S1), am_iw_p (kk_66 S1), am_ix_p (kk_67 S1), am_iw_p (kk_67 S1), am_ix_p (kk_68 S1), am_iw_p (kk_68 S1), am_gr_p, am_ob_p (H_k0 S1 hh), am_ix_p (H_k1 S1 hh), am_iw_p (H_k1 S1 hh), am_ix_p (H_k6 S1 hh), am_iw_p (H_k6 S1 hh), am_ix_p (H_k16 S1 hh), am_iw_p (H_k16 S1 hh), am_ix_p (H_k17 S1 hh), am_iw_p (H_k17 S1 hh), am_ix_p (H_k24 S1 hh), am_iw_p (H_k24 S1 hh), H_r0_0 S1 hh, H_r0_1 S1 hh, H_r0_2 S1 hh, H_r0_3 S1 hh, H_r0_4 S1 hh, H_r0_5 S1 hh, H_r0_6 S1 hh, H_r0_15 S1 hh, H_r2 S1 hh, H_r7 S1 hh, H_r18 S1 hh, am_iq_p (H_k2 S1 hh), am_iq_p (H_k7 S1 hh), am_iq_p (H_k18 S1 hh), am_i_ix, Int.toNat_zero, e0, am_br_ge]
      rw [if_pos (by omega)]
      rfl
    | succ m ih =>
      intro n p hn hp M1 H1
      have S1 := H1.1
      have e0 := (cX H1.2.1).1.1 0 (by decide)
      have eT := (cX H1.2.1).2.2.2.1 p (by omega) n (by omega)
      have u : ((p : Int) * 6 + (n : Int)).toNat = 6 * p + n := by omega
      have bt := BA.2.2.1 p (by omega) n (by omega)
      have hl := imK_len A p (lq p) n
      have hq2 := qlen p
      obtain ⟨M2, r2, H2⟩ := c_putTwo H1 (by omega) (x := A 2 p n) bt.1 (by omega) 597
      obtain ⟨M3, r3, H3⟩ := ih (n + 1) p (by omega) hp M2 H2
      refine ⟨M3, ?_, H3⟩
      rw [t33_58]
      simp (disch := omega) only [am_ob_p (kk_2 S1), am_ob_p (kk_3 S1), am_ob_p (kk_63 S1), am_ob_p (kk_64 S1), rr_63_0 S1, rr_63_1 S1, rr_64_2 S1, rr_64_3 S1, rr_64_4 S1, rr_64_5 S1, rr_2_0 S1, rr_2_1 S1, rr_2_3 S1, rr_2_4 S1, rr_2_5 S1, rr_2_8 S1, rr_2_10 S1, rr_2_12 S1, rr_2_13 S1, rr_2_14 S1, am_ix_p (kk_30 S1), am_iw_p (kk_30 S1), am_ix_p (kk_33 S1), am_iw_p (kk_33 S1), am_ix_p (kk_34 S1), am_iw_p (kk_34 S1), am_ix_p (kk_35 S1), am_iw_p (kk_35 S1), am_ix_p (kk_36 S1), am_iw_p (kk_36 S1), am_ix_p (kk_37 S1), am_iw_p (kk_37 S1), am_ix_p (kk_65 S1), am_iw_p (kk_65 S1), am_ix_p (kk_66 S1), am_iw_p (kk_66 S1), am_ix_p (kk_67 S1), am_iw_p (kk_67 S1), am_ix_p (kk_68 S1), am_iw_p (kk_68 S1), am_gr_p, am_ob_p (H_k0 S1 hh), am_ix_p (H_k1 S1 hh), am_iw_p (H_k1 S1 hh), am_ix_p (H_k6 S1 hh), am_iw_p (H_k6 S1 hh), am_ix_p (H_k16 S1 hh), am_iw_p (H_k16 S1 hh), am_ix_p (H_k17 S1 hh), am_iw_p (H_k17 S1 hh), am_ix_p (H_k24 S1 hh), am_iw_p (H_k24 S1 hh), H_r0_0 S1 hh, H_r0_1 S1 hh, H_r0_2 S1 hh, H_r0_3 S1 hh, H_r0_4 S1 hh, H_r0_5 S1 hh, H_r0_6 S1 hh, H_r0_15 S1 hh, H_r2 S1 hh, H_r7 S1 hh, H_r18 S1 hh, am_iq_p (H_k2 S1 hh), am_iq_p (H_k7 S1 hh), am_iq_p (H_k18 S1 hh), am_i_ix, Int.toNat_zero, e0, am_br_ge]
      rw [if_neg (by omega)]
      simp (disch := omega) only [am_ob_p (kk_2 S1), am_ob_p (kk_3 S1), am_ob_p (kk_63 S1), am_ob_p (kk_64 S1), rr_63_0 S1, rr_63_1 S1, rr_64_2 S1, rr_64_3 S1, rr_64_4 S1, rr_64_5 S1, rr_2_0 S1, rr_2_1 S1, rr_2_3 S1, rr_2_4 S1, rr_2_5 S1, rr_2_8 S1, rr_2_10 S1, rr_2_12 S1, rr_2_13 S1, rr_2_14 S1, am_ix_p (kk_30 S1), am_iw_p (kk_30 S1), am_ix_p (kk_33 S1), am_iw_p (kk_33 S1), am_ix_p (kk_34 S1), am_iw_p (kk_34 S1), am_ix_p (kk_35 S1), am_iw_p (kk_35 S1), am_ix_p (kk_36 S1), am_iw_p (kk_36 S1), am_ix_p (kk_37 S1), am_iw_p (kk_37 S1), am_ix_p (kk_65 S1), am_iw_p (kk_65 S1), am_ix_p (kk_66 S1), am_iw_p (kk_66 S1), am_ix_p (kk_67 S1), am_iw_p (kk_67 S1), am_ix_p (kk_68 S1), am_iw_p (kk_68 S1), am_gr_p, am_i_ix, Int.toNat_zero, Int.toNat_one, Int.toNat_natCast, Int.reduceToNat, am_lt, am_i_add, am_i_sub, am_i_mul, u, eT]
      rw [r2, am_bV_p]
      exact r3
  have cF : ∀ m n p : Nat, n + m = nF X → p ≤ nP X → ∀ M1, cIm L q M M1 Z (imF A p (imK A p (lq p) (nK X)) n) → ∃ M2 v4, am_ev 33 599 100 [.ref 2, .ref 64, .int (am_i (X 0 2 0)), .int (am_i p), .int (am_i n)] [] M1 = am_ev 33 599 50 [.ref 2, .ref 64, .int (am_i (X 0 2 0)), .int (am_i ((p + 1 : Nat) : Int)), v4] [] M2 ∧ cIm L q M M2 Z (lq (p + 1)) := by
    intro m
    induction m with
    | zero =>
      intro n p hn hp M1 H1
      have : n = nF X := by omega
      subst this
      have S1 := H1.1
      have e0 := (cX H1.2.1).1.1 1 (by decide)
      refine ⟨M1, .int (am_i (nF X)), ?_, by rw [lqs]; exact H1⟩
      rw [t33_100]
      simp (disch := omega) only [am_ob_p (kk_2 S1), am_ob_p (kk_3 S1), am_ob_p (kk_63 S1), am_ob_p (kk_64 S1), rr_63_0 S1, rr_63_1 S1, rr_64_2 S1, rr_64_3 S1, rr_64_4 S1, rr_64_5 S1, rr_2_0 S1, rr_2_1 S1, rr_2_3 S1, rr_2_4 S1, rr_2_5 S1, rr_2_8 S1, rr_2_10 S1, rr_2_12 S1, rr_2_13 S1, rr_2_14 S1, am_ix_p (kk_30 S1), am_iw_p (kk_30 S1), am_ix_p (kk_33 S1), am_iw_p (kk_33 S1), am_ix_p (kk_34 S1), am_iw_p (kk_34 S1), am_ix_p (kk_35 S1), am_iw_p (kk_35 S1), am_ix_p (kk_36 S1), am_iw_p (kk_36 S1), am_ix_p (kk_37 S1), am_iw_p (kk_37 S1), am_ix_p (kk_65 S1), am_iw_p (kk_65 S1), am_ix_p (kk_66 S1), am_iw_p (kk_66 S1), am_ix_p (kk_67 S1), am_iw_p (kk_67 S1), am_ix_p (kk_68 S1), am_iw_p (kk_68 S1), am_gr_p, am_ob_p (H_k0 S1 hh), am_ix_p (H_k1 S1 hh), am_iw_p (H_k1 S1 hh), am_ix_p (H_k6 S1 hh), am_iw_p (H_k6 S1 hh), am_ix_p (H_k16 S1 hh), am_iw_p (H_k16 S1 hh), am_ix_p (H_k17 S1 hh), am_iw_p (H_k17 S1 hh), am_ix_p (H_k24 S1 hh), am_iw_p (H_k24 S1 hh), H_r0_0 S1 hh, H_r0_1 S1 hh, H_r0_2 S1 hh, H_r0_3 S1 hh, H_r0_4 S1 hh, H_r0_5 S1 hh, H_r0_6 S1 hh, H_r0_15 S1 hh, H_r2 S1 hh, H_r7 S1 hh, H_r18 S1 hh, am_iq_p (H_k2 S1 hh), am_iq_p (H_k7 S1 hh), am_iq_p (H_k18 S1 hh), am_i_ix, Int.toNat_one, e0, am_br_ge]
      rw [if_pos (by omega), am_i_add]
      rfl
    | succ m ih =>
      intro n p hn hp M1 H1
      have S1 := H1.1
      have e0 := (cX H1.2.1).1.1 1 (by decide)
      have eT := (cX H1.2.1).2.2.2.2.1 p (by omega) n (by omega)
      have u : ((p : Int) * 8 + (n : Int)).toNat = 8 * p + n := by omega
      have bt := aB_se9 B1 BA (show p < 6 by omega) (show n < 8 by omega)
      have hl := imF_len A p (imK A p (lq p) (nK X)) n
      have hl2 := imK_len A p (lq p) (nK X)
      have hq2 := qlen p
      obtain ⟨M2, r2, H2⟩ := c_putByte H1 (by omega) (A 3 p n) 598
      obtain ⟨M3, v4, r3, H3⟩ := ih (n + 1) p (by omega) hp M2 H2
      refine ⟨M3, v4, ?_, H3⟩
      rw [t33_100]
      simp (disch := omega) only [am_ob_p (kk_2 S1), am_ob_p (kk_3 S1), am_ob_p (kk_63 S1), am_ob_p (kk_64 S1), rr_63_0 S1, rr_63_1 S1, rr_64_2 S1, rr_64_3 S1, rr_64_4 S1, rr_64_5 S1, rr_2_0 S1, rr_2_1 S1, rr_2_3 S1, rr_2_4 S1, rr_2_5 S1, rr_2_8 S1, rr_2_10 S1, rr_2_12 S1, rr_2_13 S1, rr_2_14 S1, am_ix_p (kk_30 S1), am_iw_p (kk_30 S1), am_ix_p (kk_33 S1), am_iw_p (kk_33 S1), am_ix_p (kk_34 S1), am_iw_p (kk_34 S1), am_ix_p (kk_35 S1), am_iw_p (kk_35 S1), am_ix_p (kk_36 S1), am_iw_p (kk_36 S1), am_ix_p (kk_37 S1), am_iw_p (kk_37 S1), am_ix_p (kk_65 S1), am_iw_p (kk_65 S1), am_ix_p (kk_66 S1), am_iw_p (kk_66 S1), am_ix_p (kk_67 S1), am_iw_p (kk_67 S1), am_ix_p (kk_68 S1), am_iw_p (kk_68 S1), am_gr_p, am_ob_p (H_k0 S1 hh), am_ix_p (H_k1 S1 hh), am_iw_p (H_k1 S1 hh), am_ix_p (H_k6 S1 hh), am_iw_p (H_k6 S1 hh), am_ix_p (H_k16 S1 hh), am_iw_p (H_k16 S1 hh), am_ix_p (H_k17 S1 hh), am_iw_p (H_k17 S1 hh), am_ix_p (H_k24 S1 hh), am_iw_p (H_k24 S1 hh), H_r0_0 S1 hh, H_r0_1 S1 hh, H_r0_2 S1 hh, H_r0_3 S1 hh, H_r0_4 S1 hh, H_r0_5 S1 hh, H_r0_6 S1 hh, H_r0_15 S1 hh, H_r2 S1 hh, H_r7 S1 hh, H_r18 S1 hh, am_iq_p (H_k2 S1 hh), am_iq_p (H_k7 S1 hh), am_iq_p (H_k18 S1 hh), am_i_ix, Int.toNat_one, e0, am_br_ge]
      rw [if_neg (by omega)]
      simp (disch := omega) only [am_ob_p (kk_2 S1), am_ob_p (kk_3 S1), am_ob_p (kk_63 S1), am_ob_p (kk_64 S1), rr_63_0 S1, rr_63_1 S1, rr_64_2 S1, rr_64_3 S1, rr_64_4 S1, rr_64_5 S1, rr_2_0 S1, rr_2_1 S1, rr_2_3 S1, rr_2_4 S1, rr_2_5 S1, rr_2_8 S1, rr_2_10 S1, rr_2_12 S1, rr_2_13 S1, rr_2_14 S1, am_ix_p (kk_30 S1), am_iw_p (kk_30 S1), am_ix_p (kk_33 S1), am_iw_p (kk_33 S1), am_ix_p (kk_34 S1), am_iw_p (kk_34 S1), am_ix_p (kk_35 S1), am_iw_p (kk_35 S1), am_ix_p (kk_36 S1), am_iw_p (kk_36 S1), am_ix_p (kk_37 S1), am_iw_p (kk_37 S1), am_ix_p (kk_65 S1), am_iw_p (kk_65 S1), am_ix_p (kk_66 S1), am_iw_p (kk_66 S1), am_ix_p (kk_67 S1), am_iw_p (kk_67 S1), am_ix_p (kk_68 S1), am_iw_p (kk_68 S1), am_gr_p, am_i_ix, Int.toNat_zero, Int.toNat_one, Int.toNat_natCast, Int.reduceToNat, am_lt, am_i_add, am_i_sub, am_i_mul, u, eT]
      rw [r2, am_bV_p]
      exact r3
  have cQ' : ∀ m p : Nat, p + m = nP X + 1 → ∀ (M1 : am_M) (v4 : Value), cIm L q M M1 Z (lq p) → ∃ M2 v4', am_ev 33 599 50 [.ref 2, .ref 64, .int (am_i (X 0 2 0)), .int (am_i p), v4] [] M1 = am_ev 33 599 147 [.ref 2, .ref 64, .int (am_i (X 0 2 0)), .int (am_i ((0 : Nat) : Int)), v4'] [] M2 ∧ cIm L q M M2 Z (lq (nP X + 1)) := by
    intro m
    induction m with
    | zero =>
      intro p hp M1 v4 H1
      have : p = nP X + 1 := by omega
      subst this
      refine ⟨M1, v4, ?_, H1⟩
      rw [t33_50, am_br_gt (by omega) (by omega) (by omega) (by omega), if_pos (by omega)]
      rfl
    | succ m ih =>
      intro p hp M1 v4 H1
      obtain ⟨M2, r2, H2⟩ := cK (nK X) 0 p (by omega) (by omega) M1 H1
      obtain ⟨M3, v4', r3, H3⟩ := cF (nF X) 0 p (by omega) (by omega) M2 H2
      obtain ⟨M4, v4'', r4, H4⟩ := ih (p + 1) (by omega) M3 v4' H3
      refine ⟨M4, v4'', ?_, H4⟩
      rw [t33_50, am_br_gt (by omega) (by omega) (by omega) (by omega), if_neg (by omega)]
      exact r2.trans (r3.trans r4)
  have cP : ∀ m p : Nat, p + m = nP X → ∀ (M1 : am_M) (v4 : Value), cIm L q M M1 Z (imP A (lq (nP X + 1)) p) → ∃ M2, am_ev 33 599 147 [.ref 2, .ref 64, .int (am_i (X 0 2 0)), .int (am_i p), v4] [] M1 = some (some (.int (am_i ((img X A).length + 1 : Int))), M2) ∧ cIm L q M M2 Z (img X A ++ [chkN (img X A) (img X A).length]) := by
    intro m
    induction m with
    | zero =>
      intro p hp M1 v4 H1
      have : p = nP X := by omega
      subst this
      rw [← eimg] at H1
      have S1 := H1.1
      have e11 := H1.2.2.2.2.2.2.2.2.2.1
      rw [imgZ_6] at e11
      have rc := c_check S1 blen bB (fun k hk => by rw [H1.2.2.2.2.2.2.2.2.1 k (by omega), imgZ_5 hk]) 598
      obtain ⟨M2, r2, H2⟩ := c_putByte H1 (by omega) (chkN (img X A) (img X A).length) 598
      have e12 := H2.2.2.2.2.2.2.2.2.2.1
      rw [imgZ_6, List.length_append] at e12
      refine ⟨M2, ?_, H2⟩
      rw [t33_147, am_br_ge (by omega) (by omega) (by omega) (by omega), if_pos (by omega), am_ob_p (kk_2 S1), rr_2_10 S1, am_gr_p, am_ob_p (kk_2 S1), am_ob_p (kk_2 S1), e11, rc, am_bI_p, am_ob_p (kk_2 S1), r2, am_bV_p, am_ob_p (kk_2 H2.1), e12]
      rfl
    | succ m ih =>
      intro p hp M1 v4 H1
      have S1 := H1.1
      have ep := (cX H1.2.1).2.2.1
      have hl := imP_len A (lq (nP X + 1)) p
      have hq2 := qlen (nP X + 1)
      have ebit := bit_p (P := A 1 0 0) bp.1 bp.2 (show p < 5 by omega)
      have eprs : A 1 0 0 / ((2 ^ p : Nat) : Int) % 2 = prs A p := rfl
      have bs := aB_sa BA (show p < 5 by omega)
      obtain ⟨M2, r2, H2⟩ := c_putByte H1 (by omega) (prs A p) 598
      have e4 := (cX H2.2.1).2.2.2.2.2 p (by omega)
      obtain ⟨M3, r3, H3⟩ := c_putTwo H2 (by rw [List.length_append]; show _ + 1 < 138; omega) (x := A 4 p 0) bs.1 (by omega) 597
      obtain ⟨M4, r4, H4⟩ := ih (p + 1) (by omega) M3 v4 H3
      refine ⟨M4, ?_, H4⟩
      rw [t33_147, am_br_ge (by omega) (by omega) (by omega) (by omega), if_neg (by omega), am_ob_p (kk_64 S1), am_ob_p (kk_2 S1), ep, ebit, eprs, r2, am_bV_p, am_ob_p (kk_64 H2.1), rr_64_4 H2.1, am_gr_p, am_ix_p (kk_67 H2.1) (by omega) (by omega) (by omega), am_ob_p (kk_2 H2.1), am_i_ix (by omega) (by omega), Int.toNat_natCast, e4, r3, am_bV_p, am_i_add]
      exact r4
  have cl : ∃ M1, am_cl 33 599 [.ref 2] M = some (some (.int (am_i ((img X A).length + 1 : Int))), M1) ∧ cIm L q M M1 Z (img X A ++ [chkN (img X A) (img X A).length]) := by
    have e2 := HCX.1 2 (by decide)
    obtain ⟨M1, r1, H1⟩ := c_putTwo cz0 (by decide) (x := A 0 0 0 / 24) (by omega) (by omega) 597
    obtain ⟨M2, r2, H2⟩ := c_putByte H1 (by show 2 < 139; decide) (A 0 0 0 % 24) 598
    have H2' : cIm L q M M2 Z (lq 0) := by rw [hlq]; show cIm L q M M2 Z l0; rw [hl0]; exact H2
    obtain ⟨M3, v4, r3, H3⟩ := cQ' (nP X + 1) 0 (by omega) M2 .null H2'
    obtain ⟨M4, r4, H4⟩ := cP (nP X) 0 (by omega) M3 v4 H3
    refine ⟨M4, ?_, H4⟩
    have S0 := cz0.1
    have eT0 : am_I (am_sI M 2 11 (am_i 0)) 64 0 = am_i (A 0 0 0) := (cX cz0.2.1).2.1
    have eT1 := (cX H1.2.1).2.1
    rw [t33, am_ob_p (kk_2 S), rr_2_3 S, am_gr_p, am_ob_p (kk_63 S), rr_63_1 S, am_gr_p, am_ob_p (kk_2 S), am_gr_p, am_ob_p (kk_63 S), rr_63_0 S, am_gr_p, am_ob_p (H_k0 S hh), H_r0_0 S hh, am_gr_p, am_ix_p (H_k1 S hh) (by omega) (by omega) (by omega), am_ob_p (kk_2 S), am_i_ix (by omega) (by omega), show (2 : Int).toNat = 2 from rfl, e2]
    simp only [am_lt]
    rw [am_ob_p (kk_64 S0), am_if_f (by decide), am_ob_p (kk_2 S0), eT0, am_i_div (by omega) (by omega) (by omega) (by omega), r1, am_bV_p, am_ob_p (kk_64 H1.1), am_if_f (by decide), am_ob_p (kk_2 H1.1), eT1, am_i_rem (by omega) (by omega) (by omega) (by omega), r2, am_bV_p]
    exact r3.trans r4
  obtain ⟨M1, s1, H1⟩ := cl
  have f1 : fr (fun b k => (sC q b k ∨ zC b k) ∧ b < 187) M M1 := fr_mono H1.2.1 (fun b k h => by
    unfold pI at h
    exact ⟨Or.inr (by unfold zC; omega), by omega⟩)
  have HM1 := mWo_mv HM B.1 (fr_mono f1 (fun b k h => sM_lt h.2))
  have S1 := H1.1
  have HMX := HM1.1
  have HMA := HM1.2.2.2.1
  have HMZ := HM1.2.2.2.2.2.2.1
  rw [← hX] at HMX
  rw [← hA] at HMA
  rw [← hZ] at HMZ
  -- the reference
  have mz0 : mIm L q M1 (am_sI M1 187 102 (am_i 0)) Z [] := by
    refine ⟨S1.sI _ _ _, fr_sI (Or.inr ⟨rfl, rfl⟩), ?_⟩
    obtain ⟨k1, k2, k3, k4, k5, k6, k7, k8, k9, k10⟩ := HMZ
    have e : ∀ a b, a ≠ 6 → imgZ Z [] a b = Z a b := fun a b h => (if_neg (fun g => absurd g.2 (by show ¬ b < 0; omega))).trans (if_neg (fun g => h g.1))
    refine ⟨fun k hk => ?_, ?_, ?_, ?_, fun k hk => ?_, ?_, fun k hk => ?_, ?_, fun k hk => ?_, ?_⟩
    · rw [am_I_ne1 (by omega), e _ _ (by decide)]; exact k1 k hk
    · rw [am_I_ne2 (by omega), e _ _ (by decide)]; exact k2
    · rw [am_I_ne2 (by omega), e _ _ (by decide)]; exact k3
    · rw [am_I_ne2 (by omega), e _ _ (by decide)]; exact k4
    · rw [am_I_ne1 (by omega), e _ _ (by decide)]; exact k5 k hk
    · rw [am_I_ne2 (by omega), e _ _ (by decide)]; exact k6
    · rw [am_I_ne1 (by omega), e _ _ (by decide)]; exact k7 k hk
    · rw [am_I_same, imgZ_6]; rfl
    · rw [am_I_ne1 (by omega), e _ _ (by decide)]; exact k9 k hk
    · rw [am_L_sI', e _ _ (by decide)]; exact k10
  have mX : ∀ {M2 : am_M}, fr pJ M1 M2 → mH M2 X ∧ mA M2 A := fun {M2} f => ⟨mH_mv HMX B1 (fun b k k1 k2 k3 => (f b k (by unfold pJ; omega)).1), mA_mv HMA (fun k hk => (f 229 k (by unfold pJ; omega)).1)⟩
  have mK' : ∀ m n p : Nat, n + m = nK X → p ≤ nP X → ∀ M2, mIm L q M1 M2 Z (imK A p (lq p) n) → ∃ M3, am_ev 264 599 37 [.ref 187, .int (am_i p), .int (am_i n)] [] M2 = am_ev 264 599 68 [.ref 187, .int (am_i p), .int (am_i ((0 : Nat) : Int))] [] M3 ∧ mIm L q M1 M3 Z (imK A p (lq p) (nK X)) := by
    intro m
    induction m with
    | zero =>
      intro n p hn hp M2 H2
      have : n = nK X := by omega
      subst this
      refine ⟨M2, ?_, H2⟩
      rw [t264_37, am_ob_p (kk_187 H2.1), m_kindMany H2.1 (mX H2.2.1).1, am_bI_p, am_br_ge (by omega) (by omega) (by omega) (by omega), if_pos (by omega)]
      rfl
    | succ m ih =>
      intro n p hn hp M2 H2
      have S2 := H2.1
      have eT := (mX H2.2.1).2.2.2.1 p (by omega) n (by omega)
      have u : ((2 : Int) + 14 * (p : Int) + (n : Int)).toNat = 2 + 14 * p + n := by omega
      have bt := BA.2.2.1 p (by omega) n (by omega)
      have hl := imK_len A p (lq p) n
      have hq2 := qlen p
      obtain ⟨M3, r3, H3⟩ := m_writesTwo H2 (by omega) (x := A 2 p n) bt.1 (by omega) 597
      obtain ⟨M4, r4, H4⟩ := ih (n + 1) p (by omega) hp M3 H3
      refine ⟨M4, ?_, H4⟩
      rw [t264_37, am_ob_p (kk_187 S2), m_kindMany S2 (mX H2.2.1).1, am_bI_p, am_br_ge (by omega) (by omega) (by omega) (by omega), if_neg (by omega), am_ob_p (kk_187 S2), rr_187_54 S2, am_gr_p, am_ob_p (kk_187 S2), t171, am_bI_p, am_i_mul, am_i_add, am_i_add, am_ix_p (kk_229 S2) (by omega) (by omega) (by omega), am_ob_p (kk_187 S2), am_i_ix (by omega) (by omega), u, eT, r3, am_bV_p, am_i_add]
      exact r4
  have mF : ∀ m n p : Nat, n + m = nF X → p ≤ nP X → ∀ M2, mIm L q M1 M2 Z (imF A p (imK A p (lq p) (nK X)) n) → ∃ M3 v2, am_ev 264 599 68 [.ref 187, .int (am_i p), .int (am_i n)] [] M2 = am_ev 264 599 27 [.ref 187, .int (am_i ((p + 1 : Nat) : Int)), v2] [] M3 ∧ mIm L q M1 M3 Z (lq (p + 1)) := by
    intro m
    induction m with
    | zero =>
      intro n p hn hp M2 H2
      have : n = nF X := by omega
      subst this
      refine ⟨M2, .int (am_i (nF X)), ?_, by rw [lqs]; exact H2⟩
      rw [t264_68, am_ob_p (kk_187 H2.1), m_filmMany H2.1 (mX H2.2.1).1, am_bI_p, am_br_ge (by omega) (by omega) (by omega) (by omega), if_pos (by omega), am_i_add]
      rfl
    | succ m ih =>
      intro n p hn hp M2 H2
      have S2 := H2.1
      have hl := imF_len A p (imK A p (lq p) (nK X)) n
      have hl2 := imK_len A p (lq p) (nK X)
      have hq2 := qlen p
      obtain ⟨M3, r3, H3⟩ := m_writes H2 (by omega) (A 3 p n) 598
      obtain ⟨M4, v2, r4, H4⟩ := ih (n + 1) p (by omega) hp M3 H3
      refine ⟨M4, v2, ?_, H4⟩
      rw [t264_68, am_ob_p (kk_187 S2), m_filmMany S2 (mX H2.2.1).1, am_bI_p, am_br_ge (by omega) (by omega) (by omega) (by omega), if_neg (by omega), am_ob_p (kk_187 S2), m_seenBy S2 (mX H2.2.1).2 (show p < 6 by omega) (show n < 8 by omega), am_bI_p, am_ob_p (kk_187 S2), r3, am_bV_p, am_i_add]
      exact r4
  have mQ' : ∀ m p : Nat, p + m = nP X + 1 → ∀ (M2 : am_M) (v2 : Value), mIm L q M1 M2 Z (lq p) → ∃ M3 v2', am_ev 264 599 27 [.ref 187, .int (am_i p), v2] [] M2 = am_ev 264 599 100 [.ref 187, .int (am_i ((0 : Nat) : Int)), v2'] [] M3 ∧ mIm L q M1 M3 Z (lq (nP X + 1)) := by
    intro m
    induction m with
    | zero =>
      intro p hp M2 v2 H2
      have : p = nP X + 1 := by omega
      subst this
      refine ⟨M2, v2, ?_, H2⟩
      rw [t264_27, am_ob_p (kk_187 H2.1), m_personMany H2.1 (mX H2.2.1).1, am_bI_p, am_br_gt (by omega) (by omega) (by omega) (by omega), if_pos (by omega)]
      rfl
    | succ m ih =>
      intro p hp M2 v2 H2
      obtain ⟨M3, r3, H3⟩ := mK' (nK X) 0 p (by omega) (by omega) M2 H2
      obtain ⟨M4, v2', r4, H4⟩ := mF (nF X) 0 p (by omega) (by omega) M3 H3
      obtain ⟨M5, v2'', r5, H5⟩ := ih (p + 1) (by omega) M4 v2' H4
      refine ⟨M5, v2'', ?_, H5⟩
      rw [t264_27, am_ob_p (kk_187 H2.1), m_personMany H2.1 (mX H2.2.1).1, am_bI_p, am_br_gt (by omega) (by omega) (by omega) (by omega), if_neg (by omega)]
      exact r3.trans (r4.trans r5)
  have mP : ∀ m p : Nat, p + m = nP X → ∀ (M2 : am_M) (v2 : Value), mIm L q M1 M2 Z (imP A (lq (nP X + 1)) p) → ∃ M3, am_ev 264 599 100 [.ref 187, .int (am_i p), v2] [] M2 = some (some (.int (am_i ((img X A).length + 1 : Int))), M3) ∧ mIm L q M1 M3 Z (img X A ++ [chkN (img X A) (img X A).length]) := by
    intro m
    induction m with
    | zero =>
      intro p hp M2 v2 H2
      have : p = nP X := by omega
      subst this
      rw [← eimg] at H2
      have S2 := H2.1
      have e11 := H2.2.2.2.2.2.2.2.2.2.1
      rw [imgZ_6] at e11
      have rc := m_check S2 (r := 260) (Or.inl (kk_260 S2)) (by omega) bB (fun k hk => by rw [H2.2.2.2.2.2.2.2.2.1 k (by omega), imgZ_5 hk]) 598
      obtain ⟨M3, r3, H3⟩ := m_writes H2 (by omega) (chkN (img X A) (img X A).length) 598
      have e12 := H3.2.2.2.2.2.2.2.2.2.1
      rw [imgZ_6, List.length_append] at e12
      refine ⟨M3, ?_, H3⟩
      rw [t264_100, am_ob_p (kk_187 S2), m_personMany S2 (mX H2.2.1).1, am_bI_p, am_br_ge (by omega) (by omega) (by omega) (by omega), if_pos (by omega), am_ob_p (kk_187 S2), rr_187_101 S2, am_gr_p, am_ob_p (kk_187 S2), e11, rc, am_bI_p, am_ob_p (kk_187 S2), r3, am_bV_p, am_ob_p (kk_187 H3.1), e12]
      rfl
    | succ m ih =>
      intro p hp M2 v2 H2
      have S2 := H2.1
      have hl := imP_len A (lq (nP X + 1)) p
      have hq2 := qlen (nP X + 1)
      have e86 := (mX H2.2.1).2.2.2.2.2.1 p (by omega)
      have u : (86 + 2 * (p : Int)).toNat = 86 + 2 * p := by omega
      have bs := aB_sa BA (show p < 5 by omega)
      obtain ⟨M3, r3, H3⟩ := m_writes H2 (by omega) (prs A p) 598
      obtain ⟨M4, r4, H4⟩ := m_writesTwo H3 (by rw [List.length_append]; show _ + 1 < 138; omega) (x := A 4 p 0) bs.1 (by omega) 597
      obtain ⟨M5, r5, H5⟩ := ih (p + 1) (by omega) M4 v2 H4
      refine ⟨M5, ?_, H5⟩
      rw [t264_100, am_ob_p (kk_187 S2), m_personMany S2 (mX H2.2.1).1, am_bI_p, am_br_ge (by omega) (by omega) (by omega) (by omega), if_neg (by omega), am_ob_p (kk_187 S2), rr_187_54 S2, am_gr_p, am_i_mul, am_i_add, am_ix_p (kk_229 S2) (by omega) (by omega) (by omega), am_ob_p (kk_187 S2), am_i_ix (by omega) (by omega), u, e86, r3, am_bV_p, am_ob_p (kk_187 H3.1), m_hoursOf H3.1 (mX H3.2.1).2 (show p < 5 by omega), am_bI_p, am_ob_p (kk_187 H3.1), r4, am_bV_p, am_i_add]
      exact r5
  have ml : ∃ M2, am_cl 264 599 [.ref 187] M1 = some (some (.int (am_i ((img X A).length + 1 : Int))), M2) ∧ mIm L q M1 M2 Z (img X A ++ [chkN (img X A) (img X A).length]) := by
    obtain ⟨M2, r2, H2⟩ := m_writesTwo mz0 (by decide) (x := A 0 0 0 / 24) (by omega) (by omega) 597
    obtain ⟨M3, r3, H3⟩ := m_writes H2 (by show 2 < 139; decide) (A 0 0 0 % 24) 598
    have H3' : mIm L q M1 M3 Z (lq 0) := by rw [hlq]; show mIm L q M1 M3 Z l0; rw [hl0]; exact H3
    obtain ⟨M4, v2, r4, H4⟩ := mQ' (nP X + 1) 0 (by omega) M3 .null H3'
    obtain ⟨M5, r5, H5⟩ := mP (nP X) 0 (by omega) M4 v2 H4
    refine ⟨M5, ?_, H5⟩
    have S0 := mz0.1
    have eT0 : am_I (am_sI M1 187 102 (am_i 0)) 229 0 = am_i (A 0 0 0 / 24) := (mX mz0.2.1).2.1
    have eT1 := (mX H2.2.1).2.2.1
    rw [t264, am_ob_p (kk_187 S1)]
    simp only [am_lt]
    rw [am_ob_p (kk_187 S0), rr_187_54 S0, am_gr_p, am_ix_p (kk_229 S0) (by omega) (by omega) (by omega), am_ob_p (kk_187 S0), am_i_ix (by omega) (by omega), Int.toNat_zero, eT0, r2, am_bV_p, am_ob_p (kk_187 H2.1), rr_187_54 H2.1, am_gr_p, am_ix_p (kk_229 H2.1) (by omega) (by omega) (by omega), am_ob_p (kk_187 H2.1), am_i_ix (by omega) (by omega), Int.toNat_one, eT1, r3, am_bV_p]
    exact r4.trans r5
  obtain ⟨M2, s2, H2⟩ := ml
  refine Call_Z (v := .int (am_i ((img X A).length + 1 : Int))) (Z := imgZ Z (img X A ++ [chkN (img X A) (img X A).length])) (iv _) hq HC HM B h0 s1 f1 H1.2.2 hq rfl s2 (fr_mono H2.2.1 (fun b k h => by
    unfold pJ at h
    exact ⟨Or.inr (by unfold zM; omega), by omega⟩)) H2.2.2 ?_ H2.1
  rw [← hX]
  obtain ⟨b1, b2, b3, b4, b5, b6⟩ := BZ
  have e : ∀ a b, a ≠ 5 → a ≠ 6 → imgZ Z (img X A ++ [chkN (img X A) (img X A).length]) a b = Z a b := fun a b h h2 => imgZ_o h h2
  refine ⟨fun k => by rw [e _ _ (by decide) (by decide)]; exact b1 k, by rw [e _ _ (by decide) (by decide)]; exact b2, by rw [e _ _ (by decide) (by decide)]; exact b3, fun r hr => ?_, ?_, by rw [e _ _ (by decide) (by decide)]; exact b6⟩
  · rw [e _ _ (by decide) (by decide)] at hr
    rw [e _ _ (by decide) (by decide), e _ _ (by decide) (by decide), e _ _ (by decide) (by decide)]
    exact b4 r hr
  · rw [imgZ_6, List.length_append]
    show 0 ≤ (((img X A).length + 1 : Nat) : Int) ∧ (((img X A).length + 1 : Nat) : Int) ≤ 139
    omega
