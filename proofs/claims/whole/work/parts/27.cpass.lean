/-! The class: an hour. -/
theorem watch_ne (X : am_X) (G : am_Gf) (A : am_A) (p f : Nat) {i j k : Nat} (h : ¬ (i = 2 ∧ j = prof A p ∧ k < nK X)) (h' : ¬ (i = 3 ∧ j = prof A p ∧ k = f)) (h2 : ¬ (i = 4 ∧ j = p ∧ k = 0)) : watch X G A p f i j k = A i j k := by
  unfold watch
  rw [uA_ne h2, see_ne _ _ _ _ _ h h']
theorem aB_watch {X : am_X} {G : am_Gf} {A : am_A} (B : hB X) (BA : aB X A) {p f : Nat} (hp : p < nP X) (hf : f < nF X) (h : A 3 (prof A p) f < X 2 f 0) : aB X (watch X G A p f) := by
  have hP5 := (hB_P B).2
  obtain ⟨h1, h2, h3, h4, h5, h6, h7, h8⟩ := aB_see (G := G) B BA (prof_le (A := A) hp) hf h
  have b := aB_sa BA (show p < 5 by omega)
  unfold watch
  refine ⟨?_, ?_, fun q' hq' k hk => ?_, fun q' hq' f' hf' => ?_, fun p' hp' => ?_, fun q' hq' k hk hz => ?_, fun q' hq' f' hf' hz => ?_, fun p' hp' hz => ?_⟩
  · rw [uA_ne (by omega)]; exact h1
  · rw [uA_ne (by omega)]; exact h2
  · rw [uA_ne (by omega)]; exact h3 q' hq' k hk
  · rw [uA_ne (by omega)]; exact h4 q' hq' f' hf'
  · by_cases g : p' = p
    · subst g
      rw [uA_eq]
      split <;> omega
    · rw [uA_ne (by omega)]; exact h5 p' hp'
  · rw [uA_ne (by omega)]; exact h6 q' hq' k hk hz
  · rw [uA_ne (by omega)]; exact h7 q' hq' f' hf' hz
  · rw [uA_ne (by omega)]; exact h8 p' hp' hz
theorem plz_bd {X : am_X} {A : am_A} (B : hB X) {p f : Nat} (hp : p < nP X) (hf : f < nF X) : -99 ≤ plz X A p f ∧ plz X A p f ≤ 486 := by
  have h1 := worth_bd B hp hf
  have h2 := hB_bo B
  unfold plz
  split <;> omega
def pW (c b k : Nat) : Prop := pS c b k ∨ b = c + 4 ∨ b = c + 6
/-- the class's watch -/
theorem c_watch {L : Nat} {q0 : am_Pq} {M : am_M} {c h : Nat} (S : am_Sh L q0 M) (hc : isC c) (hh : isH h) (hch : am_R M c 0 = some h) {X : am_X} {G : am_Gf} {A : am_A} {K : List Int} {bk : Nat} (HX : cH M h X) (HG : cG M h G) (HA : cA M (c + 1) A) (HK : cK M (c + 1) K bk) (hbk : bk < 2000000000) (B : hB X) (BG : gB G) (BA : aB X A)
    {p f : Nat} (hp : p < nP X) (hf : f < nF X) (hs : A 3 (prof A p) f < X 2 f 0) (d : Nat) :
    ∃ M', am_cl 76 (d + 4) [.ref c, .int (am_i p), .int (am_i f)] M = some (some (.int (am_i (plz X A p f))), M') ∧ am_Sh L q0 M' ∧ fr (pW c) M M' ∧ cA M' (c + 1) (watch X G A p f) ∧ cK M' (c + 1) (kpush K (rowc A p f)) (bk + 1) ∧
      (∀ k, am_I M' (c + 6) k = if k = p then am_I M (c + 6) p + am_i (plz X A p f) else am_I M (c + 6) k) := by
  have hP5 := (hB_P B).2
  have hc' : c = 63 ∨ c = 75 := hc
  have hh' : h = 4 ∨ h = 38 := hh
  have bsa := aB_sa BA (show p < 5 by omega)
  have bp := hB_bo B
  have bw := worth_bd B hp hf
  obtain ⟨M1, r1, S1, f1, HA1, HK1⟩ := c_seePart S hc hh hch HX HG HA HK hbk B BG BA (prof_le (A := A) hp) hf hs p d
  have e4 : am_I M1 (c + 4) p = am_i (A 4 p 0) := by rw [← see_ne X G A (prof A p) f (i := 4) (j := p) (k := 0) (by omega) (by omega)]; exact HA1.2.2.2.2 p (by omega)
  have hmin : (if (9999 : Int) < A 4 p 0 + 1 then (9999 : Int) else A 4 p 0 + 1) = (if A 4 p 0 + 1 < 9999 then A 4 p 0 + 1 else 9999) := by split <;> split <;> omega
  have S2 := S1.sI (c + 4) p (am_i (if A 4 p 0 + 1 < 9999 then A 4 p 0 + 1 else 9999))
  have HX2 : cH (am_sI M1 (c + 4) p (am_i (if A 4 p 0 + 1 < 9999 then A 4 p 0 + 1 else 9999))) h X := cH_mv HX B (fun b k h1 h2 => by rw [am_I_ne1 (by omega)]; exact (f1 b k (by unfold pS; omega)).1)
  have hch2 : am_R M1 c 0 = some h := by rw [Sh_R S S1 (by omega) (by omega)]; exact hch
  have e10 : am_I M h 10 = am_i (X 10 0 0) := HX.2.2.2.2.2.2 3 (by decide)
  have e10' : am_I M1 h 10 = am_i (X 10 0 0) := by rw [(f1 h 10 (by unfold pS; omega)).1]; exact e10
  have HA3 : cA (am_sI (am_sI M1 (c + 4) p (am_i (if A 4 p 0 + 1 < 9999 then A 4 p 0 + 1 else 9999))) (c + 6) p (am_I M1 (c + 6) p + am_i (plz X A p f))) (c + 1) (watch X G A p f) := cA_mv (cA_w4 HA1 _) (fun b k h1 h2 h3 => am_I_ne1 (by omega))
  have hpz : ∀ x : Int, (x = if prs A p = 1 then X 10 0 0 else 0) → worth X p f - x = plz X A p f := fun x hx => by unfold plz; rw [hx]
  refine ⟨_, ?_, (S2.sI (c + 6) p (am_I M1 (c + 6) p + am_i (plz X A p f))), fr_tr (fr_tr (fr_mono f1 (fun b k h => Or.inl h)) (fr_sI (Or.inr (Or.inl rfl)))) (fr_sI (Or.inr (Or.inr rfl))), HA3, cK_mv (cK_mv HK1 (am_I_ne1 (by omega)) (fun k => am_I_ne1 (by omega))) (am_I_ne1 (by omega)) (fun k => am_I_ne1 (by omega)), ?_⟩
  · rw [t76]
    simp (disch := omega) only [am_ob_p (C_k0 S hc), am_ob_p (C_k1 S hc), am_ob_p (C_k8 S hc), am_ix_p (C_k2 S hc), am_iw_p (C_k2 S hc), am_ix_p (C_k3 S hc), am_iw_p (C_k3 S hc), am_ix_p (C_k4 S hc), am_iw_p (C_k4 S hc), am_ix_p (C_k5 S hc), am_iw_p (C_k5 S hc), am_ix_p (C_k6 S hc), am_iw_p (C_k6 S hc), am_ix_p (C_k7 S hc), am_iw_p (C_k7 S hc), am_ix_p (C_k9 S hc), am_iw_p (C_k9 S hc), am_ix_p (C_k10 S hc), am_iw_p (C_k10 S hc), am_ix_p (C_k11 S hc), am_iw_p (C_k11 S hc), C_r0_1 S hc, C_r0_2 S hc, C_r0_3 S hc, C_r0_5 S hc, C_r1_2 S hc, C_r1_3 S hc, C_r1_4 S hc, C_r1_5 S hc, C_r8_0 S hc, C_r8_1 S hc, C_r8_2 S hc, am_gr_p, c_profileOf S (C_k1 S hc) HA (aB_p5 B BA), am_bI_p]
    rw [r1, am_bV_p]
    simp (disch := omega) only [am_ob_p (C_k0 S1 hc), am_ob_p (C_k1 S1 hc), am_ob_p (C_k8 S1 hc), am_ix_p (C_k2 S1 hc), am_iw_p (C_k2 S1 hc), am_ix_p (C_k3 S1 hc), am_iw_p (C_k3 S1 hc), am_ix_p (C_k4 S1 hc), am_iw_p (C_k4 S1 hc), am_ix_p (C_k5 S1 hc), am_iw_p (C_k5 S1 hc), am_ix_p (C_k6 S1 hc), am_iw_p (C_k6 S1 hc), am_ix_p (C_k7 S1 hc), am_iw_p (C_k7 S1 hc), am_ix_p (C_k9 S1 hc), am_iw_p (C_k9 S1 hc), am_ix_p (C_k10 S1 hc), am_iw_p (C_k10 S1 hc), am_ix_p (C_k11 S1 hc), am_iw_p (C_k11 S1 hc), C_r0_1 S1 hc, C_r0_2 S1 hc, C_r0_3 S1 hc, C_r0_5 S1 hc, C_r1_2 S1 hc, C_r1_3 S1 hc, C_r1_4 S1 hc, C_r1_5 S1 hc, C_r8_0 S1 hc, C_r8_1 S1 hc, C_r8_2 S1 hc, am_gr_p, am_i_ix, Int.toNat_zero, Int.toNat_one, Int.toNat_natCast, Int.reduceToNat, am_lt, am_i_add, am_i_sub, am_i_mul, e4, j_minI, am_bI_p, hmin, hch2, am_ob_sI, am_ix_sI, am_iw_sI, am_iq_sI, am_R_sI', am_ob_sL, am_ix_sL, am_iw_sL, am_iq_sL, am_R_sL', am_I_same, am_I_ne1, am_I_ne2, am_L_same, am_L_ne1, am_L_ne2, am_L_sI', am_I_sL', am_ob_p (H_k0 S1 hh), am_ix_p (H_k1 S1 hh), am_iw_p (H_k1 S1 hh), am_ix_p (H_k6 S1 hh), am_iw_p (H_k6 S1 hh), am_ix_p (H_k16 S1 hh), am_iw_p (H_k16 S1 hh), am_ix_p (H_k17 S1 hh), am_iw_p (H_k17 S1 hh), am_ix_p (H_k24 S1 hh), am_iw_p (H_k24 S1 hh), H_r0_0 S1 hh, H_r0_1 S1 hh, H_r0_2 S1 hh, H_r0_3 S1 hh, H_r0_4 S1 hh, H_r0_5 S1 hh, H_r0_6 S1 hh, H_r0_15 S1 hh, H_r2 S1 hh, H_r7 S1 hh, H_r18 S1 hh, am_iq_p (H_k2 S1 hh), am_iq_p (H_k7 S1 hh), am_iq_p (H_k18 S1 hh)]
    rw [c_worthOf S2 hh HX2 B hp hf, am_bI_p]
    by_cases g : prs A p = 1
    · have gp : prof A p = p + 1 := if_pos g
      simp (disch := omega) only [gp, am_br_ne]
      rw [if_neg (by omega)]
      simp (disch := omega) only [am_ob_p (C_k0 S1 hc), am_ob_p (C_k1 S1 hc), am_ob_p (C_k8 S1 hc), am_ix_p (C_k2 S1 hc), am_iw_p (C_k2 S1 hc), am_ix_p (C_k3 S1 hc), am_iw_p (C_k3 S1 hc), am_ix_p (C_k4 S1 hc), am_iw_p (C_k4 S1 hc), am_ix_p (C_k5 S1 hc), am_iw_p (C_k5 S1 hc), am_ix_p (C_k6 S1 hc), am_iw_p (C_k6 S1 hc), am_ix_p (C_k7 S1 hc), am_iw_p (C_k7 S1 hc), am_ix_p (C_k9 S1 hc), am_iw_p (C_k9 S1 hc), am_ix_p (C_k10 S1 hc), am_iw_p (C_k10 S1 hc), am_ix_p (C_k11 S1 hc), am_iw_p (C_k11 S1 hc), C_r0_1 S1 hc, C_r0_2 S1 hc, C_r0_3 S1 hc, C_r0_5 S1 hc, C_r1_2 S1 hc, C_r1_3 S1 hc, C_r1_4 S1 hc, C_r1_5 S1 hc, C_r8_0 S1 hc, C_r8_1 S1 hc, C_r8_2 S1 hc, am_gr_p, am_i_ix, Int.toNat_zero, Int.toNat_one, Int.toNat_natCast, Int.reduceToNat, am_lt, am_i_add, am_i_sub, am_i_mul, hch2, am_ob_sI, am_ix_sI, am_iw_sI, am_iq_sI, am_R_sI', am_ob_sL, am_ix_sL, am_iw_sL, am_iq_sL, am_R_sL', am_I_same, am_I_ne1, am_I_ne2, am_L_same, am_L_ne1, am_L_ne2, am_L_sI', am_I_sL', am_ob_p (H_k0 S1 hh), am_ix_p (H_k1 S1 hh), am_iw_p (H_k1 S1 hh), am_ix_p (H_k6 S1 hh), am_iw_p (H_k6 S1 hh), am_ix_p (H_k16 S1 hh), am_iw_p (H_k16 S1 hh), am_ix_p (H_k17 S1 hh), am_iw_p (H_k17 S1 hh), am_ix_p (H_k24 S1 hh), am_iw_p (H_k24 S1 hh), H_r0_0 S1 hh, H_r0_1 S1 hh, H_r0_2 S1 hh, H_r0_3 S1 hh, H_r0_4 S1 hh, H_r0_5 S1 hh, H_r0_6 S1 hh, H_r0_15 S1 hh, H_r2 S1 hh, H_r7 S1 hh, H_r18 S1 hh, am_iq_p (H_k2 S1 hh), am_iq_p (H_k7 S1 hh), am_iq_p (H_k18 S1 hh), e10', t76_66, am_i_sub, hpz _ (if_pos g).symm]
    · have gp : prof A p = 0 := if_neg g
      simp (disch := omega) only [gp, am_br_ne]
      rw [if_pos (by omega)]
      simp (disch := omega) only [am_ob_p (C_k0 S1 hc), am_ob_p (C_k1 S1 hc), am_ob_p (C_k8 S1 hc), am_ix_p (C_k2 S1 hc), am_iw_p (C_k2 S1 hc), am_ix_p (C_k3 S1 hc), am_iw_p (C_k3 S1 hc), am_ix_p (C_k4 S1 hc), am_iw_p (C_k4 S1 hc), am_ix_p (C_k5 S1 hc), am_iw_p (C_k5 S1 hc), am_ix_p (C_k6 S1 hc), am_iw_p (C_k6 S1 hc), am_ix_p (C_k7 S1 hc), am_iw_p (C_k7 S1 hc), am_ix_p (C_k9 S1 hc), am_iw_p (C_k9 S1 hc), am_ix_p (C_k10 S1 hc), am_iw_p (C_k10 S1 hc), am_ix_p (C_k11 S1 hc), am_iw_p (C_k11 S1 hc), C_r0_1 S1 hc, C_r0_2 S1 hc, C_r0_3 S1 hc, C_r0_5 S1 hc, C_r1_2 S1 hc, C_r1_3 S1 hc, C_r1_4 S1 hc, C_r1_5 S1 hc, C_r8_0 S1 hc, C_r8_1 S1 hc, C_r8_2 S1 hc, am_gr_p, am_i_ix, Int.toNat_zero, Int.toNat_one, Int.toNat_natCast, Int.reduceToNat, am_lt, am_i_add, am_i_sub, am_i_mul, am_ob_sI, am_ix_sI, am_iw_sI, am_iq_sI, am_R_sI', am_ob_sL, am_ix_sL, am_iw_sL, am_iq_sL, am_R_sL', am_I_same, am_I_ne1, am_I_ne2, am_L_same, am_L_ne1, am_L_ne2, am_L_sI', am_I_sL', t76_66, am_i_sub, hpz _ (if_neg g).symm]
  · intro k
    have e6 : am_I M1 (c + 6) p = am_I M (c + 6) p := (f1 (c + 6) p (by unfold pS; omega)).1
    by_cases g : k = p
    · subst g
      rw [if_pos rfl, am_I_same, e6]
    · rw [if_neg g, am_I_ne2 g, am_I_ne1 (by omega)]
      exact (f1 (c + 6) k (by unfold pS; omega)).1
/-! Bits of films. -/
theorem fbit_0 : ∀ m : Fin 256, ∀ f : Fin 8, ∃ m' : Fin 256, (am_i (m.val : Int) ||| ((am_i 1) <<< ((am_i (f.val : Int)) &&& 31))) = am_i (m'.val : Int) ∧ ∀ g : Fin 8, m'.val / 2 ^ g.val % 2 = if g = f then 1 else m.val / 2 ^ g.val % 2 := by
  have h : ∀ m : Fin 256, ∀ f : Fin 8, (am_i (m.val : Int) ||| ((am_i 1) <<< ((am_i (f.val : Int)) &&& 31))) = am_i ((m.val ||| 2 ^ f.val : Nat) : Int) ∧ (m.val ||| 2 ^ f.val) < 256 ∧ ∀ g : Fin 8, (m.val ||| 2 ^ f.val) / 2 ^ g.val % 2 = if g = f then 1 else m.val / 2 ^ g.val % 2 := by decide +kernel
  intro m f
  obtain ⟨h1, h2, h3⟩ := h m f
  exact ⟨⟨_, h2⟩, h1, h3⟩
/-- the films seen in an hour, as bits -/
def cS (M : am_M) (c : Nat) (Q : am_Qh) : Prop := ∃ m : Nat, m < 256 ∧ am_I M c 4 = am_i m ∧ ∀ f, f < 8 → ((m / 2 ^ f % 2 : Nat) : Int) = Q 4 f
/-- a course's numbers -/
def cQ (M : am_M) (c : Nat) (Q : am_Qh) : Prop := (∀ p, p < 5 → am_I M (c + 6) p = am_i (Q 0 p)) ∧ (∀ p, p < 5 → am_I M (c + 7) p = am_i (Q 1 p))
theorem uq_eq (Q : am_Qh) (i j : Nat) (v : Int) : uq Q i j v i j = v := if_pos ⟨rfl, rfl⟩
theorem uq_ne {Q : am_Qh} {i j a b : Nat} {v : Int} (h : ¬ (a = i ∧ b = j)) : uq Q i j v a b = Q a b := if_neg h
theorem cS_or {M : am_M} {c : Nat} {Q Q' : am_Qh} (H : cS M c Q) {f : Nat} (hf : f < 8) {M' : am_M} (e : am_I M' c 4 = (am_I M c 4 ||| (am_i 1) <<< ((am_i (f : Int)) &&& 31))) (hQ : ∀ g, g < 8 → Q' 4 g = if g = f then 1 else Q 4 g) : cS M' c Q' := by
  obtain ⟨m, h1, h2, h3⟩ := H
  obtain ⟨m', h4, h5⟩ := fbit_0 ⟨m, h1⟩ ⟨f, hf⟩
  refine ⟨m'.val, m'.isLt, by rw [e, h2]; exact h4, fun g hg => ?_⟩
  have := h5 ⟨g, hg⟩
  rw [hQ g hg]
  simp only [Fin.mk.injEq] at this
  rw [this]
  by_cases e2 : g = f
  · rw [if_pos e2, if_pos e2]; rfl
  · rw [if_neg e2, if_neg e2]; exact h3 g hg
/-- facts of the hour's state -/
theorem hP_time (X : am_X) (G : am_Gf) (p : Nat) (s : am_Hs) : (hP X G p s).1 0 0 0 = s.1 0 0 0 ∧ ∀ k, (hP X G p s).1 1 0 k = s.1 1 0 k := by
  unfold hP
  split
  · exact ⟨rfl, fun _ => rfl⟩
  · split
    · exact ⟨rfl, fun _ => rfl⟩
    · exact ⟨watch_ne X G s.1 p (fnow X G s.1 p).toNat (i := 0) (j := 0) (k := 0) (by omega) (by omega) (by omega), fun k => watch_ne X G s.1 p (fnow X G s.1 p).toNat (i := 1) (j := 0) (k := k) (by omega) (by omega) (by omega)⟩
theorem hP_bd {X : am_X} {G : am_Gf} (B : hB X) {p : Nat} (hp : p < nP X) {s : am_Hs} (BA : aB X s.1) : aB X (hP X G p s).1 := by
  have hP5 := (hB_P B).2
  have hF := hB_F B
  have h := sug_bd (G := G) B BA (show p < 5 by omega)
  unfold hP
  split
  · exact BA
  · split
    · exact BA
    · rename_i g1 _
      have hfn : fnow X G s.1 p = sug X G s.1 p := by
        unfold fnow at g1 ⊢
        split
        · rfl
        · rename_i g; rw [if_neg g] at g1; exact absurd rfl g1
      rw [hfn] at g1 ⊢
      exact aB_watch B BA hp (by omega) (h.2.2 g1)
theorem hPs_bd {X : am_X} {G : am_Gf} (B : hB X) {s : am_Hs} (BA : aB X s.1) : ∀ n, n ≤ nP X → aB X (hPs X G s n).1
  | 0, _ => BA
  | n + 1, h => hP_bd B (by omega) (hPs_bd B BA n (by omega))
theorem hPs_time (X : am_X) (G : am_Gf) (s : am_Hs) : ∀ n, (hPs X G s n).1 0 0 0 = s.1 0 0 0
  | 0 => rfl
  | n + 1 => (hP_time X G n _).1.trans (hPs_time X G s n)
theorem hP_3 {X : am_X} {G : am_Gf} {p : Nat} {s : am_Hs} : s.2.1 3 0 ≤ (hP X G p s).2.1 3 0 ∧ (hP X G p s).2.1 3 0 ≤ s.2.1 3 0 + 1 := by
  unfold hP
  split
  · show s.2.1 3 0 ≤ uq s.2.1 2 p (-1) 3 0 ∧ uq s.2.1 2 p (-1) 3 0 ≤ _
    rw [uq_ne (by omega)]; omega
  · split
    · show s.2.1 3 0 ≤ uq (uq s.2.1 2 p (-1)) 1 p (s.2.1 1 p + 1) 3 0 ∧ uq (uq s.2.1 2 p (-1)) 1 p (s.2.1 1 p + 1) 3 0 ≤ _
      rw [uq_ne (by omega), uq_ne (by omega)]; omega
    · dsimp only
      rw [uq_eq]; omega
theorem hPs_3 {X : am_X} {G : am_Gf} {s : am_Hs} (h : s.2.1 3 0 = 0) : ∀ n : Nat, 0 ≤ (hPs X G s n).2.1 3 0 ∧ (hPs X G s n).2.1 3 0 ≤ n
  | 0 => by show 0 ≤ s.2.1 3 0 ∧ s.2.1 3 0 ≤ ((0 : Nat) : Int); omega
  | n + 1 => by
    have h1 := hPs_3 (X := X) (G := G) h n
    have h2 := hP_3 (X := X) (G := G) (p := n) (s := hPs X G s n)
    show 0 ≤ (hP X G n (hPs X G s n)).2.1 3 0 ∧ (hP X G n (hPs X G s n)).2.1 3 0 ≤ ((n + 1 : Nat) : Int)
    omega
def pC (c b _k : Nat) : Prop := c ≤ b ∧ b < c + 12
theorem prs_congr {A A' : am_A} (h : A' 1 0 0 = A 1 0 0) (p : Nat) : prs A' p = prs A p := by unfold prs; rw [h]
theorem fadeA_ne {X : am_X} {G : am_Gf} {A : am_A} {i j k : Nat} (h : ¬ (i = 2 ∧ j ≤ nP X ∧ k < nK X)) : fadeA X G A i j k = A i j k := by
  unfold fadeA
  cases G 1 with
  | none => rfl
  | some l => exact if_neg h
theorem aB_fade {X : am_X} {G : am_Gf} {A : am_A} (BA : aB X A) : aB X (fadeA X G A) := by
  obtain ⟨h1, h2, h3, h4, h5, h6, h7, h8⟩ := BA
  refine ⟨?_, ?_, fun q' hq' k hk => ?_, fun q' hq' f' hf' => ?_, fun p' hp' => ?_, fun q' hq' k hk hz => ?_, fun q' hq' f' hf' hz => ?_, fun p' hp' hz => ?_⟩
  · rw [fadeA_ne (by omega)]; exact h1
  · rw [fadeA_ne (by omega)]; exact h2
  · by_cases g : q' ≤ nP X ∧ k < nK X
    · unfold fadeA
      cases hG : G 1 with
      | none => exact h3 q' hq' k hk
      | some l =>
        dsimp only
        rw [if_pos ⟨rfl, g⟩]
        exact held_bd _
    · rw [fadeA_ne (by omega)]; exact h3 q' hq' k hk
  · rw [fadeA_ne (by omega)]; exact h4 q' hq' f' hf'
  · rw [fadeA_ne (by omega)]; exact h5 p' hp'
  · rw [fadeA_ne (by omega)]; exact h6 q' hq' k hk hz
  · rw [fadeA_ne (by omega)]; exact h7 q' hq' f' hf' hz
  · rw [fadeA_ne (by omega)]; exact h8 p' hp' hz
theorem aB_tick {X : am_X} {A : am_A} (BA : aB X A) (h : A 0 0 0 < 23999) : aB X (tick A) := by
  obtain ⟨h1, h2, h3, h4, h5, h6, h7, h8⟩ := BA
  unfold tick
  refine ⟨?_, ?_, fun q' hq' k hk => ?_, fun q' hq' f' hf' => ?_, fun p' hp' => ?_, fun q' hq' k hk hz => ?_, fun q' hq' f' hf' hz => ?_, fun p' hp' hz => ?_⟩
  · rw [uA_eq]; omega
  · rw [uA_ne (by omega)]; exact h2
  · rw [uA_ne (by omega)]; exact h3 q' hq' k hk
  · rw [uA_ne (by omega)]; exact h4 q' hq' f' hf'
  · rw [uA_ne (by omega)]; exact h5 p' hp'
  · rw [uA_ne (by omega)]; exact h6 q' hq' k hk hz
  · rw [uA_ne (by omega)]; exact h7 q' hq' f' hf' hz
  · rw [uA_ne (by omega)]; exact h8 p' hp' hz
theorem hour_bd {X : am_X} {G : am_Gf} (B : hB X) {s : am_Hs} (BA : aB X s.1) (h : s.1 0 0 0 < 23999) : aB X (hour X G s).1 ∧ (hour X G s).1 0 0 0 = s.1 0 0 0 + 1 := by
  have h1 := hPs_bd (G := G) (s := (s.1, q0 s.2.1, s.2.2)) B BA (nP X) (Nat.le_refl _)
  have h2 := hPs_time X G (s.1, q0 s.2.1, s.2.2) (nP X)
  have h3 : fadeA X G (hPs X G (s.1, q0 s.2.1, s.2.2) (nP X)).1 0 0 0 = s.1 0 0 0 := by rw [fadeA_ne (by omega)]; exact h2
  unfold hour
  refine ⟨aB_tick (aB_fade h1) (by rw [h3]; exact h), ?_⟩
  show tick _ 0 0 0 = _
  unfold tick
  rw [uA_eq, h3]
set_option maxHeartbeats 4000000 in
/-- all tastes fade -/
theorem c_fadeAll {L : Nat} {q0 : am_Pq} {M : am_M} {c h : Nat} (S : am_Sh L q0 M) (hc : isC c) (hh : isH h) (hch : am_R M c 0 = some h) {X : am_X} {G : am_Gf} {A : am_A} (HX : cH M h X) (HG : cG M h G) (HA : cA M (c + 1) A) (B : hB X) (BG : gB G) (BA : aB X A) {l : List Int} (hl : G 1 = some l) (d : Nat) :
    ∃ M', am_cl 82 (d + 3) [.ref c, .int (am_i (A 0 0 0 % 24))] M = some (none, M') ∧ am_Sh L q0 M' ∧ fr (fun b _ => b = c + 2 ∨ b = c + 9 ∨ b = c + 10) M M' ∧ cA M' (c + 1) (fadeA X G A) := by
  obtain ⟨hKK, hK6⟩ := hB_K B
  obtain ⟨hPP, hP5⟩ := hB_P B
  have hc' : c = 63 ∨ c = 75 := hc
  have hh' : h = 4 ∨ h = 38 := hh
  have bt := aB_t BA
  obtain ⟨o, h1, h2, h3, h4⟩ := cG_some HG (j := 1) (by decide) hl
  have hwf := BG.2.1 l hl
  have hfa : fadeA X G A = fun i q k => if i = 2 ∧ q ≤ nP X ∧ k < nK X then held (fev (fct X A q 0 0 (A 2 q k) 0) (fun _ => 0) l) else A i q k := by unfold fadeA; rw [hl]
  -- the account, once all below (qn, kn) have faded
  have key : ∀ m qn kn : Nat, qn ≤ nP X → kn ≤ nK X → (nP X - qn) * (nK X + 1) + (nK X - kn) = m → ∀ (M : am_M) (v1 v4 : Value), am_Sh L q0 M → am_R M c 0 = some h → cH M h X → cG M h G → am_I M (c + 10) 16 = am_i (A 0 0 0 % 24) →
      cA M (c + 1) (fun i q k => if i = 2 ∧ (q < qn ∨ (q = qn ∧ k < kn)) ∧ k < nK X then held (fev (fct X A q 0 0 (A 2 q k) 0) (fun _ => 0) l) else A i q k) →
      ∃ M', am_ev 82 (d + 3) 28 [.ref c, v1, .int (am_i qn), .int (am_i kn), v4] [] M = some (none, M') ∧ am_Sh L q0 M' ∧ fr (fun b _ => b = c + 2 ∨ b = c + 9 ∨ b = c + 10) M M' ∧ cA M' (c + 1) (fadeA X G A) := by
    intro m
    induction m using Nat.strongRecOn with
    | _ m ih =>
      intro qn kn hq hk hm M v1 v4 S hch HX HG e16 HA
      have e0 := HX.1 0 (by decide)
      have e2 := HX.1 2 (by decide)
      rw [t82_28]
      simp (disch := omega) only [am_ob_p (C_k0 S hc), am_ob_p (C_k1 S hc), am_ob_p (C_k8 S hc), am_ix_p (C_k2 S hc), am_iw_p (C_k2 S hc), am_ix_p (C_k3 S hc), am_iw_p (C_k3 S hc), am_ix_p (C_k4 S hc), am_iw_p (C_k4 S hc), am_ix_p (C_k5 S hc), am_iw_p (C_k5 S hc), am_ix_p (C_k6 S hc), am_iw_p (C_k6 S hc), am_ix_p (C_k7 S hc), am_iw_p (C_k7 S hc), am_ix_p (C_k9 S hc), am_iw_p (C_k9 S hc), am_ix_p (C_k10 S hc), am_iw_p (C_k10 S hc), am_ix_p (C_k11 S hc), am_iw_p (C_k11 S hc), C_r0_1 S hc, C_r0_2 S hc, C_r0_3 S hc, C_r0_5 S hc, C_r1_2 S hc, C_r1_3 S hc, C_r1_4 S hc, C_r1_5 S hc, C_r8_0 S hc, C_r8_1 S hc, C_r8_2 S hc, hch, am_ob_p (H_k0 S hh), am_ix_p (H_k1 S hh), am_iw_p (H_k1 S hh), am_ix_p (H_k6 S hh), am_iw_p (H_k6 S hh), am_ix_p (H_k16 S hh), am_iw_p (H_k16 S hh), am_ix_p (H_k17 S hh), am_iw_p (H_k17 S hh), am_ix_p (H_k24 S hh), am_iw_p (H_k24 S hh), H_r0_0 S hh, H_r0_1 S hh, H_r0_2 S hh, H_r0_3 S hh, H_r0_4 S hh, H_r0_5 S hh, H_r0_6 S hh, H_r0_15 S hh, H_r2 S hh, H_r7 S hh, H_r18 S hh, am_iq_p (H_k2 S hh), am_iq_p (H_k7 S hh), am_iq_p (H_k18 S hh), am_gr_p, am_i_ix, Int.toNat_zero, Int.toNat_one, Int.toNat_natCast, Int.reduceToNat, am_lt, am_i_add, am_i_sub, am_i_mul, e0, am_br_ge]
      by_cases g : kn < nK X
      · rw [if_neg (by omega)]
        have eT := HA.2.2.1 qn (by omega) kn (by omega)
        simp only [] at eT
        rw [if_neg (by omega)] at eT
        have bT := aB_ta BA (show qn < 6 by omega) (show kn < 6 by omega)
        have e5 : ((qn : Int) * 6 + (kn : Int)).toNat = 6 * qn + kn := by omega
        have S1 := S.sI (c + 10) 17 (am_i (A 2 qn kn))
        have f1 : fr (fun b _ => b = c + 10) M (am_sI M (c + 10) 17 (am_i (A 2 qn kn))) := fr_sI rfl
        have hFok : Fok (alw 1) (fct X A qn 0 0 (A 2 qn kn) 0) := by
          intro k hk ha
          rcases alw1 ha with rfl | rfl
          · show -1000000 ≤ A 0 0 0 % 24 ∧ A 0 0 0 % 24 ≤ 1000000
            omega
          · show -1000000 ≤ A 2 qn kn ∧ A 2 qn kn ≤ 1000000
            omega
        obtain ⟨o, h1, h2, h3, h4⟩ := cG_some HG (j := 1) (by decide) hl
        have h2' : am_I M h 13 = am_i o := h2
        obtain ⟨M2, r2, S2, f2⟩ := c_value (o := o) S1 hc (r1 := h + 24) (by omega) (fun M S => H_k24 S hh) hFok Wok0 h1 (fun j hj => by rw [(f1 _ _ (by omega)).1]; exact h3 j hj) (by rw [(f1 _ _ (by omega)).1]; exact h4) hwf (fun k hk ha => by
          rcases alw1 ha with rfl | rfl
          · show am_I _ (c + 10) 16 = am_i (A 0 0 0 % 24)
            rw [am_I_ne2 (by omega)]; exact e16
          · show am_I _ (c + 10) 17 = am_i (A 2 qn kn)
            exact am_I_same _ _ _ _) (fun h => by cases h) d
        have hv := fev_ok hFok Wok0 hwf
        have S3 := S2.sI (c + 2) (6 * qn + kn) (am_i (held (fev (fct X A qn 0 0 (A 2 qn kn) 0) (fun _ => 0) l)))
        have f3 : fr (fun b _ => b = c + 2 ∨ b = c + 9 ∨ b = c + 10) M (am_sI M2 (c + 2) (6 * qn + kn) (am_i (held (fev (fct X A qn 0 0 (A 2 qn kn) 0) (fun _ => 0) l)))) := fr_tr (fr_tr (fr_mono f1 (fun b k h => Or.inr (Or.inr h))) (fr_mono f2 (fun b k h => Or.inr (Or.inl h)))) (fr_sI (Or.inl rfl))
        have hk2 : (nP X - qn) * (nK X + 1) + (nK X - (kn + 1)) < m := by omega
        obtain ⟨M', r, S', f', HA'⟩ := ih _ hk2 qn (kn + 1) hq (by omega) rfl _ v1 (.int (am_i ((qn : Int) * 6 + (kn : Int)))) S3 (by rw [Sh_R S S3 (by omega) (by omega)]; exact hch) (cH_mv HX B (fun b k h1 h2 => (f3 b k (by omega)).1)) (cG_mv HG (fun b k h1 h2 => (f3 b k (by omega)).1)) (by
          rw [am_I_ne1 (by omega), (f2 _ _ (by omega)).1, am_I_ne2 (by omega)]; exact e16) (by
          have hw := cA_w2 (cA_mv HA (M' := M2) (fun b k h1 h2 h3 => by rw [(f2 b k (by omega)).1, (f1 b k (by omega)).1])) (show qn < 6 by omega) (show kn < 6 by omega) (held (fev (fct X A qn 0 0 (A 2 qn kn) 0) (fun _ => 0) l))
          have e : uA (fun i q k => if i = 2 ∧ (q < qn ∨ (q = qn ∧ k < kn)) ∧ k < nK X then held (fev (fct X A q 0 0 (A 2 q k) 0) (fun _ => 0) l) else A i q k) 2 qn kn (held (fev (fct X A qn 0 0 (A 2 qn kn) 0) (fun _ => 0) l)) = (fun i q k => if i = 2 ∧ (q < qn ∨ (q = qn ∧ k < kn + 1)) ∧ k < nK X then held (fev (fct X A q 0 0 (A 2 q k) 0) (fun _ => 0) l) else A i q k) := by
            funext i q k
            by_cases g1 : i = 2 ∧ q = qn ∧ k = kn
            · obtain ⟨rfl, rfl, rfl⟩ := g1
              rw [uA_eq, if_pos (by omega)]
            · rw [uA_ne g1]
              by_cases g2 : i = 2 ∧ (q < qn ∨ (q = qn ∧ k < kn)) ∧ k < nK X
              · rw [if_pos g2, if_pos (by omega)]
              · rw [if_neg g2, if_neg (by omega)]
          rw [← e]
          exact hw)
        refine ⟨M', ?_, S', fr_tr f3 f', HA'⟩
        have hch2 : am_R M2 c 0 = some h := by rw [Sh_R S S2 (by omega) (by omega)]; exact hch
        simp (disch := omega) only [am_ob_sI, am_ix_sI, am_iw_sI, am_iq_sI, am_R_sI', am_ob_sL, am_ix_sL, am_iw_sL, am_iq_sL, am_R_sL', am_I_same, am_I_ne1, am_I_ne2, am_L_same, am_L_ne1, am_L_ne2, am_L_sI', am_I_sL', am_ob_p (C_k0 S hc), am_ob_p (C_k1 S hc), am_ob_p (C_k8 S hc), am_ix_p (C_k2 S hc), am_iw_p (C_k2 S hc), am_ix_p (C_k3 S hc), am_iw_p (C_k3 S hc), am_ix_p (C_k4 S hc), am_iw_p (C_k4 S hc), am_ix_p (C_k5 S hc), am_iw_p (C_k5 S hc), am_ix_p (C_k6 S hc), am_iw_p (C_k6 S hc), am_ix_p (C_k7 S hc), am_iw_p (C_k7 S hc), am_ix_p (C_k9 S hc), am_iw_p (C_k9 S hc), am_ix_p (C_k10 S hc), am_iw_p (C_k10 S hc), am_ix_p (C_k11 S hc), am_iw_p (C_k11 S hc), C_r0_1 S hc, C_r0_2 S hc, C_r0_3 S hc, C_r0_5 S hc, C_r1_2 S hc, C_r1_3 S hc, C_r1_4 S hc, C_r1_5 S hc, C_r8_0 S hc, C_r8_1 S hc, C_r8_2 S hc, hch, am_ob_p (H_k0 S hh), am_ix_p (H_k1 S hh), am_iw_p (H_k1 S hh), am_ix_p (H_k6 S hh), am_iw_p (H_k6 S hh), am_ix_p (H_k16 S hh), am_iw_p (H_k16 S hh), am_ix_p (H_k17 S hh), am_iw_p (H_k17 S hh), am_ix_p (H_k24 S hh), am_iw_p (H_k24 S hh), H_r0_0 S hh, H_r0_1 S hh, H_r0_2 S hh, H_r0_3 S hh, H_r0_4 S hh, H_r0_5 S hh, H_r0_6 S hh, H_r0_15 S hh, H_r2 S hh, H_r7 S hh, H_r18 S hh, am_iq_p (H_k2 S hh), am_iq_p (H_k7 S hh), am_iq_p (H_k18 S hh), am_gr_p, am_i_ix, Int.toNat_zero, Int.toNat_one, Int.toNat_natCast, Int.reduceToNat, am_lt, am_i_add, am_i_sub, am_i_mul, e5, eT, h2']
        rw [r2, am_bI_p]
        simp (disch := omega) only [am_ob_p (C_k0 S2 hc), am_ob_p (C_k1 S2 hc), am_ob_p (C_k8 S2 hc), am_ix_p (C_k2 S2 hc), am_iw_p (C_k2 S2 hc), am_ix_p (C_k3 S2 hc), am_iw_p (C_k3 S2 hc), am_ix_p (C_k4 S2 hc), am_iw_p (C_k4 S2 hc), am_ix_p (C_k5 S2 hc), am_iw_p (C_k5 S2 hc), am_ix_p (C_k6 S2 hc), am_iw_p (C_k6 S2 hc), am_ix_p (C_k7 S2 hc), am_iw_p (C_k7 S2 hc), am_ix_p (C_k9 S2 hc), am_iw_p (C_k9 S2 hc), am_ix_p (C_k10 S2 hc), am_iw_p (C_k10 S2 hc), am_ix_p (C_k11 S2 hc), am_iw_p (C_k11 S2 hc), C_r0_1 S2 hc, C_r0_2 S2 hc, C_r0_3 S2 hc, C_r0_5 S2 hc, C_r1_2 S2 hc, C_r1_3 S2 hc, C_r1_4 S2 hc, C_r1_5 S2 hc, C_r8_0 S2 hc, C_r8_1 S2 hc, C_r8_2 S2 hc, c_held, am_bI_p, am_gr_p, am_i_ix, Int.toNat_zero, Int.toNat_one, Int.toNat_natCast, Int.reduceToNat, am_lt, am_i_add, am_i_sub, am_i_mul, e5]
        exact r
      · rw [if_pos (by omega), t82_13]
        simp (disch := omega) only [am_ob_p (C_k0 S hc), am_ob_p (C_k1 S hc), am_ob_p (C_k8 S hc), am_ix_p (C_k2 S hc), am_iw_p (C_k2 S hc), am_ix_p (C_k3 S hc), am_iw_p (C_k3 S hc), am_ix_p (C_k4 S hc), am_iw_p (C_k4 S hc), am_ix_p (C_k5 S hc), am_iw_p (C_k5 S hc), am_ix_p (C_k6 S hc), am_iw_p (C_k6 S hc), am_ix_p (C_k7 S hc), am_iw_p (C_k7 S hc), am_ix_p (C_k9 S hc), am_iw_p (C_k9 S hc), am_ix_p (C_k10 S hc), am_iw_p (C_k10 S hc), am_ix_p (C_k11 S hc), am_iw_p (C_k11 S hc), C_r0_1 S hc, C_r0_2 S hc, C_r0_3 S hc, C_r0_5 S hc, C_r1_2 S hc, C_r1_3 S hc, C_r1_4 S hc, C_r1_5 S hc, C_r8_0 S hc, C_r8_1 S hc, C_r8_2 S hc, hch, am_ob_p (H_k0 S hh), am_ix_p (H_k1 S hh), am_iw_p (H_k1 S hh), am_ix_p (H_k6 S hh), am_iw_p (H_k6 S hh), am_ix_p (H_k16 S hh), am_iw_p (H_k16 S hh), am_ix_p (H_k17 S hh), am_iw_p (H_k17 S hh), am_ix_p (H_k24 S hh), am_iw_p (H_k24 S hh), H_r0_0 S hh, H_r0_1 S hh, H_r0_2 S hh, H_r0_3 S hh, H_r0_4 S hh, H_r0_5 S hh, H_r0_6 S hh, H_r0_15 S hh, H_r2 S hh, H_r7 S hh, H_r18 S hh, am_iq_p (H_k2 S hh), am_iq_p (H_k7 S hh), am_iq_p (H_k18 S hh), am_gr_p, am_i_ix, Int.toNat_zero, Int.toNat_one, Int.toNat_natCast, Int.reduceToNat, am_lt, am_i_add, am_i_sub, am_i_mul, e2, am_br_gt]
        by_cases g2 : qn < nP X
        · rw [if_neg (by omega)]
          have hk2 : (nP X - (qn + 1)) * (nK X + 1) + (nK X - 0) < m := by
            have e : (nP X - qn) * (nK X + 1) = (nP X - (qn + 1)) * (nK X + 1) + (nK X + 1) := by
              rw [show nP X - qn = (nP X - (qn + 1)) + 1 by omega, Nat.add_mul, Nat.one_mul]
            omega
          exact ih _ hk2 (qn + 1) 0 (by omega) (by omega) rfl M _ v4 S hch HX HG e16 (by
            have e : (fun i q k => if i = 2 ∧ (q < qn + 1 ∨ (q = qn + 1 ∧ k < 0)) ∧ k < nK X then held (fev (fct X A q 0 0 (A 2 q k) 0) (fun _ => 0) l) else A i q k) = (fun i q k => if i = 2 ∧ (q < qn ∨ (q = qn ∧ k < kn)) ∧ k < nK X then held (fev (fct X A q 0 0 (A 2 q k) 0) (fun _ => 0) l) else A i q k) := by
              funext i q k
              by_cases g3 : i = 2 ∧ (q < qn ∨ (q = qn ∧ k < kn)) ∧ k < nK X
              · rw [if_pos g3, if_pos (by omega)]
              · rw [if_neg g3, if_neg (by omega)]
            rw [e]
            exact HA)
        · rw [if_pos (by omega)]
          refine ⟨M, rfl, S, fr_rfl _ _, ?_⟩
          have e : fadeA X G A = (fun i q k => if i = 2 ∧ (q < qn ∨ (q = qn ∧ k < kn)) ∧ k < nK X then held (fev (fct X A q 0 0 (A 2 q k) 0) (fun _ => 0) l) else A i q k) := by
            rw [hfa]
            funext i q k
            by_cases g3 : i = 2 ∧ (q < qn ∨ (q = qn ∧ k < kn)) ∧ k < nK X
            · rw [if_pos (by omega), if_pos g3]
            · rw [if_neg (by omega), if_neg g3]
          rw [e]
          exact HA
  have S1 := S.sI (c + 10) 16 (am_i (A 0 0 0 % 24))
  have f1 : fr (fun b _ => b = c + 2 ∨ b = c + 9 ∨ b = c + 10) M (am_sI M (c + 10) 16 (am_i (A 0 0 0 % 24))) := fr_sI (Or.inr (Or.inr rfl))
  have e2 := HX.1 2 (by decide)
  have hX1 : am_I (am_sI M (c + 10) 16 (am_i (A 0 0 0 % 24))) (h + 1) 2 = am_i (X 0 2 0) := by rw [am_I_ne1 (by omega)]; exact e2
  obtain ⟨M', r, S', f', HA'⟩ := key _ 0 0 (by omega) (by omega) rfl _ (.int (am_i (A 0 0 0 % 24))) .null S1 (by rw [Sh_R S S1 (by omega) (by omega)]; exact hch) (cH_mv HX B (fun b k h1 h2 => (f1 b k (by omega)).1)) (cG_mv HG (fun b k h1 h2 => (f1 b k (by omega)).1)) (am_I_same _ _ _ _) (by
    have e : (fun i q k => if i = 2 ∧ (q < 0 ∨ (q = 0 ∧ k < 0)) ∧ k < nK X then held (fev (fct X A q 0 0 (A 2 q k) 0) (fun _ => 0) l) else A i q k) = A := by
      funext i q k
      exact if_neg (by omega)
    rw [e]
    exact cA_mv HA (fun b k h1 h2 h3 => am_I_ne1 (by omega)))
  refine ⟨M', ?_, S', fr_tr f1 f', HA'⟩
  rw [t82]
  simp (disch := omega) only [am_ob_p (C_k0 S hc), am_ob_p (C_k1 S hc), am_ob_p (C_k8 S hc), am_ix_p (C_k2 S hc), am_iw_p (C_k2 S hc), am_ix_p (C_k3 S hc), am_iw_p (C_k3 S hc), am_ix_p (C_k4 S hc), am_iw_p (C_k4 S hc), am_ix_p (C_k5 S hc), am_iw_p (C_k5 S hc), am_ix_p (C_k6 S hc), am_iw_p (C_k6 S hc), am_ix_p (C_k7 S hc), am_iw_p (C_k7 S hc), am_ix_p (C_k9 S hc), am_iw_p (C_k9 S hc), am_ix_p (C_k10 S hc), am_iw_p (C_k10 S hc), am_ix_p (C_k11 S hc), am_iw_p (C_k11 S hc), C_r0_1 S hc, C_r0_2 S hc, C_r0_3 S hc, C_r0_5 S hc, C_r1_2 S hc, C_r1_3 S hc, C_r1_4 S hc, C_r1_5 S hc, C_r8_0 S hc, C_r8_1 S hc, C_r8_2 S hc, am_gr_p, am_i_ix, Int.toNat_zero, Int.toNat_one, Int.toNat_natCast, Int.reduceToNat, am_lt, am_i_add, am_i_sub, am_i_mul]
  rw [t82_13]
  simp (disch := omega) only [am_ob_sI, am_ix_sI, am_iw_sI, am_iq_sI, am_R_sI', am_ob_sL, am_ix_sL, am_iw_sL, am_iq_sL, am_R_sL', am_I_same, am_I_ne1, am_I_ne2, am_L_same, am_L_ne1, am_L_ne2, am_L_sI', am_I_sL', am_ob_p (C_k0 S hc), am_ob_p (C_k1 S hc), am_ob_p (C_k8 S hc), am_ix_p (C_k2 S hc), am_iw_p (C_k2 S hc), am_ix_p (C_k3 S hc), am_iw_p (C_k3 S hc), am_ix_p (C_k4 S hc), am_iw_p (C_k4 S hc), am_ix_p (C_k5 S hc), am_iw_p (C_k5 S hc), am_ix_p (C_k6 S hc), am_iw_p (C_k6 S hc), am_ix_p (C_k7 S hc), am_iw_p (C_k7 S hc), am_ix_p (C_k9 S hc), am_iw_p (C_k9 S hc), am_ix_p (C_k10 S hc), am_iw_p (C_k10 S hc), am_ix_p (C_k11 S hc), am_iw_p (C_k11 S hc), C_r0_1 S hc, C_r0_2 S hc, C_r0_3 S hc, C_r0_5 S hc, C_r1_2 S hc, C_r1_3 S hc, C_r1_4 S hc, C_r1_5 S hc, C_r8_0 S hc, C_r8_1 S hc, C_r8_2 S hc, hch, am_ob_p (H_k0 S hh), am_ix_p (H_k1 S hh), am_iw_p (H_k1 S hh), am_ix_p (H_k6 S hh), am_iw_p (H_k6 S hh), am_ix_p (H_k16 S hh), am_iw_p (H_k16 S hh), am_ix_p (H_k17 S hh), am_iw_p (H_k17 S hh), am_ix_p (H_k24 S hh), am_iw_p (H_k24 S hh), H_r0_0 S hh, H_r0_1 S hh, H_r0_2 S hh, H_r0_3 S hh, H_r0_4 S hh, H_r0_5 S hh, H_r0_6 S hh, H_r0_15 S hh, H_r2 S hh, H_r7 S hh, H_r18 S hh, am_iq_p (H_k2 S hh), am_iq_p (H_k7 S hh), am_iq_p (H_k18 S hh), am_gr_p, am_i_ix, Int.toNat_zero, Int.toNat_one, Int.toNat_natCast, Int.reduceToNat, am_lt, am_i_add, am_i_sub, am_i_mul, e2, am_br_gt]
  rw [if_neg (by omega)]
  exact r
