/-! The class: likes, press, settings, formulas. -/
theorem knS_inr {Z : Nat → Nat → Int} {n : Nat} {N : Nat → Nat → List Int} {sort c : Nat} {st : am_PS} {s : Nat} {t : Bool} {l : List Int} (h : (knS Z n N sort c st).1 = .inr (s, t, l)) : l = [] ∧ 0 ≤ (knS Z n N sort c st).2 ∧ (knS Z n N sort c st).2 < (c : Int) ∧ ∃ s1 t1 l1, st = .inr (s1, t1, l1) ∧ kd Z n s1 t1 = 1 ∧ s = ns Z n s1 ∧ t = nt Z n s1 := by
  cases hn : nmS Z n st with
  | inl e =>
    have hF : knS Z n N sort c st = (.inl e, -1) := by unfold knS; rw [hn]
    rw [hF] at h
    cases h
  | inr x =>
    obtain ⟨s', t', nm⟩ := x
    have hF : knS Z n N sort c st = if fnd N sort nm c = -1 then (.inl (3, psn st), -1) else (.inr (s', t', []), fnd N sort nm c) := by unfold knS; rw [hn]
    rw [hF] at h ⊢
    have hb := fndv_bd (fun w => c5 (N sort w)) (c5 nm) c
    have hb : -1 ≤ fnd N sort nm c ∧ fnd N sort nm c < (c : Int) := hb
    by_cases g : fnd N sort nm c = -1
    · rw [if_pos g] at h
      cases h
    · rw [if_neg g] at h ⊢
      have h := Sum.inr.inj h
      rw [Prod.mk.injEq, Prod.mk.injEq] at h
      refine ⟨h.2.2.symm, by show 0 ≤ fnd N sort nm c; omega, hb.2, ?_⟩
      match st, hn with
      | .inr (a, b, l1), hn =>
        obtain ⟨k1, k2, -⟩ := nmS_inr hn
        rw [Prod.mk.injEq, Prod.mk.injEq] at k2
        exact ⟨a, b, l1, rfl, k1, by rw [← h.1, k2.1], by rw [← h.2.1, k2.2.1]⟩
theorem knS_inl {Z : Nat → Nat → Int} {n : Nat} {N : Nat → Nat → List Int} {sort c : Nat} {st : am_PS} {e : Int × Int} (h : (knS Z n N sort c st).1 = .inl e) : (knS Z n N sort c st).2 = -1 := by
  cases hn : nmS Z n st with
  | inl e' =>
    have hF : knS Z n N sort c st = (.inl e', -1) := by unfold knS; rw [hn]
    rw [hF]
  | inr x =>
    obtain ⟨s', t', nm⟩ := x
    have hF : knS Z n N sort c st = if fnd N sort nm c = -1 then (.inl (3, psn st), -1) else (.inr (s', t', []), fnd N sort nm c) := by unfold knS; rw [hn]
    rw [hF] at h ⊢
    by_cases g : fnd N sort nm c = -1
    · rw [if_pos g]
    · rw [if_neg g] at h
      cases h
theorem knS_bd {Z : Nat → Nat → Int} {n : Nat} {N : Nat → Nat → List Int} {sort c : Nat} {st : am_PS} : -1 ≤ (knS Z n N sort c st).2 ∧ (knS Z n N sort c st).2 < (c : Int) := by
  cases h : (knS Z n N sort c st).1 with
  | inl e => rw [knS_inl h]; omega
  | inr x => obtain ⟨s, t, l⟩ := x; have := knS_inr h; omega
/-- a write into the house that is read -/
theorem rS_w {L : Nat} {q : am_Pq} {Z : Nat → Nat → Int} {n B : Nat} {fm : Int} {o : Nat} (hq : qh q) {M : am_M} {st : am_PS} (H : rS L q Z n B fm o M st) {b k : Nat} (hb : q.1 ≤ b ∧ b < q.1 + 24) (v : Int32) : rS L q Z n B fm o (am_sI M b k v) st := by
  have h4 : q.1 = 4 ∨ q.1 = 38 := hq.1
  have e3 : ∀ k', am_I (am_sI M b k v) 3 k' = am_I M 3 k' := fun k' => am_I_ne1 (by omega)
  refine ⟨rC_mv2 H.1 (H.1.1.sI _ _ _) (fun b' k' hb' => am_I_ne1 (by omega)) (fun b' k' hb' => rfl), ?_⟩
  match st, H with
  | .inl e, H =>
    obtain ⟨k1, k2, k3, k4, c, k5, k6, k7⟩ := H.2
    exact ⟨k1, (e3 _).trans k2, (e3 _).trans k3, (e3 _).trans k4, c, k5, k6, (e3 _).trans k7⟩
  | .inr (s, t, l), H =>
    obtain ⟨k1, k2, k3, ⟨k4, k5, k6, k7⟩, k8, k9, k10⟩ := H.2
    exact ⟨k1, (e3 _).trans k2, (e3 _).trans k3, ⟨(e3 _).trans k4, (e3 _).trans k5, (e3 _).trans k6, fun hk => ⟨(k7 hk).1, (e3 _).trans (k7 hk).2⟩⟩, k8, (e3 _).trans k9, fun i hi => by rw [am_I_ne1 (by rw [hq.2]; omega)]; exact k10 i hi⟩
theorem cHt_R {q : am_Pq} (hq : qh q) {M M' : am_M} {H : am_HS} {B : Nat} (HH : cHt M q.1 H) (hB : H.2.2.2.1 ≤ B) (f : fr (pRd q B) M M') : cHt M' q.1 H := by
  have h4 : q.1 = 4 ∨ q.1 = 38 := hq.1
  have e : ∀ b k, ¬ (b = 3 ∨ (b = q.1 + 24 ∧ B ≤ k)) → am_I M' b k = am_I M b k := fun b k h => (f b k (fun h2 => h (qh_pR hq h2))).1
  exact ⟨cNm_R hq HH.1 f, cHr_mv HH.2.1 (fun b k h1 h2 h3 h5 => e b k (by omega)), cGx_mv HH.2.2 (Nat.le_refl _) (fun k h1 h2 => e _ _ (by omega)) (fun k hk => e _ _ (by omega))⟩
/-- one number of the house anew -/
theorem cHt_u {M : am_M} {h : Nat} {H : am_HS} (HH : cHt M h H) {i j k b c : Nat} {v : Int} (hi : i ≠ 0) (hb : (i = 6 ∧ j < 5 ∧ k < 6 ∧ b = h + 19 + j ∧ c = k) ∨ (7 ≤ i ∧ i < 12 ∧ j = 0 ∧ k = 0 ∧ b = h ∧ c = i)) : cHt (am_sI M b c (am_i v)) h (uA H.1 i j k v, H.2) := by
  obtain ⟨h1, ⟨k1, k2, k3, k4, k5, k6⟩, h3⟩ := HH
  refine ⟨cNm_ne (cNm_mv h1 (fun b' k' g1 g2 => by rcases hb with ⟨_, _, _, _, _⟩ | ⟨_, _, _, _, _, _⟩ <;> rw [am_I_ne1 (by omega)])) hi, ⟨fun f hf => ?_, fun f hf k' hk => ?_, fun p hp => ?_, fun p hp => ?_, fun p hp k' hk => ?_, fun j' hj => ?_⟩, cGx_mv h3 (Nat.le_refl _) (fun k' g1 g2 => ?_) (fun k' hk => ?_)⟩
  · have hf : f < nM (uA H.1 i j k v) 1 := hf
    rw [nM_ne hi] at hf
    show _ = am_i (uA H.1 i j k v 2 f 0)
    rw [uA_ne (by omega), am_I_ne1 (by omega)]
    exact k1 f hf
  · show _ = am_i (uA H.1 i j k v 3 f k')
    rw [uA_ne (by omega), am_I_ne1 (by omega)]
    exact k2 f hf k' hk
  · have hp : p < nM (uA H.1 i j k v) 2 := hp
    rw [nM_ne hi] at hp
    show _ = am_i (uA H.1 i j k v 4 p 0)
    rw [uA_ne (by omega), am_I_ne1 (by omega)]
    exact k3 p hp
  · have hp : p < nM (uA H.1 i j k v) 2 := hp
    rw [nM_ne hi] at hp
    show _ = am_i (uA H.1 i j k v 5 p 0)
    rw [uA_ne (by omega), am_I_ne1 (by omega)]
    exact k4 p hp
  · show _ = am_i (uA H.1 i j k v 6 p k')
    by_cases g : i = 6 ∧ p = j ∧ k' = k
    · obtain ⟨rfl, rfl, rfl⟩ := g
      rcases hb with ⟨_, _, _, hb1, hb2⟩ | hb
      · subst hb1; subst hb2
        rw [uA_eq, am_I_same]
      · omega
    · rw [uA_ne (by omega)]
      by_cases g2 : h + 19 + p = b
      · rw [am_I_ne2 (by omega)]; exact k5 p hp k' hk
      · rw [am_I_ne1 g2]; exact k5 p hp k' hk
  · show _ = am_i (uA H.1 i j k v (7 + j') 0 0)
    by_cases g : i = 7 + j'
    · rcases hb with hb | ⟨_, _, hj0, hk0, hb1, hb2⟩
      · omega
      · subst hj0; subst hk0; subst hb1; subst hb2; subst g
        rw [uA_eq, am_I_same]
    · rw [uA_ne (by omega)]
      by_cases g2 : h = b
      · rw [am_I_ne2 (by omega)]; exact k6 j' hj
      · rw [am_I_ne1 g2]; exact k6 j' hj
  · by_cases g2 : h = b
    · rw [am_I_ne2 (by omega)]
    · rw [am_I_ne1 g2]
  · rw [am_I_ne1 (by omega)]
theorem c_likes {L : Nat} {q : am_Pq} {Z : Nat → Nat → Int} {n : Nat} {fm : Int} {o : Nat} (hq : qh q) {M : am_M} {s0 : Nat} {t0 : Bool} {H : am_HS} (HR : rS L q Z n H.2.2.2.1 fm o M (.inr (s0, t0, []))) (hk0 : kd Z n s0 t0 = 1) (HH : cHt M q.1 H) (d : Nat) : ∃ M', am_cl 113 (d + 4) [.ref 3] M = some (none, M') ∧ cAf L q Z n M' (sLikes Z n H (.inr (s0, t0, []))) ∧ fr (pHs q) M M' := by
  have h4 : q.1 = 4 ∨ q.1 = 38 := hq.1
  have hh := hq.1
  obtain ⟨M1, r1, H1, f1⟩ := c_nx HR (show 1 ≤ kd Z n s0 t0 ∧ kd Z n s0 t0 ≤ 3 by omega) (d + 2)
  obtain ⟨M2, r2, H2, f2⟩ := c_known hq H1 (fun s t l h => by rw [nx_inr] at h; have := Sum.inr.inj h; rw [Prod.mk.injEq, Prod.mk.injEq] at this; exact this.2.2.symm) (cHt_R hq HH (Nat.le_refl _) f1).1 (s := 2) (by omega) d
  have H2 : rS L q Z n H.2.2.2.1 fm o M2 (li1 Z n H (.inr (s0, t0, []))).1 := H2
  obtain ⟨M3, r3, H3, f3⟩ := c_known hq H2 (fun s t l h => (knS_inr h).1) (cHt_R hq HH (Nat.le_refl _) (fr_tr f1 f2)).1 (s := 0) (by omega) d
  have H3 : rS L q Z n H.2.2.2.1 fm o M3 (li2 Z n H (.inr (s0, t0, []))).1 := H3
  obtain ⟨M4, r4, H4, f4⟩ := c_tkN H3 (lo := 0) (hi := 9) (by omega) (by omega) (d + 1)
  have H4 : rS L q Z n H.2.2.2.1 fm o M4 (li3 Z n H (.inr (s0, t0, []))).1 := H4
  have f14 := fr_tr f1 (fr_tr f2 (fr_tr f3 f4))
  have fH : fr (pHs q) M M4 := fr_mono f14 (fun b k h => pRd_pHs hq h)
  have HH4 := cHt_R hq HH (Nat.le_refl _) f14
  have S4 := H4.1.1
  have c2 := (xB_c HH.1.2.2 (s := 2) (by omega)).2.2
  have c0 := (xB_c HH.1.2.2 (s := 0) (by omega)).2.2
  have c25 := HH.1.2.2.2.2.1
  have c06 := HH.1.2.2.1
  have b1 : -1 ≤ (li1 Z n H (.inr (s0, t0, []))).2 ∧ (li1 Z n H (.inr (s0, t0, []))).2 < ((nM H.1 2 : Nat) : Int) := knS_bd
  have b2 : -1 ≤ (li2 Z n H (.inr (s0, t0, []))).2 ∧ (li2 Z n H (.inr (s0, t0, []))).2 < ((nM H.1 0 : Nat) : Int) := knS_bd
  have h0 := t113 (d + 3) M 3
  rw [am_ob_p (kk_3 HR.1.1), r1, am_bV_p, am_ob_p (kk_3 H1.1.1), show (am_i 2 : Int32) = am_i ((2 : Nat) : Int) from rfl, r2, am_bI_p, am_ob_p (kk_3 H2.1.1), show (am_i 0 : Int32) = am_i ((0 : Nat) : Int) from rfl, r3, am_bI_p, am_ob_p (kk_3 H3.1.1), show (am_i ((0 : Nat) : Int) : Int32) = am_i 0 from rfl, r4, am_bI_p] at h0
  have h0 : am_cl 113 (d + 4) [.ref 3] M = am_br .eq (am_i (li1 Z n H (.inr (s0, t0, []))).2) (am_i (-1)) (some (none, M4)) (am_br .eq (am_i (li2 Z n H (.inr (s0, t0, []))).2) (am_i (-1)) (some (none, M4)) (am_ob M4 3 4 (am_gr (am_R M4 3 2) (fun h8 => am_ob M4 h8 2 (am_gr (am_R M4 h8 6) (fun h9 => am_iq M4 h9 (am_i (li1 Z n H (.inr (s0, t0, []))).2) (am_gr (am_R M4 h9 (am_i (li1 Z n H (.inr (s0, t0, []))).2).toNatClampNeg) (fun h10 => am_iw M4 h10 2 (am_i (li2 Z n H (.inr (s0, t0, []))).2) (am_lt (am_sI M4 h10 (am_i (li2 Z n H (.inr (s0, t0, []))).2).toNatClampNeg (am_i (li3 Z n H (.inr (s0, t0, []))).2)) (fun M11 => some (none, M11))) none) none) none) none) none) none) none)) := h0
  rw [am_br_eq (by omega) (by omega) (by omega) (by omega), am_br_eq (by omega) (by omega) (by omega) (by omega)] at h0
  -- with a fault
  have bad : ∀ M5 e, rS L q Z n H.2.2.2.1 fm o M5 (.inl e) → (li3 Z n H (.inr (s0, t0, []))).1 = .inl e → cAf L q Z n M5 (sLikes Z n H (.inr (s0, t0, []))) := by
    intro M5 e H5 he
    have hS : sLikes Z n H (.inr (s0, t0, [])) = .inl e := by unfold sLikes; simp only [he]
    rw [hS]
    exact ⟨_, _, _, H5⟩
  have wr : (li1 Z n H (.inr (s0, t0, []))).2 ≠ -1 → (li2 Z n H (.inr (s0, t0, []))).2 ≠ -1 → am_cl 113 (d + 4) [.ref 3] M = some (none, am_sI M4 (q.1 + 19 + (li1 Z n H (.inr (s0, t0, []))).2.toNat) (li2 Z n H (.inr (s0, t0, []))).2.toNat (am_i (li3 Z n H (.inr (s0, t0, []))).2)) := by
    intro g1 g2
    rw [h0, if_neg g1, if_neg g2, am_ob_p (kk_3 S4), rr_3_2 S4, am_gr_p, am_ob_p (H_k0 S4 hh), H_r0_6 S4 hh, am_gr_p, am_iq_p (H_k18 S4 hh) (by omega) (by omega) (by omega) (by omega), am_i_ix (by omega) (by omega), H_r18 S4 hh (by omega), am_gr_p, am_iw_p (H_q18 S4 hh (by omega)) (by omega) (by omega) (by omega) (by omega), am_i_ix (by omega) (by omega), am_lt]
  cases h3 : (li3 Z n H (.inr (s0, t0, []))).1 with
  | inl e =>
    rw [h3] at H4
    by_cases g1 : (li1 Z n H (.inr (s0, t0, []))).2 = -1
    · rw [if_pos g1] at h0
      exact ⟨M4, h0, bad M4 e H4 h3, fH⟩
    · by_cases g2 : (li2 Z n H (.inr (s0, t0, []))).2 = -1
      · rw [if_neg g1, if_pos g2] at h0
        exact ⟨M4, h0, bad M4 e H4 h3, fH⟩
      · refine ⟨_, wr g1 g2, bad _ e (rS_w hq H4 (by omega) _) h3, fr_tr fH (fr_sI (by unfold pHs; omega))⟩
  | inr x =>
    obtain ⟨s, t, l⟩ := x
    obtain ⟨a1, a2, e1⟩ := tkN_e h3
    obtain ⟨k1, k2, k3, a3, a4, a5, e3, -⟩ := knS_inr e1
    obtain ⟨k4, k5, k6, -⟩ := knS_inr e3
    have k1 : l = [] := k1
    subst k1
    have k2 : 0 ≤ (li2 Z n H (.inr (s0, t0, []))).2 := k2
    have k5 : 0 ≤ (li1 Z n H (.inr (s0, t0, []))).2 := k5
    rw [h3] at H4
    have hS : sLikes Z n H (.inr (s0, t0, [])) = .inr (s, t, uA H.1 6 (li1 Z n H (.inr (s0, t0, []))).2.toNat (li2 Z n H (.inr (s0, t0, []))).2.toNat (li3 Z n H (.inr (s0, t0, []))).2, H.2) := by unfold sLikes; simp only [h3]
    refine ⟨_, wr (by omega) (by omega), ?_, fr_tr fH (fr_sI (by unfold pHs; omega))⟩
    rw [hS]
    exact ⟨fm, o, rS_w hq H4 (by omega) _, cHt_u HH4 (by omega) (Or.inl ⟨rfl, by omega, by omega, rfl, rfl⟩)⟩
theorem c_press {L : Nat} {q : am_Pq} {Z : Nat → Nat → Int} {n : Nat} {fm : Int} {o : Nat} (hq : qh q) {M : am_M} {s0 : Nat} {t0 : Bool} {H : am_HS} (HR : rS L q Z n H.2.2.2.1 fm o M (.inr (s0, t0, []))) (hk0 : kd Z n s0 t0 = 1) (HH : cHt M q.1 H) (hpr : 0 ≤ H.1 7 0 0 ∧ H.1 7 0 0 < ((2 ^ nM H.1 2 : Nat) : Int)) (d : Nat) : ∃ M', am_cl 114 (d + 4) [.ref 3] M = some (none, M') ∧ cAf L q Z n M' (sPress Z n H (.inr (s0, t0, []))) ∧ fr (pHs q) M M' := by
  have h4 : q.1 = 4 ∨ q.1 = 38 := hq.1
  have hh := hq.1
  obtain ⟨M1, r1, H1, f1⟩ := c_nx HR (show 1 ≤ kd Z n s0 t0 ∧ kd Z n s0 t0 ≤ 3 by omega) (d + 2)
  obtain ⟨M2, r2, H2, f2⟩ := c_known hq H1 (fun s t l h => by rw [nx_inr] at h; have := Sum.inr.inj h; rw [Prod.mk.injEq, Prod.mk.injEq] at this; exact this.2.2.symm) (cHt_R hq HH (Nat.le_refl _) f1).1 (s := 2) (by omega) d
  have H2 : rS L q Z n H.2.2.2.1 fm o M2 (li1 Z n H (.inr (s0, t0, []))).1 := H2
  have f12 := fr_tr f1 f2
  have fH : fr (pHs q) M M2 := fr_mono f12 (fun b k h => pRd_pHs hq h)
  have HH2 := cHt_R hq HH (Nat.le_refl _) f12
  have S2 := H2.1.1
  have c2 := (xB_c HH.1.2.2 (s := 2) (by omega)).2.2
  have c25 := HH.1.2.2.2.2.1
  have b1 : -1 ≤ (li1 Z n H (.inr (s0, t0, []))).2 ∧ (li1 Z n H (.inr (s0, t0, []))).2 < ((nM H.1 2 : Nat) : Int) := knS_bd
  have e9 : am_I M1 3 9 = am_i (psn (nx Z n (.inr (s0, t0, [])))) := H1.2.2.2.2.1.2.1
  have h0 := t114 (d + 3) M 3
  rw [am_ob_p (kk_3 HR.1.1), r1, am_bV_p, am_ob_p (kk_3 H1.1.1), am_ob_p (kk_3 H1.1.1), show (am_i 2 : Int32) = am_i ((2 : Nat) : Int) from rfl, r2, am_bI_p, e9] at h0
  have h0 : am_cl 114 (d + 4) [.ref 3] M = am_br .eq (am_i (li1 Z n H (.inr (s0, t0, []))).2) (am_i (-1)) (am_ev 114 (d + 3 + 1) 41 [.ref 3, .int (am_i (psn (nx Z n (.inr (s0, t0, []))))), .int (am_i (li1 Z n H (.inr (s0, t0, []))).2)] [] M2) (am_ob M2 3 4 (am_gr (am_R M2 3 2) (fun h4 => am_ob M2 h4 2 (am_br .ne (((am_I M2 h4 7) >>> (am_i (li1 Z n H (.inr (s0, t0, []))).2 &&& 31)) &&& (am_i 1)) (am_i 1) (am_ev 114 (d + 3 + 1) 41 [.ref 3, .int (am_i (psn (nx Z n (.inr (s0, t0, []))))), .int (am_i (li1 Z n H (.inr (s0, t0, []))).2)] [] M2) (am_ob M2 3 4 (am_bV (am_cl 99 (d + 3) [.ref 3, .int (am_i 3), .int (am_i (psn (nx Z n (.inr (s0, t0, [])))))] M2) (fun M5 => am_ev 114 (d + 3 + 1) 41 [.ref 3, .int (am_i (psn (nx Z n (.inr (s0, t0, []))))), .int (am_i (li1 Z n H (.inr (s0, t0, []))).2)] [] M5)) none)) none) none) none) := h0
  rw [am_br_eq (by omega) (by omega) (by omega) (by omega)] at h0
  cases h1 : (li1 Z n H (.inr (s0, t0, []))).1 with
  | inl e =>
    have g1 : (li1 Z n H (.inr (s0, t0, []))).2 = -1 := knS_inl h1
    rw [h1] at H2
    rw [if_pos g1, t114_41, am_br_eq (by omega) (by omega) (by omega) (by omega), if_pos g1] at h0
    refine ⟨M2, h0, ?_, fH⟩
    have hS : sPress Z n H (.inr (s0, t0, [])) = .inl e := by unfold sPress; simp only [h1]
    rw [hS]
    exact ⟨_, _, _, H2⟩
  | inr x =>
    obtain ⟨s, t, l⟩ := x
    obtain ⟨hl, k5, k6, -⟩ := knS_inr h1
    subst hl
    have k5 : 0 ≤ (li1 Z n H (.inr (s0, t0, []))).2 := k5
    obtain ⟨p, hp⟩ : ∃ p : Nat, (li1 Z n H (.inr (s0, t0, []))).2 = (p : Int) := ⟨(li1 Z n H (.inr (s0, t0, []))).2.toNat, by omega⟩
    have hp5 : p < nM H.1 2 ∧ nM H.1 2 ≤ 5 := by omega
    rw [h1] at H2
    have e7 : am_I M2 q.1 7 = am_i (H.1 7 0 0) := HH2.2.1.2.2.2.2.2 0 (by omega)
    have h32 : 2 ^ nM H.1 2 ≤ 2 ^ 5 := Nat.pow_le_pow_right (by decide) hp5.2
    have hbp := bit_p hpr.1 (by omega) (p := p) (by omega)
    have hbq := bit_q hpr.1 hp5.2 hpr.2 hp5.1
    have k41 : ∀ M5, am_Sh L q M5 → am_I M5 q.1 7 = am_i (H.1 7 0 0) → ∀ v, am_ev 114 (d + 3 + 1) 41 [.ref 3, v, .int (am_i (p : Int))] [] M5 = some (none, am_sI M5 q.1 7 (am_i (bon (H.1 7 0 0) p))) := by
      intro M5 S5 e7' v
      rw [t114_41, am_br_eq (by omega) (by omega) (by omega) (by omega), if_neg (by omega), am_ob_p (kk_3 S5), rr_3_2 S5, am_gr_p, am_ob_p (H_k0 S5 hh), am_ob_p (H_k0 S5 hh), e7', hbq.1, am_lt]
    rw [hp, if_neg (by omega), am_ob_p (kk_3 S2), rr_3_2 S2, am_gr_p, am_ob_p (H_k0 S2 hh), e7, hbp, am_br_ne (by omega) (by omega) (by omega) (by omega)] at h0
    have ht : (li1 Z n H (.inr (s0, t0, []))).2.toNat = p := by omega
    by_cases g : H.1 7 0 0 / ((2 ^ p : Nat) : Int) % 2 = 1
    · obtain ⟨M3, r3, H3, f3⟩ := c_flx H2 (c := 3) (p := psn (nx Z n (.inr (s0, t0, [])))) (by omega) (x := am_i (psn (nx Z n (.inr (s0, t0, []))))) (fun _ => rfl) (d + 3)
      have H3 : rS L q Z n H.2.2.2.1 fm o M3 (.inl (3, psn (nx Z n (.inr (s0, t0, []))))) := H3
      have e73 : am_I M3 q.1 7 = am_i (H.1 7 0 0) := by
        rw [(f3 q.1 7 (fun h => by have := qh_pR hq h; omega)).1]
        exact e7
      rw [if_pos g, am_ob_p (kk_3 S2), r3, am_bV_p, k41 M3 H3.1.1 e73] at h0
      refine ⟨_, h0, ?_, fr_tr fH (fr_tr (fr_mono f3 (fun b k h => pRd_pHs hq h)) (fr_sI (by unfold pHs; omega)))⟩
      have hS : sPress Z n H (.inr (s0, t0, [])) = .inl (3, psn (nx Z n (.inr (s0, t0, [])))) := by
        unfold sPress
        simp only [h1, ht]
        rw [if_pos g]
      rw [hS]
      exact ⟨_, _, _, rS_w hq H3 (by omega) _⟩
    · rw [if_neg g, k41 M2 S2 e7] at h0
      refine ⟨_, h0, ?_, fr_tr fH (fr_sI (by unfold pHs; omega))⟩
      have hS : sPress Z n H (.inr (s0, t0, [])) = .inr (s, t, uA H.1 7 0 0 (bon (H.1 7 0 0) p), H.2) := by
        unfold sPress
        simp only [h1, ht]
        rw [if_neg g]
      rw [hS]
      exact ⟨fm, o, rS_w hq H2 (by omega) _, cHt_u HH2 (by omega) (Or.inr ⟨by omega, by omega, rfl, rfl, rfl, rfl⟩)⟩
/-- a setting -/
theorem c_set {L : Nat} {q : am_Pq} {Z : Nat → Nat → Int} {n : Nat} {fm : Int} {o : Nat} (hq : qh q) {M : am_M} {s0 : Nat} {t0 : Bool} {H : am_HS} (HR : rS L q Z n H.2.2.2.1 fm o M (.inr (s0, t0, []))) (hk0 : kd Z n s0 t0 = 1) (HH : cHt M q.1 H) {i : Nat} (hi : 8 ≤ i ∧ i < 12) {lo hi' : Int} (hlo : 0 ≤ lo ∧ lo ≤ 9999) (hhi : 0 ≤ hi' ∧ hi' ≤ 9999) (d : Nat) : ∃ M', am_bV (am_cl 100 (d + 3) [.ref 3] M) (fun M32 => am_ob M32 3 4 (am_gr (am_R M32 3 2) (fun h33 => am_ob M32 3 4 (am_bI (am_cl 106 (d + 3) [.ref 3, .int (am_i lo), .int (am_i hi')] M32) (fun c35 M34 => am_ob M34 h33 2 (am_lt (am_sI M34 h33 i c35) (fun M36 => some (none, M36))) none)) none) none) none) = some (none, M') ∧ cAf L q Z n M' (sSet Z n i lo hi' H (.inr (s0, t0, []))) ∧ fr (pHs q) M M' := by
  have h4 : q.1 = 4 ∨ q.1 = 38 := hq.1
  have hh := hq.1
  obtain ⟨M1, r1, H1, f1⟩ := c_nx HR (show 1 ≤ kd Z n s0 t0 ∧ kd Z n s0 t0 ≤ 3 by omega) (d + 2)
  obtain ⟨M2, r2, H2, f2⟩ := c_tkN H1 hlo hhi (d + 1)
  have f12 := fr_tr f1 f2
  have fH : fr (pHs q) M M2 := fr_mono f12 (fun b k h => pRd_pHs hq h)
  have HH2 := cHt_R hq HH (Nat.le_refl _) f12
  have S2 := H2.1.1
  refine ⟨am_sI M2 q.1 i (am_i (tkN Z n lo hi' (nx Z n (.inr (s0, t0, [])))).2), ?_, ?_, fr_tr fH (fr_sI (by unfold pHs; omega))⟩
  · rw [r1, am_bV_p, am_ob_p (kk_3 H1.1.1), rr_3_2 H1.1.1, am_gr_p, am_ob_p (kk_3 H1.1.1), r2, am_bI_p, am_ob_p (H_k0 S2 hh), am_lt]
  · cases h1 : (tkN Z n lo hi' (nx Z n (.inr (s0, t0, [])))).1 with
    | inl e =>
      rw [h1] at H2
      have hS : sSet Z n i lo hi' H (.inr (s0, t0, [])) = .inl e := by unfold sSet; simp only [h1]
      rw [hS]
      exact ⟨_, _, _, rS_w hq H2 (by omega) _⟩
    | inr x =>
      obtain ⟨s, t, l⟩ := x
      obtain ⟨a1, a2, e1⟩ := tkN_e h1
      rw [nx_inr] at e1
      have := Sum.inr.inj e1
      rw [Prod.mk.injEq, Prod.mk.injEq] at this
      have hl : l = [] := this.2.2.symm
      subst hl
      rw [h1] at H2
      have hS : sSet Z n i lo hi' H (.inr (s0, t0, [])) = .inr (s, t, uA H.1 i 0 0 (tkN Z n lo hi' (nx Z n (.inr (s0, t0, [])))).2, H.2) := by unfold sSet; simp only [h1]
      rw [hS]
      exact ⟨fm, o, rS_w hq H2 (by omega) _, cHt_u HH2 (by omega) (Or.inr ⟨by omega, by omega, rfl, rfl, rfl, rfl⟩)⟩
