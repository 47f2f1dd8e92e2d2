/-! The call ask. -/
theorem zB_pl {X : am_X} {Z : Nat → Nat → Int} {v w : Int} (B : zB X Z) : zB X (uZ (uZ (tZ Z) 2 0 v) 2 1 w) := by
  obtain ⟨c1, c2, c3, c4, c5, c6⟩ := B
  have g : ∀ a b, a ≠ 1 → a ≠ 2 → uZ (uZ (tZ Z) 2 0 v) 2 1 w a b = Z a b := fun a b h1 h2 => by
    unfold tZ
    rw [uZ_ne (by omega), uZ_ne (by omega), uZ_ne (by omega)]
  have g1 : uZ (uZ (tZ Z) 2 0 v) 2 1 w 1 0 = 0 := by
    unfold tZ
    rw [uZ_ne (by omega), uZ_ne (by omega), uZ_eq]
  refine ⟨fun k => by rw [g _ _ (by omega) (by omega)]; exact c1 k, by rw [g1]; omega, by rw [g _ _ (by omega) (by omega)]; exact c3, fun r hr => ?_, by rw [g _ _ (by omega) (by omega)]; exact c5, by rw [g _ _ (by omega) (by omega)]; exact c6⟩
  rw [g _ _ (by omega) (by omega)] at hr
  rw [g _ _ (by omega) (by omega), g _ _ (by omega) (by omega), g _ _ (by omega) (by omega)]
  exact c4 r hr
/-- what an asking of the reference writes -/
def pAz (b k : Nat) : Prop := b = 257 ∨ b = 258 ∨ b = 259 ∨ (b = 187 ∧ ((1 ≤ k ∧ k ≤ 8) ∨ k = 39 ∨ k = 53 ∨ k = 56 ∨ k = 57 ∨ k = 92 ∨ (94 ≤ k ∧ k ≤ 96) ∨ (98 ≤ k ∧ k ≤ 100)))
theorem pAz_z {b k : Nat} (h : pAz b k) : (sM b k ∨ zM b k) ∧ 187 ≤ b := by
  unfold pAz at h
  by_cases g : b = 187 ∧ (k = 1 ∨ k = 7 ∨ k = 8)
  · exact ⟨Or.inr (by unfold zM; omega), by omega⟩
  · by_cases g2 : b = 187
    · exact ⟨Or.inl (sM_187 (by omega)), by omega⟩
    · exact ⟨Or.inl (sM_257 (by omega)), by omega⟩
theorem mWz_ask {M M' : am_M} {Z : Nat → Nat → Int} {v w : Int} (H : mWz M Z) (f : fr pAz M M') (e1 : am_I M' 187 1 = am_i 0) (e7 : am_I M' 187 7 = am_i v) (e8 : am_I M' 187 8 = am_i w) : mWz M' (uZ (uZ (tZ Z) 2 0 v) 2 1 w) := by
  obtain ⟨k1, k2, k3, k4, k5, k6, k7, k8, k9, k10⟩ := H
  have g : ∀ a b, a ≠ 1 → a ≠ 2 → uZ (uZ (tZ Z) 2 0 v) 2 1 w a b = Z a b := fun a b h1 h2 => by
    unfold tZ
    rw [uZ_ne (by omega), uZ_ne (by omega), uZ_ne (by omega)]
  refine ⟨fun k hk => ?_, ?_, ?_, ?_, fun k hk => ?_, ?_, fun k hk => ?_, ?_, fun k hk => ?_, ?_⟩
  · rw [g _ _ (by omega) (by omega), (f _ _ (by unfold pAz; omega)).1]; exact k1 k hk
  · rw [e1]
    unfold tZ
    rw [uZ_ne (by omega), uZ_ne (by omega), uZ_eq]
  · rw [e7, uZ_ne (by omega), uZ_eq]
  · rw [e8, uZ_eq]
  · rw [g _ _ (by omega) (by omega), (f _ _ (by unfold pAz; omega)).1]; exact k5 k hk
  · rw [g _ _ (by omega) (by omega), (f _ _ (by unfold pAz; omega)).1]; exact k6
  · rw [g _ _ (by omega) (by omega), (f _ _ (by unfold pAz; omega)).1]; exact k7 k hk
  · rw [g _ _ (by omega) (by omega), (f _ _ (by unfold pAz; omega)).1]; exact k8
  · rw [g _ _ (by omega) (by omega), (f _ _ (by unfold pAz; omega)).1]; exact k9 k hk
  · rw [g _ _ (by omega) (by omega), (f _ _ (by unfold pAz; omega)).2]; exact k10
theorem m_askFault {L : Nat} {q : am_Pq} {Z : Nat → Nat → Int} {n : Nat} {M : am_M} {e : Int × Int} (H : mFa L q Z n M e) (x1 x2 : Int32) (v3 : Value) : ∃ M', am_ev 260 599 134 [.ref 187, .int x1, .int x2, v3] [] M = some (some (.long (am_l (-1000000000000000))), M') ∧ am_Sh L q M' ∧ am_I M' 187 7 = am_i e.1 ∧ am_I M' 187 8 = am_i e.2 ∧ fr (fun b k => b = 187 ∧ (k = 7 ∨ k = 8)) M M' := by
  obtain ⟨S, h1, e5, e6, -⟩ := H
  have S1 := S.sI 187 7 (am_i e.1)
  have S2 := S1.sI 187 8 (am_i e.2)
  refine ⟨am_sI (am_sI M 187 7 (am_i e.1)) 187 8 (am_i e.2), ?_, S2, by rw [am_I_ne2 (by omega), am_I_same], am_I_same _ _ _ _, fr_tr (fr_sI (by omega)) (fr_sI (by omega))⟩
  have h0 := t260_134 598 M 187 x1 x2 v3
  have e6' : am_I (am_sI M 187 7 (am_i e.1)) 187 6 = am_i e.2 := by rw [am_I_ne2 (by omega)]; exact e6
  have e5' : am_I (am_sI (am_sI M 187 7 (am_i e.1)) 187 8 (am_i e.2)) 187 5 = am_i e.1 := by rw [am_I_ne2 (by omega), am_I_ne2 (by omega)]; exact e5
  rw [am_ob_p (kk_187 S), am_ob_p (kk_187 S), e5, am_lt, am_ob_p (kk_187 S1), am_ob_p (kk_187 S1), e6', am_lt, am_ob_p (kk_187 S2), e5', am_br_eq (by omega) (by omega) (by omega) (by omega), if_neg (by omega)] at h0
  exact h0
theorem m_askEnd {L : Nat} {q : am_Pq} {X : am_X} {A : am_A} {p : Nat} {F : List Int} (B : hB X) (BA : aB X A) (hp : p < nP X) {bb : Bool} (hwf : wf (alw 3) true bb F) (hl : F.length ≤ 1600) {k : Int} (hk : 0 ≤ k ∧ k ≤ 5) {M : am_M} (S : am_Sh L q M) (HX : mH M X) (HA : mA M A) (e5 : am_I M 187 5 = am_i 0) (e6 : am_I M 187 6 = am_i (-1)) (e92 : am_I M 187 92 = am_i (F.length : Int)) (eF : ∀ i, i < F.length → am_I M 257 i = am_i (F.getD i 0)) (v3 : Value) : ∃ M', am_ev 260 599 134 [.ref 187, .int (am_i (p : Int)), .int (am_i k), v3] [] M = some (some (.long (am_l (rA k (qv X A p F) (nF X)))), M') ∧ am_Sh L q M' ∧ am_I M' 187 7 = am_i 0 ∧ am_I M' 187 8 = am_i (-1) ∧ fr (fun b k => b = 259 ∨ (b = 187 ∧ (k = 7 ∨ k = 8 ∨ k = 53 ∨ k = 56 ∨ k = 57 ∨ (98 ≤ k ∧ k ≤ 100)))) M M' := by
  have hP5 := (hB_P B).2
  have S1 := S.sI 187 7 (am_i 0)
  have S2 := S1.sI 187 8 (am_i (-1))
  have h0 := t260_134 598 M 187 (am_i (p : Int)) (am_i k) v3
  have e6' : am_I (am_sI M 187 7 (am_i 0)) 187 6 = am_i (-1) := by rw [am_I_ne2 (by omega)]; exact e6
  have e5' : am_I (am_sI (am_sI M 187 7 (am_i 0)) 187 8 (am_i (-1))) 187 5 = am_i 0 := by rw [am_I_ne2 (by omega), am_I_ne2 (by omega)]; exact e5
  rw [am_ob_p (kk_187 S), am_ob_p (kk_187 S), e5, am_lt, am_ob_p (kk_187 S1), am_ob_p (kk_187 S1), e6', am_lt, am_ob_p (kk_187 S2), e5', am_br_eq (by omega) (by omega) (by omega) (by omega), if_pos rfl, am_br_ge (by omega) (by omega) (by omega) (by omega)] at h0
  have h1 : am_ev 260 599 134 [.ref 187, .int (am_i (p : Int)), .int (am_i k), v3] [] M = am_ev 260 599 174 [.ref 187, .int (am_i (p : Int)), .int (am_i k), v3] [.long (am_l (rA k (qv X A p F) 0)), .ref 187] (am_sI (am_sI M 187 7 (am_i 0)) 187 8 (am_i (-1))) := by
    have e : rA k (qv X A p F) 0 = if k < 2 then -1 else 0 := rfl
    rw [e]
    by_cases g : 2 ≤ k
    · rw [if_pos g] at h0
      rw [if_neg (by omega)]
      exact h0
    · rw [if_neg g] at h0
      rw [if_pos (by omega)]
      exact h0
  obtain ⟨MB, hMB⟩ : ∃ MB, MB = am_sI (am_sI M 187 7 (am_i 0)) 187 8 (am_i (-1)) := ⟨_, rfl⟩
  rw [← hMB] at h1 S2
  have S3 := S2.sL 187 99 (am_l (rA k (qv X A p F) 0))
  have S4 := S3.sI 187 100 (am_i 1)
  have S5 := S4.sI 187 56 (am_i (p : Int))
  obtain ⟨M5, hM5⟩ : ∃ M5, M5 = am_sI (am_sI (am_sL MB 187 99 (am_l (rA k (qv X A p F) 0))) 187 100 (am_i 1)) 187 56 (am_i (p : Int)) := ⟨_, rfl⟩
  have f5 : fr (fun b k => b = 187 ∧ (k = 7 ∨ k = 8 ∨ k = 56 ∨ (98 ≤ k ∧ k ≤ 100))) M M5 := by
    rw [hM5, hMB]
    exact fr_tr (fr_sI (by omega)) (fr_tr (fr_sI (by omega)) (fr_tr (fr_sL (by omega)) (fr_tr (fr_sI (by omega)) (fr_sI (by omega)))))
  have HA5 : mA M5 A := mA_mv HA (fun k hk => (f5 _ _ (by omega)).1)
  have S5' : am_Sh L q M5 := by rw [hM5]; exact S5
  have r6 := m_profileOf S5' HA5 (show p < 5 by omega) 597
  have S6 := S5'.sI 187 57 (am_i (prof A p : Int))
  have S7 := S6.sI 187 53 (am_i 3)
  obtain ⟨M7, hM7⟩ : ∃ M7, M7 = am_sI (am_sI M5 187 57 (am_i (prof A p : Int))) 187 53 (am_i 3) := ⟨_, rfl⟩
  have f7 : fr (fun b k => b = 187 ∧ (k = 7 ∨ k = 8 ∨ k = 53 ∨ k = 56 ∨ k = 57 ∨ (98 ≤ k ∧ k ≤ 100))) M M7 := by
    rw [hM7]
    exact fr_tr (fr_mono f5 (fun b k h => by omega)) (fr_tr (fr_sI (by omega)) (fr_sI (by omega)))
  have h2 := t260_174 598 MB 187 187 (am_i (p : Int)) (am_i k) v3 (am_l (rA k (qv X A p F) 0))
  rw [am_ob_p (kk_187 S2), am_lt, am_ob_p (kk_187 S3), am_tr_1, am_lt, am_ob_p (kk_187 S4), am_lt, ← hM5, am_ob_p (kk_187 S5'), r6, am_bI_p, am_ob_p (kk_187 S5'), am_lt, am_ob_p (kk_187 S6), am_lt, ← hM7] at h2
  rw [← hM7] at S7
  have q99 : am_L M7 187 99 = am_l (rA k (qv X A p F) 0) := by rw [hM7, am_L_sI', am_L_sI', hM5, am_L_sI', am_L_sI', am_L_same]
  have q100 : am_I M7 187 100 = am_i 1 := by rw [hM7, am_I_ne2 (by omega), am_I_ne2 (by omega), hM5, am_I_ne2 (by omega), am_I_same]
  have q56 : am_I M7 187 56 = am_i (p : Int) := by rw [hM7, am_I_ne2 (by omega), am_I_ne2 (by omega), hM5, am_I_same]
  have q57 : am_I M7 187 57 = am_i (prof A p : Int) := by rw [hM7, am_I_ne2 (by omega), am_I_same]
  have q7 : am_I M7 187 7 = am_i 0 := by rw [hM7, am_I_ne2 (by omega), am_I_ne2 (by omega), hM5, am_I_ne2 (by omega), am_I_ne2 (by omega), am_I_sL', hMB, am_I_ne2 (by omega), am_I_same]
  have q8 : am_I M7 187 8 = am_i (-1) := by rw [hM7, am_I_ne2 (by omega), am_I_ne2 (by omega), hM5, am_I_ne2 (by omega), am_I_ne2 (by omega), am_I_sL', hMB, am_I_same]
  have HQ : mQs L q X A p F M7 := ⟨S7, mH_mv HX B (fun b k g1 g2 g3 => (f7 b k (by omega)).1), mA_mv HA (fun k hk => (f7 _ _ (by omega)).1), q57, q56, by rw [(f7 _ _ (by omega)).1]; exact e92, fun i hi => by rw [(f7 _ _ (by omega)).1]; exact eF i hi⟩
  obtain ⟨M8, r8, S8, f8⟩ := m_askLoop B BA hp hwf hl hk 595 (nF X) 0 (by omega) HQ q99 (by rw [if_pos rfl]; exact q100) (.int (am_i (p : Int)))
  exact ⟨M8, h1.trans (h2.trans r8), S8, by rw [(f8 _ _ (by omega)).1]; exact q7, by rw [(f8 _ _ (by omega)).1]; exact q8, fr_tr (fr_mono f7 (fun b k h => by omega)) (fr_mono f8 (fun b k h => by omega))⟩
/-- the class's asking, where its question is read -/
theorem c_askGood {L : Nat} {q : am_Pq} {X : am_X} {A : am_A} {F : List Int} (hh : isH q.2.2.1) (B : hB X) (BA : aB X A) {p : Nat} (hp : p < nP X) {w : Int} (hw : 29 ≤ w ∧ w < 35) (hwf : wf (alw 3) true (decide (w ≤ 31)) F) (hl : F.length + 1 ≤ 1600) {M : am_M} (H : cQs L q X A F M) (e33 : am_I M 3 3 = am_i w) : ∃ M', am_ob M 2 5 (am_gr (am_R M 2 0) (fun h8 => am_ob M h8 4 (am_si 29 (am_I M h8 3) (am_ob M 2 5 (am_bL (am_cl 53 598 [.ref 2, .int (am_i (p : Int)), .int (am_i 1)] M) (fun c10 M9 => some (some (.long c10), M9))) none)
 (am_si 30 (am_I M h8 3) (am_ob M 2 5 (am_bL (am_cl 53 598 [.ref 2, .int (am_i (p : Int)), .int (am_i 0)] M) (fun c12 M11 => some (some (.long c12), M11))) none)
 (am_si 31 (am_I M h8 3) (am_ob M 2 5 (am_bL (am_cl 54 598 [.ref 2, .int (am_i (p : Int))] M) (fun c14 M13 => some (some (.long c14), M13))) none)
 (am_si 32 (am_I M h8 3) (am_ob M 2 5 (am_bL (am_cl 54 598 [.ref 2, .int (am_i (p : Int))] M) (fun c16 M15 => some (some (.long c16), M15))) none)
 (am_si 33 (am_I M h8 3) (am_ob M 2 5 (am_bL (am_cl 55 598 [.ref 2, .int (am_i (p : Int)), .int (am_i 1)] M) (fun c18 M17 => some (some (.long c18), M17))) none)
 (am_ob M 2 5 (am_bL (am_cl 55 598 [.ref 2, .int (am_i (p : Int)), .int (am_i 0)] M) (fun c20 M19 => some (some (.long c20), M19))) none)))))) none) none) none = some (some (.long (am_l (rA (w - 29) (qv X A p F) (nF X)))), M') ∧ cQs L q X A F M' ∧ fr (fun b _ => 72 ≤ b ∧ b ≤ 74) M M' := by
  have S := H.1
  rw [am_ob_p (kk_2 S), rr_2_0 S, am_gr_p, am_ob_p (kk_3 S), e33]
  have hc : w = 29 ∨ w = 30 ∨ w = 31 ∨ w = 32 ∨ w = 33 ∨ w = 34 := by omega
  rcases hc with h | h | h | h | h | h
  · subst h
    obtain ⟨M1, r1, H1, f1⟩ := c_filmThatHolds hh B BA hp (show wf (alw 3) true true F from hwf) hl (fst := 1) (by omega) H 594
    rw [am_si_t (by omega), am_ob_p (kk_2 S), r1, am_bL_p]
    exact ⟨M1, rfl, H1, f1⟩
  · subst h
    obtain ⟨M1, r1, H1, f1⟩ := c_filmThatHolds hh B BA hp (show wf (alw 3) true true F from hwf) hl (fst := 0) (by omega) H 594
    rw [am_si_f (by omega), am_si_t (by omega), am_ob_p (kk_2 S), r1, am_bL_p]
    exact ⟨M1, rfl, H1, f1⟩
  · subst h
    have hwf : wf (alw 3) true true F := hwf
    obtain ⟨M1, r1, H1, f1⟩ := c_totalOf hh B BA hp hwf hl H 594
    rw [am_si_f (by omega), am_si_f (by omega), am_si_t (by omega), am_ob_p (kk_2 S), r1, am_bL_p]
    refine ⟨M1, ?_, H1, f1⟩
    rw [show rA (31 - 29) (qv X A p F) (nF X) = sm (qv X A p F) (nF X) from rA_often _ (fun f hf => (qv_ok B BA hp hf hwf).2.2 rfl)]
  · subst h
    obtain ⟨M1, r1, H1, f1⟩ := c_totalOf hh B BA hp hwf hl H 594
    rw [am_si_f (by omega), am_si_f (by omega), am_si_f (by omega), am_si_t (by omega), am_ob_p (kk_2 S), r1, am_bL_p]
    refine ⟨M1, ?_, H1, f1⟩
    rw [show rA (32 - 29) (qv X A p F) (nF X) = sm (qv X A p F) (nF X) from rA_total _]
  · subst h
    obtain ⟨M1, r1, H1, f1⟩ := c_extremeOf hh B BA hp hwf hl (gr := 1) (by omega) H 594
    rw [am_si_f (by omega), am_si_f (by omega), am_si_f (by omega), am_si_f (by omega), am_si_t (by omega), am_ob_p (kk_2 S), r1, am_bL_p]
    exact ⟨M1, rfl, H1, f1⟩
  · subst h
    obtain ⟨M1, r1, H1, f1⟩ := c_extremeOf hh B BA hp hwf hl (gr := 0) (by omega) H 594
    rw [am_si_f (by omega), am_si_f (by omega), am_si_f (by omega), am_si_f (by omega), am_si_f (by omega), am_ob_p (kk_2 S), r1, am_bL_p]
    exact ⟨M1, rfl, H1, f1⟩
theorem call_ask {L : Nat} {xs : Nat → Int32} {M : am_M} {W : am_Wo} {b : Nat} (R : Rel L xs M W b) (x : Int32) : Call L xs 32 260 [.int x] M b := by
  obtain ⟨q, hq, S, HC, HM, B, h0⟩ := R
  obtain ⟨z, rfl, z1, z2⟩ := int_of x
  have B1 := B.1
  have BA := B.2.2.2.1
  have BZ : zB (wX W) (wZ W) := B.2.2.2.2.2.2
  have hh := qok_h hq
  have hh' : q.2.2.1 = 4 ∨ q.2.2.1 = 38 := hh
  have hZ := HC.2.2.2.2.2.2.1
  have hw := HC.2.2.2.2.2.2.2
  have hn : (wZ W 1 0).toNat ≤ 1600 := by have := BZ.2.1; omega
  have hnz : (((wZ W 1 0).toNat : Nat) : Int) = wZ W 1 0 := by have := BZ.2.1; omega
  have S1 := S.sI 2 2 (am_i 0)
  have zt := cWz_t hZ
  have eT := c_takeTape S hZ 598
  have HX1 : cH (am_sI M 2 2 (am_i 0)) q.2.2.1 (wX W) := cH_mv HC.1 B1 (fun b k g1 g2 => by rw [am_I_ne1 (by omega)])
  have r1 := c_isP S1 hh HX1 B1 z1 z2 598
  have b0 := is1_01 (wX W) 2 z
  have hc := t32 598 M 2 (am_i z)
  rw [am_ob_p (kk_2 S), eT, am_bI_p, am_ob_p (kk_2 S1), r1, am_bI_p, am_br_eq (by omega) (by omega) (by omega) (by omega)] at hc
  by_cases g : is1 (wX W) 2 z = 1
  · obtain ⟨p, rfl, hp⟩ := is1_ex g
    have hp : p < nP (wX W) := by have := hB_P B1; omega
    have hP5 := (hB_P B1).2
    rw [if_neg (by omega), am_ob_p (kk_2 S1), rr_2_0 S1, am_gr_p, am_ob_p (kk_3 S1)] at hc
    obtain ⟨M2, y, r2, S2, f2, H2⟩ := c_readQuestion S1 (Z := wZ W) (fun k hk => by rw [am_I_ne1 (by omega)]; exact hZ.1 k hk) BZ.1 hw hn 537
    rw [hnz] at r2
    have r2 : am_cl 97 598 [.ref 3, .int (am_i (wZ W 1 0))] (am_sI M 2 2 (am_i 0)) = some (some (.int (am_i y)), M2) := r2
    rw [r2, am_bI_p] at hc
    have hqq : qok (qQ q) := ⟨hq.1, hq.2.1, Or.inl rfl⟩
    have f12 : fr (fun b k => (sC q b k ∨ zC b k) ∧ b < 187) M M2 := fr_tr fr_22 (fr_mono f2 (fun b k h => by
      rcases h with h | h
      · subst h
        by_cases g : k < 2
        · exact ⟨Or.inr (by unfold zC; omega), by omega⟩
        · exact ⟨Or.inl (sC_3 ⟨rfl, by omega⟩), by omega⟩
      · exact ⟨Or.inl (sC_29 h), by omega⟩))
    -- the reference, behind whatever the class did
    have ref : ∀ M3, am_Sh L (qQ q) M3 → fr (fun b k => (sC q b k ∨ zC b k) ∧ b < 187) M M3 → ∃ M4 k, am_cl 260 599 [.ref 187, .int (am_i (p : Int))] M3 = am_ev 260 599 134 [.ref 187, .int (am_i (p : Int)), .int (am_i k), .null] [] M4 ∧ (0 ≤ k ∧ k ≤ 5) ∧ mqOut L (qQ q) (wZ W) (wZ W 1 0).toNat M4 k (aQ (wZ W) (wZ W 1 0).toNat) ∧ am_I M4 187 1 = am_i 0 ∧ fr pAq M3 M4 ∧ mWz M3 (wZ W) ∧ mH M4 (wX W) ∧ mA M4 (wA W) := by
      intro M3 S3 f3
      have hM3 : ∀ b k, 187 ≤ b → am_I M3 b k = am_I M b k ∧ am_L M3 b k = am_L M b k := fun b k h => f3 b k (fun g => by omega)
      obtain ⟨m1, m2, m3, m4, m5, m6, m7, m8, m9⟩ := HM
      have mz := mWz_mv m7 hM3
      have mH3 := mH_mv m1 B1 (fun b k k1 k2 k3 => (hM3 b k (by omega)).1)
      have mA3 := mA_mv m4 (fun k hk => (hM3 229 k (by omega)).1)
      have rp := m_isPerson S3 mH3 B1 z1 z2 597
      rw [g] at rp
      obtain ⟨M4, k, r4, hk, h4, e1, f4⟩ := m_askRead S3 rp mz.1 BZ.1 (mWw_mv m8 (fun b k h => (hM3 b k (by omega)).1)) hn (by rw [hnz]; exact mz.2.1)
      exact ⟨M4, k, r4, hk, h4, e1, f4, mz, mH_mv mH3 B1 (fun b k k1 k2 k3 => (f4 b k (by unfold pAq; omega)).1), mA_mv mA3 (fun k hk => (f4 229 k (by unfold pAq; omega)).1)⟩
    have pq : ∀ b k, pAq b k → pAz b k := fun b k h => by unfold pAq at h; unfold pAz; omega
    cases ha : aQ (wZ W) (wZ W 1 0).toNat with
    | inl e =>
      rw [ha] at H2
      obtain ⟨hy, he, e0, e1⟩ := H2
      subst hy
      rw [am_br_ne (by omega) (by omega) (by omega) (by omega), if_pos rfl] at hc
      have z2 : cWz M2 (uZ (uZ (tZ (wZ W)) 2 0 e.1) 2 1 e.2) := cWz_pl zt (fun b k h h3 => (f2 b k (fun g => by
        rcases g with g | g
        · exact h3 g
        · unfold zC at h; omega)).1) e0 e1
      obtain ⟨M4, k, r4, hk, h4, e41, f4, mz, -, -⟩ := ref M2 S2 f12
      rw [ha] at h4
      obtain ⟨M5, r5, S5, e7, e8, f5⟩ := m_askFault h4 (am_i (p : Int)) (am_i k) .null
      have f45 : fr pAz M2 M5 := fr_tr (fr_mono f4 pq) (fr_mono f5 (fun b k h => by unfold pAz; omega))
      exact Call_Z (v := .long (am_l (-1000000000000000))) (Z := uZ (uZ (tZ (wZ W)) 2 0 e.1) 2 1 e.2) (lv _) hq HC HM B h0 hc f12 z2 hqq rfl (r4.trans r5) (fr_mono f45 (fun b k h => pAz_z h)) (mWz_ask mz f45 (by rw [(f5 _ _ (by omega)).1]; exact e41) e7 e8) (zB_pl BZ) S5
    | inr y2 =>
      obtain ⟨w, F⟩ := y2
      rw [ha] at H2
      obtain ⟨hy, e0, e1, e33, hF, hE⟩ := H2
      subst hy
      obtain ⟨hw1, hw2, hl, hwf⟩ := aQ_ok hn ha
      rw [am_br_ne (by omega) (by omega) (by omega) (by omega), if_neg (by omega)] at hc
      have HQ : cQs L (qQ q) (wX W) (wA W) F M2 := ⟨S2, cH_mv HX1 B1 (fun b k g1 g2 => (f2 b k (by have g1 : q.2.2.1 ≤ b := g1; have g2 : b < q.2.2.1 + 24 := g2; omega)).1), cA_mv HC.2.2.2.1 (fun b k g1 g2 g3 => by rw [(f2 b k (by omega)).1, am_I_ne1 (by omega)]), hF, hE⟩
      obtain ⟨M3, r3, H3, f3⟩ := c_askGood (q := qQ q) hh B1 BA hp ⟨hw1, hw2⟩ hwf hl HQ e33
      have hc := hc.trans r3
      have f13 : fr (fun b k => (sC q b k ∨ zC b k) ∧ b < 187) M M3 := fr_tr f12 (fr_mono f3 (fun b k h => ⟨Or.inl (sC_m (by omega)), by omega⟩))
      have z3 : cWz M3 (uZ (uZ (tZ (wZ W)) 2 0 0) 2 1 (-1)) := cWz_pl zt (fun b k h h3 => ((f3 b k (by unfold zC at h; omega)).1).trans (f2 b k (fun g => by
        rcases g with g | g
        · exact h3 g
        · unfold zC at h; omega)).1) (by rw [(f3 _ _ (by omega)).1]; exact e0) (by rw [(f3 _ _ (by omega)).1]; exact e1)
      obtain ⟨M4, k, r4, hk, h4, e41, f4, mz, mH4, mA4⟩ := ref M3 H3.1 f13
      rw [ha] at h4
      obtain ⟨hkw, S4, g5, g6, g92, gF⟩ := h4
      obtain ⟨M5, r5, S5, e7, e8, f5⟩ := m_askEnd B1 BA hp hwf (by omega) hk S4 mH4 mA4 g5 g6 g92 gF .null
      rw [hkw] at r5
      rw [hkw] at r4
      have f45 : fr pAz M3 M5 := fr_tr (fr_mono f4 pq) (fr_mono f5 (fun b k h => by unfold pAz; omega))
      exact Call_Z (v := .long (am_l (rA (w - 29) (qv (wX W) (wA W) p F) (nF (wX W))))) (Z := uZ (uZ (tZ (wZ W)) 2 0 0) 2 1 (-1)) (lv _) hq HC HM B h0 hc f13 z3 hqq rfl (r4.trans r5) (fr_mono f45 (fun b k h => pAz_z h)) (mWz_ask mz f45 (by rw [(f5 _ _ (by omega)).1]; exact e41) e7 e8) (zB_pl BZ) S5
  · have g0 : is1 (wX W) 2 z = 0 := by omega
    rw [if_pos g0] at hc
    have hM1 : ∀ b k, 187 ≤ b → am_I (am_sI M 2 2 (am_i 0)) b k = am_I M b k ∧ am_L (am_sI M 2 2 (am_i 0)) b k = am_L M b k := fun b k h => ⟨am_I_ne1 (by omega), rfl⟩
    have HM0 := HM
    obtain ⟨m1, m2, m3, m4, m5, m6, m7, m8, m9⟩ := HM
    have rp := m_isPerson S1 (mH_mv m1 B1 (fun b k k1 k2 k3 => (hM1 b k (by omega)).1)) B1 z1 z2 597
    have mz := mWz_mv m7 hM1
    have h6 := t260 598 (am_sI M 2 2 (am_i 0)) 187 (am_i z)
    rw [am_ob_p (kk_187 S1), rp, am_bI_p, am_br_ne (by omega) (by omega) (by omega) (by omega), if_pos g0, am_ob_p (kk_187 S1), am_lt] at h6
    exact Call_Z (v := .long (am_l (-1000000000000000))) (Z := tZ (wZ W)) (lv _) hq HC HM0 B h0 hc fr_22 zt hq rfl h6 fr_1871 (mWz_t mz) (zB_t BZ) (S1.sI _ _ _)
