/-! house: the class behind its reader, where a house was read. -/
theorem c_house_ok {L : Nat} {q q4 : am_Pq} {M M4 : am_M} {Z : Nat → Nat → Int} {k P7 : Int} (S : am_Sh L q M) (HZ : cWz M Z) (hr : am_cl 96 598 [.ref 3, .int (am_i (Z 1 0))] (am_sI M 2 2 (am_i 0)) = some (some (.int (am_i k)), M4)) (S4 : am_Sh L q4 M4) (hh4 : isH q4.1) (hk : 0 ≤ k) (hk2 : k < 1000000) (e7 : am_I M4 q4.1 7 = am_i P7) :
    ∃ M', am_cl 4 599 [.ref 2] M = some (some (.int (am_i k)), M') ∧ am_Sh L (q4.2.2.1, q4.2.1, q4.1, q4.2.2.2) M' ∧ fr (fun b k => pA 64 b k ∨ (b = 2 ∧ (k = 7 ∨ k = 9))) M4 M' ∧ cA M' 64 (aP azr P7) ∧ cK M' 64 [] 0 ∧ am_I M' 2 7 = am_i 0 ∧ am_I M' 2 9 = am_i 0 := by
  have hh' : q4.1 = 4 ∨ q4.1 = 38 := hh4
  have S1 := S.sI 2 2 (am_i 0)
  have eT := c_takeTape S HZ 598
  have SA := Sh_63 S4 q4.1
  have SB : am_Sh L (q4.2.2.1, q4.2.1, q4.1, q4.2.2.2) (am_sR (am_sR M4 63 0 q4.1) 3 2 q4.2.2.1) := Sh_32 SA q4.2.2.1
  obtain ⟨M6, r6, S6, f6, HA6, HK6⟩ := c_clear64 SB 598
  have e7' : am_I M6 q4.1 7 = am_i P7 := by rw [(f6 _ _ (by unfold pA; omega)).1]; exact e7
  have S7 := S6.sI 64 1 (am_i P7)
  have S8 := S7.sI 2 9 (am_i 0)
  have e32 : am_R M4 3 2 = some q4.1 := rr_3_2 S4
  have e630 : am_R M4 63 0 = some q4.2.2.1 := rr_63_0 S4
  refine ⟨am_sI (am_sI (am_sI M6 64 1 (am_i P7)) 2 9 (am_i 0)) 2 7 (am_i 0), ?_, S8.sI _ _ _, fr_tr (fr_tr fr_sR fr_sR) (fr_tr (fr_mono f6 (fun b k h => Or.inl h)) (fr_tr (fr_sI (Or.inl (Or.inl ⟨rfl, Or.inr (Or.inl rfl)⟩))) (fr_tr (fr_sI (Or.inr ⟨rfl, Or.inr rfl⟩)) (fr_sI (Or.inr ⟨rfl, Or.inl rfl⟩))))), cA_mv (cA_aP HA6 P7) (fun b k k1 k2 k3 => by rw [am_I_ne1 (by omega), am_I_ne1 (by omega)]), cK_mv HK6 (by rw [am_I_ne1 (by omega), am_I_ne1 (by omega), am_I_ne2 (by omega)]) (fun k => by rw [am_I_ne1 (by omega), am_I_ne1 (by omega), am_I_ne1 (by omega)]), am_I_same _ _ _ _, by rw [am_I_ne2 (by omega), am_I_same]⟩
  rw [t4, am_ob_p (kk_2 S), rr_2_0 S, am_gr_p, am_ob_p (kk_2 S), eT, am_bI_p, am_ob_p (kk_3 S1), hr, am_bI_p, am_br_ne (by omega) (by omega) (by omega) (by omega), if_neg (by omega), am_ob_p (kk_2 S4), rr_2_3 S4, am_gr_p, am_ob_p (kk_63 S4), e630, am_gr_p, am_ob_p (kk_2 S4), am_gr_p, am_ob_p (kk_2 S4), rr_2_0 S4, am_gr_p, am_ob_p (kk_3 S4), e32, am_gr_p, am_ob_p (kk_63 S4)]
  simp only [am_lt]
  rw [am_ob_p (kk_2 SA), rr_2_0 SA, am_gr_p, am_ob_p (kk_3 SA), am_ob_p (kk_2 SB), rr_2_3 SB, am_gr_p, am_ob_p (kk_63 SB), rr_63_1 SB, am_gr_p, am_ob_p (kk_64 SB), r6, am_bV_p, am_ob_p (kk_2 S6), rr_2_3 S6, am_gr_p, am_ob_p (kk_63 S6), rr_63_1 S6, am_gr_p, am_ob_p (kk_2 S6), am_gr_p, am_ob_p (kk_63 S6), rr_63_0 S6, am_gr_p, am_ob_p (H_k0 S6 hh4), am_ob_p (kk_64 S6), e7', am_ob_p (kk_2 S7), am_ob_p (kk_2 S8), t44, am_ob_p (kk_2 S8), am_lt, am_bV_p]
