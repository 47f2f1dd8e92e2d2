/-! The reference: formulas of a house. -/
theorem qA_pMt {b k : Nat} (h : qA b k) : pMt b k := by
  unfold qA at h
  rcases h with h | h | h
  · exact ⟨sM_257 (by omega), by omega⟩
  · exact ⟨sM_257 (by omega), by omega⟩
  · exact pMt_187 (by omega)
theorem m_copy {L : Nat} {q : am_Pq} {j : Nat} (hj : j < 3) {F : List Int} {D : Nat} (hD : D + F.length ≤ 1600) (d : Nat) (v2 : Value) : ∀ (m i : Nat), i + m = F.length → ∀ {M}, am_Sh L q M → am_I M 187 92 = am_i (F.length : Int) → (∀ k, k < F.length → am_I M 257 k = am_i (F.getD k 0)) → am_I M 187 51 = am_i ((D + i : Nat) : Int) → (∀ k, k < i → am_I M 228 (D + k) = am_i (F.getD k 0)) → ∀ v2, ∃ M', am_ev 153 (d + 1) 92 [.ref 187, .int (am_i (j : Int)), v2, .int (am_i (i : Int))] [] M = some (none, M') ∧ am_Sh L q M' ∧ fr (fun b k => (b = 187 ∧ k = 51) ∨ (b = 227 ∧ k = j) ∨ (b = 228 ∧ D ≤ k ∧ k < D + F.length)) M M' ∧ am_I M' 187 51 = am_i ((D + F.length : Nat) : Int) ∧ am_I M' 227 j = am_i ((D + F.length : Nat) : Int) ∧ ∀ k, k < F.length → am_I M' 228 (D + k) = am_i (F.getD k 0) := by
  intro m
  induction m with
  | zero =>
    intro i hi M S e92 e257 e51 eC v2
    have hi : i = F.length := by omega
    subst hi
    refine ⟨am_sI M 227 j (am_i ((D + F.length : Nat) : Int)), ?_, S.sI _ _ _, fr_sI (Or.inr (Or.inl ⟨rfl, rfl⟩)), by rw [am_I_ne1 (by omega)]; exact e51, am_I_same _ _ _ _, fun k hk => by rw [am_I_ne1 (by omega)]; exact eC k hk⟩
    rw [t153_92, am_ob_p (kk_187 S), e92, am_br_ge (by omega) (by omega) (by omega) (by omega), if_pos (by omega), am_ob_p (kk_187 S), rr_187_49 S, am_gr_p, am_ob_p (kk_187 S), am_iw_p (kk_227 S) (by omega) (by omega) (by omega) (by omega), am_i_ix (by omega) (by omega), Int.toNat_natCast, am_lt, e51]
  | succ m ih =>
    intro i hi M S e92 e257 e51 eC v2
    have S1 : am_Sh L q (am_sI M 228 (D + i) (am_i (F.getD i 0))) := S.sI _ _ _
    have e51' : am_I (am_sI M 228 (D + i) (am_i (F.getD i 0))) 187 51 = am_i ((D + i : Nat) : Int) := by rw [am_I_ne1 (by omega)]; exact e51
    obtain ⟨M', r, S', f', g1, g2, g3⟩ := ih (i + 1) (by omega) (M := am_sI (am_sI M 228 (D + i) (am_i (F.getD i 0))) 187 51 (am_i ((D + (i + 1) : Nat) : Int))) (S1.sI _ _ _) (by rw [am_I_ne2 (by omega), am_I_ne1 (by omega)]; exact e92) (fun k hk => by rw [am_I_ne1 (by omega), am_I_ne1 (by omega)]; exact e257 k hk) (am_I_same _ _ _ _) (fun k hk => by
      rw [am_I_ne1 (by omega)]
      by_cases g : k = i
      · subst g; rw [am_I_same]
      · rw [am_I_ne2 (by omega)]; exact eC k (by omega)) (am_kl v2)
    refine ⟨M', ?_, S', fr_tr (fr_sI (Or.inr (Or.inr ⟨rfl, by omega, by omega⟩))) (fr_tr (fr_sI (Or.inl ⟨rfl, rfl⟩)) f'), g1, g2, g3⟩
    rw [t153_92, am_ob_p (kk_187 S), e92, am_br_ge (by omega) (by omega) (by omega) (by omega), if_neg (by omega), am_ob_p (kk_187 S), rr_187_50 S, am_gr_p, am_ob_p (kk_187 S), am_ob_p (kk_187 S), rr_187_91 S, am_gr_p, am_ix_p (kk_257 S) (by omega) (by omega) (by omega), e51, am_iw_p (kk_228 S) (by omega) (by omega) (by omega) (by omega), am_i_ix (by omega) (by omega), am_i_ix (by omega) (by omega), Int.toNat_natCast, Int.toNat_natCast, e257 i (by omega), am_lt, am_ob_p (kk_187 S1), am_ob_p (kk_187 S1), e51', am_i_add, am_lt, am_i_add, show ((D + i : Nat) : Int) + 1 = ((D + (i + 1) : Nat) : Int) by omega]
    exact r
theorem m_codes {L : Nat} {q : am_Pq} {Z : Nat → Nat → Int} {n : Nat} {M : am_M} {s0 : Nat} {t0 : Bool} {H : am_HS} (HP : mP L q Z n M (ns Z n s0) (nt Z n s0)) (hk0 : kd Z n s0 t0 = 1) (HH : mHt M H) (hCs : H.2.2.2.1 ≤ s0) (hDC : H.2.2.2.2 ≤ H.2.2.2.1) {j : Nat} (hj : j < 3) (d : Nat) : ∃ M', am_cl 153 (d + 11) [.ref 187, .int (am_i (j : Int)), .int (am_i (s0 : Int))] M = some (none, M') ∧ mAf L q Z n M' (sForm Z n j H (.inr (s0, t0, []))) ∧ fr pMt M M' := by
  obtain ⟨S, e5, hsn, hn, hz⟩ := mP_S HP
  have hb := ns_bd (Z := Z) (kd_lt (show 1 ≤ kd Z n s0 t0 by omega))
  have h0 := t153 (d + 10) M 187 (am_i (j : Int)) (am_i (s0 : Int))
  have h1 := HH.2.2.1 j hj
  rw [am_ob_p (kk_187 S), (m_ok HP).1, am_ob_p (kk_187 S), rr_187_48 S, am_gr_p, am_ix_p (kk_226 S) (by omega) (by omega) (by omega), am_i_ix (by omega) (by omega), Int.toNat_natCast] at h0
  unfold sForm
  cases hx : H.2.2.1 j with
  | some l =>
    rw [hx] at h1
    obtain ⟨o, a1, a2, -⟩ := h1
    have hD := HH.2.2.2.2
    obtain ⟨M2, r2, H2, f2⟩ := m_fail HP (c := 5) (p := (s0 : Int)) (by omega) (d + 10)
    rw [a2, am_br_eq (by omega) (by omega) (by omega) (by omega), if_neg (by omega), am_ob_p (kk_187 S), r2, am_bV_p, t153_23, am_ob_p (kk_187 H2.1), (m_bad H2).2] at h0
    rw [if_pos (by intro h; cases h)]
    exact ⟨M2, h0, H2, fr_mono f2 (fun b k h => pMt_187 (by omega))⟩
  | none =>
    rw [hx] at h1
    have h1 : am_I M 226 j = am_i (-1) := h1
    rw [h1, am_br_eq (by omega) (by omega) (by omega) (by omega), if_pos rfl] at h0
    rw [if_neg (by intro h; exact h rfl)]
    have S1 := S.sI 187 53 (am_i (j : Int))
    have S2 := S1.sI 187 92 (am_i 0)
    have S3 := S2.sI 187 94 (am_i 0)
    have S4 := S3.sI 187 95 (am_i 0)
    have S5 := S4.sI 187 96 (am_i 0)
    obtain ⟨M5, hM5⟩ : ∃ M5, M5 = am_sI (am_sI (am_sI (am_sI (am_sI M 187 53 (am_i (j : Int))) 187 92 (am_i 0)) 187 94 (am_i 0)) 187 95 (am_i 0)) 187 96 (am_i 0) := ⟨_, rfl⟩
    have f5 : fr (fun b k => b = 187 ∧ (k = 53 ∨ k = 92 ∨ (94 ≤ k ∧ k ≤ 96))) M M5 := by
      rw [hM5]
      exact fr_tr (fr_sI (by omega)) (fr_tr (fr_sI (by omega)) (fr_tr (fr_sI (by omega)) (fr_tr (fr_sI (by omega)) (fr_sI (by omega)))))
    have HQ : qH M5 j [] [] [] 0 := by
      rw [hM5]
      exact ⟨by rw [am_I_ne2 (by omega), am_I_ne2 (by omega), am_I_ne2 (by omega), am_I_ne2 (by omega), am_I_same], by rw [am_I_ne2 (by omega), am_I_ne2 (by omega), am_I_ne2 (by omega), am_I_same]; rfl, fun i hi => absurd hi (by show ¬ i < 0; omega), by rw [am_I_ne2 (by omega), am_I_ne2 (by omega), am_I_same]; rfl, trivial, by rw [am_I_ne2 (by omega), am_I_same]; rfl, by rw [am_I_same]; rfl⟩
    rw [← hM5] at S5
    have HP5 : mP L q Z n M5 (ns Z n s0) (nt Z n s0) := mP_mv HP S5 (fr_mono f5 (fun b k h => by unfold nR; omega))
    have hqb : qb (ns Z n s0) j [] [] [] 0 := ⟨by show 0 + 0 + 0 ≤ _; omega, by omega, by omega, by omega, fun c hc => by cases hc⟩
    have h23 : am_cl 153 (d + 11) [.ref 187, .int (am_i (j : Int)), .int (am_i (s0 : Int))] M = if (j : Int) = 2 then (am_ob M5 187 6 (am_bV (am_cl 249 (d + 10) [.ref 187] M5) (fun M7 => am_ev 153 (d + 10 + 1) 72 [.ref 187, .int (am_i (j : Int)), .int (am_i (s0 : Int)), .null] [] M7)) none) else (am_ob M5 187 6 (am_bV (am_cl 245 (d + 10) [.ref 187] M5) (fun M6 => am_ev 153 (d + 10 + 1) 72 [.ref 187, .int (am_i (j : Int)), .int (am_i (s0 : Int)), .null] [] M6)) none) := by
      rw [show d + 11 = d + 10 + 1 from rfl, h0, t153_23, am_ob_p (kk_187 S), (m_ok HP).2, am_ob_p (kk_187 S), am_lt, am_ob_p (kk_187 S1), am_lt, am_ob_p (kk_187 S2), am_lt, am_ob_p (kk_187 S3), am_lt, am_ob_p (kk_187 S4), am_lt, ← hM5, am_br_ne (by omega) (by omega) (by omega) (by omega)]
    obtain ⟨FR, hFR, key⟩ : ∃ FR, FR = (if j = 2 then rTest Z n H.2.2.2.1 2 6 (nx Z n (.inr (s0, t0, []))) else rSum Z n H.2.2.2.1 j 6 (nx Z n (.inr (s0, t0, [])))) ∧ ((∃ e M6, FR = .inl e ∧ am_cl 153 (d + 11) [.ref 187, .int (am_i (j : Int)), .int (am_i (s0 : Int))] M = am_ev 153 (d + 10 + 1) 72 [.ref 187, .int (am_i (j : Int)), .int (am_i (s0 : Int)), .null] [] M6 ∧ mFa L q Z n M6 e ∧ fr qA M5 M6) ∨ (∃ s' t' F M6, FR = .inr (s', t', F) ∧ am_cl 153 (d + 11) [.ref 187, .int (am_i (j : Int)), .int (am_i (s0 : Int))] M = am_ev 153 (d + 10 + 1) 72 [.ref 187, .int (am_i (j : Int)), .int (am_i (s0 : Int)), .null] [] M6 ∧ mP L q Z n M6 s' t' ∧ am_I M6 187 92 = am_i (F.length : Int) ∧ (∀ i, i < F.length → am_I M6 257 i = am_i (F.getD i 0)) ∧ fr qA M5 M6 ∧ H.2.2.2.1 + F.length + 1 ≤ s' ∧ s' ≤ n)) := by
      by_cases g2 : j = 2
      · subst g2
        refine ⟨_, rfl, ?_⟩
        rw [if_pos (show ((2 : Nat) : Int) = 2 from rfl)] at h23
        rw [if_pos (show (2 : Nat) = 2 from rfl), nx_inr]
        have hG := (Gd_rTest (B := H.2.2.2.1) (j := 2) hn (by omega) 6 : Gd Z n _ _ _ _ _).2 (ns Z n s0) (nt Z n s0) [] (by omega) (by show H.2.2.2.1 + 0 ≤ _; omega)
        have hm := m_test (B := H.2.2.2.1) (show uC L q Z n H.2.2.2.1 2 M5 (ns Z n s0) (nt Z n s0) [] [] 0 from ⟨HP5, HQ, hqb, fun c hc => (by cases hc), by show H.2.2.2.1 + 0 + 0 ≤ _; omega⟩) (k := 6) rfl d
        cases hr : rTest Z n H.2.2.2.1 2 6 (.inr (ns Z n s0, nt Z n s0, [])) with
        | inl e =>
          rw [hr] at hm
          obtain ⟨M6, r6, H6, f6⟩ := hm
          rw [am_ob_p (kk_187 S5), r6, am_bV_p] at h23
          exact Or.inl ⟨e, M6, rfl, h23, H6.1, f6⟩
        | inr y =>
          obtain ⟨s', t', F⟩ := y
          obtain ⟨F', k1, k2, k3, k4, -⟩ := hG _ _ _ hr
          have k1 : F = F' := k1
          subst k1
          rw [hr] at hm
          obtain ⟨M6, r6, H6, Q6, f6⟩ := hm
          rw [am_ob_p (kk_187 S5), r6, am_bV_p] at h23
          exact Or.inr ⟨s', t', F, M6, rfl, h23, H6, Q6.2.1, Q6.2.2.1, f6, by omega, k4⟩
      · refine ⟨_, rfl, ?_⟩
        rw [if_neg (by omega)] at h23
        rw [if_neg g2, nx_inr]
        have hG := (Gd_rSum (B := H.2.2.2.1) (Z := Z) hn (show j ≤ 3 by omega) 6).1.2 (ns Z n s0) (nt Z n s0) [] (by omega) (by show H.2.2.2.1 + 0 ≤ _; omega)
        have hm := m_sums (B := H.2.2.2.1) (be := []) (fun c r e => (by cases e)) HP5 (x := am_i 0) (⟨HQ.1, HQ.2.1, HQ.2.2.1, HQ.2.2.2.1, trivial, HQ.2.2.2.2.2.1, HQ.2.2.2.2.2.2⟩ : qH6 M5 j [] [] 0 (am_i 0)) hqb (k := 6) rfl (by show H.2.2.2.1 + 0 ≤ _; omega) (d + 2)
        have hm : qR L q Z n j [] (am_i 0) (am_cl 245 (d + 10) [.ref 187] M5) M5 (rsl 3 [] 0 (rSum Z n H.2.2.2.1 j 6 (.inr (ns Z n s0, nt Z n s0, [])))) := hm
        cases hr : rSum Z n H.2.2.2.1 j 6 (.inr (ns Z n s0, nt Z n s0, [])) with
        | inl e =>
          rw [hr] at hm
          obtain ⟨M6, r6, H6, f6⟩ := hm
          rw [am_ob_p (kk_187 S5), r6, am_bV_p] at h23
          exact Or.inl ⟨e, M6, rfl, h23, H6.1, f6⟩
        | inr y =>
          obtain ⟨s', t', F⟩ := y
          obtain ⟨F', k1, k2, k3, k4, -⟩ := hG _ _ _ hr
          have k1 : F = F' := k1
          subst k1
          rw [hr] at hm
          obtain ⟨M6, r6, H6, Q6, f6⟩ := hm
          rw [am_ob_p (kk_187 S5), r6, am_bV_p] at h23
          exact Or.inr ⟨s', t', F, M6, rfl, h23, H6, Q6.2.1, Q6.2.2.1, f6, by omega, k4⟩
    rw [← hFR]
    have f5p : fr pMt M M5 := fr_mono f5 (fun b k h => pMt_187 (by omega))
    rcases key with ⟨e, M6, e1, h6, H6, f6⟩ | ⟨s', t', F, M6, e1, h6, H6, q92, q257, f6, hF1, hF2⟩
    · subst e1
      rw [t153_72, am_ob_p (kk_187 H6.1), (m_bad H6).2] at h6
      exact ⟨M6, h6, H6, fr_tr f5p (fr_mono f6 (fun b k h => qA_pMt h))⟩
    · subst e1
      have S6 := (mP_S H6).1
      have e51 : am_I M6 187 51 = am_i (H.2.2.2.2 : Int) := ((f6 _ _ (by unfold qA; omega)).1).trans (((f5 _ _ (by omega)).1).trans HH.2.2.2.1)
      have S7 := S6.sI 226 j (am_i (H.2.2.2.2 : Int))
      obtain ⟨M8, r8, S8, f8, g1, g2, g3⟩ := m_copy hj (F := F) (D := H.2.2.2.2) (by omega) (d + 10) .null F.length 0 (by omega) S7 (by rw [am_I_ne1 (by omega)]; exact q92) (fun k hk => by rw [am_I_ne1 (by omega)]; exact q257 k hk) (by rw [am_I_ne1 (by omega)]; exact e51) (fun k hk => by omega) (am_kl (.int (am_i (s0 : Int))))
      rw [t153_72, am_ob_p (kk_187 S6), (m_ok H6).2, am_ob_p (kk_187 S6), rr_187_48 S6, am_gr_p, am_ob_p (kk_187 S6), am_iw_p (kk_226 S6) (by omega) (by omega) (by omega) (by omega), am_i_ix (by omega) (by omega), Int.toNat_natCast, am_lt, e51] at h6
      have f7 : fr (fun b k => b = 226 ∧ k = j) M6 (am_sI M6 226 j (am_i (H.2.2.2.2 : Int))) := fr_sI ⟨rfl, rfl⟩
      have hall : ∀ b k, ¬ (qA b k ∨ (b = 187 ∧ (k = 51 ∨ k = 53)) ∨ ((b = 226 ∨ b = 227) ∧ k = j) ∨ (b = 228 ∧ H.2.2.2.2 ≤ k)) → am_I M8 b k = am_I M b k ∧ am_L M8 b k = am_L M b k := fun b k h => by
        have i1 := f8 b k (by omega)
        have i2 := f7 b k (by omega)
        have i3 := f6 b k (fun g => h (Or.inl g))
        have i4 := f5 b k (fun g => h (by unfold qA; omega))
        exact ⟨i1.1.trans (i2.1.trans (i3.1.trans i4.1)), i1.2.trans (i2.2.trans (i3.2.trans i4.2))⟩
      refine ⟨M8, h6.trans r8, ⟨mP_mv (mP_mv H6 S7 (fr_mono f7 (fun b k h => by unfold nR; omega))) S8 (fr_mono f8 (fun b k h => by unfold nR; omega)), mNm_mv HH.1 (fun b k h => hall b k (by unfold qA; omega)), mHr_mv HH.2.1 (fun b k h => (hall b k (by unfold qA; omega)).1), ?_, g1, by show H.2.2.2.2 + F.length ≤ 1600; omega⟩, fr_tr f5p (fr_tr (fr_mono f6 (fun b k h => qA_pMt h)) (fr_tr (fr_mono f7 (fun b k h => pMt_226 (by omega))) (fr_mono f8 (fun b k h => by
        rcases h with h | h | h
        · exact pMt_187 (by omega)
        · exact pMt_227 (by omega)
        · exact pMt_228 (by omega)))))⟩
      intro j' hj'
      show match uG H.2.2.1 j F j' with
        | none => am_I M8 226 j' = am_i (-1)
        | some l => ∃ o : Nat, o + l.length ≤ H.2.2.2.2 + F.length ∧ am_I M8 226 j' = am_i o ∧ am_I M8 227 j' = am_i ((o + l.length : Nat) : Int) ∧ ∀ i, i < l.length → am_I M8 228 (o + i) = am_i (l.getD i 0)
      by_cases g : j' = j
      · subst g
        rw [show uG H.2.2.1 j' F j' = some F from if_pos rfl]
        exact ⟨H.2.2.2.2, Nat.le_refl _, by rw [(f8 _ _ (by omega)).1, am_I_same], g2, g3⟩
      · rw [show uG H.2.2.1 j F j' = H.2.2.1 j' from if_neg g]
        have h2 := HH.2.2.1 j' hj'
        cases hy : H.2.2.1 j' with
        | none =>
          rw [hy] at h2
          exact ((hall 226 j' (by unfold qA; omega)).1).trans h2
        | some l =>
          rw [hy] at h2
          obtain ⟨o, a1, a2, a3, a4⟩ := h2
          exact ⟨o, by omega, ((hall 226 j' (by unfold qA; omega)).1).trans a2, ((hall 227 j' (by unfold qA; omega)).1).trans a3, fun i hi => ((hall 228 _ (by unfold qA; omega)).1).trans (a4 i hi)⟩
