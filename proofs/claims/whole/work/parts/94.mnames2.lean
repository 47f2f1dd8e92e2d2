/-! The reference: names that are asked for, new names. -/
theorem m_bad {L : Nat} {q : am_Pq} {Z : Nat → Nat → Int} {n : Nat} {M : am_M} {e : Int × Int} (H : mFa L q Z n M e) {t f : am_Q} : am_br .ne (am_I M 187 5) (am_i 0) t f = t ∧ am_br .eq (am_I M 187 5) (am_i 0) t f = f := by
  have e5 : am_I M 187 5 = am_i e.1 := H.2.2.1
  have he : 1 ≤ e.1 ∧ e.1 ≤ 5 := H.2.1
  rw [e5]
  exact ⟨by rw [am_br_ne (by omega) (by omega) (by omega) (by omega), if_neg (by omega)], by rw [am_br_eq (by omega) (by omega) (by omega) (by omega), if_neg (by omega)]⟩
theorem m_ok {L : Nat} {q : am_Pq} {Z : Nat → Nat → Int} {n : Nat} {M : am_M} {s : Nat} {t' : Bool} (H : mP L q Z n M s t') {t f : am_Q} : am_br .ne (am_I M 187 5) (am_i 0) t f = f ∧ am_br .eq (am_I M 187 5) (am_i 0) t f = t := by
  have e5 := (mP_S H).2.1
  rw [e5]
  exact ⟨by rw [am_br_ne (by omega) (by omega) (by omega) (by omega), if_pos rfl], by rw [am_br_eq (by omega) (by omega) (by omega) (by omega), if_pos rfl]⟩
theorem m_oneOf {L : Nat} {q : am_Pq} {Z : Nat → Nat → Int} {n : Nat} {M : am_M} {st : am_PS} (H : mS L q Z n M st) {X : am_X} {N : Nat → Nat → List Int} (HN : mNm M X N) {s : Nat} (hs : s < 3) (d : Nat) : ∃ M' k, am_cl 146 (d + 4) [.ref 187, .int (am_i (s : Int))] M = some (some (.int (am_i k)), M') ∧ mS L q Z n M' (knS Z n N s (nM X s) st).1 ∧ (0 ≤ k ∧ k < 8) ∧ (isE (knS Z n N s (nM X s) st).1 = false → k = (knS Z n N s (nM X s) st).2 ∧ k < ((nM X s : Nat) : Int) ∧ am_I M' 187 39 = am_i (psn st)) ∧ fr rR M M' := by
  have S := (mS_S H).1
  obtain ⟨M1, v, r1, H1, hv, hvn, f1⟩ := m_name H d
  have S1 := (mS_S H1).1
  have HN1 := mNm_R HN f1
  have rf := m_nameOf S1 HN1 hs hv (d + 3)
  have fb := fndv_bd (fun w => c27 (N s w)) v (nM X s)
  have hc8 := (xB_c HN.2.2 hs).2.2.2
  have h0 := t146 (d + 3) M 187 (am_i (s : Int))
  rw [am_ob_p (kk_187 S), r1, am_bL_p, am_ob_p (kk_187 S1), rf, am_bI_p, am_ob_p (kk_187 S1)] at h0
  have bad : ∀ e : Int × Int, nmS Z n st = .inl e → ∃ M' k, am_cl 146 (d + 4) [.ref 187, .int (am_i (s : Int))] M = some (some (.int (am_i k)), M') ∧ mS L q Z n M' (knS Z n N s (nM X s) st).1 ∧ (0 ≤ k ∧ k < 8) ∧ (isE (knS Z n N s (nM X s) st).1 = false → k = (knS Z n N s (nM X s) st).2 ∧ k < ((nM X s : Nat) : Int) ∧ am_I M' 187 39 = am_i (psn st)) ∧ fr rR M M' := by
    intro e he
    rw [he] at H1
    have hF : knS Z n N s (nM X s) st = (.inl e, -1) := by unfold knS; rw [he]
    rw [hF]
    rw [(m_bad H1).1, am_ob_p (kk_187 S1), (m_bad H1).1] at h0
    exact ⟨M1, 0, h0, H1, by omega, fun h => absurd h (by show ¬ true = false; decide), f1⟩
  cases hn : nmS Z n st with
  | inl e => exact bad e hn
  | inr x =>
    obtain ⟨s', t', nm⟩ := x
    obtain ⟨hv1, h39⟩ := hvn s' t' nm hn
    have hlok : lok nm := by
      match st, hn with
      | .inr (a, b, c), hn =>
        obtain ⟨-, hx, -, hlok, -⟩ := nmS_inr hn
        rw [Prod.mk.injEq, Prod.mk.injEq] at hx
        rw [hx.2.2]
        exact hlok
    have hfe : fndv (fun w => c27 (N s w)) v (nM X s) = fnd N s nm (nM X s) := by
      rw [hv1]
      exact fnd_27 (fun w hw => (xB_ok HN.2.2 hs hw).1) hlok
    rw [hn] at H1
    have hF : knS Z n N s (nM X s) st = if fnd N s nm (nM X s) = -1 then (.inl (3, psn st), -1) else (.inr (s', t', []), fnd N s nm (nM X s)) := by unfold knS; rw [hn]
    rw [hF]
    rw [hfe] at h0 fb
    rw [(m_ok H1).1, am_br_ne (by omega) (by omega) (by omega) (by omega)] at h0
    by_cases g : fnd N s nm (nM X s) = -1
    · rw [if_pos g, am_ob_p (kk_187 S1), am_ob_p (kk_187 S1), h39] at h0
      rw [if_pos g]
      obtain ⟨M2, r2, H2, f2⟩ := m_fail H1 (c := 3) (p := psn st) (by omega) (d + 3)
      rw [r2, am_bV_p, am_ob_p (kk_187 H2.1), (m_bad H2).1] at h0
      exact ⟨M2, 0, h0, H2, by omega, fun h => absurd h (by show ¬ true = false; decide), fr_tr f1 (fr_mono f2 (fun b k h => ⟨h.1, by omega⟩))⟩
    · rw [if_neg g, am_ob_p (kk_187 S1), (m_ok H1).1] at h0
      rw [if_neg g]
      exact ⟨M1, _, h0, H1, by omega, fun _ => ⟨rfl, fb.2, h39⟩, f1⟩
theorem m_newName {L : Nat} {q : am_Pq} {Z : Nat → Nat → Int} {n : Nat} {M : am_M} {st : am_PS} (H : mS L q Z n M st) {X : am_X} {N : Nat → Nat → List Int} (HN : mNm M X N) (d : Nat) : ∃ M' v, am_cl 145 (d + 4) [.ref 187] M = some (some (.long (am_l v)), M') ∧ mS L q Z n M' (nwS Z n N (nM X) st) ∧ (∀ s t nm, nwS Z n N (nM X) st = .inr (s, t, nm) → v = c27 nm ∧ lok nm ∧ 1 ≤ nm.length ∧ nm.length ≤ 6) ∧ fr rR M M' := by
  have S := (mS_S H).1
  obtain ⟨M1, v, r1, H1, hv, hvn, f1⟩ := m_name H d
  have S1 := (mS_S H1).1
  have HN1 := mNm_R HN f1
  have h0 := t145 (d + 3) M 187
  rw [am_ob_p (kk_187 S), r1, am_bL_p] at h0
  -- with a fault
  have bad : ∀ m i : Nat, i + m = 3 → ∀ (M4 : am_M) (e : Int × Int), mFa L q Z n M4 e → ∀ vv, am_ev 145 (d + 3 + 1) 7 [.ref 187, .long (am_l v), vv, .int (am_i (i : Int))] [] M4 = some (some (.long (am_l v)), M4) := by
    intro m
    induction m with
    | zero =>
      intro i hi M4 e H4 vv
      rw [t145_7, am_br_ge (by omega) (by omega) (by omega) (by omega), if_pos (by omega)]
    | succ m ih =>
      intro i hi M4 e H4 vv
      rw [t145_7, am_br_ge (by omega) (by omega) (by omega) (by omega), if_neg (by omega), am_ob_p (kk_187 H4.1), (m_bad H4).1, am_i_add]
      exact ih (i + 1) (by omega) M4 e H4 _
  cases hn : nmS Z n st with
  | inl e =>
    rw [hn] at H1
    have hF : nwS Z n N (nM X) st = .inl e := by unfold nwS; rw [hn]
    rw [hF]
    exact ⟨M1, v, h0.trans (bad 3 0 rfl M1 e H1 _), H1, fun s t nm h => (by cases h), f1⟩
  | inr x =>
    obtain ⟨s', t', nm⟩ := x
    obtain ⟨hv1, h39⟩ := hvn s' t' nm hn
    have hlok : lok nm ∧ 1 ≤ nm.length ∧ nm.length ≤ 6 := by
      match st, hn with
      | .inr (a, b, c), hn =>
        obtain ⟨-, hx, -, hlok⟩ := nmS_inr hn
        rw [Prod.mk.injEq, Prod.mk.injEq] at hx
        rw [hx.2.2]
        exact hlok
    have hfe : ∀ s, s < 3 → fndv (fun w => c27 (N s w)) v (nM X s) = fnd N s nm (nM X s) := by
      intro s hs
      rw [hv1]
      exact fnd_27 (fun w hw => (xB_ok HN.2.2 hs hw).1) hlok.1
    rw [hn] at H1
    have hF : nwS Z n N (nM X) st = if fnd N 0 nm (nM X 0) = -1 ∧ fnd N 1 nm (nM X 1) = -1 ∧ fnd N 2 nm (nM X 2) = -1 then .inr (s', t', nm) else .inl (3, psn st) := by unfold nwS; rw [hn]
    rw [hF]
    have lp : ∀ m i : Nat, i + m = 3 → (∀ vv, am_ev 145 (d + 3 + 1) 7 [.ref 187, .long (am_l v), vv, .int (am_i (i : Int))] [] M1 = some (some (.long (am_l v)), M1)) ∧ (∀ k, i ≤ k → k < 3 → fnd N k nm (nM X k) = -1) ∨ (∃ M2, (∀ vv, am_ev 145 (d + 3 + 1) 7 [.ref 187, .long (am_l v), vv, .int (am_i (i : Int))] [] M1 = some (some (.long (am_l v)), M2)) ∧ mFa L q Z n M2 (3, psn st) ∧ fr rR M1 M2 ∧ ∃ k, k < 3 ∧ fnd N k nm (nM X k) ≠ -1) := by
      intro m
      induction m with
      | zero =>
        intro i hi
        refine Or.inl ⟨fun vv => ?_, fun k h1 h2 => by omega⟩
        rw [t145_7, am_br_ge (by omega) (by omega) (by omega) (by omega), if_pos (by omega)]
      | succ m ih =>
        intro i hi
        have rf := m_nameOf S1 HN1 (s := i) (by omega) hv (d + 3)
        rw [hfe i (by omega)] at rf
        have fb := fndv_bd (fun w => c5 (N i w)) (c5 nm) (nM X i)
        have fb : -1 ≤ fnd N i nm (nM X i) ∧ fnd N i nm (nM X i) < ((nM X i : Nat) : Int) := fb
        have hc8 := (xB_c HN.2.2 (s := i) (by omega)).2.2.2
        have hst : ∀ vv, am_ev 145 (d + 3 + 1) 7 [.ref 187, .long (am_l v), vv, .int (am_i (i : Int))] [] M1 = if fnd N i nm (nM X i) = -1 then am_ev 145 (d + 3 + 1) 7 [.ref 187, .long (am_l v), (am_kl vv), .int (am_i ((i : Int) + 1))] [] M1 else am_ob M1 187 6 (am_ob M1 187 6 (am_bV (am_cl 130 (d + 3) [.ref 187, .int (am_i 3), .int (am_I M1 187 39)] M1) (fun M3 => am_ev 145 (d + 3 + 1) 7 [.ref 187, .long (am_l v), (am_kl vv), .int (am_i ((i : Int) + 1))] [] M3)) none) none := by
          intro vv
          rw [t145_7, am_br_ge (by omega) (by omega) (by omega) (by omega), if_neg (by omega), am_ob_p (kk_187 S1), (m_ok H1).1, am_ob_p (kk_187 S1), rf, am_bI_p, am_br_eq (by omega) (by omega) (by omega) (by omega), am_i_add]
        by_cases g : fnd N i nm (nM X i) = -1
        · rcases ih (i + 1) (by omega) with ⟨h1, h2⟩ | ⟨M2, h1, h2, h3, h4⟩
          · refine Or.inl ⟨fun vv => by rw [hst vv, if_pos g]; exact h1 _, fun k k1 k2 => ?_⟩
            by_cases g2 : k = i
            · rw [g2]; exact g
            · exact h2 k (by omega) k2
          · exact Or.inr ⟨M2, fun vv => by rw [hst vv, if_pos g]; exact h1 _, h2, h3, h4⟩
        · obtain ⟨M2, r2, H2, f2⟩ := m_fail H1 (c := 3) (p := psn st) (by omega) (d + 3)
          refine Or.inr ⟨M2, fun vv => ?_, H2, fr_mono f2 (fun b k h => ⟨h.1, by omega⟩), i, by omega, g⟩
          rw [hst vv, if_neg g, am_ob_p (kk_187 S1), am_ob_p (kk_187 S1), h39, r2, am_bV_p]
          exact bad m (i + 1) (by omega) M2 _ H2 _
    rcases lp 3 0 rfl with ⟨h1, h2⟩ | ⟨M2, h1, h2, h3, k, hk, h4⟩
    · rw [if_pos ⟨h2 0 (by omega) (by omega), h2 1 (by omega) (by omega), h2 2 (by omega) (by omega)⟩]
      refine ⟨M1, v, h0.trans (h1 _), H1, fun s t nm' h => ?_, f1⟩
      rw [Sum.inr.injEq, Prod.mk.injEq, Prod.mk.injEq] at h
      rw [← h.2.2]
      exact ⟨hv1, hlok⟩
    · have hno : ¬ (fnd N 0 nm (nM X 0) = -1 ∧ fnd N 1 nm (nM X 1) = -1 ∧ fnd N 2 nm (nM X 2) = -1) := by
        rintro ⟨g0, g1, g2⟩
        have : k = 0 ∨ k = 1 ∨ k = 2 := by omega
        rcases this with rfl | rfl | rfl
        · exact h4 g0
        · exact h4 g1
        · exact h4 g2
      rw [if_neg hno]
      exact ⟨M2, v, h0.trans (h1 _), h2, fun s t nm h => (by cases h), fr_tr f1 h3⟩
theorem m_isFull {L : Nat} {q : am_Pq} {Z : Nat → Nat → Int} {n : Nat} {M : am_M} {s0 : Nat} {t0 : Bool} (H : mP L q Z n M s0 t0) {X : am_X} {N : Nat → Nat → List Int} (HN : mNm M X N) {s : Nat} (hs : s < 3) (p : Int) (d : Nat) : ∃ M', am_cl 143 (d + 1) [.ref 187, .int (am_i (s : Int)), .int (am_i (most3 s)), .int (am_i p)] M = some (some (.int (am_i (if most3 s ≤ X 0 s 0 then 1 else 0))), M') ∧ mS L q Z n M' (if most3 s ≤ X 0 s 0 then .inl (5, p) else .inr (s0, t0, [])) ∧ fr rR M M' := by
  have S := (mP_S H).1
  have hc := xB_c HN.2.2 hs
  have hm3 : 5 ≤ most3 s ∧ most3 s ≤ 8 ∧ X 0 s 0 ≤ most3 s := by
    have hs3 : s = 0 ∨ s = 1 ∨ s = 2 := by omega
    obtain ⟨b1, b2, b3, -⟩ := HN.2.2
    rcases hs3 with rfl | rfl | rfl
    · rw [show most3 0 = 6 from rfl]; omega
    · rw [show most3 1 = 8 from rfl]; omega
    · rw [show most3 2 = 5 from rfl]; omega
  have h0 := t143 d M 187 (am_i (s : Int)) (am_i (most3 s)) (am_i p)
  rw [am_ob_p (kk_187 S), (m_ok H).1, am_ob_p (kk_187 S), rr_187_40 S, am_gr_p, am_ix_p (kk_219 S) (by omega) (by omega) (by omega), am_i_ix (by omega) (by omega), Int.toNat_natCast, HN.1 s hs, am_br_ne (by omega) (by omega) (by omega) (by omega)] at h0
  by_cases g : most3 s ≤ X 0 s 0
  · obtain ⟨M1, r1, H1, f1⟩ := m_fail H (c := 5) (p := p) (by omega) d
    rw [if_pos (by omega), am_ob_p (kk_187 S), r1, am_bV_p, am_ob_p (kk_187 H1.1), (m_bad H1).2, am_tr_1] at h0
    rw [if_pos g, if_pos g]
    exact ⟨M1, h0, H1, fr_mono f1 (fun b k h => ⟨h.1, by omega⟩)⟩
  · rw [if_neg (by omega), am_ob_p (kk_187 S), (m_ok H).2, am_tr_0] at h0
    rw [if_neg g, if_neg g]
    exact ⟨M, h0, H, fr_rfl _ _⟩
theorem m_adds {L : Nat} {q : am_Pq} {M : am_M} (S : am_Sh L q M) {X : am_X} {N : Nat → Nat → List Int} (HN : mNm M X N) {s : Nat} (hs : s < 3) (hm : X 0 s 0 < most3 s) {nm : List Int} (h1 : lok nm) (h2 : 1 ≤ nm.length) (h3 : nm.length ≤ 6) (d : Nat) : ∃ M', am_cl 147 d [.ref 187, .int (am_i (s : Int)), .long (am_l (c27 nm))] M = some (none, M') ∧ am_Sh L q M' ∧ mNm M' (uA X 0 s 0 (X 0 s 0 + 1)) (uN N s (nM X s) nm) ∧ fr (fun b k => (b = 219 ∧ k < 3) ∨ (b = 220 ∧ k < 24)) M M' := by
  have hc := xB_c HN.2.2 hs
  have hcr : X 0 s 0 = ((nM X s : Nat) : Int) := hc.2.2.1.symm
  have hlt8 : nM X s < 8 := by
    have : most3 s ≤ 8 := by unfold most3; repeat' split
                             all_goals omega
    omega
  have S1 : am_Sh L q (am_sL M 220 (8 * s + nM X s) (am_l (c27 nm))) := S
  refine ⟨am_sI (am_sL M 220 (8 * s + nM X s) (am_l (c27 nm))) 219 s (am_i (((nM X s : Nat) : Int) + 1)), ?_, S1.sI _ _ _, ⟨fun k hk => ?_, fun a ha w hw => ?_, xB_new HN.2.2 hs hm h1 h2 h3⟩, fr_tr (fr_sL (Or.inr ⟨rfl, by omega⟩)) (fr_sI (Or.inl ⟨rfl, hs⟩))⟩
  · rw [t147, am_ob_p (kk_187 S), rr_187_41 S, am_gr_p, am_ob_p (kk_187 S), rr_187_40 S, am_gr_p, am_ix_p (kk_219 S) (by omega) (by omega) (by omega), am_i_ix (by omega) (by omega), Int.toNat_natCast, HN.1 s hs, hcr, am_i_mul, am_i_add, am_iw_p (kk_220 S) (by omega) (by omega) (by omega) (by omega), am_i_ix (by omega) (by omega), show ((8 : Int) * (s : Int) + ((nM X s : Nat) : Int)).toNat = 8 * s + nM X s by omega]
    simp only [am_lt]
    rw [am_ob_p (kk_187 S1), rr_187_40 S1, am_gr_p, am_ix_p (kk_219 S1) (by omega) (by omega) (by omega), am_iw_p (kk_219 S1) (by omega) (by omega) (by omega) (by omega), am_I_sL', HN.1 s hs, hcr, am_i_add]
  · by_cases g : k = s
    · subst g
      rw [am_I_same, uA_eq, hcr]
    · rw [am_I_ne2 g, am_I_sL', uA_ne (by omega)]
      exact HN.1 k hk
  · rw [nM_u] at hw
    rw [am_L_sI']
    by_cases g2 : a = s ∧ w = nM X s
    · obtain ⟨rfl, rfl⟩ := g2
      rw [am_L_same]
      congr 2
      exact (if_pos ⟨rfl, rfl⟩).symm
    · have hw2 : w < nM X a := by
        by_cases g3 : a = s
        · subst g3
          rw [if_pos rfl] at hw
          have : w ≠ nM X a := fun h => g2 ⟨rfl, h⟩
          omega
        · rw [if_neg g3] at hw
          exact hw
      have hca := (xB_c HN.2.2 ha).2.2.2
      rw [am_L_ne2 (by omega), show uN N s (nM X s) nm a w = N a w from if_neg g2]
      exact HN.2.1 a ha w hw2
