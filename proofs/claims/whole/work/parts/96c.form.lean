/-! The class: formulas. -/
theorem rS_13 {L : Nat} {q : am_Pq} {Z : Nat → Nat → Int} {n B : Nat} {fm : Int} {o : Nat} {M : am_M} {st : am_PS} (H : rS L q Z n B fm o M st) (fm' : Int) : rS L q Z n B fm' o (am_sI M 3 13 (am_i fm')) st := by
  refine ⟨?_, rT_16 H.1.2.1 H.2 13 (by omega) _⟩
  obtain ⟨S, hq, hn, hT, hw, e6, eF, eo, hB, hz⟩ := H.1
  exact ⟨S.sI _ _ _, hq, hn, fun k hk => by rw [am_I_ne1 (by decide)]; exact hT k hk, hw, by rw [am_I_ne2 (by decide)]; exact e6, am_I_same _ _ _ _, by rw [am_I_ne2 (by decide)]; exact eo, hB, hz⟩
theorem c_begin14 {L : Nat} {q : am_Pq} {Z : Nat → Nat → Int} {n B : Nat} {fm : Int} {o : Nat} {M : am_M} {st : am_PS} (H : rS L q Z n B fm o M st) (hk : tok3 Z n st) (fm' : Int) (v : Value) (d : Nat) : ∃ M' x, am_ev 115 (d + 1 + 1) 14 [.ref 3, .int (am_i fm'), v] [] M = some (some (.int x), M') ∧ rS L q Z n B fm' 0 M' (nx Z n st) ∧ (∀ s t, nx Z n st = .inr (s, t, []) → x = am_i (B : Int)) ∧ fr (pRd q B) M M' := by
  have H2 := rS_o (rS_13 H fm') 0
  obtain ⟨M3, r3, H3, f3⟩ := c_nx H2 hk d
  have h0 := t115_14 (d + 1) M 3 (am_i fm') v
  rw [am_ob_p (kk_3 H.1.1), am_lt, am_ob_p (kk_3 (rS_13 H fm').1.1), am_lt] at h0
  have r3 : am_cl 100 (d + 1) [.ref 3] (am_sI (am_sI M 3 13 (am_i fm')) 3 16 (am_i 0)) = some (none, M3) := r3
  have S2 : am_Sh L q (am_sI (am_sI M 3 13 (am_i fm')) 3 16 (am_i 0)) := H2.1.1
  rw [am_ob_p (kk_3 S2), r3, am_bV_p, am_ob_p (kk_3 H3.1.1)] at h0
  refine ⟨M3, _, h0, H3, fun s t he => ?_, fr_tr (fr_sI (Or.inl ⟨rfl, by omega⟩)) (fr_tr (fr_sI (Or.inl ⟨rfl, by omega⟩)) f3)⟩
  rw [he] at H3
  have := H3.2.2.2.2.2.2.1
  exact this
theorem c_beginF {L : Nat} {q : am_Pq} {Z : Nat → Nat → Int} {n : Nat} {fm : Int} {o : Nat} {M : am_M} {s0 : Nat} {t0 : Bool} {G : am_Gf} {C : Nat} (HR : rS L q Z n C fm o M (.inr (s0, t0, []))) (hk0 : kd Z n s0 t0 = 1) (HG : cGx M q.1 G C) {j : Nat} (hj : j < 3) (fm' : Int) (d : Nat) : ∃ M' x, am_cl 115 (d + 1 + 1) [.ref 3, .int (am_i fm'), .int (am_I M q.1 (12 + j))] M = some (some (.int x), M') ∧ rS L q Z n C fm' 0 M' (nx Z n (if G j ≠ none then fl 5 (.inr (s0, t0, [])) else .inr (s0, t0, []))) ∧ (G j = none → x = am_i (C : Int)) ∧ fr (pRd q C) M M' := by
  have hC := HR.1.2.2.2.2.2.2.2.2.1
  have h1 := HG j hj
  cases hg : G j with
  | none =>
    rw [hg] at h1
    have h1 : am_I M q.1 (12 + j) = am_i (-1) := h1
    obtain ⟨M', x, r, H', e, f⟩ := c_begin14 HR (show 1 ≤ kd Z n s0 t0 ∧ kd Z n s0 t0 ≤ 3 by omega) fm' (.int (am_i (-1))) d
    refine ⟨M', x, ?_, ?_, fun _ => e _ _ rfl, f⟩
    · rw [h1, t115, am_br_eq (by omega) (by omega) (by omega) (by omega), if_pos rfl]
      exact r
    · rw [if_neg (by intro h; exact h rfl)]
      exact H'
  | some l =>
    rw [hg] at h1
    obtain ⟨o', h2, h3, -⟩ := h1
    obtain ⟨M1, r1, H1, f1⟩ := c_fl HR (c := 5) (by omega) (d + 1)
    obtain ⟨M', x, r, H', e, f⟩ := c_begin14 H1 (show tok3 Z n (.inl (5, (s0 : Int))) from trivial) fm' (.int (am_i (o' : Int))) d
    refine ⟨M', x, ?_, ?_, fun h => (by cases h), fr_tr f1 f⟩
    · rw [h3, t115, am_br_eq (by omega) (by omega) (by omega) (by omega), if_neg (by omega), am_ob_p (kk_3 HR.1.1), am_ob_p (kk_3 HR.1.1), r1, am_bV_p]
      exact r
    · rw [if_pos (by intro h; cases h)]
      exact H'
theorem c_form {L : Nat} {q : am_Pq} {Z : Nat → Nat → Int} {n : Nat} {fm : Int} {o : Nat} (hq : qh q) {M : am_M} {s0 : Nat} {t0 : Bool} {H : am_HS} (HR : rS L q Z n H.2.2.2.1 fm o M (.inr (s0, t0, []))) (hk0 : kd Z n s0 t0 = 1) (HH : cHt M q.1 H) (hCs : H.2.2.2.1 ≤ s0) {j : Nat} (hj : j < 3) {mid : Nat} {FR : am_PS → am_PS} (HC : Cd L q Z n H.2.2.2.1 (9 + (j : Int)) mid 0 60 FR) {nd : Nat} {bb : Bool} (HGd : Gd Z n H.2.2.2.1 j FR nd bb) (hFR : ∀ st, FR st = if j = 2 then rTest Z n H.2.2.2.1 2 6 st else rSum Z n H.2.2.2.1 j 6 st) {x0 : Int32} (hx0 : x0 = am_i (9 + (j : Int))) (d : Nat) : ∃ M', am_ob M 3 4 (am_gr (am_R M 3 2) (fun h11 => am_ob M 3 4 (am_gr (am_R M 3 2) (fun h12 => am_ob M h12 2 (am_ob M 3 4 (am_bI (am_cl 115 (d + 60) [.ref 3, .int x0, .int (am_I M h12 (12 + j))] M) (fun c14 M13 => am_ob M13 h11 2 (am_lt (am_sI M13 h11 (12 + j) c14) (fun M15 => am_ob M15 3 4 (am_bV (am_cl mid (d + 60) [.ref 3] M15) (fun M16 => am_ob M16 3 4 (am_bV (am_cl 116 (d + 60) [.ref 3, .int (am_i 20000)] M16) (fun M17 => some (none, M17))) none)) none)) none)) none) none) none) none) none) none = some (none, M') ∧ cAf L q Z n M' (sForm Z n j H (.inr (s0, t0, []))) ∧ fr (pHs q) M M' := by
  have h4 : q.1 = 4 ∨ q.1 = 38 := hq.1
  have hh := hq.1
  subst hx0
  obtain ⟨M1, x, r1, H1, ex, f1⟩ := c_beginF HR hk0 HH.2.2 hj (9 + (j : Int)) (d + 58)
  have r1 : am_cl 115 (d + 60) [.ref 3, .int (am_i (9 + (j : Int))), .int (am_I M q.1 (12 + j))] M = some (some (.int x), M1) := r1
  have H2 := rS_w hq H1 (b := q.1) (k := 12 + j) (by omega) x
  obtain ⟨M3, r3, H3, f3⟩ := HC _ _ H2 (d + 60) (by omega)
  obtain ⟨M4, r4, H4, f4⟩ := c_pt H3 (c := -2) (x := 20000) (fun _ => rfl) (d + 60)
  have fA : fr (fun b k => pRd q H.2.2.2.1 b k ∨ (b = q.1 ∧ k = 12 + j)) M M4 := fr_tr (fr_mono f1 (fun b k h => Or.inl h)) (fr_tr (fr_sI (Or.inr ⟨rfl, rfl⟩)) (fr_mono (fr_tr f3 f4) (fun b k h => Or.inl h)))
  refine ⟨M4, ?_, ?_, fr_mono fA (fun b k h => by
    rcases h with h | h
    · exact pRd_pHs hq h
    · unfold pHs; omega)⟩
  · rw [am_ob_p (kk_3 HR.1.1), rr_3_2 HR.1.1, am_gr_p, am_ob_p (kk_3 HR.1.1), am_gr_p, am_ob_p (H_k0 HR.1.1 hh), am_ob_p (kk_3 HR.1.1), r1, am_bI_p, am_ob_p (H_k0 H1.1.1 hh), am_lt, am_ob_p (kk_3 H2.1.1), r3, am_bV_p, am_ob_p (kk_3 H3.1.1), r4, am_bV_p]
  · unfold sForm
    by_cases g : H.2.2.1 j ≠ none
    · rw [if_pos g] at H4 ⊢
      rw [show nx Z n (fl 5 (.inr (s0, t0, []))) = (.inl (5, (s0 : Int)) : am_PS) from rfl, HGd.1] at H4
      exact ⟨_, _, _, H4⟩
    · rw [if_neg g] at H4 ⊢
      have g0 : H.2.2.1 j = none := by
        cases hx : H.2.2.1 j with
        | none => rfl
        | some l => exact absurd (by rw [hx]; intro h; cases h) g
      rw [← hFR (nx Z n (.inr (s0, t0, [])))]
      have hn := HR.1.2.2.1
      have ex1 := ex g0
      have hb := ns_bd (Z := Z) (kd_lt (show 1 ≤ kd Z n s0 t0 by omega))
      cases hF : FR (nx Z n (.inr (s0, t0, []))) with
      | inl e =>
        rw [hF] at H4
        exact ⟨_, _, _, H4⟩
      | inr y =>
        obtain ⟨s, t, F⟩ := y
        rw [nx_inr] at hF
        obtain ⟨F', k1, k2, k3, k4, -⟩ := HGd.2 _ _ _ (by omega) (by show H.2.2.2.1 + 0 ≤ _; omega) _ _ _ hF
        have k1 : F = F' := k1
        subst k1
        rw [nx_inr, hF, pt_inr (by omega)] at H4
        obtain ⟨m1, m2, m3, m4, m5, m6, m7⟩ := H4.2
        have hl : (F ++ [(-2 : Int)]).length = F.length + 1 := by simp
        rw [hl] at m5 m6
        obtain ⟨w1, w2, w3, w4, w5, w6, w7, w8, w9, w10⟩ := H4.1
        have hn24 : ∀ b k, (q.1 ≤ b ∧ b < q.1 + 24) → ¬ (b = q.1 ∧ k = 12 + j) → am_I M4 b k = am_I M b k := fun b k h1 h2 => (fA b k (fun h => by
          rcases h with h | h
          · have := qh_pR hq h; omega
          · omega)).1
        refine ⟨9 + (j : Int), 0, ⟨⟨w1, w2, w3, w4, w5, w6, w7, w8, by show H.2.2.2.1 + F.length + 1 ≤ 1600; omega, w10⟩, m1, m2, m3, m4, by show H.2.2.2.1 + F.length + 1 + 0 ≤ 1600; omega, m6, fun i hi => absurd hi (by show ¬ i < 0; omega)⟩, ?_, ?_, ?_⟩
        · exact cNm_mv HH.1 (fun b k g1 g2 => hn24 b k (by omega) (by omega))
        · exact cHr_mv HH.2.1 (fun b k g1 g2 g3 g4 => hn24 b k (by omega) (by omega))
        · intro j' hj'
          by_cases g1 : j' = j
          · subst g1
            have e : uG H.2.2.1 j' F j' = some F := if_pos rfl
            show match uG H.2.2.1 j' F j' with
              | none => am_I M4 q.1 (12 + j') = am_i (-1)
              | some l => ∃ o : Nat, o + l.length < H.2.2.2.1 + F.length + 1 ∧ am_I M4 q.1 (12 + j') = am_i o ∧ (∀ i, i < l.length → am_I M4 (q.1 + 24) (o + i) = am_i (cc (l.getD i 0))) ∧ am_I M4 (q.1 + 24) (o + l.length) = am_i 20000
            rw [e]
            refine ⟨H.2.2.2.1, by omega, ?_, fun i hi => ?_, ?_⟩
            · rw [((fr_tr f3 f4) q.1 (12 + j') (fun h => by have := qh_pR hq h; omega)).1, am_I_same, ex1]
            · have := m7 i (by rw [hl]; omega)
              rw [hq.2, List.getD_eq_getElem?_getD, List.getElem?_append_left hi, ← List.getD_eq_getElem?_getD] at this
              exact this
            · have := m7 F.length (by rw [hl]; omega)
              rw [hq.2, List.getD_eq_getElem?_getD, List.getElem?_append_right (Nat.le_refl _), Nat.sub_self] at this
              exact this
          · have e : uG H.2.2.1 j F j' = H.2.2.1 j' := if_neg g1
            have h1 := HH.2.2 j' hj'
            show match uG H.2.2.1 j F j' with
              | none => am_I M4 q.1 (12 + j') = am_i (-1)
              | some l => ∃ o : Nat, o + l.length < H.2.2.2.1 + F.length + 1 ∧ am_I M4 q.1 (12 + j') = am_i o ∧ (∀ i, i < l.length → am_I M4 (q.1 + 24) (o + i) = am_i (cc (l.getD i 0))) ∧ am_I M4 (q.1 + 24) (o + l.length) = am_i 20000
            rw [e, hn24 _ _ (by omega) (by omega)]
            have hst : ∀ k, k < H.2.2.2.1 → am_I M4 (q.1 + 24) k = am_I M (q.1 + 24) k := fun k hk => (fA _ _ (fun h => by
              rcases h with h | h
              · have := qh_pR hq h; omega
              · omega)).1
            cases hx : H.2.2.1 j' with
            | none =>
              rw [hx] at h1
              exact h1
            | some l =>
              rw [hx] at h1
              obtain ⟨o', a1, a2, a3, a4⟩ := h1
              exact ⟨o', by omega, a2, fun i hi => by rw [hst _ (by omega)]; exact a3 i hi, by rw [hst _ (by omega)]; exact a4⟩
