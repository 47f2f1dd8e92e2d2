/-! The reference reads a test. -/
theorem qH_6 {M : am_M} {j : Nat} {l w : List Int} {o : Nat} : qH M j [] l w o ↔ qH6 M j w l o (am_i 0) := by
  unfold qH qH6
  rw [List.append_nil, List.length_nil, Nat.add_zero]
  exact Iff.rfl
/-- what waits where tests are read -/
def wT (w : List Int) : Prop := ∀ c ∈ w, c = 10 ∨ c = 11 ∨ c = 12 ∨ c = 25
theorem wT_no {w : List Int} (h : wT w) : noS4 w := fun c r e => by
  have := h c (by rw [e]; exact List.mem_cons_self)
  omega
def uC (L : Nat) (q : am_Pq) (Z : Nat → Nat → Int) (n B j : Nat) (M : am_M) (s : Nat) (t : Bool) (l w : List Int) (o : Nat) : Prop := mP L q Z n M s t ∧ qH M j [] l w o ∧ qb s j [] l w o ∧ wT w ∧ B + l.length + w.length ≤ s
def uFt (L : Nat) (q : am_Pq) (Z : Nat → Nat → Int) (n : Nat) (M : am_M) (e : Int × Int) : Prop := mFa L q Z n M e ∧ ∃ c : Nat, c ≤ 1602 ∧ am_I M 187 92 = am_i (c : Int)
theorem m_fact {L : Nat} {q : am_Pq} {Z : Nat → Nat → Int} {n B j : Nat} {M : am_M} {s : Nat} {t : Bool} {l w : List Int} {o : Nat} (H : uC L q Z n B j M s t l w o) (d : Nat) : match qF Z n B j (6 - o) (.inr (s, t, l)) with
    | .inl e => ∃ M', am_cl 246 (d + 9) [.ref 187] M = some (none, M') ∧ uFt L q Z n M' e ∧ fr qA M M'
    | .inr (s', t', l') => ∃ M', am_cl 246 (d + 9) [.ref 187] M = some (none, M') ∧ uC L q Z n B j M' s' t' l' w o ∧ fr qA M M' := by
  obtain ⟨HP, HQ, ⟨hbl, hs16, hj, ho, hc⟩, hw, hBw⟩ := H
  have hB : B + l.length ≤ s := by omega
  obtain ⟨S, e5, hsn, hn, hz⟩ := mP_S HP
  rw [List.length_nil, Nat.add_zero] at hbl
  rw [List.append_nil] at hc
  obtain ⟨M1, r1, k0, k1, f1⟩ := m_takeA HP 9 26 (by omega) (by omega) (by decide +kernel) (r := 246) rfl (c := 26) rfl (d + 6)
  have f1' : fr rR M M1 := fr_mono f1 (fun b k h => ⟨h.1, by omega⟩)
  have fM1 : fr qA M M1 := fr_mono f1' (fun b k h => rR_qA h)
  have HQ1 := qH_rR HQ f1'
  have h0 := t246 (d + 8) M 187
  rw [am_ob_p (kk_187 S), rr_187_80 S, am_gr_p, am_ob_p (kk_187 S), r1, am_bI_p, br_eq_b] at h0
  unfold qF
  by_cases g0 : isW Z n 26 (.inr (s, t, l)) = true
  · have g0' : isW Z n 26 (.inr (s, t, [])) = true := g0
    have H1 := k1 g0'
    have S1 := (mP_S H1).1
    obtain ⟨M2, r2, S2, HQ2, f2⟩ := m_emit S1 HQ1 (by omega) 13 (d + 8)
    have hnb := ns_bd (Z := Z) (isW_lt g0)
    rw [if_pos g0', am_ob_p (kk_187 S1), r2, am_bV_p] at h0
    rw [if_pos g0, nx_inr, pt_inr (by omega)]
    exact ⟨M2, h0, ⟨mP_F1 H1 S2 f2, HQ2, ⟨by rw [List.length_append, List.length_singleton, List.length_nil]; omega, by omega, hj, ho, by rw [List.append_nil]; exact hc⟩, hw, by rw [List.length_append, List.length_singleton]; omega⟩, fr_tr fM1 (fr_mono f2 (fun b k h => qF1_qA h))⟩
  · have g0' : ¬ isW Z n 26 (.inr (s, t, [])) = true := g0
    have H1 := mQ_P (k0 g0')
    have S1 := (mP_S H1).1
    rw [if_neg g0', am_ob_p (kk_187 S1)] at h0
    rw [if_neg g0]
    have hk : o + (6 - o) = 6 := by omega
    have hs1 := m_sums (B := B) (wT_no hw) H1 (qH_6.mp HQ1) ⟨by rw [List.length_nil]; omega, hs16, hj, ho, by rw [List.nil_append]; exact hc⟩ hk hB d
    have HG := (Gd_rSum (Z := Z) (B := B) hn hj (6 - o)).1
    unfold gCmp
    cases hp : rSum Z n B j (6 - o) (.inr (s, t, l)) with
    | inl e =>
      rw [hp] at hs1
      obtain ⟨M2, r2, ⟨HF, c, hc2, e92⟩, f2⟩ := hs1
      have e5' := HF.2.2.1
      have he' := HF.2.1
      rw [r2, am_bV_p, am_ob_p (kk_187 HF.1), e5', am_br_eq (by omega) (by omega) (by omega) (by omega), if_neg (by omega)] at h0
      have hF : pt B (cmpc Z n (Sum.inl e)) (rSum Z n B j (6 - o) (nx Z n (if cmpc Z n (Sum.inl e) = 9 ∧ ¬ isG Z n 61 (Sum.inl e) = true then fl 1 (Sum.inl e) else Sum.inl e))) = Sum.inl e := by
        rw [show (if cmpc Z n (Sum.inl e) = 9 ∧ ¬ isG Z n 61 (Sum.inl e) = true then fl 1 (Sum.inl e) else (Sum.inl e : am_PS)) = Sum.inl e by split <;> rfl, show nx Z n (Sum.inl e) = Sum.inl e from rfl, HG.1]
        rfl
      rw [hF]
      exact ⟨M2, h0, ⟨HF, c, by omega, e92⟩, fr_tr fM1 f2⟩
    | inr z =>
      obtain ⟨s2, t2, l2⟩ := z
      rw [hp] at hs1
      obtain ⟨M2, r2, H2, HQ2, f2⟩ := hs1
      obtain ⟨F, q1, q2, q3, q4, q5⟩ := HG.2 _ _ _ hsn hB _ _ _ hp
      have hlen : l2.length = l.length + F.length := by rw [q1, List.length_append]
      obtain ⟨S2, e52, -, -, -⟩ := mP_S H2
      obtain ⟨M3, r3, H3, f3⟩ := m_lk H2 (d + 8)
      have S3 := H3.1.1
      have f3' : fr rR M2 M3 := fr_mono f3 (fun b k h => ⟨h.1, by omega⟩)
      have HQ3 := qH_rR (qH_6.mpr HQ2) f3'
      have fM3 : fr qA M M3 := fr_tr fM1 (fr_tr f2 (fr_mono f3' (fun b k h => rR_qA h)))
      have hbz := hz s2
      have hcb : -1 ≤ (if s2 < n then Z 0 s2 else -1) ∧ (if s2 < n then Z 0 s2 else -1) ≤ 255 := by split <;> omega
      have hlk : ∀ c : Int, 0 ≤ c → ¬ ltr c = 1 → ¬ dgt c = 1 → ((if s2 < n then Z 0 s2 else -1) = c ↔ isG Z n c (.inr (s2, t2, l2)) = true) := by
        intro c h0 h1 h2
        rw [isG_at h1 h2]
        by_cases g : s2 < n
        · rw [if_pos g]; simp [g]
        · rw [if_neg g]; simp only [g, false_and, iff_false]; omega
      rw [r2, am_bV_p, am_ob_p (kk_187 S2), e52, am_br_eq (by omega) (by omega) (by omega) (by omega), if_pos rfl, am_ob_p (kk_187 S2), r3, am_bI_p, am_br_eq (by omega) (by omega) (by omega) (by omega), am_br_eq (by omega) (by omega) (by omega) (by omega), am_br_eq (by omega) (by omega) (by omega) (by omega)] at h0
      obtain ⟨c, hcm⟩ : ∃ c, c = cmpc Z n (.inr (s2, t2, l2)) := ⟨_, rfl⟩
      rw [← hcm]
      have l60 := hlk 60 (by omega) (by decide) (by decide)
      have l62 := hlk 62 (by omega) (by decide) (by decide)
      have l61 := hlk 61 (by omega) (by decide) (by decide)
      -- the sign is none of these
      by_cases gs : c = 9 ∧ ¬ isG Z n 61 (.inr (s2, t2, l2)) = true
      · rw [if_pos gs, show nx Z n (fl 1 (Sum.inr (s2, t2, l2))) = Sum.inl (1, (s2 : Int)) from rfl, HG.1]
        unfold cmpc at hcm
        have n60 : ¬ isG Z n 60 (.inr (s2, t2, l2)) = true := fun h => by rw [if_pos h] at hcm; omega
        have n62 : ¬ isG Z n 62 (.inr (s2, t2, l2)) = true := fun h => by rw [if_neg n60, if_pos h] at hcm; omega
        rw [if_neg (fun h => n60 (l60.mp h)), if_neg (fun h => n62 (l62.mp h)), if_neg (fun h => gs.2 (l61.mp h)), am_ob_p (kk_187 S3), am_ob_p (kk_187 S3), mQ_at H3] at h0
        obtain ⟨M4, r4, H4, f4⟩ := m_fail (mQ_P H3) (c := 1) (p := (s2 : Int)) (by omega) (d + 8)
        rw [r4, am_bV_p] at h0
        exact ⟨M4, h0, ⟨H4, l2.length, by omega, by rw [(f4 187 92 (by omega)).1]; exact HQ3.2.1⟩, fr_tr fM3 (fr_mono f4 (fun b k h => Or.inr (Or.inr ⟨h.1, by omega⟩)))⟩
      · rw [if_neg gs]
        have hx : ∃ ch : Int, (if s2 < n then Z 0 s2 else -1) = ch ∧ isG Z n ch (.inr (s2, t2, l2)) = true ∧ (ch = 60 ∧ c = 7 ∨ ch = 62 ∧ c = 8 ∨ ch = 61 ∧ c = 9) ∧ am_cl 246 (d + 8 + 1) [.ref 187] M = am_ev 246 (d + 8 + 1) 63 [.ref 187, .int (am_i ch)] [] M3 := by
          unfold cmpc at hcm
          by_cases g60 : isG Z n 60 (.inr (s2, t2, l2)) = true
          · rw [if_pos g60] at hcm
            have := l60.mpr g60
            rw [if_pos this, this] at h0
            exact ⟨60, this, g60, Or.inl ⟨rfl, hcm⟩, h0⟩
          · rw [if_neg g60] at hcm
            by_cases g62 : isG Z n 62 (.inr (s2, t2, l2)) = true
            · rw [if_pos g62] at hcm
              have := l62.mpr g62
              rw [if_neg (fun h => g60 (l60.mp h)), if_pos this, this] at h0
              exact ⟨62, this, g62, Or.inr (Or.inl ⟨rfl, hcm⟩), h0⟩
            · rw [if_neg g62] at hcm
              have g61 : isG Z n 61 (.inr (s2, t2, l2)) = true := by
                by_cases g : isG Z n 61 (.inr (s2, t2, l2)) = true
                · exact g
                · exact absurd ⟨hcm, g⟩ gs
              have := l61.mpr g61
              rw [if_neg (fun h => g60 (l60.mp h)), if_neg (fun h => g62 (l62.mp h)), if_pos this, this] at h0
              exact ⟨61, this, g61, Or.inr (Or.inr ⟨rfl, hcm⟩), h0⟩
        obtain ⟨ch, hch, hg, hcc, hev⟩ := hx
        have hl1 : ¬ ltr ch = 1 := by rcases hcc with ⟨h, -⟩ | ⟨h, -⟩ | ⟨h, -⟩ <;> rw [h] <;> decide
        have hl2 : ¬ dgt ch = 1 := by rcases hcc with ⟨h, -⟩ | ⟨h, -⟩ | ⟨h, -⟩ <;> rw [h] <;> decide
        have hsg := (isG_at hl1 hl2).mp hg
        have hnb := ns_bd (Z := Z) hsg.1
        have H4 := mQt_step H3 hsg.1 (by rw [hsg.2]; exact hl1) (by rw [hsg.2]; exact hl2)
        have S4 := (mP_S H4).1
        have HQ4 : qH (am_sI M3 187 2 (am_i ((s2 : Int) + 1))) j [] l2 w o := qH_mv HQ3 (fun b k h => by
          by_cases g : b = 187
          · subst g; rw [am_I_ne2 (by omega)]
          · rw [am_I_ne1 g])
        have fM4 : fr qA M (am_sI M3 187 2 (am_i ((s2 : Int) + 1))) := fr_tr fM3 (fr_sI (Or.inr (Or.inr ⟨rfl, by omega⟩)))
        have hs2 := m_sums (B := B) (wT_no hw) H4 (qH_6.mp HQ4) ⟨by rw [List.length_nil]; omega, by omega, hj, ho, by rw [List.nil_append]; exact hc⟩ hk (by omega) d
        rw [t246_63, am_ob_p (kk_187 S3), am_ob_p (kk_187 S3), mQ_at H3, am_i_add] at hev
        simp only [am_lt] at hev
        rw [am_ob_p (kk_187 S4)] at hev
        rw [nx_inr]
        -- the code
        have cd : ∀ M5 : am_M, am_Sh L q M5 → am_br .ne (am_i ch) (am_i 60) (am_br .ne (am_i ch) (am_i 62) (am_ob M5 187 6 (am_bV (am_cl 232 (d + 8) [.ref 187, .int (am_i 9)] M5) (fun M3 => some (none, M3))) none) (am_ob M5 187 6 (am_bV (am_cl 232 (d + 8) [.ref 187, .int (am_i 8)] M5) (fun M4 => some (none, M4))) none)) (am_ob M5 187 6 (am_bV (am_cl 232 (d + 8) [.ref 187, .int (am_i 7)] M5) (fun M5 => some (none, M5))) none) = am_bV (am_cl 232 (d + 8) [.ref 187, .int (am_i c)] M5) (fun M3 => some (none, M3)) := by
          intro M5 S5
          rw [am_br_ne (by omega) (by omega) (by omega) (by omega), am_br_ne (by omega) (by omega) (by omega) (by omega), am_ob_p (kk_187 S5), am_ob_p (kk_187 S5), am_ob_p (kk_187 S5)]
          rcases hcc with ⟨h, h'⟩ | ⟨h, h'⟩ | ⟨h, h'⟩
          · rw [if_pos h, h']
          · rw [if_neg (by omega), if_pos h, h']
          · rw [if_neg (by omega), if_neg (by omega), h']
        cases hp2 : rSum Z n B j (6 - o) (.inr (ns Z n s2, nt Z n s2, l2)) with
        | inl e =>
          rw [hp2] at hs2
          obtain ⟨M5, r5, ⟨HF, c5, hc5, e92⟩, f5⟩ := hs2
          have S5 := HF.1
          have rc := m_qCode S5 e92 (by omega) (am_i c) (d + 8)
          rw [r5, am_bV_p, cd M5 S5, rc, am_bV_p] at hev
          refine ⟨_, hev, ⟨mFa_mv HF ((S5.sI _ _ _).sI _ _ _) (fr_tr (fr_sI (by unfold nR; omega)) (fr_sI (by unfold nR; omega))), c5 + 1, by omega, by rw [am_I_same]; rfl⟩, fr_tr fM4 (fr_tr f5 (fr_tr (fr_sI (Or.inl rfl)) (fr_sI (Or.inr (Or.inr ⟨rfl, by omega⟩)))))⟩
        | inr z =>
          obtain ⟨s3, t3, l3⟩ := z
          rw [hp2] at hs2
          obtain ⟨M5, r5, H5, HQ5, f5⟩ := hs2
          obtain ⟨F2, i1, i2, i3, i4, i5⟩ := HG.2 _ _ _ hnb.2 (by omega) _ _ _ hp2
          have hlen2 : l3.length = l2.length + F2.length := by rw [i1, List.length_append]
          have S5 := (mP_S H5).1
          obtain ⟨M6, r6, S6, HQ6, f6⟩ := m_emit S5 (qH_6.mpr HQ5) (by omega) c (d + 8)
          rw [r5, am_bV_p, cd M5 S5, r6, am_bV_p] at hev
          rw [pt_inr (by omega)]
          exact ⟨M6, hev, ⟨mP_F1 H5 S6 f6, HQ6, ⟨by rw [List.length_append, List.length_singleton, List.length_nil]; omega, by omega, hj, ho, by rw [List.append_nil]; exact hc⟩, hw, by rw [List.length_append, List.length_singleton]; omega⟩, fr_tr fM4 (fr_tr f5 (fr_mono f6 (fun b k h => qF1_qA h)))⟩
