/-! The reference reads a test: all of it. -/
def cfu : am_Cf → Prop
  | .inl _ => True
  | .inr (_, _, _, _, w, o) => cnt2 w ≤ o
theorem utp_cfu {Z : Nat → Nat → Int} {n B j : Nat} {x : am_Cf} (h : cfu x) : cfu (utp Z n B j x) := by
  match x, h with
  | .inl e, h => exact h
  | .inr (0, s, t, l, w, o), h =>
    have h : cnt2 w ≤ o := h
    have hh : ∀ c : Int, cnt2 (c :: w) ≤ o + 1 := fun c => by rw [cnt2_cons]; split <;> omega
    show cfu (uA' Z n B j s t l w o)
    unfold uA'
    split
    · split
      · trivial
      · exact hh 25
    · split
      · split
        · trivial
        · exact hh 12
      · cases qF Z n B j (6 - o) (.inr (s, t, l)) with
        | inl e => trivial
        | inr z => exact h
  | .inr (1, s, t, l, w, o), h =>
    have h : cnt2 w ≤ o := h
    show cfu (uE s t l w o)
    cases w with
    | nil => exact h
    | cons c w' =>
      by_cases g : c = 12
      · rw [show uE s t l (c :: w') o = .inr (1, s, t, l ++ [c], w', o - 1) from if_pos g]
        show cnt2 w' ≤ o - 1
        rw [cnt2_cons, if_pos (Or.inl g)] at h
        omega
      · rw [show uE s t l (c :: w') o = .inr (2, s, t, l, c :: w', o) from if_neg g]
        exact h
  | .inr (2, s, t, l, w, o), h =>
    have h : cnt2 w ≤ o := h
    show cfu (uB Z n s t l w o)
    unfold uB
    have h3 := cnt2_drop w10 w
    have h4 := cnt2_drop w11 w
    have h5 := cnt2_drop n25 w
    split
    · rename_i g
      have h25 : ∀ v : List Int, 25 ∈ v → (v.dropWhile n25).tail.length + 1 ≤ v.length ∧ cnt2 (v.dropWhile n25).tail + 1 ≤ cnt2 v := by
        intro v
        induction v with
        | nil => intro h; cases h
        | cons c v ih =>
          intro hm
          by_cases g2 : c = 25
          · subst g2
            rw [List.dropWhile_cons, show n25 25 = false from rfl]
            show v.length + 1 ≤ v.length + 1 ∧ cnt2 v + 1 ≤ cnt2 (25 :: v)
            rw [cnt2_cons, if_pos (Or.inr rfl)]
            omega
          · have hm2 : 25 ∈ v := by
              rcases List.mem_cons.mp hm with h | h
              · exact absurd h.symm g2
              · exact h
            have := ih hm2
            rw [List.dropWhile_cons, show n25 c = true from decide_eq_true g2, cnt2_cons, List.length_cons]
            rw [if_pos rfl]
            omega
      have := (h25 w g.2).2
      show cnt2 (w.dropWhile n25).tail ≤ o - 1
      omega
    · split
      · show cnt2 (10 :: w.dropWhile w10) ≤ o
        rw [cnt2_cons, if_neg (by omega)]; omega
      · split
        · show cnt2 (11 :: w.dropWhile w11) ≤ o
          rw [cnt2_cons, if_neg (by omega)]; omega
        · split
          · trivial
          · show cnt2 [] ≤ o
            exact Nat.zero_le _
  | .inr (m + 3, x), h => exact h
theorem utr_fin {Z : Nat → Nat → Int} {n B j : Nat} (e : Int × Int) : ∀ m, utr Z n B j m (.inl e) = .inl e
  | 0 => rfl
  | m + 1 => utr_fin e m
theorem utr_fin3 {Z : Nat → Nat → Int} {n B j : Nat} (x : Nat × Bool × List Int × List Int × Nat) : ∀ m, utr Z n B j m (.inr (3, x)) = .inr (3, x)
  | 0 => rfl
  | m + 1 => utr_fin3 x m
noncomputable def kU2 (d : Nat) (v : Value) (c9 : Int32) (M8 : am_M) : am_Q := am_br .eq c9 (am_i 0) (am_ev 249 (d + 10) 2 [.ref 187, .int (am_i 0), v] [] M8) (am_ev 249 (d + 10) 2 [.ref 187, .int (am_i 1), v] [] M8)
noncomputable def kU1 (d : Nat) (v : Value) (M7 : am_M) : am_Q := am_ob M7 187 6 (am_br .ne (am_I M7 187 5) (am_i 0) (am_ev 249 (d + 10) 2 [.ref 187, .int (am_i 0), v] [] M7) (am_ob M7 187 6 (am_bI (am_cl 250 (d + 9) [.ref 187] M7) (kU2 d v)) none)) none
theorem tT_bad {L : Nat} {q : am_Pq} {Z : Nat → Nat → Int} {n : Nat} {M : am_M} {e : Int × Int} (H : uFt L q Z n M e) (d : Nat) (x : Int) (hx : x = 0 ∨ x = 1) (v : Value) : am_ev 249 (d + 10) 2 [.ref 187, .int (am_i x), v] [] M = some (none, M) := by
  obtain ⟨S, e5, h1, h2⟩ := uFt_mv H
  rw [t249_2, am_br_eq (by omega) (by omega) (by omega) (by omega)]
  have h110 : ∀ x v, am_ev 249 (d + 9 + 1) 110 [.ref 187, x, v] [] M = some (none, M) := fun x v => by
    rw [t249_110, am_ob_p (kk_187 S), e5, am_br_ne (by omega) (by omega) (by omega) (by omega), if_neg (by omega)]
  rcases hx with rfl | rfl
  · rw [if_pos rfl, h110]
  · rw [if_neg (by omega), am_ob_p (kk_187 S), e5, am_br_ne (by omega) (by omega) (by omega) (by omega), if_neg (by omega), h110]
def pUA (L : Nat) (q : am_Pq) (Z : Nat → Nat → Int) (n B j d : Nat) (lhs : am_Q) (M : am_M) : am_Cf → Prop
  | .inl e => ∃ M', lhs = some (none, M') ∧ uFt L q Z n M' e ∧ fr qA M M'
  | .inr (0, s, t, l, w, o) => ∃ M' u, lhs = am_ev 249 (d + 10) 2 [.ref 187, .int (am_i 1), u] [] M' ∧ uC L q Z n B j M' s t l w o ∧ fr qA M M'
  | .inr (1, s, t, l, w, o) => ∃ M' u, lhs = am_bV (am_cl 248 (d + 9) [.ref 187] M') (kU1 d u) ∧ uC L q Z n B j M' s t l w o ∧ fr qA M M'
  | _ => True
theorem m_stepUA {L : Nat} {q : am_Pq} {Z : Nat → Nat → Int} {n B j : Nat} {M : am_M} {s : Nat} {t : Bool} {l w : List Int} {o : Nat} (H : uC L q Z n B j M s t l w o) (d : Nat) (v2 : Value) : pUA L q Z n B j d (am_ev 249 (d + 10) 2 [.ref 187, .int (am_i 1), v2] [] M) M (uA' Z n B j s t l w o) := by
  have H00 := H
  obtain ⟨HP, HQ, ⟨hbl, hs16, hj, ho, hc⟩, hw, hB⟩ := H
  obtain ⟨S, e5, hsn, hn, hz⟩ := mP_S HP
  rw [List.length_nil, Nat.add_zero] at hbl
  rw [List.append_nil] at hc
  obtain ⟨M1, r1, H1, f1⟩ := m_lk HP (d + 9)
  have S1 := H1.1.1
  have f1' : fr rR M M1 := fr_mono f1 (fun b k h => ⟨h.1, by omega⟩)
  have HQ1 : qH M1 j [] l w o := qH_rR HQ f1'
  have fM1 : fr qA M M1 := fr_mono f1' (fun b k h => rR_qA h)
  have hG := isG_at (Z := Z) (n := n) (s := s) (t := t) (l := []) (c := 91) (by decide) (by decide)
  have hbz := hz s
  have hcb : -1 ≤ (if s < n then Z 0 s else -1) ∧ (if s < n then Z 0 s else -1) ≤ 255 := by split <;> omega
  have hlk : (if s < n then Z 0 s else -1) = 91 ↔ isG Z n 91 (.inr (s, t, [])) = true := by
    rw [hG]
    by_cases g : s < n
    · rw [if_pos g]; simp [g]
    · rw [if_neg g]; simp [g]
  have h0 : am_ev 249 (d + 10) 2 [.ref 187, .int (am_i 1), v2] [] M = _ := t249_2 (d + 9) M 187 (am_i 1) v2
  rw [am_br_eq (by omega) (by omega) (by omega) (by omega), if_neg (by omega), am_ob_p (kk_187 S), e5, am_br_ne (by omega) (by omega) (by omega) (by omega), if_pos rfl, am_ob_p (kk_187 S), r1, am_bI_p, am_br_ne (by omega) (by omega) (by omega) (by omega)] at h0
  have wcons : ∀ c : Int, (c = 12 ∨ c = 25) → wT (c :: w) := fun c h c' hc' => by
    rcases List.mem_cons.mp hc' with rfl | hc'
    · omega
    · exact hw c' hc'
  have ccons : ∀ c : Int, (c = 12 ∨ c = 25) → ∀ c' ∈ c :: w ++ [], 1 ≤ c' ∧ c' ≤ 60 := fun c h c' hc' => by
    rw [List.append_nil] at hc'
    rcases List.mem_cons.mp hc' with rfl | hc'
    · omega
    · exact hc c' hc'
  unfold uA'
  by_cases g1 : isG Z n 91 (.inr (s, t, [])) = true
  · have hs := hG.mp g1
    rw [if_pos (hlk.mpr g1), am_ob_p (kk_187 S1), am_ob_p (kk_187 S1), mQ_at H1] at h0
    rw [if_pos g1]
    obtain ⟨M2, r2, h6, hn6⟩ := m_opens (mQ_P H1) HQ1 (by rw [List.length_nil]; omega) ho 25 (s : Int) (d + 8)
    rw [r2, am_bV_p] at h0
    by_cases g2 : o = 6
    · rw [if_pos g2]
      obtain ⟨HF, e92, f2⟩ := h6 g2
      have S2 := HF.1
      have hat : am_I M2 187 2 = am_i (s : Int) := by
        obtain ⟨M3, r3, H3, f3⟩ := m_fail (mQ_P H1) (c := 4) (p := (s : Int)) (by omega) (d + 8)
        have e15 : am_I M1 187 5 = am_i 0 := H1.1.2.2.2.2.1
        have : am_cl 233 (d + 8 + 1) [.ref 187, .int (am_i 25), .int (am_i (s : Int))] M1 = some (none, M3) := by
          rw [t233, am_ob_p (kk_187 S1), e15, am_br_eq (by omega) (by omega) (by omega) (by omega), if_pos rfl, am_ob_p (kk_187 S1), HQ1.2.2.2.2.2.1, am_br_ne (by omega) (by omega) (by omega) (by omega), if_pos (by omega), am_ob_p (kk_187 S1), r3, am_bV_p]
        rw [this] at r2
        have e : M3 = M2 := by injection r2 with h; injection h
        rw [← e, (f3 187 2 (by omega)).1]
        exact mQ_at H1
      have hF3 : uFt L q Z n (am_sI M2 187 2 (am_i ((s : Int) + 1))) (4, (s : Int)) := by
        obtain ⟨k0, k1, k2, k3, k4, k5, k6, k7, k8, k9⟩ := HF
        exact ⟨⟨k0.sI _ _ _, k1, by rw [am_I_ne2 (by decide)]; exact k2, by rw [am_I_ne2 (by decide)]; exact k3, ⟨s + 1, by omega, by rw [am_I_same]; rfl⟩, by rw [am_I_ne2 (by decide)]; exact k5, k6, fun k hk => by rw [am_I_ne1 (by decide)]; exact k7 k hk, mWw_mv k8 (fun b k h => by rw [am_I_ne1 (by omega)]), k9⟩, l.length, by omega, by rw [am_I_ne2 (by decide)]; exact e92⟩
      rw [am_ob_p (kk_187 S2), am_ob_p (kk_187 S2), hat, am_i_add, am_lt] at h0
      refine ⟨_, ?_, hF3, fr_tr fM1 (fr_tr (fr_mono f2 (fun b k h => rR_qA h)) (fr_sI (Or.inr (Or.inr ⟨rfl, by omega⟩))))⟩
      rw [h0]
      exact tT_bad hF3 d 1 (Or.inr rfl) _
    · rw [if_neg g2]
      obtain ⟨S2, HQ2, f2⟩ := hn6 g2
      have H2 := mQt_F1 H1 S2 f2
      have H3 := mQt_step H2 hs.1 (by rw [hs.2]; decide) (by rw [hs.2]; decide)
      have hnb := ns_bd (Z := Z) hs.1
      rw [am_ob_p (kk_187 S2), am_ob_p (kk_187 S2), mQ_at H2, am_i_add, am_lt] at h0
      exact ⟨_, _, h0, ⟨H3, qH_mv HQ2 (fun b k h => by
        by_cases g : b = 187
        · subst g; rw [am_I_ne2 (by omega)]
        · rw [am_I_ne1 g]), ⟨by rw [List.length_cons, List.length_nil]; omega, by omega, hj, by omega, ccons 25 (Or.inr rfl)⟩, wcons 25 (Or.inr rfl), by rw [List.length_cons]; omega⟩, fr_tr fM1 (fr_tr (fr_mono f2 (fun b k h => qF1_qA h)) (fr_sI (Or.inr (Or.inr ⟨rfl, by omega⟩))))⟩
  · rw [if_neg (fun h => g1 (hlk.mp h)), am_ob_p (kk_187 S1), rr_187_77 S1, am_gr_p, am_ob_p (kk_187 S1), m_hereA H1 6 25 (by omega) (by omega) (by decide +kernel) (r := 243) rfl (c := 25) rfl (d + 8), am_bI_p, br_eq_b] at h0
    rw [if_neg g1]
    by_cases g2 : isW Z n 25 (.inr (s, t, [])) = true
    · rw [if_pos g2, am_ob_p (kk_187 S1), am_ob_p (kk_187 S1), mQ_at H1] at h0
      rw [if_pos g2]
      obtain ⟨M2, r2, h6, hn6⟩ := m_opens (mQ_P H1) HQ1 (by rw [List.length_nil]; omega) ho 12 (s : Int) (d + 8)
      rw [r2, am_bV_p] at h0
      by_cases g4 : o = 6
      · rw [if_pos g4]
        obtain ⟨HF, e92, f2⟩ := h6 g4
        obtain ⟨M3, r3, H3, f3⟩ := m_asksA (st := .inl (4, (s : Int))) HF 6 25 (by omega) (by omega) (by decide +kernel) (r := 243) rfl (c := 25) rfl (d + 6)
        have H3' : mFa L q Z n M3 (4, (s : Int)) := H3
        have hF3 : uFt L q Z n M3 (4, (s : Int)) := ⟨H3', l.length, by omega, by rw [(f3 187 92 (by unfold rR; omega)).1]; exact e92⟩
        refine ⟨M3, ?_, hF3, fr_tr fM1 (fr_mono (fr_tr f2 f3) (fun b k h => rR_qA h))⟩
        rw [h0, am_ob_p (kk_187 HF.1), rr_187_77 HF.1, am_gr_p, am_ob_p (kk_187 HF.1), r3, am_bV_p]
        exact tT_bad hF3 d 1 (Or.inr rfl) _
      · rw [if_neg g4]
        obtain ⟨S2, HQ2, f2⟩ := hn6 g4
        have H2 := mQt_F1 H1 S2 f2
        obtain ⟨M3, r3, H3, f3⟩ := m_asksA (st := .inr (s, t, [])) (mQ_P H2) 6 25 (by omega) (by omega) (by decide +kernel) (r := 243) rfl (c := 25) rfl (d + 6)
        have hk : tkW Z n 25 (.inr (s, t, [])) = .inr (ns Z n s, nt Z n s, []) := if_pos g2
        rw [hk] at H3
        have hnb := ns_bd (Z := Z) (isW_lt g2)
        rw [am_ob_p (kk_187 S2), rr_187_77 S2, am_gr_p, am_ob_p (kk_187 S2), r3, am_bV_p] at h0
        exact ⟨M3, _, h0, ⟨H3, qH_rR HQ2 f3, ⟨by rw [List.length_cons, List.length_nil]; omega, by omega, hj, by omega, ccons 12 (Or.inl rfl)⟩, wcons 12 (Or.inl rfl), by rw [List.length_cons]; omega⟩, fr_tr fM1 (fr_tr (fr_mono f2 (fun b k h => qF1_qA h)) (fr_mono f3 (fun b k h => rR_qA h)))⟩
    · rw [if_neg g2, am_ob_p (kk_187 S1)] at h0
      rw [if_neg g2]
      have hf := m_fact (H := (⟨mQ_P H1, HQ1, H00.2.2⟩ : uC L q Z n B j M1 s t l w o)) d
      cases hq : qF Z n B j (6 - o) (.inr (s, t, l)) with
      | inl e =>
        rw [hq] at hf
        obtain ⟨M2, r2, HF, f2⟩ := hf
        obtain ⟨S2, e25, he1, he2⟩ := uFt_mv HF
        refine ⟨M2, ?_, HF, fr_tr fM1 f2⟩
        rw [h0, r2, am_bV_p, am_ob_p (kk_187 S2), t248, t248_0, am_ob_p (kk_187 S2), e25, am_br_ne (by omega) (by omega) (by omega) (by omega), if_neg (by omega), am_bV_p, am_ob_p (kk_187 S2), e25, am_br_ne (by omega) (by omega) (by omega) (by omega), if_neg (by omega)]
        exact tT_bad HF d 0 (Or.inl rfl) _
      | inr z =>
        obtain ⟨s', t', l'⟩ := z
        rw [hq] at hf
        obtain ⟨M2, r2, H2, f2⟩ := hf
        have S2 := (mP_S H2.1).1
        rw [r2, am_bV_p, am_ob_p (kk_187 S2)] at h0
        exact ⟨M2, _, h0, H2, fr_tr fM1 f2⟩
def pUB (L : Nat) (q : am_Pq) (Z : Nat → Nat → Int) (n B j d : Nat) (l0 w0 : List Int) (lhs : am_Q) (M : am_M) : am_Cf → Prop
  | .inl e => ∃ M', lhs = some (some (.int (am_i 0)), M') ∧ uFt L q Z n M' e ∧ fr qA M M'
  | .inr (0, s, t, l, w, o) => ∃ M', lhs = some (some (.int (am_i 1)), M') ∧ uC L q Z n B j M' s t l w o ∧ fr qA M M'
  | .inr (1, s, t, l, w, o) => ∃ M', lhs = am_bV (am_cl 248 (d + 8) [.ref 187] M') (fun M5 => am_ev 250 (d + 9) 0 [.ref 187] [] M5) ∧ uC L q Z n B j M' s t l w o ∧ fr qA M M'
  | .inr (3, s, t, _, _, o) => ∃ M', lhs = some (some (.int (am_i 0)), M') ∧ uC L q Z n B j M' s t l0 w0 o ∧ fr qA M M'
  | _ => True
theorem m_stepUB {L : Nat} {q : am_Pq} {Z : Nat → Nat → Int} {n B j : Nat} {M : am_M} {s : Nat} {t : Bool} {l w : List Int} {o : Nat} (H : uC L q Z n B j M s t l w o) (hcn : cnt2 w ≤ o) (d : Nat) : pUB L q Z n B j d l w (am_ev 250 (d + 9) 0 [.ref 187] [] M) M (uB Z n s t l w o) := by
  have H00 := H
  obtain ⟨HP, HQ, ⟨hbl, hs16, hj, ho, hc⟩, hw, hB⟩ := H
  obtain ⟨S, e5, hsn, hn, hz⟩ := mP_S HP
  rw [List.length_nil, Nat.add_zero] at hbl
  rw [List.append_nil] at hc
  obtain ⟨M1, r1, H1, f1⟩ := m_lk HP (d + 8)
  have S1 := H1.1.1
  have f1' : fr rR M M1 := fr_mono f1 (fun b k h => ⟨h.1, by omega⟩)
  have HQ1 : qH M1 j [] l w o := qH_rR HQ f1'
  have fM1 : fr qA M M1 := fr_mono f1' (fun b k h => rR_qA h)
  have hG := isG_at (Z := Z) (n := n) (s := s) (t := t) (l := []) (c := 93) (by decide) (by decide)
  have hbz := hz s
  have hcb : -1 ≤ (if s < n then Z 0 s else -1) ∧ (if s < n then Z 0 s else -1) ≤ 255 := by split <;> omega
  have hlk : (if s < n then Z 0 s else -1) = 93 ↔ isG Z n 93 (.inr (s, t, [])) = true := by
    rw [hG]
    by_cases g : s < n
    · rw [if_pos g]; simp [g]
    · rw [if_neg g]; simp [g]
  have h0 : am_ev 250 (d + 9) 0 [.ref 187] [] M = _ := t250_0 (d + 8) M 187
  rw [am_ob_p (kk_187 S), e5, am_br_ne (by omega) (by omega) (by omega) (by omega), if_pos rfl, am_ob_p (kk_187 S), r1, am_bI_p, am_br_ne (by omega) (by omega) (by omega) (by omega)] at h0
  have hsq : ∀ M' : am_M, am_Sh L q M' → qH M' j [] l w o → ∀ d', am_cl 247 d' [.ref 187] M' = some (some (.int (am_i (if 25 ∈ w then 1 else 0))), M') := fun M' S' H' d' => m_hasSq S' H' (by omega) hc d'
  unfold uB
  by_cases g1 : isG Z n 93 (.inr (s, t, [])) = true ∧ 25 ∈ w
  · have hs := hG.mp g1.1
    have hnb := ns_bd (Z := Z) hs.1
    rw [if_pos g1]
    rw [if_pos (hlk.mpr g1.1), am_ob_p (kk_187 S1), hsq M1 S1 HQ1, am_bI_p, if_pos g1.2, am_br_eq (by omega) (by omega) (by omega) (by omega), if_neg (by omega), am_ob_p (kk_187 S1), am_ob_p (kk_187 S1), mQ_at H1, am_i_add, am_lt] at h0
    have H2 := mQt_step H1 hs.1 (by rw [hs.2]; decide) (by rw [hs.2]; decide)
    have HQ2 : qH (am_sI M1 187 2 (am_i ((s : Int) + 1))) j [] l w o := qH_mv HQ1 (fun b k h => by
      by_cases g : b = 187
      · subst g; rw [am_I_ne2 (by omega)]
      · rw [am_I_ne1 g])
    have ho1 := Nat.le_trans (cnt2_mem g1.2) hcn
    obtain ⟨M3, w', q1, q2, q3, q4, q5⟩ := m_dropTo25 (d + 5) w l _ _ _ H2 HQ2 (by omega) hc g1.2 ho1
    rw [q2] at h0
    have htl := tk_len n25 w
    rw [q1, List.length_cons] at htl
    rw [q1, List.tail_cons]
    have hsub : ∀ c ∈ w', c ∈ w := fun c h => drop_mem (f := n25) (by rw [q1]; exact List.mem_cons_of_mem _ h)
    exact ⟨M3, h0, ⟨q3, q4, ⟨by rw [List.length_append, List.length_nil]; omega, by omega, hj, by omega, fun c h => by rw [List.append_nil] at h; exact hc c (hsub c h)⟩, fun c h => hw c (hsub c h), by rw [List.length_append]; omega⟩, fr_tr fM1 (fr_tr (fr_sI (Or.inr (Or.inr ⟨rfl, by omega⟩))) (fr_mono q5 (fun b k h => qF1_qA h)))⟩
  · rw [if_neg g1]
    have h76 : am_ev 250 (d + 9) 0 [.ref 187] [] M = am_ev 250 (d + 8 + 1) 76 [.ref 187] [] M1 := by
      by_cases g2 : isG Z n 93 (.inr (s, t, [])) = true
      · rw [if_pos (hlk.mpr g2), am_ob_p (kk_187 S1), hsq M1 S1 HQ1, am_bI_p, if_neg (fun h => g1 ⟨g2, h⟩), am_br_eq (by omega) (by omega) (by omega) (by omega), if_pos rfl] at h0
        exact h0
      · rw [if_neg (fun h => g2 (hlk.mp h))] at h0
        exact h0
    obtain ⟨M2, r2, k20, k21, f2⟩ := m_takeA (mQ_P H1) 7 24 (by omega) (by omega) (by decide +kernel) (r := 244) rfl (c := 24) rfl (d + 6)
    have f2' : fr rR M1 M2 := fr_mono f2 (fun b k h => ⟨h.1, by omega⟩)
    rw [t250_76, am_ob_p (kk_187 S1), rr_187_78 S1, am_gr_p, am_ob_p (kk_187 S1), r2, am_bI_p, br_eq_b] at h76
    have room : ∀ (f : Int → Bool) (x : Int), (x = 10 ∨ x = 11) → s < n → qb (ns Z n s) j [] (l ++ w.takeWhile f) (x :: w.dropWhile f) o ∧ wT (x :: w.dropWhile f) ∧ B + (l ++ w.takeWhile f).length + (x :: w.dropWhile f).length ≤ ns Z n s := by
      intro f x hx hs
      have hnb := ns_bd (Z := Z) hs
      have htl := tk_len f w
      refine ⟨⟨by rw [List.length_append, List.length_cons, List.length_nil]; omega, by omega, hj, ho, fun c hc' => ?_⟩, fun c hc' => ?_, by rw [List.length_append, List.length_cons]; omega⟩
      · rw [List.append_nil] at hc'
        rcases List.mem_cons.mp hc' with rfl | hc'
        · omega
        · exact hc c (drop_mem hc')
      · rcases List.mem_cons.mp hc' with rfl | hc'
        · omega
        · exact hw c (drop_mem hc')
    by_cases g24 : isW Z n 24 (.inr (s, t, [])) = true
    · have H2 := k21 g24
      have S2 := (mP_S H2).1
      obtain ⟨M3, r3, S3, HQ3, f3⟩ := m_drop10 (d + 6) w l M2 S2 (qH_rR HQ1 f2') (by omega) hc
      rw [if_pos g24, r3] at h76
      rw [if_pos g24]
      obtain ⟨b1, b2, b3⟩ := room w10 10 (Or.inl rfl) (isW_lt g24)
      exact ⟨M3, h76, ⟨mP_F1 H2 S3 f3, HQ3, b1, b2, b3⟩, fr_tr fM1 (fr_tr (fr_mono f2' (fun b k h => rR_qA h)) (fr_mono f3 (fun b k h => qF1_qA h)))⟩
    · have H2 := k20 g24
      have S2 := H2.1.1
      obtain ⟨M3, r3, k30, k31, f3⟩ := m_takeA (mQ_P H2) 8 23 (by omega) (by omega) (by decide +kernel) (r := 245) rfl (c := 23) rfl (d + 6)
      have f3' : fr rR M1 M3 := fr_tr f2' (fr_mono f3 (fun b k h => ⟨h.1, by omega⟩))
      rw [if_neg g24, am_ob_p (kk_187 S2), rr_187_79 S2, am_gr_p, am_ob_p (kk_187 S2), r3, am_bI_p, br_eq_b] at h76
      rw [if_neg g24]
      by_cases g23 : isW Z n 23 (.inr (s, t, [])) = true
      · have H3 := k31 g23
        have S3 := (mP_S H3).1
        obtain ⟨M4, r4, S4, HQ4, f4⟩ := m_drop11 (d + 6) w l M3 S3 (qH_rR HQ1 f3') (by omega) hc
        rw [if_pos g23, r4] at h76
        rw [if_pos g23]
        obtain ⟨b1, b2, b3⟩ := room w11 11 (Or.inr rfl) (isW_lt g23)
        exact ⟨M4, h76, ⟨mP_F1 H3 S4 f4, HQ4, b1, b2, b3⟩, fr_tr fM1 (fr_tr (fr_mono f3' (fun b k h => rR_qA h)) (fr_mono f4 (fun b k h => qF1_qA h)))⟩
      · have H3 := k30 g23
        have S3 := H3.1.1
        have HQ3 := qH_rR HQ1 f3'
        have e35 : am_I M3 187 5 = am_i 0 := H3.1.2.2.2.2.1
        have fM3 : fr qA M M3 := fr_tr fM1 (fr_mono f3' (fun b k h => rR_qA h))
        rw [if_neg g23, am_ob_p (kk_187 S3), e35, am_br_ne (by omega) (by omega) (by omega) (by omega), if_pos rfl, am_ob_p (kk_187 S3), hsq M3 S3 HQ3, am_bI_p] at h76
        rw [if_neg g23]
        by_cases g25 : 25 ∈ w
        · obtain ⟨M4, r4, H4, f4⟩ := m_fail (mQ_P H3) (c := 1) (p := (s : Int)) (by omega) (d + 8)
          rw [if_pos g25, am_br_eq (by omega) (by omega) (by omega) (by omega), if_neg (by omega), am_ob_p (kk_187 S3), am_ob_p (kk_187 S3), mQ_at H3, r4, am_bV_p, am_tr_0] at h76
          rw [if_pos g25]
          exact ⟨M4, h76, ⟨H4, l.length, by omega, by rw [(f4 187 92 (by omega)).1]; exact HQ3.2.1⟩, fr_tr fM3 (fr_mono f4 (fun b k h => Or.inr (Or.inr ⟨h.1, by omega⟩)))⟩
        · rw [if_neg g25, am_br_eq (by omega) (by omega) (by omega) (by omega), if_pos rfl, am_tr_0] at h76
          rw [if_neg g25]
          exact ⟨M3, h76, ⟨mQ_P H3, HQ3, H00.2.2⟩, fM3⟩
def uR (L : Nat) (q : am_Pq) (Z : Nat → Nat → Int) (n j : Nat) (res : am_Q) (M : am_M) : am_Cf → Prop
  | .inl e => ∃ M', res = some (none, M') ∧ uFt L q Z n M' e ∧ fr qA M M'
  | .inr (3, s, t, l, _, o) => ∃ M', res = some (none, M') ∧ mP L q Z n M' s t ∧ qH M' j [] l [] o ∧ fr qA M M'
  | _ => True
theorem uR_fr {L : Nat} {q : am_Pq} {Z : Nat → Nat → Int} {n j : Nat} {res : am_Q} {M M1 : am_M} (f : fr qA M M1) : ∀ {y : am_Cf}, uR L q Z n j res M1 y → uR L q Z n j res M y
  | .inl e, ⟨M', r, h, f'⟩ => ⟨M', r, h, fr_tr f f'⟩
  | .inr (3, s, t, l, _, o), ⟨M', r, h, h2, f'⟩ => ⟨M', r, h, h2, fr_tr f f'⟩
  | .inr (0, _), _ => trivial
  | .inr (1, _), _ => trivial
  | .inr (2, _), _ => trivial
  | .inr (m + 4, _), _ => trivial
/-- all that waits is told at a test's end -/
theorem kU_end {L : Nat} {q : am_Pq} {Z : Nat → Nat → Int} {n j : Nat} (d : Nat) : ∀ (w l : List Int) (M : am_M) (s : Nat) (t : Bool) (o : Nat), mP L q Z n M s t → qH M j [] l w o → l.length + w.length ≤ 1600 → ∀ v1 v2, ∃ M', am_ev 249 (d + 10) 110 [.ref 187, v1, v2] [] M = some (none, M') ∧ mP L q Z n M' s t ∧ qH M' j [] (l ++ w) [] o ∧ fr qA M M' := by
  intro w
  induction w with
  | nil =>
    intro l M s t o HP HQ hl v1 v2
    obtain ⟨S, e5, hsn, hn, hz⟩ := mP_S HP
    refine ⟨M, ?_, HP, by rw [List.append_nil]; exact HQ, fr_rfl _ _⟩
    rw [t249_110, am_ob_p (kk_187 S), e5, am_br_ne (by omega) (by omega) (by omega) (by omega), if_pos rfl, am_ob_p (kk_187 S), HQ.2.2.2.1, List.length_nil, am_br_le (by omega) (by omega) (by omega) (by omega), if_pos (by omega)]
  | cons c w ih =>
    intro l M s t o HP HQ hl v1 v2
    obtain ⟨S, e5, hsn, hn, hz⟩ := mP_S HP
    rw [List.length_cons] at hl
    obtain ⟨M1, r1, S1, HQ1, f1⟩ := m_drops S HQ (by rw [List.length_nil]; omega) (d + 8)
    obtain ⟨M2, r2, H2, HQ2, f2⟩ := ih (l ++ [c]) M1 s t o (mP_F1 HP S1 f1) HQ1 (by rw [List.length_append, List.length_singleton]; omega) v1 v2
    refine ⟨M2, ?_, H2, by rw [List.append_assoc] at HQ2; exact HQ2, fr_tr (fr_mono f1 (fun b k h => qF1_qA h)) f2⟩
    rw [t249_110, am_ob_p (kk_187 S), e5, am_br_ne (by omega) (by omega) (by omega) (by omega), if_pos rfl, am_ob_p (kk_187 S), HQ.2.2.2.1, List.length_cons, List.length_nil, am_br_le (by omega) (by omega) (by omega) (by omega), if_neg (by omega), am_ob_p (kk_187 S), r1, am_bV_p]
    exact r2
theorem m_testRun {L : Nat} {q : am_Pq} {Z : Nat → Nat → Int} {n B j : Nat} (d : Nat) {y : am_Cf} (hy : (∃ e, y = .inl e) ∨ ∃ z, y = .inr (3, z)) : ∀ m s t l w o M, uC L q Z n B j M s t l w o → cnt2 w ≤ o →
    (utr Z n B j m (.inr (0, s, t, l, w, o)) = y → ∀ v2, uR L q Z n j (am_ev 249 (d + 10) 2 [.ref 187, .int (am_i 1), v2] [] M) M y) ∧
    (utr Z n B j m (.inr (1, s, t, l, w, o)) = y → (∀ u, uR L q Z n j (am_bV (am_cl 248 (d + 9) [.ref 187] M) (kU1 d u)) M y) ∧ ∀ u, uR L q Z n j (am_bI (am_bV (am_cl 248 (d + 8) [.ref 187] M) (fun M5 => am_ev 250 (d + 9) 0 [.ref 187] [] M5)) (kU2 d u)) M y) ∧
    (utr Z n B j m (.inr (2, s, t, l, w, o)) = y → ∀ u, uR L q Z n j (am_bI (am_ev 250 (d + 9) 0 [.ref 187] [] M) (kU2 d u)) M y) := by
  have nz : ∀ (k : Nat) z, k < 3 → (.inr (k, z) : am_Cf) ≠ y := by
    intro k z hk h
    rcases hy with ⟨e, rfl⟩ | ⟨z', rfl⟩
    · cases h
    · rw [Sum.inr.injEq, Prod.mk.injEq] at h
      omega
  intro m
  induction m with
  | zero =>
    intro s t l w o M H hcn
    exact ⟨fun h => absurd h (nz 0 _ (by omega)), fun h => absurd h (nz 1 _ (by omega)), fun h => absurd h (nz 2 _ (by omega))⟩
  | succ m ih =>
    intro s t l w o M H hcn
    refine ⟨fun h v2 => ?_, fun h => ?_, fun h u => ?_⟩
    · have h : utr Z n B j m (uA' Z n B j s t l w o) = y := h
      have hs := m_stepUA H d v2
      have hi : cfu (uA' Z n B j s t l w o) := utp_cfu (x := .inr (0, s, t, l, w, o)) hcn
      cases hst : uA' Z n B j s t l w o with
      | inl e =>
        rw [hst] at h hs
        rw [utr_fin] at h
        rw [← h]
        exact hs
      | inr z =>
        obtain ⟨k, s', t', l', w', o'⟩ := z
        rw [hst] at h hs hi
        have nq : ∀ k z, 2 ≤ k → uA' Z n B j s t l w o ≠ .inr (k, z) := by
          intro k z hk
          unfold uA'
          repeat' split
          · simp
          · intro h; rw [Sum.inr.injEq, Prod.mk.injEq] at h; omega
          · simp
          · intro h; rw [Sum.inr.injEq, Prod.mk.injEq] at h; omega
          · cases qF Z n B j (6 - o) (.inr (s, t, l)) with
            | inl e => exact fun h => by cases h
            | inr z => intro h; obtain ⟨a, b, c⟩ := z; have h : (.inr (1, a, b, c, w, o) : am_Cf) = _ := h; rw [Sum.inr.injEq, Prod.mk.injEq] at h; omega
        match k, h, hs, hi, hst with
        | 0, h, hs, hi, hst =>
          obtain ⟨M1, u, r1, H1, f1⟩ := hs
          rw [r1]
          exact uR_fr f1 ((ih s' t' l' w' o' M1 H1 hi).1 h u)
        | 1, h, hs, hi, hst =>
          obtain ⟨M1, u, r1, H1, f1⟩ := hs
          rw [r1]
          exact uR_fr f1 (((ih s' t' l' w' o' M1 H1 hi).2.1 h).1 u)
        | k + 2, h, hs, hi, hst => exact absurd hst (nq _ _ (by omega))
    · have h : utr Z n B j m (uE s t l w o) = y := h
      have hx1 := m_stepUE H hcn (d + 6)
      have hx2 := m_stepUE H hcn (d + 5)
      refine ⟨fun u => ?_, fun u => ?_⟩
      · rcases hx1 with ⟨hst, r1⟩ | ⟨w', M1, hw, hst, r1, H1, f1⟩
        · rw [hst] at h
          have ih2 := (ih s t l w o M H hcn).2.2 h u
          obtain ⟨S, e5, -⟩ := mP_S H.1
          rw [r1, am_bV_p]
          unfold kU1
          rw [am_ob_p (kk_187 S), e5, am_br_ne (by omega) (by omega) (by omega) (by omega), if_pos rfl, am_ob_p (kk_187 S), t250]
          exact ih2
        · rw [hst] at h
          rw [r1]
          have hcn' : cnt2 w' ≤ o - 1 := by
            rw [hw, cnt2_12] at hcn
            omega
          exact uR_fr f1 (((ih s t (l ++ [12]) w' (o - 1) M1 H1 hcn').2.1 h).1 u)
      · rcases hx2 with ⟨hst, r1⟩ | ⟨w', M1, hw, hst, r1, H1, f1⟩
        · rw [hst] at h
          have ih2 := (ih s t l w o M H hcn).2.2 h u
          rw [r1, am_bV_p]
          exact ih2
        · rw [hst] at h
          rw [r1]
          have hcn' : cnt2 w' ≤ o - 1 := by
            rw [hw, cnt2_12] at hcn
            omega
          exact uR_fr f1 (((ih s t (l ++ [12]) w' (o - 1) M1 H1 hcn').2.1 h).2 u)
    · have h : utr Z n B j m (uB Z n s t l w o) = y := h
      have hs := m_stepUB H hcn d
      have hi : cfu (uB Z n s t l w o) := utp_cfu (Z := Z) (n := n) (B := B) (j := j) (x := .inr (2, s, t, l, w, o)) hcn
      cases hst : uB Z n s t l w o with
      | inl e =>
        rw [hst] at h hs
        rw [utr_fin] at h
        obtain ⟨M1, r1, H1, f1⟩ := hs
        rw [← h]
        refine ⟨M1, ?_, H1, f1⟩
        rw [r1, am_bI_p]
        unfold kU2
        rw [am_br_eq (by omega) (by omega) (by omega) (by omega), if_pos rfl]
        exact tT_bad H1 d 0 (Or.inl rfl) _
      | inr z =>
        obtain ⟨k, s', t', l', w', o'⟩ := z
        rw [hst] at h hs hi
        have nq : ∀ k z, k = 2 ∨ 4 ≤ k → uB Z n s t l w o ≠ .inr (k, z) := by
          intro k z hk
          unfold uB
          repeat' split
          all_goals first
            | (intro h; rw [Sum.inr.injEq, Prod.mk.injEq] at h; omega)
            | simp
        match k, h, hs, hi, hst with
        | 0, h, hs, hi, hst =>
          obtain ⟨M1, r1, H1, f1⟩ := hs
          rw [r1, am_bI_p]
          unfold kU2
          rw [am_br_eq (by omega) (by omega) (by omega) (by omega), if_neg (by omega)]
          exact uR_fr f1 ((ih s' t' l' w' o' M1 H1 hi).1 h u)
        | 1, h, hs, hi, hst =>
          obtain ⟨M1, r1, H1, f1⟩ := hs
          rw [r1]
          exact uR_fr f1 (((ih s' t' l' w' o' M1 H1 hi).2.1 h).2 u)
        | 2, h, hs, hi, hst => exact absurd hst (nq _ _ (Or.inl rfl))
        | 3, h, hs, hi, hst =>
          have hz : uB Z n s t l w o = .inr (3, s, t, l ++ w, [], o) := by
            unfold uB at hst ⊢
            repeat' split at hst
            all_goals first
              | (exfalso; simp at hst; done)
              | simp_all
          rw [hz, Sum.inr.injEq, Prod.mk.injEq, Prod.mk.injEq, Prod.mk.injEq, Prod.mk.injEq, Prod.mk.injEq] at hst
          obtain ⟨-, rfl, rfl, rfl, rfl, rfl⟩ := hst
          rw [utr_fin3] at h
          obtain ⟨M1, r1, H1, f1⟩ := hs
          have hb := H1.2.2.1
          obtain ⟨M2, r2, H2, HQ2, f2⟩ := kU_end d w l M1 s t o H1.1 H1.2.1 (by have h1 := hb.1; have h2 := hb.2.1; rw [List.length_nil] at h1; omega) (.int (am_i 0)) u
          rw [← h]
          refine ⟨M2, ?_, H2, HQ2, fr_tr f1 f2⟩
          rw [r1, am_bI_p]
          unfold kU2
          rw [am_br_eq (by omega) (by omega) (by omega) (by omega), if_pos rfl, t249_2, am_br_eq (by omega) (by omega) (by omega) (by omega), if_pos rfl]
          exact r2
        | k + 4, h, hs, hi, hst => exact absurd hst (nq _ _ (Or.inr (by omega)))
/-- a test, as the reference reads it -/
theorem m_test {L : Nat} {q : am_Pq} {Z : Nat → Nat → Int} {n B j : Nat} {M : am_M} {s : Nat} {t : Bool} {l : List Int} {o k : Nat} (H : uC L q Z n B j M s t l [] o) (ho : o + k = 6) (d : Nat) : uR L q Z n j (am_cl 249 (d + 10) [.ref 187] M) M (rsl 3 [] o (rTest Z n B j k (.inr (s, t, l)))) := by
  obtain ⟨S, e5, hsn, hn, hz⟩ := mP_S H.1
  obtain ⟨m, hm⟩ := rTest_all (Z := Z) (B := B) (t := t) (l := l) hn H.2.2.1.2.2.1 ho hsn (by have := H.2.2.2.2; omega)
  have hy : (∃ e, rsl 3 [] o (rTest Z n B j k (.inr (s, t, l))) = .inl e) ∨ ∃ z, rsl 3 [] o (rTest Z n B j k (.inr (s, t, l))) = .inr (3, z) := by
    cases rTest Z n B j k (.inr (s, t, l)) with
    | inl e => exact Or.inl ⟨e, rfl⟩
    | inr z => exact Or.inr ⟨_, rfl⟩
  rw [t249]
  exact (m_testRun d hy m s t l [] o M H (Nat.zero_le _)).1 hm .null
