/-! The reference: one step where a part is asked. -/
theorem mQt_step {L : Nat} {q : am_Pq} {Z : Nat → Nat → Int} {n : Nat} {M : am_M} {s : Nat} {t : Bool} (H : mQt L q Z n M s t) (h : s < n) (hx1 : ¬ ltr (Z 0 s) = 1) (hx2 : ¬ dgt (Z 0 s) = 1) : mP L q Z n (am_sI M 187 2 (am_i ((s : Int) + 1))) (ns Z n s) (nt Z n s) := by
  obtain ⟨⟨S1, HI, g2, g3, g5, -, hn⟩, hs2, ⟨e, g4, h2, h3, h4⟩, g6, hww, hz⟩ := H
  have hgl : gl Z s = false := decide_eq_false (fun h => h.elim hx1 hx2)
  have hte : te Z n s = s + 1 := by unfold te; rw [if_pos h, if_neg hx1, if_neg hx2]
  have hb2 := sk_bd Z n (te Z n s)
  refine ⟨s + 1, ⟨S1.sI _ _ _, fun k hk => by rw [am_I_ne1 (by decide)]; exact HI k hk, am_I_same _ _ _ _, by rw [am_I_ne2 (by decide)]; exact g3, by rw [am_I_ne2 (by decide)]; exact g5, by omega, hn⟩, by unfold ns; rw [hte], ⟨e, by rw [am_I_ne2 (by decide)]; exact g4, h2, by unfold ns; omega, ?_⟩, by rw [am_I_ne2 (by decide)]; exact g6, mWw_mv hww (fun b k h => by rw [am_I_ne1 (by omega)]), hz⟩
  unfold nt ns
  rw [hgl, Bool.false_and]
  constructor
  · intro h; exact absurd h (by decide)
  · intro h; omega
theorem isG_at {Z : Nat → Nat → Int} {n s : Nat} {t : Bool} {l : List Int} {c : Int} (h1 : ¬ ltr c = 1) (h2 : ¬ dgt c = 1) : isG Z n c (.inr (s, t, l)) = true ↔ s < n ∧ Z 0 s = c := by
  have hkk := kd_kinds Z n s t
  show decide (kd Z n s t = 3 ∧ Z 0 s = c) = true ↔ _
  rw [decide_eq_true_iff]
  constructor
  · rintro ⟨h5, h6⟩
    exact ⟨(hkk.2.2.1.mp h5).1, h6⟩
  · rintro ⟨h5, h6⟩
    exact ⟨hkk.2.2.1.mpr ⟨h5, by rw [h6]; exact h1, by rw [h6]; exact h2⟩, h6⟩
/-- what formulas may write -/
def qA (b k : Nat) : Prop := b = 257 ∨ b = 258 ∨ (b = 187 ∧ ((2 ≤ k ∧ k ≤ 6) ∨ k = 39 ∨ k = 92 ∨ k = 94 ∨ k = 95 ∨ k = 96))
theorem rR_qA {b k : Nat} (h : rR b k) : qA b k := by unfold rR at h; unfold qA; omega
theorem qF1_qA {b k : Nat} (h : qF1 b k) : qA b k := by unfold qF1 at h; unfold qA; omega
def qC (L : Nat) (q : am_Pq) (Z : Nat → Nat → Int) (n j : Nat) (be : List Int) (M : am_M) (s : Nat) (t : Bool) (l w : List Int) (o : Nat) : Prop := mP L q Z n M s t ∧ qH M j be l w o ∧ qb s j be l w o
def qFt (L : Nat) (q : am_Pq) (Z : Nat → Nat → Int) (n : Nat) (M : am_M) (e : Int × Int) : Prop := mFa L q Z n M e ∧ ∃ c : Nat, c ≤ 1601 ∧ am_I M 187 92 = am_i (c : Int)
theorem qH_rR {M M' : am_M} {j : Nat} {be l w : List Int} {o : Nat} (H : qH M j be l w o) (f : fr rR M M') : qH M' j be l w o := qH_mv H (fun b k h => (f b k (by unfold rR; omega)).1)
theorem m_opens {L : Nat} {q : am_Pq} {Z : Nat → Nat → Int} {n j : Nat} {be : List Int} {M : am_M} {s : Nat} {t : Bool} {l w : List Int} {o : Nat} (HP : mP L q Z n M s t) (HQ : qH M j be l w o) (hb : l.length + w.length + be.length ≤ 1600) (ho : o ≤ 6) (what place : Int) (d : Nat) : ∃ M', am_cl 233 (d + 1) [.ref 187, .int (am_i what), .int (am_i place)] M = some (none, M') ∧ (o = 6 → mFa L q Z n M' (4, place) ∧ am_I M' 187 92 = am_i (l.length : Int) ∧ fr rR M M') ∧ (o ≠ 6 → am_Sh L q M' ∧ qH M' j be l (what :: w) (o + 1) ∧ fr qF1 M M') := by
  obtain ⟨S, e5, hsn, hn, hz⟩ := mP_S HP
  have e95 := HQ.2.2.2.2.2.1
  have e94 := HQ.2.2.2.1
  rw [t233, am_ob_p (kk_187 S), e5, am_br_eq (by omega) (by omega) (by omega) (by omega), if_pos rfl, am_ob_p (kk_187 S), e95, am_br_ne (by omega) (by omega) (by omega) (by omega)]
  by_cases g : o = 6
  · obtain ⟨M1, r1, H1, f1⟩ := m_fail HP (c := 4) (p := place) (by omega) d
    refine ⟨M1, ?_, fun _ => ⟨H1, by rw [(f1 187 92 (by omega)).1]; exact HQ.2.1, fr_mono f1 (fun b k h => ⟨h.1, by omega⟩)⟩, fun h => absurd g h⟩
    rw [if_pos (by omega), am_ob_p (kk_187 S), r1, am_bV_p]
  · have H1 := qH_push (qH_o HQ (o + 1)) what
    have S1 := S.sI 187 95 (am_i ((o + 1 : Nat) : Int))
    have S2 := S1.sI 258 (w.length + be.length) (am_i what)
    refine ⟨_, ?_, fun h => absurd h g, fun _ => ⟨S2.sI _ _ _, H1, fr_tr (fr_sI (Or.inr (Or.inr ⟨rfl, by omega⟩))) (fr_tr (fr_sI (Or.inr (Or.inl rfl))) (fr_sI (Or.inr (Or.inr ⟨rfl, by omega⟩))))⟩⟩
    rw [if_neg (by omega), am_ob_p (kk_187 S), am_ob_p (kk_187 S), am_i_add, show ((o : Int) + 1) = ((o + 1 : Nat) : Int) by omega]
    simp only [am_lt]
    rw [am_ob_p (kk_187 S1), rr_187_93 S1, am_gr_p, am_ob_p (kk_187 S1), am_I_ne2 (show 94 ≠ 95 by decide), e94, am_iw_p (kk_258 S1) (by omega) (by omega) (by omega) (by omega), am_i_ix (by omega) (by omega), Int.toNat_natCast, am_ob_p (kk_187 S2), am_ob_p (kk_187 S2), am_I_ne1 (show 187 ≠ 258 by decide), am_I_ne2 (show 94 ≠ 95 by decide), e94, am_i_add]
theorem mP_F1 {L : Nat} {q : am_Pq} {Z : Nat → Nat → Int} {n : Nat} {M M' : am_M} {s : Nat} {t : Bool} (H : mP L q Z n M s t) (S' : am_Sh L q M') (f : fr qF1 M M') : mP L q Z n M' s t := mP_mv H S' (fr_mono f (fun b k h => qF1_nR h))
theorem mQt_F1 {L : Nat} {q : am_Pq} {Z : Nat → Nat → Int} {n : Nat} {M M' : am_M} {s : Nat} {t : Bool} (H : mQt L q Z n M s t) (S' : am_Sh L q M') (f : fr qF1 M M') : mQt L q Z n M' s t := mQt_mv H S' (fr_mono f (fun b k h => qF1_nR h))
theorem pT_bad {L : Nat} {q : am_Pq} {Z : Nat → Nat → Int} {n : Nat} {M : am_M} {e : Int × Int} (H : mFa L q Z n M e) (d : Nat) (v2 v3 v4 v5 : Value) : am_ev 243 (d + 1) 2 [.ref 187, .int (am_i 1), v2, v3, v4, v5] [] M = some (none, M) := by
  have S := H.1
  have e5 := H.2.2.1
  have he := H.2.1
  rw [t243_2, am_br_eq (by omega) (by omega) (by omega) (by omega), if_neg (by omega), am_ob_p (kk_187 S), e5, am_br_ne (by omega) (by omega) (by omega) (by omega), if_neg (by omega), t243_186, am_ob_p (kk_187 S), e5, am_br_eq (by omega) (by omega) (by omega) (by omega), if_neg (by omega)]
/-- what a step from where a part is asked comes to -/
def pStA (L : Nat) (q : am_Pq) (Z : Nat → Nat → Int) (n j d : Nat) (be : List Int) (lhs : am_Q) (M : am_M) : am_Cf → Prop
  | .inl e => ∃ M', lhs = some (none, M') ∧ qFt L q Z n M' e ∧ fr qA M M'
  | .inr (0, s, t, l, w, o) => ∃ M' u2 u3 u4 u5, lhs = am_ev 243 (d + 7) 2 [.ref 187, .int (am_i 1), u2, u3, u4, u5] [] M' ∧ qC L q Z n j be M' s t l w o ∧ fr qA M M'
  | .inr (1, s, t, l, w, o) => ∃ M', lhs = am_bV (am_cl 242 (d + 6) [.ref 187] M') (fun M6 => some (none, M6)) ∧ qC L q Z n j be M' s t l w o ∧ fr qA M M'
  | _ => True
theorem m_stepA {L : Nat} {q : am_Pq} {Z : Nat → Nat → Int} {n j : Nat} {be : List Int} {M : am_M} {s : Nat} {t : Bool} {l w : List Int} {o : Nat} (H : qC L q Z n j be M s t l w o) (d : Nat) (v2 v3 v4 v5 : Value) : pStA L q Z n j d be (am_ev 243 (d + 7) 2 [.ref 187, .int (am_i 1), v2, v3, v4, v5] [] M) M (stA Z n j s t l w o) := by
  obtain ⟨HP, HQ, hb⟩ := H
  obtain ⟨hbl, hs16, hj, ho, hc⟩ := hb
  obtain ⟨S, e5, hsn, hn, hz⟩ := mP_S HP
  obtain ⟨M1, r1, H1, f1⟩ := m_lk HP (d + 6)
  have S1 := H1.1.1
  have HQ1 : qH M1 j be l w o := qH_mv HQ (fun b k h => (f1 b k (by omega)).1)
  have fM1 : fr qA M M1 := fr_mono f1 (fun b k h => Or.inr (Or.inr ⟨h.1, by omega⟩))
  have e15 : am_I M1 187 5 = am_i 0 := H1.1.2.2.2.2.1
  have hG := isG_at (Z := Z) (n := n) (s := s) (t := t) (l := []) (c := 40) (by decide) (by decide)
  have hbz := hz s
  have hcb : -1 ≤ (if s < n then Z 0 s else -1) ∧ (if s < n then Z 0 s else -1) ≤ 255 := by split <;> omega
  have hlk : (if s < n then Z 0 s else -1) = 40 ↔ isG Z n 40 (.inr (s, t, [])) = true := by
    rw [hG]
    by_cases g : s < n
    · rw [if_pos g]; simp [g]
    · rw [if_neg g]; simp [g]
  have eWo := m_wordOf H1 hj HQ1.1 (a := 8) (b := 9) (by omega) (by omega) (d + 3)
  rw [wof_8 hj] at eWo
  have h0 : am_ev 243 (d + 7) 2 [.ref 187, .int (am_i 1), v2, v3, v4, v5] [] M = _ := t243_2 (d + 6) M 187 (am_i 1) v2 v3 v4 v5
  rw [am_br_eq (by omega) (by omega) (by omega) (by omega), if_neg (by omega), am_ob_p (kk_187 S), e5, am_br_ne (by omega) (by omega) (by omega) (by omega), if_pos rfl, am_ob_p (kk_187 S), r1, am_bI_p, am_ob_p (kk_187 S1), eWo, am_bI_p, am_br_ne (by omega) (by omega) (by omega) (by omega)] at h0
  unfold stA
  by_cases g1 : isG Z n 40 (.inr (s, t, [])) = true
  · have hs := hG.mp g1
    rw [if_pos (hlk.mpr g1), am_ob_p (kk_187 S1), am_ob_p (kk_187 S1), mQ_at H1] at h0
    rw [if_pos g1]
    obtain ⟨M2, r2, h6, hn6⟩ := m_opens (mQ_P H1) HQ1 (by omega) ho 20 (s : Int) (d + 5)
    rw [r2, am_bV_p] at h0
    by_cases g2 : o = 6
    · rw [if_pos g2]
      obtain ⟨HF, e92, f2⟩ := h6 g2
      have S2 := HF.1
      have e22 : am_I M2 187 2 = am_i (s : Int) ∨ True := Or.inr trivial
      have hF3 : mFa L q Z n (am_sI M2 187 2 (am_I M2 187 2 + am_i 1)) (4, (s : Int)) := by
        obtain ⟨k0, k1, k2, k3, k4, k5, k6, k7, k8, k9⟩ := HF
        have : am_I M2 187 2 = am_i (s : Int) := by
          obtain ⟨M3, r3, H3, f3⟩ := m_fail (mQ_P H1) (c := 4) (p := (s : Int)) (by omega) (d + 5)
          have : am_cl 233 (d + 5 + 1) [.ref 187, .int (am_i 20), .int (am_i (s : Int))] M1 = some (none, M3) := by
            rw [t233, am_ob_p (kk_187 S1), e15, am_br_eq (by omega) (by omega) (by omega) (by omega), if_pos rfl, am_ob_p (kk_187 S1), HQ1.2.2.2.2.2.1, am_br_ne (by omega) (by omega) (by omega) (by omega), if_pos (by omega), am_ob_p (kk_187 S1), r3, am_bV_p]
          rw [this] at r2
          have e : M3 = M2 := by injection r2 with h; injection h
          rw [← e, (f3 187 2 (by omega)).1]
          exact mQ_at H1
        refine ⟨k0.sI _ _ _, k1, by rw [am_I_ne2 (by decide)]; exact k2, by rw [am_I_ne2 (by decide)]; exact k3, ⟨s + 1, by omega, by rw [am_I_same, this, am_i_add]; rfl⟩, by rw [am_I_ne2 (by decide)]; exact k5, k6, fun k hk => by rw [am_I_ne1 (by decide)]; exact k7 k hk, mWw_mv k8 (fun b k h => by rw [am_I_ne1 (by omega)]), k9⟩
      refine ⟨_, ?_, ⟨hF3, l.length, by omega, by rw [am_I_ne2 (by decide)]; exact e92⟩, fr_tr fM1 (fr_tr (fr_mono f2 (fun b k h => rR_qA h)) (fr_sI (Or.inr (Or.inr ⟨rfl, by omega⟩))))⟩
      rw [h0, am_ob_p (kk_187 S2), am_ob_p (kk_187 S2)]
      simp only [am_lt]
      exact pT_bad hF3 (d + 6) _ _ _ _
    · rw [if_neg g2]
      obtain ⟨S2, HQ2, f2⟩ := hn6 g2
      have H2 := mQt_F1 H1 S2 f2
      have H3 := mQt_step H2 hs.1 (by rw [hs.2]; decide) (by rw [hs.2]; decide)
      have hnb := ns_bd (Z := Z) hs.1
      rw [am_ob_p (kk_187 S2), am_ob_p (kk_187 S2), mQ_at H2, am_i_add, am_lt] at h0
      refine ⟨_, _, _, _, _, h0, ⟨H3, qH_mv HQ2 (fun b k h => by
        by_cases g : b = 187
        · subst g; rw [am_I_ne2 (by omega)]
        · rw [am_I_ne1 g]), by rw [List.length_cons]; omega, by omega, hj, by omega, fun c hc' => by
        rw [List.cons_append] at hc'
        rcases List.mem_cons.mp hc' with rfl | hc'
        · omega
        · exact hc c hc'⟩, fr_tr fM1 (fr_tr (fr_mono f2 (fun b k h => qF1_qA h)) (fr_sI (Or.inr (Or.inr ⟨rfl, by omega⟩))))⟩
  · rw [if_neg (fun h => g1 (hlk.mp h)), am_ob_p (kk_187 S1), rr_187_81 S1, am_gr_p, am_ob_p (kk_187 S1), m_hereA H1 10 27 (by omega) (by omega) (by decide +kernel) (r := 247) rfl (c := 27) rfl (d + 5), am_bI_p, br_ne_b, am_ob_p (kk_187 S1), rr_187_82 S1, am_gr_p, am_ob_p (kk_187 S1), m_hereA H1 11 28 (by omega) (by omega) (by decide +kernel) (r := 248) rfl (c := 28) rfl (d + 5), am_bI_p, br_eq_b] at h0
    rw [if_neg g1]
    by_cases g2 : isW Z n 27 (.inr (s, t, [])) = true ∨ isW Z n 28 (.inr (s, t, [])) = true
    · rw [if_pos g2]
      -- min, max: the bracket
      obtain ⟨cb, hcb2⟩ : ∃ cb : Int, cb = if isW Z n 27 (.inr (s, t, [])) = true then 21 else 22 := ⟨_, rfl⟩
      have h78 : ∃ vv, am_ev 243 (d + 7) 2 [.ref 187, .int (am_i 1), v2, v3, v4, v5] [] M = am_ev 243 (d + 6 + 1) 78 [.ref 187, .int (am_i 1), .int (am_i (if s < n then Z 0 s else -1)), vv, v4, v5] [] M1 := by
        by_cases g3 : isW Z n 27 (.inr (s, t, [])) = true
        · rw [if_pos g3] at h0
          exact ⟨_, h0⟩
        · rw [if_neg g3, if_pos (g2.resolve_left g3)] at h0
          exact ⟨_, h0⟩
      obtain ⟨vv, h78⟩ := h78
      -- the word is taken
      have tk : ∃ M2, mP L q Z n M2 (ns Z n s) (nt Z n s) ∧ fr rR M1 M2 ∧ am_ev 243 (d + 6 + 1) 78 [.ref 187, .int (am_i 1), .int (am_i (if s < n then Z 0 s else -1)), vv, v4, v5] [] M1 = am_ob M2 187 6 (am_bI (am_cl 133 (d + 6) [.ref 187] M2) (fun c5 M4 => am_br .ne c5 (am_i 40) (am_ev 243 (d + 6 + 1) 118 [.ref 187, .int (am_i 1), .int (am_i (if s < n then Z 0 s else -1)), (am_kl vv), .int (am_i (if isW Z n 27 (.inr (s, t, [])) = true then 1 else 0)), v5] [.int (am_i (-1))] M4) (am_ob M4 187 6 (am_ev 243 (d + 6 + 1) 118 [.ref 187, .int (am_i 1), .int (am_i (if s < n then Z 0 s else -1)), (am_kl vv), .int (am_i (if isW Z n 27 (.inr (s, t, [])) = true then 1 else 0)), v5] [.int (am_I M4 187 2)] M4) none))) none := by
        obtain ⟨M2, r2, k0, k1, f2⟩ := m_takeA (mQ_P H1) 10 27 (by omega) (by omega) (by decide +kernel) (r := 247) rfl (c := 27) rfl (d + 4)
        have f2' : fr rR M1 M2 := fr_mono f2 (fun b k h => ⟨h.1, by omega⟩)
        by_cases g3 : isW Z n 27 (.inr (s, t, [])) = true
        · refine ⟨M2, k1 g3, f2', ?_⟩
          rw [t243_78, am_ob_p (kk_187 S1), rr_187_81 S1, am_gr_p, am_ob_p (kk_187 S1), r2, am_bI_p, br_ne_b]
          rw [if_pos g3, if_pos g3]
        · have H2 := k0 g3
          obtain ⟨M3, r3, H3, f3⟩ := m_asksA (st := .inr (s, t, [])) (mQ_P H2) 11 28 (by omega) (by omega) (by decide +kernel) (r := 248) rfl (c := 28) rfl (d + 3)
          have g4 := g2.resolve_left g3
          have hk : tkW Z n 28 (.inr (s, t, [])) = .inr (ns Z n s, nt Z n s, []) := if_pos g4
          rw [hk] at H3
          refine ⟨M3, H3, fr_tr f2' f3, ?_⟩
          rw [t243_78, am_ob_p (kk_187 S1), rr_187_81 S1, am_gr_p, am_ob_p (kk_187 S1), r2, am_bI_p, br_ne_b]
          rw [if_neg g3, if_neg g3, am_ob_p (kk_187 H2.1.1), rr_187_82 H2.1.1, am_gr_p, am_ob_p (kk_187 H2.1.1), r3, am_bV_p]
      obtain ⟨M2, H2, f2, e2⟩ := tk
      have hp2 := mP_S H2
      obtain ⟨M3, r3, H3, f3⟩ := m_lk H2 (d + 6)
      have S3 := H3.1.1
      have f3' : fr rR M2 M3 := fr_mono f3 (fun b k h => ⟨h.1, by omega⟩)
      have HQ3 : qH M3 j be l w o := qH_rR HQ1 (fr_tr f2 f3')
      have fM3 : fr qA M M3 := fr_tr fM1 (fr_mono (fr_tr f2 f3') (fun b k h => rR_qA h))
      have hG2 := isG_at (Z := Z) (n := n) (s := ns Z n s) (t := nt Z n s) (l := []) (c := 40) (by decide) (by decide)
      have hbz2 := hz (ns Z n s)
      have hlk2 : (if ns Z n s < n then Z 0 (ns Z n s) else -1) = 40 ↔ isG Z n 40 (.inr (ns Z n s, nt Z n s, [])) = true := by
        rw [hG2]
        by_cases g : ns Z n s < n
        · rw [if_pos g]; simp [g]
        · rw [if_neg g]; simp [g]
      have hcb3 : -1 ≤ (if ns Z n s < n then Z 0 (ns Z n s) else -1) ∧ (if ns Z n s < n then Z 0 (ns Z n s) else -1) ≤ 255 := by split <;> omega
      rw [am_ob_p (kk_187 hp2.1), r3, am_bI_p, am_br_ne (by omega) (by omega) (by omega) (by omega)] at e2
      rw [← h78] at e2
      by_cases g4 : isG Z n 40 (.inr (ns Z n s, nt Z n s, [])) = true
      · rw [if_pos (hlk2.mpr g4), am_ob_p (kk_187 S3), mQ_at H3, t243_118, am_br_eq (by omega) (by omega) (by omega) (by omega), if_neg (by omega), br_eq_b] at e2
        rw [if_pos g4]
        have hs2 := hG2.mp g4
        obtain ⟨M4, r4, h6, hn6⟩ := m_opens (mQ_P H3) HQ3 (by omega) ho cb (ns Z n s : Int) (d + 5)
        have e3 : am_ev 243 (d + 7) 2 [.ref 187, .int (am_i 1), v2, v3, v4, v5] [] M = am_ob M4 187 6 (am_bV (am_cl 138 (d + 6) [.ref 187, .int (am_i 40)] M4) (fun M5 => am_ev 243 (d + 6 + 1) 2 [.ref 187, .int (am_i 1), .int (am_i (if s < n then Z 0 s else -1)), (am_kl vv), .int (am_i (if isW Z n 27 (.inr (s, t, [])) = true then 1 else 0)), .int (am_i (ns Z n s : Int))] [] M5)) none := by
          rw [hcb2] at r4
          rw [e2]
          by_cases g3 : isW Z n 27 (.inr (s, t, [])) = true
          · rw [if_pos g3] at r4 ⊢
            rw [am_ob_p (kk_187 S3), r4, am_bV_p, if_pos g3]
          · rw [if_neg g3] at r4 ⊢
            rw [am_ob_p (kk_187 S3), r4, am_bV_p, if_neg g3]
        have hcbb : cb = 21 ∨ cb = 22 := by rw [hcb2]; split; exact Or.inl rfl; exact Or.inr rfl
        rw [← hcb2]
        by_cases g5 : o = 6
        · rw [if_pos g5]
          obtain ⟨HF, e92, f4⟩ := h6 g5
          obtain ⟨M5, r5, H5, f5⟩ := m_asksG (st := .inl (4, (ns Z n s : Int))) HF (x := 40) (by omega) (by omega) (by decide) (by decide) (d + 4)
          have H5' : mFa L q Z n M5 (4, (ns Z n s : Int)) := H5
          refine ⟨M5, ?_, ⟨H5', l.length, by omega, by rw [(f5 187 92 (by unfold rR; omega)).1]; exact e92⟩, fr_tr fM3 (fr_mono (fr_tr f4 f5) (fun b k h => rR_qA h))⟩
          rw [e3, am_ob_p (kk_187 HF.1), r5, am_bV_p]
          exact pT_bad H5' (d + 6) _ _ _ _
        · rw [if_neg g5]
          obtain ⟨S4, HQ4, f4⟩ := hn6 g5
          have H4 := mQt_F1 H3 S4 f4
          obtain ⟨M5, r5, H5, f5⟩ := m_asksG (st := .inr (ns Z n s, nt Z n s, [])) (mQ_P H4) (x := 40) (by omega) (by omega) (by decide) (by decide) (d + 4)
          have hk : tkG Z n 40 (.inr (ns Z n s, nt Z n s, [])) = .inr (ns Z n (ns Z n s), nt Z n (ns Z n s), []) := if_pos g4
          rw [hk] at H5
          have hnb := ns_bd (Z := Z) hs2.1
          have hnb0 := ns_bd (Z := Z) (n := n) (s := s) (g2.elim isW_lt isW_lt)
          rw [am_ob_p (kk_187 S4), r5, am_bV_p] at e3
          refine ⟨M5, _, _, _, _, e3, ⟨H5, qH_rR HQ4 f5, by rw [List.length_cons]; omega, by omega, hj, by omega, fun c hc' => by
            rw [List.cons_append] at hc'
            rcases List.mem_cons.mp hc' with rfl | hc'
            · omega
            · exact hc c hc'⟩, fr_tr fM3 (fr_tr (fr_mono f4 (fun b k h => qF1_qA h)) (fr_mono f5 (fun b k h => rR_qA h)))⟩
      · rw [if_neg (fun h => g4 (hlk2.mp h)), t243_118, am_br_eq (by omega) (by omega) (by omega) (by omega), if_pos rfl, am_ob_p (kk_187 S3)] at e2
        rw [if_neg g4]
        obtain ⟨M5, r5, H5, f5⟩ := m_asksG (st := .inr (ns Z n s, nt Z n s, [])) (mQ_P H3) (x := 40) (by omega) (by omega) (by decide) (by decide) (d + 4)
        have hk : tkG Z n 40 (.inr (ns Z n s, nt Z n s, [])) = .inl (1, (ns Z n s : Int)) := if_neg g4
        rw [hk] at H5
        have H5' : mFa L q Z n M5 (1, (ns Z n s : Int)) := H5
        refine ⟨M5, ?_, ⟨H5', l.length, by omega, by rw [(f5 187 92 (by unfold rR; omega)).1]; exact HQ3.2.1⟩, fr_tr fM3 (fr_mono f5 (fun b k h => rR_qA h))⟩
        rw [e2, r5, am_bV_p]
        exact pT_bad H5' (d + 6) _ _ _ _
    · have g27 : ¬ isW Z n 27 (.inr (s, t, [])) = true := fun h => g2 (Or.inl h)
      have g28 : ¬ isW Z n 28 (.inr (s, t, [])) = true := fun h => g2 (Or.inr h)
      rw [if_neg g27, if_neg g28] at h0
      rw [if_neg g2]
      by_cases g3 : isW Z n 18 (.inr (s, t, [])) = true ∧ j = 3
      · rw [if_pos g3, am_br_eq (by omega) (by omega) (by omega) (by omega), if_neg (by omega), am_ob_p (kk_187 S1), am_ob_p (kk_187 S1), mQ_at H1, am_i_add, am_i_sub] at h0
        rw [if_pos g3]
        obtain ⟨M2, r2, h6, hn6⟩ := m_opens (mQ_P H1) HQ1 (by omega) ho 60 (s : Int) (d + 5)
        rw [show (60 : Int) + 8 - 8 = 60 by omega, r2, am_bV_p] at h0
        by_cases g4 : o = 6
        · rw [if_pos g4]
          obtain ⟨HF, e92, f2⟩ := h6 g4
          obtain ⟨M3, r3, H3, f3⟩ := m_asksWord (st := .inl (4, (s : Int))) HF (k := 8) (by omega) (by omega) (d + 2)
          have H3' : mFa L q Z n M3 (4, (s : Int)) := H3
          refine ⟨M3, ?_, ⟨H3', l.length, by omega, by rw [(f3 187 92 (by unfold rR; omega)).1]; exact e92⟩, fr_tr fM1 (fr_mono (fr_tr f2 f3) (fun b k h => rR_qA h))⟩
          rw [h0, am_ob_p (kk_187 HF.1), r3, am_bV_p]
          exact pT_bad H3' (d + 6) _ _ _ _
        · rw [if_neg g4]
          obtain ⟨S2, HQ2, f2⟩ := hn6 g4
          have H2 := mQt_F1 H1 S2 f2
          obtain ⟨M3, r3, H3, f3⟩ := m_asksWord (st := .inr (s, t, [])) (mQ_P H2) (k := 8) (by omega) (by omega) (d + 2)
          have hk : tkW Z n (wcn 8) (.inr (s, t, [])) = .inr (ns Z n s, nt Z n s, []) := if_pos g3.1
          rw [hk] at H3
          have hnb := ns_bd (Z := Z) (isW_lt g3.1)
          rw [am_ob_p (kk_187 S2), r3, am_bV_p] at h0
          refine ⟨M3, _, _, _, _, h0, ⟨H3, qH_rR HQ2 f3, by rw [List.length_cons]; omega, by omega, hj, by omega, fun c hc' => by
            rw [List.cons_append] at hc'
            rcases List.mem_cons.mp hc' with rfl | hc'
            · omega
            · exact hc c hc'⟩, fr_tr fM1 (fr_tr (fr_mono f2 (fun b k h => qF1_qA h)) (fr_mono f3 (fun b k h => rR_qA h)))⟩
      · have k20 := t243_2 (d + 6) M1 187 (am_i 0) (.int (am_i (if s < n then Z 0 s else -1))) (.int (am_i (-1))) v4 v5
        rw [am_br_eq (by omega) (by omega) (by omega) (by omega), if_pos rfl] at k20
        rw [if_neg g3, am_br_eq (by omega) (by omega) (by omega) (by omega), if_pos rfl, k20, t243_186, am_ob_p (kk_187 S1), e15, am_br_eq (by omega) (by omega) (by omega) (by omega), if_pos rfl, am_ob_p (kk_187 S1), m_wordOf H1 hj HQ1.1 (a := 0) (b := 8) (by omega) (by omega) (d + 3), am_bI_p] at h0
        rw [if_neg g3]
        have hwf := wof_fch (Z := Z) (n := n) (s := s) (t := t) hj
        have hwb : -1 ≤ wof Z n j s t 0 8 ∧ wof Z n j s t 0 8 < 8 := by
          have := whv_bd Z n j s t
          unfold wof
          split <;> omega
        rw [am_br_eq (by omega) (by omega) (by omega) (by omega)] at h0
        by_cases g4 : wof Z n j s t 0 8 = -1
        · rw [if_pos g4] at h0 hwf
          rw [if_neg (by rw [hwf]; exact fun h => h rfl)]
          rw [t243_212, am_br_eq (by omega) (by omega) (by omega) (by omega), if_pos g4, am_ob_p (kk_187 S1)] at h0
          obtain ⟨M2, v, r2, H2, hv, hv0, hv1, f2⟩ := m_num (st := .inr (s, t, [])) (mQ_P H1) (lo := 0) (hi := 9999) (by omega) (by omega) (d + 5)
          have HQ2 := qH_rR HQ1 f2
          have S2 := (mS_S H2).1
          obtain ⟨M3, r3, S3, HQ3, f3⟩ := m_emit S2 HQ2 (by omega) (1000 + v) (d + 6)
          rw [r2, am_bI_p, am_ob_p (kk_187 S2), am_i_add, r3, am_bV_p, am_ob_p (kk_187 S3)] at h0
          cases hT : tkN Z n 0 9999 (.inr (s, t, [])) with
          | mk st v' =>
            rw [hT] at H2 hv
            match st, H2, hv, hT with
            | .inl e, H2, hv, hT =>
              have H3 := mFa_mv H2 S3 (fr_mono f3 (fun b k h => qF1_nR h))
              refine ⟨M3, ?_, ⟨H3, l.length + 1, by omega, by
                have := HQ3.2.1
                rw [List.length_append] at this
                exact this⟩, fr_tr fM1 (fr_tr (fr_mono f2 (fun b k h => rR_qA h)) (fr_mono f3 (fun b k h => qF1_qA h)))⟩
              have e5' := H3.2.2.1
              have he' := H3.2.1
              rw [h0, t242, t242_0, am_ob_p (kk_187 S3), e5', am_br_ne (by omega) (by omega) (by omega) (by omega), if_neg (by omega), am_bV_p]
            | .inr (s', t', l'), H2, hv, hT =>
              have hv' := hv rfl
              have hv' : v = v' := hv'
              subst hv'
              have hi := tkN_inr (Z := Z) (n := n) (s := s) (t := t) (l := []) (lo := 0) (hi := 9999) (s' := s') (t' := t') (l' := l') (by rw [hT])
              have hnb := ns_bd (Z := Z) (n := n) (s := s) (kd_lt (show 1 ≤ kd Z n s t by omega))
              have H3 := mP_F1 H2 S3 f3
              refine ⟨M3, ?_, ⟨H3, HQ3, by rw [List.length_append, List.length_singleton]; omega, by omega, hj, ho, hc⟩, fr_tr fM1 (fr_tr (fr_mono f2 (fun b k h => rR_qA h)) (fr_mono f3 (fun b k h => qF1_qA h)))⟩
              rw [h0]
        · rw [if_neg g4] at h0 hwf
          rw [if_pos (by rw [hwf]; omega)]
          have hw0 : wof Z n j s t 0 8 = whv Z n j s t := by
            unfold wof at g4 ⊢
            by_cases g5 : 0 ≤ whv Z n j s t ∧ whv Z n j s t < 8 ∧ alq j (whv Z n j s t) = true
            · rw [if_pos g5]
            · rw [if_neg g5] at g4
              exact absurd rfl g4
          obtain ⟨M2, r2, H2, f2⟩ := m_asksWord (st := .inr (s, t, [])) (mQ_P H1) (k := wof Z n j s t 0 8) (by omega) (by omega) (d + 2)
          have hisW := whv_wcn (Z := Z) (n := n) (j := j) (s := s) (t := t) (by omega)
          have hk : tkW Z n (wcn (wof Z n j s t 0 8)) (.inr (s, t, [])) = .inr (ns Z n s, nt Z n s, []) := by
            rw [hw0]
            exact if_pos hisW
          rw [hk] at H2
          have HQ2 := qH_rR HQ1 f2
          have S2 := (mP_S H2).1
          obtain ⟨M3, r3, S3, HQ3, f3⟩ := m_emit S2 HQ2 (by omega) (40 + wof Z n j s t 0 8) (d + 6)
          have H3 := mP_F1 H2 S3 f3
          have hnb := ns_bd (Z := Z) (isW_lt hisW)
          rw [am_ob_p (kk_187 S1), r2, am_bV_p, t243_212, am_br_eq (by omega) (by omega) (by omega) (by omega), if_neg g4, am_ob_p (kk_187 S2), am_i_add, r3, am_bV_p, am_ob_p (kk_187 S3)] at h0
          rw [hwf]
          exact ⟨M3, h0, ⟨H3, HQ3, by rw [List.length_append, List.length_singleton]; omega, by omega, hj, ho, hc⟩, fr_tr fM1 (fr_tr (fr_mono f2 (fun b k h => rR_qA h)) (fr_mono f3 (fun b k h => qF1_qA h)))⟩
