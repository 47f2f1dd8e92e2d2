/-! The class reads a question. -/
theorem rS_3 {L : Nat} {q : am_Pq} {Z : Nat → Nat → Int} {n B : Nat} {fm : Int} {o : Nat} {M : am_M} {st : am_PS} (H : rS L q Z n B fm o M st) (v : Int32) : rS L q Z n B fm o (am_sI M 3 3 v) st := by
  refine ⟨?_, rT_16 H.1.2.1 H.2 3 (by omega) v⟩
  obtain ⟨S, hq, hn, hT, hw, e6, eF, eo, hB, hz⟩ := H.1
  exact ⟨S.sI _ _ _, hq, hn, fun k hk => by rw [am_I_ne1 (by decide)]; exact hT k hk, hw, by rw [am_I_ne2 (by decide)]; exact e6, by rw [am_I_ne2 (by decide)]; exact eF, by rw [am_I_ne2 (by decide)]; exact eo, hB, hz⟩
/-- a method of the class's reader, behind a fault -/
def CdE (L : Nat) (q : am_Pq) (Z : Nat → Nat → Int) (n B : Nat) (fm : Int) (mid o D : Nat) : Prop := ∀ (M : am_M) (e : Int × Int), rS L q Z n B fm o M (.inl e) → ∀ d, D ≤ d → ∃ M', am_cl mid d [.ref 3] M = some (none, M') ∧ rS L q Z n B fm o M' (.inl e) ∧ fr (pRd q B) M M'
theorem c_isGE {L : Nat} {q : am_Pq} {Z : Nat → Nat → Int} {n B : Nat} {fm : Int} {o : Nat} {M : am_M} {e : Int × Int} (H : rS L q Z n B fm o M (.inl e)) (c : Int) (hc : 0 ≤ c ∧ c ≤ 1000) (d : Nat) : am_cl 103 d [.ref 3, .int (am_i c)] M = some (some (.int (am_i 0)), M) := c_isG H hc d
theorem c_isWE {L : Nat} {q : am_Pq} {Z : Nat → Nat → Int} {n B : Nat} {fm : Int} {o : Nat} {M : am_M} {e : Int × Int} (H : rS L q Z n B fm o M (.inl e)) (c : Int) (hc : 0 ≤ c ∧ c ≤ 1000) (d : Nat) : am_cl 102 d [.ref 3, .int (am_i c)] M = some (some (.int (am_i 0)), M) := c_isW H hc d
theorem c_partE {L : Nat} {q : am_Pq} {Z : Nat → Nat → Int} {n B : Nat} {fm : Int} {o : Nat} : CdE L q Z n B fm 123 o 1 := by
  intro M e H d hd
  obtain ⟨d, rfl⟩ : ∃ d', d = d' + 1 := ⟨d - 1, by omega⟩
  have S := H.1.1
  have e8 : am_I M 3 8 = am_i 4 := H.2.2.2.2.1
  obtain ⟨M1, r1, H1, f1⟩ := c_fl H (c := 1) (by omega) d
  refine ⟨M1, ?_, H1, f1⟩
  rw [t123, am_ob_p (kk_3 S), e8, am_br_ne (by omega) (by omega) (by omega) (by omega), if_neg (by omega), am_ob_p (kk_3 S), c_isGE H 40 (by omega), am_bI_p, am_br_eq (by omega) (by omega) (by omega) (by omega), if_pos rfl, am_ob_p (kk_3 S), c_isWE H 27 (by omega), am_bI_p, am_br_ne (by omega) (by omega) (by omega) (by omega), if_pos rfl, am_ob_p (kk_3 S), c_isWE H 28 (by omega), am_bI_p, am_br_eq (by omega) (by omega) (by omega) (by omega), if_pos rfl, am_ob_p (kk_3 S), c_isWE H 18 (by omega), am_bI_p, am_br_eq (by omega) (by omega) (by omega) (by omega), if_pos rfl, t123_154, am_ob_p (kk_3 S), e8, am_br_ne (by omega) (by omega) (by omega) (by omega), if_neg (by omega), am_ob_p (kk_3 S), am_ob_p (kk_3 S), r1, am_bV_p]
theorem c_prodE {L : Nat} {q : am_Pq} {Z : Nat → Nat → Int} {n B : Nat} {fm : Int} {o : Nat} : CdE L q Z n B fm 122 o 2 := by
  intro M e H d hd
  obtain ⟨d, rfl⟩ : ∃ d', d = d' + 1 := ⟨d - 1, by omega⟩
  have hn : n ≤ 1600 := H.1.2.2.1
  obtain ⟨M1, r1, H1, f1⟩ := c_partE M e H d (by omega)
  have S1 := H1.1.1
  refine ⟨M1, ?_, H1, f1⟩
  rw [t122, am_ob_p (kk_3 H.1.1), r1, am_bV_p, t122_6, am_ob_p (kk_3 S1), H1.1.2.2.2.2.2.1, am_br_gt (by omega) (by omega) (by omega) (by omega), if_neg (by omega), am_ob_p (kk_3 S1), c_isGE H1 42 (by omega), am_bI_p, am_br_ne (by omega) (by omega) (by omega) (by omega), if_pos rfl, am_ob_p (kk_3 S1), c_isGE H1 47 (by omega), am_bI_p, am_br_eq (by omega) (by omega) (by omega) (by omega), if_pos rfl]
theorem c_sumE {L : Nat} {q : am_Pq} {Z : Nat → Nat → Int} {n B : Nat} {fm : Int} {o : Nat} : CdE L q Z n B fm 121 o 3 := by
  intro M e H d hd
  obtain ⟨d, rfl⟩ : ∃ d', d = d' + 1 := ⟨d - 1, by omega⟩
  have hn : n ≤ 1600 := H.1.2.2.1
  obtain ⟨M1, r1, H1, f1⟩ := c_prodE M e H d (by omega)
  have S1 := H1.1.1
  refine ⟨M1, ?_, H1, f1⟩
  rw [t121, am_ob_p (kk_3 H.1.1), r1, am_bV_p, t121_6, am_ob_p (kk_3 S1), H1.1.2.2.2.2.2.1, am_br_gt (by omega) (by omega) (by omega) (by omega), if_neg (by omega), am_ob_p (kk_3 S1), c_isGE H1 43 (by omega), am_bI_p, am_br_ne (by omega) (by omega) (by omega) (by omega), if_pos rfl, am_ob_p (kk_3 S1), c_isGE H1 45 (by omega), am_bI_p, am_br_eq (by omega) (by omega) (by omega) (by omega), if_pos rfl]
theorem c_factE {L : Nat} {q : am_Pq} {Z : Nat → Nat → Int} {n B : Nat} {fm : Int} {o : Nat} : CdE L q Z n B fm 120 o 4 := by
  intro M e H d hd
  obtain ⟨d, rfl⟩ : ∃ d', d = d' + 1 := ⟨d - 1, by omega⟩
  obtain ⟨d, rfl⟩ : ∃ d', d = d' + 1 := ⟨d - 1, by omega⟩
  have S := H.1.1
  obtain ⟨M1, r1, H1, f1⟩ := c_sumE M e H (d + 1) (by omega)
  have S1 := H1.1.1
  obtain ⟨M2, r2, H2, f2⟩ := c_fl H1 (c := 1) (by omega) (d + 1)
  have H2 : rS L q Z n B fm o M2 (.inl e) := H2
  obtain ⟨M3, r3, H3, f3⟩ := c_nx H2 trivial d
  have H3 : rS L q Z n B fm o M3 (.inl e) := H3
  obtain ⟨M4, r4, H4, f4⟩ := c_sumE M3 e H3 (d + 1) (by omega)
  obtain ⟨M5, r5, H5, f5⟩ := c_pt H4 (c := 9) (x := 20011) (fun _ => rfl) (d + 1)
  refine ⟨M5, ?_, H5, fr_tr f1 (fr_tr f2 (fr_tr f3 (fr_tr f4 f5)))⟩
  rw [t120, am_ob_p (kk_3 S), c_isWE H 25 (by omega), am_bI_p, am_br_eq (by omega) (by omega) (by omega) (by omega), if_pos rfl, am_ob_p (kk_3 S), c_isGE H 91 (by omega), am_bI_p, am_br_eq (by omega) (by omega) (by omega) (by omega), if_pos rfl, am_ob_p (kk_3 S), c_isWE H 26 (by omega), am_bI_p, am_br_eq (by omega) (by omega) (by omega) (by omega), if_pos rfl, am_ob_p (kk_3 S), r1, am_bV_p, am_ob_p (kk_3 S1), c_isGE H1 60 (by omega), am_bI_p, am_br_eq (by omega) (by omega) (by omega) (by omega), if_pos rfl, am_ob_p (kk_3 S1), c_isGE H1 62 (by omega), am_bI_p, am_br_eq (by omega) (by omega) (by omega) (by omega), if_pos rfl, t120_137, am_br_ne (by omega) (by omega) (by omega) (by omega), if_pos rfl, am_ob_p (kk_3 S1), c_isGE H1 61 (by omega), am_bI_p, am_br_ne (by omega) (by omega) (by omega) (by omega), if_pos rfl, am_ob_p (kk_3 S1), am_ob_p (kk_3 S1), r2, am_bV_p, am_ob_p (kk_3 H2.1.1), r3, am_bV_p, am_ob_p (kk_3 H3.1.1), r4, am_bV_p, am_ob_p (kk_3 H4.1.1), r5, am_bV_p]
theorem c_bothE {L : Nat} {q : am_Pq} {Z : Nat → Nat → Int} {n B : Nat} {fm : Int} {o : Nat} : CdE L q Z n B fm 119 o 5 := by
  intro M e H d hd
  obtain ⟨d, rfl⟩ : ∃ d', d = d' + 1 := ⟨d - 1, by omega⟩
  have hn : n ≤ 1600 := H.1.2.2.1
  obtain ⟨M1, r1, H1, f1⟩ := c_factE M e H d (by omega)
  have S1 := H1.1.1
  refine ⟨M1, ?_, H1, f1⟩
  rw [t119, am_ob_p (kk_3 H.1.1), r1, am_bV_p, t119_6, am_ob_p (kk_3 S1), H1.1.2.2.2.2.2.1, am_br_gt (by omega) (by omega) (by omega) (by omega), if_neg (by omega), am_ob_p (kk_3 S1), c_isWE H1 24 (by omega), am_bI_p, am_br_eq (by omega) (by omega) (by omega) (by omega), if_pos rfl]
theorem c_testE {L : Nat} {q : am_Pq} {Z : Nat → Nat → Int} {n B : Nat} {fm : Int} {o : Nat} : CdE L q Z n B fm 118 o 6 := by
  intro M e H d hd
  obtain ⟨d, rfl⟩ : ∃ d', d = d' + 1 := ⟨d - 1, by omega⟩
  have hn : n ≤ 1600 := H.1.2.2.1
  obtain ⟨M1, r1, H1, f1⟩ := c_bothE M e H d (by omega)
  have S1 := H1.1.1
  refine ⟨M1, ?_, H1, f1⟩
  rw [t118, am_ob_p (kk_3 H.1.1), r1, am_bV_p, t118_6, am_ob_p (kk_3 S1), H1.1.2.2.2.2.2.1, am_br_gt (by omega) (by omega) (by omega) (by omega), if_neg (by omega), am_ob_p (kk_3 S1), c_isWE H1 23 (by omega), am_bI_p, am_br_eq (by omega) (by omega) (by omega) (by omega), if_pos rfl]
/-- the reading of a question, its end not yet looked at -/
def aQr (Z : Nat → Nat → Int) (n : Nat) : am_PS := if fw Z n (sk Z n 0) false < 29 then .inl (1, (sk Z n 0 : Int)) else if 31 < fw Z n (sk Z n 0) false then rSum Z n 0 3 6 (nx Z n (.inr (sk Z n 0, false, []))) else rTest Z n 0 3 6 (nx Z n (.inr (sk Z n 0, false, [])))
theorem aQ_r (Z : Nat → Nat → Int) (n : Nat) : aQ Z n = match aQr Z n with
    | .inl e => .inl e
    | .inr (s, t, F) => if kd Z n s t = 0 then .inr (fw Z n (sk Z n 0) false, F) else .inl (1, (s : Int)) := by
  unfold aQ aQr
  by_cases g : fw Z n (sk Z n 0) false < 29
  · rw [if_pos g, if_pos g]
  · rw [if_neg g, if_neg g]
    rfl
/-- who answers with the steps of questions in his hand -/
def qQ (q : am_Pq) : am_Pq := (q.1, 29, q.2.2.1, q.2.2.2)
theorem c_quest0 {L : Nat} {q : am_Pq} {Z : Nat → Nat → Int} {M : am_M} (S : am_Sh L q M) (hT : ∀ k, k < 1600 → am_I M 30 k = am_i (Z 0 k)) (hz : ∀ k, 0 ≤ Z 0 k ∧ Z 0 k ≤ 255) (hw : cWw M) {n : Nat} (hn : n ≤ 1600) (d : Nat) : ∃ M' fm o, am_cl 97 (d + 61) [.ref 3, .int (am_i (n : Int))] M = am_ev 97 (d + 61) 77 [.ref 3, .int (am_i (n : Int))] [] M' ∧ rS L (qQ q) Z n 0 fm o M' (aQr Z n) ∧ am_I M' 3 3 = am_i (fw Z n (sk Z n 0) false) ∧ fr (fun b _ => b = 3 ∨ b = 29) M M' := by
  obtain ⟨M2, fm, o, r2, H2, f2⟩ := c_start S (Z := Z) hT hz hw hn (v := 29) (by omega) (d + 58)
  have H2 : rS L (qQ q) Z n 0 fm o M2 (.inr (sk Z n 0, false, [])) := H2
  have S2 := H2.1.1
  obtain ⟨e8, e9, e10, e12⟩ := H2.2.2.2.2.1
  obtain ⟨w, hwd⟩ : ∃ w, w = fw Z n (sk Z n 0) false := ⟨_, rfl⟩
  have hwb := fw_bd Z n (sk Z n 0) false
  have hkb := kd_bd Z n (sk Z n 0) false
  rw [← hwd] at hwb ⊢
  have h26 : am_cl 97 (d + 60 + 1) [.ref 3, .int (am_i (n : Int))] M = am_ev 97 (d + 60 + 1) 26 [.ref 3, .int (am_i (n : Int))] [.int (am_i w), .ref 3] M2 := by
    have r2 : am_cl 98 (d + 60) [.ref 3, .int (am_i (n : Int)), .ref 29] M = some (none, M2) := r2
    rw [t97, am_ob_p (kk_3 S), rr_3_4 S, am_gr_p, am_ob_p (kk_3 S), r2, am_bV_p, am_ob_p (kk_3 S2), e8, am_br_ne (by omega) (by omega) (by omega) (by omega)]
    unfold fw at hwd
    by_cases g : kd Z n (sk Z n 0) false = 1
    · rw [if_pos g] at hwd
      rw [if_pos g, am_ob_p (kk_3 S2), (e12 g).2, ← hwd]
    · rw [if_neg g] at hwd
      rw [if_neg g, ← hwd]
  have hk1 : 29 ≤ w → kd Z n (sk Z n 0) false = 1 := fun h => by
    by_cases g : kd Z n (sk Z n 0) false = 1
    · exact g
    · rw [hwd] at h
      unfold fw at h
      rw [if_neg g] at h
      omega
  have H3 := rS_3 H2 (am_i w)
  have S3 := H3.1.1
  have e33 : am_I (am_sI M2 3 3 (am_i w)) 3 3 = am_i w := am_I_same _ _ _ _
  have f3 : fr (fun b _ => b = 3 ∨ b = 29) M (am_sI M2 3 3 (am_i w)) := fr_tr (fr_mono f2 (fun b k h => Or.inl h)) (fr_sI (Or.inl rfl))
  -- the fault, where the first word is none of the six
  obtain ⟨M4, h47, H4, e4, f4⟩ : ∃ M4, am_ev 97 (d + 60 + 1) 26 [.ref 3, .int (am_i (n : Int))] [.int (am_i w), .ref 3] M2 = am_ev 97 (d + 60 + 1) 47 [.ref 3, .int (am_i (n : Int))] [] M4 ∧ rS L (qQ q) Z n 0 fm o M4 (if w < 29 then .inl (1, (sk Z n 0 : Int)) else .inr (sk Z n 0, false, [])) ∧ am_I M4 3 3 = am_i w ∧ fr (fun b _ => b = 3 ∨ b = 29) M M4 := by
    have h0 := t97_26 (d + 60) M2 3 3 (.int (am_i (n : Int))) (am_i w)
    rw [am_ob_p (kk_3 S2), am_lt, am_ob_p (kk_3 S3), e33, am_br_ge (by omega) (by omega) (by omega) (by omega)] at h0
    by_cases g : w < 29
    · obtain ⟨M4, r4, H4, f4⟩ := c_fl H3 (c := 1) (by omega) (d + 60)
      rw [if_neg (by omega), am_ob_p (kk_3 S3), am_ob_p (kk_3 S3), r4, am_bV_p] at h0
      refine ⟨M4, h0, ?_, ((f4 3 3 (fun h => ?_)).1).trans e33, fr_tr f3 (fr_mono f4 (fun b k h => ?_))⟩
      · rw [if_pos g]; exact H4
      · rcases h with h | h
        · exact h.2 rfl
        · exact absurd h.1 (by show ¬ 3 = 29; decide)
      · exact h.elim (fun h => Or.inl h.1) (fun h => Or.inr h.1)
    · rw [if_pos (by omega)] at h0
      exact ⟨_, h0, by rw [if_neg g]; exact H3, e33, f3⟩
  have hk4 : tok3 Z n (if w < 29 then (.inl (1, (sk Z n 0 : Int)) : am_PS) else .inr (sk Z n 0, false, [])) := by
    by_cases g : w < 29
    · rw [if_pos g]; trivial
    · rw [if_neg g]
      have := hk1 (by omega)
      show 1 ≤ kd Z n (sk Z n 0) false ∧ kd Z n (sk Z n 0) false ≤ 3
      omega
  have nf : ∀ {M M'}, fr (pRd (qQ q) 0) M M' → am_I M' 3 3 = am_I M 3 3 := fun f => (f 3 3 (fun h => by
    rcases h with h | h
    · exact h.2 rfl
    · exact absurd h.1 (by show ¬ 3 = 29; decide))).1
  have f29 : ∀ {M M'}, fr (pRd (qQ q) 0) M M' → fr (fun b _ => b = 3 ∨ b = 29) M M' := fun f => fr_mono f (fun b k h => h.elim (fun h => Or.inl h.1) (fun h => Or.inr h.1))
  obtain ⟨M5, x5, r5, H5, -, f5⟩ := c_begin14 H4 hk4 w (.int (am_i (-1))) (d + 58)
  have r5 : am_ev 115 (d + 60) 14 [.ref 3, .int (am_i w), .int (am_i (-1))] [] M4 = some (some (.int x5), M5) := r5
  have S5 := H5.1.1
  have e5 := (nf f5).trans e4
  have r5' : am_cl 115 (d + 60) [.ref 3, .int (am_i w), .int (am_i (-1))] M4 = some (some (.int x5), M5) := by
    have h0 := t115 (d + 59) M4 3 (am_i w) (am_i (-1))
    rw [am_br_eq (by omega) (by omega) (by omega) (by omega), if_pos rfl] at h0
    exact h0.trans r5
  have h0 := t97_47 (d + 60) M4 3 (.int (am_i (n : Int)))
  rw [am_ob_p (kk_3 H4.1.1), am_ob_p (kk_3 H4.1.1), e4, r5', am_bI_p, am_ob_p (kk_3 S5), e5, am_br_gt (by omega) (by omega) (by omega) (by omega), am_ob_p (kk_3 S5), am_ob_p (kk_3 S5)] at h0
  unfold aQr
  rw [← hwd]
  by_cases g : w < 29
  · rw [if_pos g] at H5
    have H5 : rS L (qQ q) Z n 0 w 0 M5 (.inl (1, (sk Z n 0 : Int))) := H5
    obtain ⟨M6, r6, H6, f6⟩ := c_testE M5 _ H5 (d + 60) (by omega)
    rw [if_neg (by omega), r6, am_bV_p] at h0
    exact ⟨M6, w, 0, h26.trans (h47.trans h0), by rw [if_pos g]; exact H6, (nf f6).trans e5, fr_tr f4 (fr_tr (f29 f5) (f29 f6))⟩
  · rw [if_neg g] at H5
    have hj : jf 3 w := Or.inr (Or.inr (Or.inr ⟨rfl, by omega, by omega⟩))
    by_cases g2 : 31 < w
    · obtain ⟨M6, r6, H6, f6⟩ := c_rSum hj M5 _ H5 (d + 60) (by omega)
      rw [if_pos g2, r6, am_bV_p] at h0
      exact ⟨M6, w, 0, h26.trans (h47.trans h0), by rw [if_neg g, if_pos g2]; exact H6, (nf f6).trans e5, fr_tr f4 (fr_tr (f29 f5) (f29 f6))⟩
    · obtain ⟨M6, r6, H6, f6⟩ := c_rTest hj M5 _ H5 (d + 60) (by omega)
      rw [if_neg g2, r6, am_bV_p] at h0
      exact ⟨M6, w, 0, h26.trans (h47.trans h0), by rw [if_neg g, if_neg g2]; exact H6, (nf f6).trans e5, fr_tr f4 (fr_tr (f29 f5) (f29 f6))⟩
/-- what a question is read into -/
def qOut (M : am_M) : Sum (Int × Int) (Int × List Int) → Int → Prop
  | .inl e, x => x = 0 ∧ (1 ≤ e.1 ∧ e.1 ≤ 5) ∧ am_I M 3 0 = am_i e.1 ∧ am_I M 3 1 = am_i e.2
  | .inr (w, F), x => x = 1 ∧ am_I M 3 0 = am_i 0 ∧ am_I M 3 1 = am_i (-1) ∧ am_I M 3 3 = am_i w ∧ (∀ i, i < F.length → am_I M 29 i = am_i (cc (F.getD i 0))) ∧ am_I M 29 F.length = am_i 20000
theorem c_readQuestion {L : Nat} {q : am_Pq} {Z : Nat → Nat → Int} {M : am_M} (S : am_Sh L q M) (hT : ∀ k, k < 1600 → am_I M 30 k = am_i (Z 0 k)) (hz : ∀ k, 0 ≤ Z 0 k ∧ Z 0 k ≤ 255) (hw : cWw M) {n : Nat} (hn : n ≤ 1600) (d : Nat) : ∃ M' x, am_cl 97 (d + 61) [.ref 3, .int (am_i (n : Int))] M = some (some (.int (am_i x)), M') ∧ am_Sh L (qQ q) M' ∧ fr (fun b _ => b = 3 ∨ b = 29) M M' ∧ qOut M' (aQ Z n) x := by
  obtain ⟨M1, fm, o, r1, H1, e1, f1⟩ := c_quest0 S hT hz hw hn d
  have f29 : ∀ {M M'}, fr (pRd (qQ q) 0) M M' → fr (fun b _ => b = 3 ∨ b = 29) M M' := fun f => fr_mono f (fun b k h => h.elim (fun h => Or.inl h.1) (fun h => Or.inr h.1))
  have nf : ∀ {M M'}, fr (pRd (qQ q) 0) M M' → am_I M' 3 3 = am_I M 3 3 := fun f => (f 3 3 (fun h => by
    rcases h with h | h
    · exact h.2 rfl
    · exact absurd h.1 (by show ¬ 3 = 29; decide))).1
  obtain ⟨M2, r2, H2, f2⟩ := c_pt H1 (c := -2) (x := 20000) (fun _ => rfl) (d + 60)
  have S2 := H2.1.1
  have h0 := t97_77 (d + 60) M1 3 (.int (am_i (n : Int)))
  rw [am_ob_p (kk_3 H1.1.1), r2, am_bV_p, am_ob_p (kk_3 S2)] at h0
  -- a fault, behind all
  have bad : ∀ e M3, rS L (qQ q) Z n 0 fm o M3 (.inl e) → fr (pRd (qQ q) 0) M2 M3 → aQ Z n = .inl e → (am_ev 97 (d + 60 + 1) 77 [.ref 3, .int (am_i (n : Int))] [] M1 = am_ob M3 3 4 (am_br .ne (am_I M3 3 0) (am_i 0) (am_tr (am_i 0) (some (some (.int (am_i 0)), M3)) none) (am_tr (am_i 1) (some (some (.int (am_i 1)), M3)) none)) none) → ∃ M' x, am_cl 97 (d + 61) [.ref 3, .int (am_i (n : Int))] M = some (some (.int (am_i x)), M') ∧ am_Sh L (qQ q) M' ∧ fr (fun b _ => b = 3 ∨ b = 29) M M' ∧ qOut M' (aQ Z n) x := by
    intro e M3 H3 f3 ea h
    obtain ⟨k1, k2, k3, k4, -⟩ := H3.2
    rw [am_ob_p (kk_3 H3.1.1), k2, am_br_ne (by omega) (by omega) (by omega) (by omega), if_neg (by omega), am_tr_0] at h
    refine ⟨M3, 0, r1.trans h, H3.1.1, fr_tr f1 (fr_tr (f29 f2) (f29 f3)), ?_⟩
    rw [ea]
    exact ⟨rfl, k1, k2, k3⟩
  have hq := aQ_r Z n
  cases hr : aQr Z n with
  | inl e =>
    rw [hr] at H2 hq
    have H2 : rS L (qQ q) Z n 0 fm o M2 (.inl e) := H2
    obtain ⟨M3, r3, H3, f3⟩ := c_fl H2 (c := 1) (by omega) (d + 60)
    have H3 : rS L (qQ q) Z n 0 fm o M3 (.inl e) := H3
    rw [H2.2.2.2.2.1, am_br_eq (by omega) (by omega) (by omega) (by omega), if_neg (by omega), am_ob_p (kk_3 S2), am_ob_p (kk_3 S2), r3, am_bV_p] at h0
    exact bad e M3 H3 f3 hq h0
  | inr y =>
    obtain ⟨s, t, F⟩ := y
    rw [hr] at H2 hq
    have hq : aQ Z n = if kd Z n s t = 0 then .inr (fw Z n (sk Z n 0) false, F) else .inl (1, (s : Int)) := hq
    have hkb := kd_bd Z n s t
    have e8 : am_I M2 3 8 = am_i (kd Z n s t) := by
      have h8 := H2.2
      have h8 : rT (qQ q) Z n 0 M2 (.inr (s, t, if 0 + F.length < 1600 then F ++ [-2] else F)) := h8
      exact h8.2.2.2.1.1
    rw [e8, am_br_eq (by omega) (by omega) (by omega) (by omega)] at h0
    by_cases g : kd Z n s t = 0
    · rw [if_pos g] at h0 hq
      have ho := aQ_ok hn hq
      have H2 : rS L (qQ q) Z n 0 fm o M2 (.inr (s, t, if 0 + F.length < 1600 then F ++ [-2] else F)) := H2
      rw [if_pos (by omega)] at H2
      obtain ⟨k1, k2, k3, k4, k5, k6, k7⟩ := H2.2
      rw [am_ob_p (kk_3 S2), k2, am_br_ne (by omega) (by omega) (by omega) (by omega), if_pos rfl, am_tr_1] at h0
      refine ⟨M2, 1, r1.trans h0, S2, fr_tr f1 (f29 f2), ?_⟩
      rw [hq]
      have hl : (F ++ [(-2 : Int)]).length = F.length + 1 := by simp
      refine ⟨rfl, k2, k3, (nf f2).trans e1, fun i hi => ?_, ?_⟩
      · have := k7 i (by rw [hl]; omega)
        rw [Nat.zero_add, List.getD_eq_getElem?_getD, List.getElem?_append_left hi, ← List.getD_eq_getElem?_getD] at this
        exact this
      · have := k7 F.length (by rw [hl]; omega)
        rw [Nat.zero_add, List.getD_eq_getElem?_getD, List.getElem?_append_right (Nat.le_refl _), Nat.sub_self] at this
        exact this
    · rw [if_neg g] at h0 hq
      obtain ⟨M3, r3, H3, f3⟩ := c_fl H2 (c := 1) (by omega) (d + 60)
      have H3 : rS L (qQ q) Z n 0 fm o M3 (.inl (1, (s : Int))) := H3
      rw [am_ob_p (kk_3 S2), am_ob_p (kk_3 S2), r3, am_bV_p] at h0
      exact bad _ M3 H3 f3 hq h0
