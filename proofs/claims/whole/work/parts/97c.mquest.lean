/-! The reference reads a question. -/
theorem isW_fw {Z : Nat → Nat → Int} {n : Nat} {c : Int} {s : Nat} {t : Bool} {l : List Int} (hc : 0 ≤ c) : isW Z n c (.inr (s, t, l)) = true ↔ fw Z n s t = c := by
  unfold fw
  constructor
  · intro h
    have := of_decide_eq_true h
    rw [if_pos this.1]
    exact this.2
  · intro h
    by_cases g : kd Z n s t = 1
    · rw [if_pos g] at h
      exact decide_eq_true ⟨g, h⟩
    · rw [if_neg g] at h
      omega
/-- the kind of a question, by its first word -/
def qkd (w : Int) : Int := if 29 ≤ w ∧ w ≤ 33 then w - 29 else 5
theorem qkd_bd (w : Int) : 0 ≤ qkd w ∧ qkd w ≤ 5 := by
  unfold qkd
  split <;> omega
theorem m_qKind {L : Nat} {q : am_Pq} {Z : Nat → Nat → Int} {n : Nat} {M : am_M} {s : Nat} {t : Bool} (H : mP L q Z n M s t) (d : Nat) : ∃ M', am_cl 258 (d + 4) [.ref 187] M = some (some (.int (am_i (qkd (fw Z n s t)))), M') ∧ mS L q Z n M' (if fw Z n s t < 29 then .inl (1, (s : Int)) else .inr (ns Z n s, nt Z n s, [])) ∧ fr rR M M' := by
  have S := (mP_S H).1
  have hwb := fw_bd Z n s t
  have rr : ∀ b k, (b = 187 ∧ (k = 2 ∨ k = 4)) → rR b k := fun b k h => ⟨h.1, Or.inl (by omega)⟩
  have h0 := t258 (d + 3) M 187
  obtain ⟨M1, r1, n1, y1, f1⟩ := m_takeA H 0 29 (by omega) (by omega) (by decide +kernel) (r := 237) rfl (c := 29) rfl (d + 1)
  rw [am_ob_p (kk_187 S), rr_187_71 S, am_gr_p, am_ob_p (kk_187 S), r1, am_bI_p, am_br_eq (by split <;> omega) (by split <;> omega) (by omega) (by omega)] at h0
  by_cases g1 : isW Z n 29 (.inr (s, t, [])) = true
  · have e := (isW_fw (by omega)).mp g1
    rw [if_pos g1, if_neg (by omega), t258_76, am_br_ne (by omega) (by omega) (by omega) (by omega), if_neg (by omega)] at h0
    rw [e, show qkd 29 = 0 from by decide, if_neg (by omega)]
    exact ⟨M1, h0, y1 g1, fr_mono f1 rr⟩
  rw [if_neg g1, if_pos rfl] at h0
  have H1 := mQ_P (n1 g1)
  have S1 := (mP_S H1).1
  obtain ⟨M2, r2, n2, y2, f2⟩ := m_takeA H1 1 30 (by omega) (by omega) (by decide +kernel) (r := 238) rfl (c := 30) rfl (d + 1)
  rw [am_ob_p (kk_187 S1), rr_187_72 S1, am_gr_p, am_ob_p (kk_187 S1), r2, am_bI_p, am_br_eq (by split <;> omega) (by split <;> omega) (by omega) (by omega)] at h0
  by_cases g2 : isW Z n 30 (.inr (s, t, [])) = true
  · have e := (isW_fw (by omega)).mp g2
    rw [if_pos g2, if_neg (by omega), t258_76, am_br_ne (by omega) (by omega) (by omega) (by omega), if_neg (by omega)] at h0
    rw [e, show qkd 30 = 1 from by decide, if_neg (by omega)]
    exact ⟨M2, h0, y2 g2, fr_tr (fr_mono f1 rr) (fr_mono f2 rr)⟩
  rw [if_neg g2, if_pos rfl] at h0
  have H2 := mQ_P (n2 g2)
  have S2 := (mP_S H2).1
  obtain ⟨M3, r3, n3, y3, f3⟩ := m_takeA H2 2 31 (by omega) (by omega) (by decide +kernel) (r := 239) rfl (c := 31) rfl (d + 1)
  rw [am_ob_p (kk_187 S2), rr_187_73 S2, am_gr_p, am_ob_p (kk_187 S2), r3, am_bI_p, am_br_eq (by split <;> omega) (by split <;> omega) (by omega) (by omega)] at h0
  by_cases g3 : isW Z n 31 (.inr (s, t, [])) = true
  · have e := (isW_fw (by omega)).mp g3
    rw [if_pos g3, if_neg (by omega), t258_76, am_br_ne (by omega) (by omega) (by omega) (by omega), if_neg (by omega)] at h0
    rw [e, show qkd 31 = 2 from by decide, if_neg (by omega)]
    exact ⟨M3, h0, y3 g3, fr_tr (fr_mono f1 rr) (fr_tr (fr_mono f2 rr) (fr_mono f3 rr))⟩
  rw [if_neg g3, if_pos rfl] at h0
  have H3 := mQ_P (n3 g3)
  have S3 := (mP_S H3).1
  obtain ⟨M4, r4, n4, y4, f4⟩ := m_takeA H3 3 32 (by omega) (by omega) (by decide +kernel) (r := 240) rfl (c := 32) rfl (d + 1)
  rw [am_ob_p (kk_187 S3), rr_187_74 S3, am_gr_p, am_ob_p (kk_187 S3), r4, am_bI_p, am_br_eq (by split <;> omega) (by split <;> omega) (by omega) (by omega)] at h0
  by_cases g4 : isW Z n 32 (.inr (s, t, [])) = true
  · have e := (isW_fw (by omega)).mp g4
    rw [if_pos g4, if_neg (by omega), t258_76, am_br_ne (by omega) (by omega) (by omega) (by omega), if_neg (by omega)] at h0
    rw [e, show qkd 32 = 3 from by decide, if_neg (by omega)]
    exact ⟨M4, h0, y4 g4, fr_tr (fr_mono f1 rr) (fr_tr (fr_mono f2 rr) (fr_tr (fr_mono f3 rr) (fr_mono f4 rr)))⟩
  rw [if_neg g4, if_pos rfl] at h0
  have H4 := mQ_P (n4 g4)
  have S4 := (mP_S H4).1
  obtain ⟨M5, r5, n5, y5, f5⟩ := m_takeA H4 4 33 (by omega) (by omega) (by decide +kernel) (r := 241) rfl (c := 33) rfl (d + 1)
  rw [am_ob_p (kk_187 S4), rr_187_75 S4, am_gr_p, am_ob_p (kk_187 S4), r5, am_bI_p, am_br_eq (by split <;> omega) (by split <;> omega) (by omega) (by omega)] at h0
  by_cases g5 : isW Z n 33 (.inr (s, t, [])) = true
  · have e := (isW_fw (by omega)).mp g5
    rw [if_pos g5, if_neg (by omega), t258_76, am_br_ne (by omega) (by omega) (by omega) (by omega), if_neg (by omega)] at h0
    rw [e, show qkd 33 = 4 from by decide, if_neg (by omega)]
    exact ⟨M5, h0, y5 g5, fr_tr (fr_mono f1 rr) (fr_tr (fr_mono f2 rr) (fr_tr (fr_mono f3 rr) (fr_tr (fr_mono f4 rr) (fr_mono f5 rr))))⟩
  rw [if_neg g5, if_pos rfl] at h0
  have H5 := mQ_P (n5 g5)
  have S5 := (mP_S H5).1
  obtain ⟨M6, r6, H6, f6⟩ := m_asksA (st := .inr (s, t, [])) (show mS L q Z n M5 (.inr (s, t, [])) from H5) 5 34 (by omega) (by omega) (by decide +kernel) (r := 242) rfl (c := 34) rfl (d)
  have hne : ∀ c : Int, 0 ≤ c → ¬ isW Z n c (.inr (s, t, [])) = true → fw Z n s t ≠ c := fun c hc g e => g ((isW_fw hc).mpr e)
  have k1 := hne 29 (by omega) g1
  have k2 := hne 30 (by omega) g2
  have k3 := hne 31 (by omega) g3
  have k4 := hne 32 (by omega) g4
  have k5 := hne 33 (by omega) g5
  have hk : qkd (fw Z n s t) = 5 := if_neg (by omega)
  rw [t258_76, am_br_ne (by omega) (by omega) (by omega) (by omega), if_pos rfl, am_ob_p (kk_187 S5), rr_187_76 S5, am_gr_p, am_ob_p (kk_187 S5), r6, am_bV_p] at h0
  rw [hk]
  refine ⟨M6, h0, ?_, fr_tr (fr_mono f1 rr) (fr_tr (fr_mono f2 rr) (fr_tr (fr_mono f3 rr) (fr_tr (fr_mono f4 rr) (fr_tr (fr_mono f5 rr) (f6)))))⟩
  unfold tkW at H6
  by_cases g : isW Z n 34 (.inr (s, t, [])) = true
  · have e := (isW_fw (by omega)).mp g
    rw [if_pos g] at H6
    rw [e, if_neg (by omega)]
    exact H6
  · have e := hne 34 (by omega) g
    rw [if_neg g] at H6
    rw [if_pos (by omega)]
    exact H6
/-- what the reference has of a question -/
def mqOut (L : Nat) (q : am_Pq) (Z : Nat → Nat → Int) (n : Nat) (M : am_M) (k : Int) : Sum (Int × Int) (Int × List Int) → Prop
  | .inl e => mFa L q Z n M e
  | .inr (w, F) => k = w - 29 ∧ am_Sh L q M ∧ am_I M 187 5 = am_i 0 ∧ am_I M 187 6 = am_i (-1) ∧ am_I M 187 92 = am_i (F.length : Int) ∧ ∀ i, i < F.length → am_I M 257 i = am_i (F.getD i 0)
/-- what the reference's asking writes, ahead of its answer -/
def pAq (b k : Nat) : Prop := b = 257 ∨ b = 258 ∨ (b = 187 ∧ ((1 ≤ k ∧ k ≤ 6) ∨ k = 39 ∨ k = 53 ∨ k = 92 ∨ k = 94 ∨ k = 95 ∨ k = 96))
theorem m_askRead {L : Nat} {q : am_Pq} {Z : Nat → Nat → Int} {M : am_M} (S : am_Sh L q M) {p : Int} (hp : am_cl 163 598 [.ref 187, .int (am_i p)] M = some (some (.int (am_i 1)), M)) (hT : ∀ k, k < 1600 → am_I M 188 k = am_i (Z 0 k)) (hz : ∀ k, 0 ≤ Z 0 k ∧ Z 0 k ≤ 255) (hw : mWw M) {n : Nat} (hn : n ≤ 1600) (e1 : am_I M 187 1 = am_i (n : Int)) : ∃ M' k, am_cl 260 599 [.ref 187, .int (am_i p)] M = am_ev 260 599 134 [.ref 187, .int (am_i p), .int (am_i k), .null] [] M' ∧ (0 ≤ k ∧ k ≤ 5) ∧ mqOut L q Z n M' k (aQ Z n) ∧ am_I M' 187 1 = am_i 0 ∧ fr pAq M M' := by
  have S1 := S.sI 187 3 (am_i (n : Int))
  have S2 := S1.sI 187 1 (am_i 0)
  have S3 := S2.sI 187 2 (am_i 0)
  have S4 := S3.sI 187 4 (am_i (-1))
  have S5 := S4.sI 187 5 (am_i 0)
  have S6 := S5.sI 187 6 (am_i (-1))
  have S7 := S6.sI 187 53 (am_i 3)
  have S8 := S7.sI 187 92 (am_i 0)
  have S9 := S8.sI 187 94 (am_i 0)
  have S10 := S9.sI 187 95 (am_i 0)
  have S11 := S10.sI 187 96 (am_i 0)
  obtain ⟨MB, hMB⟩ : ∃ MB, MB = am_sI (am_sI (am_sI (am_sI (am_sI (am_sI (am_sI (am_sI (am_sI (am_sI (am_sI M 187 3 (am_i (n : Int))) 187 1 (am_i 0)) 187 2 (am_i 0)) 187 4 (am_i (-1))) 187 5 (am_i 0)) 187 6 (am_i (-1))) 187 53 (am_i 3)) 187 92 (am_i 0)) 187 94 (am_i 0)) 187 95 (am_i 0)) 187 96 (am_i 0) := ⟨_, rfl⟩
  have SB := S11
  rw [← hMB] at SB
  have fB : fr pAq M MB := by
    rw [hMB]
    exact fr_tr (fr_sI (by unfold pAq; omega)) (fr_tr (fr_sI (by unfold pAq; omega)) (fr_tr (fr_sI (by unfold pAq; omega)) (fr_tr (fr_sI (by unfold pAq; omega)) (fr_tr (fr_sI (by unfold pAq; omega)) (fr_tr (fr_sI (by unfold pAq; omega)) (fr_tr (fr_sI (by unfold pAq; omega)) (fr_tr (fr_sI (by unfold pAq; omega)) (fr_tr (fr_sI (by unfold pAq; omega)) (fr_tr (fr_sI (by unfold pAq; omega)) (fr_sI (by unfold pAq; omega)))))))))))
  have g3 : am_I MB 187 3 = am_i (n : Int) := by rw [hMB, am_I_ne2 (by omega), am_I_ne2 (by omega), am_I_ne2 (by omega), am_I_ne2 (by omega), am_I_ne2 (by omega), am_I_ne2 (by omega), am_I_ne2 (by omega), am_I_ne2 (by omega), am_I_ne2 (by omega), am_I_ne2 (by omega), am_I_same]
  have g1 : am_I MB 187 1 = am_i 0 := by rw [hMB, am_I_ne2 (by omega), am_I_ne2 (by omega), am_I_ne2 (by omega), am_I_ne2 (by omega), am_I_ne2 (by omega), am_I_ne2 (by omega), am_I_ne2 (by omega), am_I_ne2 (by omega), am_I_ne2 (by omega), am_I_same]
  have g2 : am_I MB 187 2 = am_i 0 := by rw [hMB, am_I_ne2 (by omega), am_I_ne2 (by omega), am_I_ne2 (by omega), am_I_ne2 (by omega), am_I_ne2 (by omega), am_I_ne2 (by omega), am_I_ne2 (by omega), am_I_ne2 (by omega), am_I_same]
  have g4 : am_I MB 187 4 = am_i (-1) := by rw [hMB, am_I_ne2 (by omega), am_I_ne2 (by omega), am_I_ne2 (by omega), am_I_ne2 (by omega), am_I_ne2 (by omega), am_I_ne2 (by omega), am_I_ne2 (by omega), am_I_same]
  have g5 : am_I MB 187 5 = am_i 0 := by rw [hMB, am_I_ne2 (by omega), am_I_ne2 (by omega), am_I_ne2 (by omega), am_I_ne2 (by omega), am_I_ne2 (by omega), am_I_ne2 (by omega), am_I_same]
  have g6 : am_I MB 187 6 = am_i (-1) := by rw [hMB, am_I_ne2 (by omega), am_I_ne2 (by omega), am_I_ne2 (by omega), am_I_ne2 (by omega), am_I_ne2 (by omega), am_I_same]
  have g53 : am_I MB 187 53 = am_i 3 := by rw [hMB, am_I_ne2 (by omega), am_I_ne2 (by omega), am_I_ne2 (by omega), am_I_ne2 (by omega), am_I_same]
  have g92 : am_I MB 187 92 = am_i 0 := by rw [hMB, am_I_ne2 (by omega), am_I_ne2 (by omega), am_I_ne2 (by omega), am_I_same]
  have g94 : am_I MB 187 94 = am_i 0 := by rw [hMB, am_I_ne2 (by omega), am_I_ne2 (by omega), am_I_same]
  have g95 : am_I MB 187 95 = am_i 0 := by rw [hMB, am_I_ne2 (by omega), am_I_same]
  have g96 : am_I MB 187 96 = am_i 0 := by rw [hMB, am_I_same]
  have HB : mP L q Z n MB (sk Z n 0) false := ⟨0, ⟨SB, fun k hk => by rw [(fB _ _ (by unfold pAq; omega)).1]; exact hT k hk, g2, g3, g5, Nat.zero_le _, hn⟩, rfl, ⟨⟨-1, g4, by omega, by omega, ⟨fun h => (by cases h), fun h => by omega⟩⟩, g6, mWw_mv hw (fun b k h => (fB _ _ (by unfold pAq; omega)).1), hz⟩⟩
  obtain ⟨M1, r1, H1, f1⟩ := m_qKind HB 594
  have r1 : am_cl 258 598 [.ref 187] MB = some (some (.int (am_i (qkd (fw Z n (sk Z n 0) false)))), M1) := r1
  obtain ⟨w, hwd⟩ : ∃ w, w = fw Z n (sk Z n 0) false := ⟨_, rfl⟩
  have hwb := fw_bd Z n (sk Z n 0) false
  have hkb := qkd_bd w
  rw [← hwd] at r1 H1 hwb
  have h0 := t260 598 M 187 (am_i p)
  rw [am_ob_p (kk_187 S), hp, am_bI_p, am_br_ne (by omega) (by omega) (by omega) (by omega), if_neg (by omega), am_ob_p (kk_187 S), am_ob_p (kk_187 S), e1, am_lt, am_ob_p (kk_187 S1), am_lt, am_ob_p (kk_187 S2), am_lt, am_ob_p (kk_187 S3), am_lt, am_ob_p (kk_187 S4), am_lt, am_ob_p (kk_187 S5), am_lt, am_ob_p (kk_187 S6), am_lt, am_ob_p (kk_187 S7), am_lt, am_ob_p (kk_187 S8), am_lt, am_ob_p (kk_187 S9), am_lt, am_ob_p (kk_187 S10), am_lt, ← hMB, am_ob_p (kk_187 SB), r1, am_bI_p] at h0
  have rq : ∀ b k, rR b k → pAq b k := fun b k h => by obtain ⟨h1, h2⟩ := h; unfold pAq; omega
  have qq : ∀ b k, qA b k → pAq b k := fun b k h => by unfold qA at h; unfold pAq; omega
  have fB1 : fr pAq M M1 := fr_tr fB (fr_mono f1 rq)
  have n1 : ∀ {M M'}, fr rR M M' → am_I M' 187 1 = am_I M 187 1 := fun f => (f 187 1 (fun h => by have := h.2; omega)).1
  have n1q : ∀ {M M'}, fr qA M M' → am_I M' 187 1 = am_I M 187 1 := fun f => (f 187 1 (by unfold qA; omega)).1
  have aq := aQ_r Z n
  by_cases g : w < 29
  · -- no word of a question
    rw [if_pos g] at H1
    have H1 : mFa L q Z n M1 (1, (sk Z n 0 : Int)) := H1
    rw [am_ob_p (kk_187 H1.1), (m_bad H1).1, am_ob_p (kk_187 H1.1), (m_bad H1).1, t260_110, am_ob_p (kk_187 H1.1), (m_bad H1).1] at h0
    have ar : aQr Z n = .inl (1, (sk Z n 0 : Int)) := by unfold aQr; rw [← hwd, if_pos g]
    rw [ar] at aq
    rw [aq]
    exact ⟨M1, qkd w, h0, hkb, H1, (n1 f1).trans g1, fB1⟩
  · rw [if_neg g] at H1
    have H1 : mP L q Z n M1 (ns Z n (sk Z n 0)) (nt Z n (sk Z n 0)) := H1
    have S1' := (mP_S H1).1
    have hk0 : kd Z n (sk Z n 0) false = 1 := by
      by_cases g2 : kd Z n (sk Z n 0) false = 1
      · exact g2
      · rw [hwd] at g
        unfold fw at g
        rw [if_neg g2] at g
        omega
    have hb := ns_bd (Z := Z) (kd_lt (show 1 ≤ kd Z n (sk Z n 0) false by omega))
    have HQ : qH M1 3 [] [] [] 0 := ⟨(f1 _ _ (fun h => by have := h.2; omega)).1.trans g53, (f1 _ _ (fun h => by have := h.2; omega)).1.trans g92, fun i hi => absurd hi (by show ¬ i < 0; omega), (f1 _ _ (fun h => by have := h.2; omega)).1.trans g94, trivial, (f1 _ _ (fun h => by have := h.2; omega)).1.trans g95, (f1 _ _ (fun h => by have := h.2; omega)).1.trans g96⟩
    have hqb : qb (ns Z n (sk Z n 0)) 3 [] [] [] 0 := ⟨by show 0 + 0 + 0 ≤ _; omega, by omega, by omega, by omega, fun c hc => by cases hc⟩
    rw [am_ob_p (kk_187 S1'), (m_ok H1).1, am_br_ge (by omega) (by omega) (by omega) (by omega)] at h0
    have hkw : 3 ≤ qkd w ↔ 31 < w := by unfold qkd; split <;> omega
    -- read
    obtain ⟨FR, hFR, key⟩ : ∃ FR, FR = aQr Z n ∧ ((∃ e M6, FR = .inl e ∧ am_cl 260 599 [.ref 187, .int (am_i p)] M = am_ev 260 599 110 [.ref 187, .int (am_i p), .int (am_i (qkd w)), .null] [] M6 ∧ mFa L q Z n M6 e ∧ fr qA M1 M6) ∨ (∃ s' t' F M6, FR = .inr (s', t', F) ∧ am_cl 260 599 [.ref 187, .int (am_i p)] M = am_ev 260 599 110 [.ref 187, .int (am_i p), .int (am_i (qkd w)), .null] [] M6 ∧ mP L q Z n M6 s' t' ∧ am_I M6 187 92 = am_i (F.length : Int) ∧ (∀ i, i < F.length → am_I M6 257 i = am_i (F.getD i 0)) ∧ fr qA M1 M6)) := by
      by_cases g2 : 31 < w
      · have ar : aQr Z n = rSum Z n 0 3 6 (.inr (ns Z n (sk Z n 0), nt Z n (sk Z n 0), [])) := by unfold aQr; rw [← hwd, if_neg g, if_pos g2, nx_inr]
        refine ⟨_, rfl, ?_⟩
        rw [ar]
        rw [if_pos (hkw.mpr g2), am_ob_p (kk_187 S1'), (m_ok H1).1] at h0
        have hm := m_sums (B := 0) (be := []) (fun c r e => (by cases e)) H1 (x := am_i 0) (⟨HQ.1, HQ.2.1, HQ.2.2.1, HQ.2.2.2.1, trivial, HQ.2.2.2.2.2.1, HQ.2.2.2.2.2.2⟩ : qH6 M1 3 [] [] 0 (am_i 0)) hqb (k := 6) rfl (by show 0 + 0 ≤ _; omega) 590
        have hm : qR L q Z n 3 [] (am_i 0) (am_cl 245 598 [.ref 187] M1) M1 (rsl 3 [] 0 (rSum Z n 0 3 6 (.inr (ns Z n (sk Z n 0), nt Z n (sk Z n 0), [])))) := hm
        cases hr : rSum Z n 0 3 6 (.inr (ns Z n (sk Z n 0), nt Z n (sk Z n 0), [])) with
        | inl e =>
          rw [hr] at hm
          obtain ⟨M6, r6, H6, f6⟩ := hm
          rw [am_ob_p (kk_187 S1'), r6, am_bV_p] at h0
          exact Or.inl ⟨e, M6, rfl, h0, H6.1, f6⟩
        | inr y =>
          obtain ⟨s', t', F⟩ := y
          rw [hr] at hm
          obtain ⟨M6, r6, H6, Q6, f6⟩ := hm
          rw [am_ob_p (kk_187 S1'), r6, am_bV_p] at h0
          exact Or.inr ⟨s', t', F, M6, rfl, h0, H6, Q6.2.1, Q6.2.2.1, f6⟩
      · have ar : aQr Z n = rTest Z n 0 3 6 (.inr (ns Z n (sk Z n 0), nt Z n (sk Z n 0), [])) := by unfold aQr; rw [← hwd, if_neg g, if_neg g2, nx_inr]
        refine ⟨_, rfl, ?_⟩
        rw [ar]
        rw [if_neg (fun h => g2 (hkw.mp h)), am_ob_p (kk_187 S1')] at h0
        have hm := m_test (B := 0) (show uC L q Z n 0 3 M1 (ns Z n (sk Z n 0)) (nt Z n (sk Z n 0)) [] [] 0 from ⟨H1, HQ, hqb, fun c hc => (by cases hc), by show 0 + 0 + 0 ≤ _; omega⟩) (k := 6) rfl 588
        have hm : uR L q Z n 3 (am_cl 249 598 [.ref 187] M1) M1 (rsl 3 [] 0 (rTest Z n 0 3 6 (.inr (ns Z n (sk Z n 0), nt Z n (sk Z n 0), [])))) := hm
        cases hr : rTest Z n 0 3 6 (.inr (ns Z n (sk Z n 0), nt Z n (sk Z n 0), [])) with
        | inl e =>
          rw [hr] at hm
          obtain ⟨M6, r6, H6, f6⟩ := hm
          rw [r6, am_bV_p] at h0
          exact Or.inl ⟨e, M6, rfl, h0, H6.1, f6⟩
        | inr y =>
          obtain ⟨s', t', F⟩ := y
          rw [hr] at hm
          obtain ⟨M6, r6, H6, Q6, f6⟩ := hm
          rw [r6, am_bV_p] at h0
          exact Or.inr ⟨s', t', F, M6, rfl, h0, H6, Q6.2.1, Q6.2.2.1, f6⟩
    rw [← hFR] at aq
    rcases key with ⟨e, M6, e6, h6, H6, f6⟩ | ⟨s', t', F, M6, e6, h6, H6, q92, q257, f6⟩
    · subst e6
      rw [t260_110, am_ob_p (kk_187 H6.1), (m_bad H6).1] at h6
      rw [aq]
      exact ⟨M6, qkd w, h6, hkb, H6, (n1q f6).trans ((n1 f1).trans g1), fr_tr fB1 (fr_mono f6 qq)⟩
    · subst e6
      have aq : aQ Z n = if kd Z n s' t' = 0 then .inr (fw Z n (sk Z n 0) false, F) else .inl (1, (s' : Int)) := aq
      rw [← hwd] at aq
      have S6 := (mP_S H6).1
      obtain ⟨M7, r7, H7, f7⟩ := m_lk H6 598
      have S7 := H7.1.1
      have hzs := hz s'
      have f7q : fr pAq M6 M7 := fr_mono f7 (fun b k h => by unfold pAq; omega)
      have e71 : am_I M7 187 1 = am_i 0 := (f7 _ _ (by omega)).1.trans ((n1q f6).trans ((n1 f1).trans g1))
      rw [t260_110, am_ob_p (kk_187 S6), (m_ok H6).1, am_ob_p (kk_187 S6), r7, am_bI_p, am_br_eq (by split <;> omega) (by split <;> omega) (by omega) (by omega)] at h6
      have hk := (kd_kinds Z n s' t').2.2.2
      by_cases g3 : s' < n
      · rw [if_pos g3, if_neg (by omega), am_ob_p (kk_187 S7), am_ob_p (kk_187 S7), mQ_at H7] at h6
        obtain ⟨M8, r8, H8, f8⟩ := m_fail (mQ_P H7) (c := 1) (p := (s' : Int)) (by omega) 598
        rw [r8, am_bV_p] at h6
        rw [if_neg (fun h => (hk.mp h) g3)] at aq
        rw [aq]
        exact ⟨M8, qkd w, h6, hkb, H8, ((f8 _ _ (by omega)).1).trans e71, fr_tr fB1 (fr_tr (fr_mono f6 qq) (fr_tr f7q (fr_mono f8 (fun b k h => by unfold pAq; omega))))⟩
      · rw [if_neg g3, if_pos rfl] at h6
        rw [if_pos (hk.mpr g3)] at aq
        rw [aq]
        refine ⟨M7, qkd w, h6, hkb, ⟨?_, S7, H7.1.2.2.2.2.1, H7.2.2.2.1, ?_, fun i hi => ?_⟩, e71, fr_tr fB1 (fr_tr (fr_mono f6 qq) f7q)⟩
        · unfold qkd
          split <;> omega
        · rw [(f7 _ _ (by omega)).1]; exact q92
        · rw [(f7 _ _ (by omega)).1]; exact q257 i hi
