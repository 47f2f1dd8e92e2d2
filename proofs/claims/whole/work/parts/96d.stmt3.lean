/-! The class: a statement. -/
def fw (Z : Nat → Nat → Int) (n s : Nat) (t : Bool) : Int := if kd Z n s t = 1 then wno Z s (te Z n s) else -1
theorem fw_bd (Z : Nat → Nat → Int) (n s : Nat) (t : Bool) : -1 ≤ fw Z n s t ∧ fw Z n s t < 35 := by
  unfold fw
  have := wno_bd Z s (te Z n s)
  split <;> omega
theorem sBod_bad {Z : Nat → Nat → Int} {n : Nat} {w : Int} {H : am_HS} {st : am_PS} (h : w ≠ 0 ∧ w ≠ 1 ∧ w ≠ 4 ∧ w ≠ 7 ∧ w ≠ 8 ∧ w ≠ 9 ∧ w ≠ 10 ∧ w ≠ 11 ∧ w ≠ 12 ∧ w ≠ 13 ∧ w ≠ 14 ∧ w ≠ 15) : sBod Z n w H st = .inl (1, psn st) := by
  unfold sBod
  rw [if_neg (by omega), if_neg (by omega), if_neg (by omega), if_neg (by omega), if_neg (by omega), if_neg (by omega), if_neg (by omega), if_neg (by omega), if_neg (by omega), if_neg (by omega), if_neg (by omega), if_neg (by omega)]
theorem c_stmt {L : Nat} {q : am_Pq} {Z : Nat → Nat → Int} {n : Nat} {fm : Int} {o : Nat} (hq : qh q) {M : am_M} {s0 : Nat} {t0 : Bool} {H : am_HS} (HR : rS L q Z n H.2.2.2.1 fm o M (.inr (s0, t0, []))) (HH : cHt M q.1 H) (hz : ∀ f, nM H.1 1 ≤ f → f < 8 → ∀ k, k < 6 → H.1 3 f k = 0) (hpr : 0 ≤ H.1 7 0 0 ∧ H.1 7 0 0 < ((2 ^ nM H.1 2 : Nat) : Int)) (hCs : H.2.2.2.1 ≤ s0) (d : Nat) : ∃ M', am_cl 108 (d + 60 + 1) [.ref 3] M = some (none, M') ∧ cAf L q Z n M' (sBod Z n (fw Z n s0 t0) H (.inr (s0, t0, []))) ∧ fr (pHs q) M M' := by
  have S := HR.1.1
  have hn := HR.1.2.2.1
  obtain ⟨e8, e9, e10, e12⟩ := HR.2.2.2.2.1
  obtain ⟨w, hw⟩ : ∃ w, w = fw Z n s0 t0 := ⟨_, rfl⟩
  have hwb := fw_bd Z n s0 t0
  rw [← hw] at hwb ⊢
  have hkb := kd_bd Z n s0 t0
  have hk1 : 0 ≤ w → kd Z n s0 t0 = 1 := fun h => by
    by_cases g : kd Z n s0 t0 = 1
    · exact g
    · rw [hw] at h
      unfold fw at h
      rw [if_neg g] at h
      omega
  have h0 : am_cl 108 (d + 60 + 1) [.ref 3] M = am_ev 108 (d + 60 + 1) 16 [.ref 3, .null] [.int (am_i w)] M := by
    rw [t108, am_ob_p (kk_3 S), e8, am_br_ne (by omega) (by omega) (by omega) (by omega)]
    by_cases g : kd Z n s0 t0 = 1
    · rw [if_pos g, am_ob_p (kk_3 S), (e12 g).2, hw]
      unfold fw
      rw [if_pos g]
    · rw [if_neg g, hw]
      unfold fw
      rw [if_neg g]
  obtain ⟨Mf, rf, Hf, ff⟩ := c_fl HR (c := 1) (by omega) (d + 60)
  have bad : sBod Z n w H (.inr (s0, t0, [])) = .inl (1, psn (.inr (s0, t0, []))) → am_cl 108 (d + 60 + 1) [.ref 3] M = am_ob M 3 4 (am_ob M 3 4 (am_bV (am_cl 99 (d + 60) [.ref 3, .int (am_i 1), .int (am_I M 3 9)] M) (fun M4 => some (none, M4))) none) none → ∃ M', am_cl 108 (d + 60 + 1) [.ref 3] M = some (none, M') ∧ cAf L q Z n M' (sBod Z n w H (.inr (s0, t0, []))) ∧ fr (pHs q) M M' := fun hS hc => by
    rw [am_ob_p (kk_3 S), am_ob_p (kk_3 S), rf, am_bV_p] at hc
    refine ⟨Mf, hc, ?_, fr_mono ff (fun b k h => pRd_pHs hq h)⟩
    rw [hS]
    exact ⟨_, _, _, Hf⟩
  replace h0 := h0.trans (t108_16 (d + 60) M 3 .null (am_i w))
  by_cases g0 : w = 0
  · rw [am_si_t g0] at h0
    have hS' : sBod Z n w H (.inr (s0, t0, [])) = sKind Z n H (.inr (s0, t0, [])) := by
      unfold sBod
      rw [if_pos g0]
    obtain ⟨M', v, r, H', f⟩ := c_kind hq HR (hk1 (by omega)) HH (d + 57)
    have r : am_cl 109 (d + 60) [.ref 3, .int (am_i 0), .int (am_i 6)] M = some (some (.int v), M') := r
    rw [am_ob_p (kk_3 S), r, am_bI_p] at h0
    exact ⟨M', h0, by rw [hS']; exact H', f⟩
  rw [am_si_f (by omega)] at h0
  by_cases g1 : w = 1
  · rw [am_si_t g1] at h0
    have hS' : sBod Z n w H (.inr (s0, t0, [])) = sFilm Z n H (.inr (s0, t0, [])) := by
      unfold sBod
      rw [if_neg (by omega), if_pos g1]
    obtain ⟨M', r, H', f⟩ := c_film hq HR (hk1 (by omega)) HH hz (d + 56)
    have r : am_cl 111 (d + 60) [.ref 3] M = some (none, M') := r
    rw [am_ob_p (kk_3 S), r, am_bV_p] at h0
    exact ⟨M', h0, by rw [hS']; exact H', f⟩
  rw [am_si_f (by omega)] at h0
  by_cases g2 : w = 2
  · rw [am_si_t g2] at h0
    exact bad (sBod_bad (by omega)) h0
  rw [am_si_f (by omega)] at h0
  by_cases g3 : w = 3
  · rw [am_si_t g3] at h0
    exact bad (sBod_bad (by omega)) h0
  rw [am_si_f (by omega)] at h0
  by_cases g4 : w = 4
  · rw [am_si_t g4] at h0
    have hS' : sBod Z n w H (.inr (s0, t0, [])) = sPerson Z n H (.inr (s0, t0, [])) := by
      unfold sBod
      rw [if_neg (by omega), if_neg (by omega), if_pos g4]
    obtain ⟨M', r, H', f⟩ := c_person hq HR (hk1 (by omega)) HH (d + 56)
    have r : am_cl 112 (d + 60) [.ref 3] M = some (none, M') := r
    rw [am_ob_p (kk_3 S), r, am_bV_p] at h0
    exact ⟨M', h0, by rw [hS']; exact H', f⟩
  rw [am_si_f (by omega)] at h0
  by_cases g5 : w = 5
  · rw [am_si_t g5] at h0
    exact bad (sBod_bad (by omega)) h0
  rw [am_si_f (by omega)] at h0
  by_cases g6 : w = 6
  · rw [am_si_t g6] at h0
    exact bad (sBod_bad (by omega)) h0
  rw [am_si_f (by omega)] at h0
  by_cases g7 : w = 7
  · rw [am_si_t g7] at h0
    have hS' : sBod Z n w H (.inr (s0, t0, [])) = sLikes Z n H (.inr (s0, t0, [])) := by
      unfold sBod
      rw [if_neg (by omega), if_neg (by omega), if_neg (by omega), if_pos g7]
    obtain ⟨M', r, H', f⟩ := c_likes hq HR (hk1 (by omega)) HH (d + 56)
    have r : am_cl 113 (d + 60) [.ref 3] M = some (none, M') := r
    rw [am_ob_p (kk_3 S), r, am_bV_p] at h0
    exact ⟨M', h0, by rw [hS']; exact H', f⟩
  rw [am_si_f (by omega)] at h0
  by_cases g8 : w = 8
  · rw [am_si_t g8] at h0
    have hS' : sBod Z n w H (.inr (s0, t0, [])) = sPress Z n H (.inr (s0, t0, [])) := by
      unfold sBod
      rw [if_neg (by omega), if_neg (by omega), if_neg (by omega), if_neg (by omega), if_pos g8]
    obtain ⟨M', r, H', f⟩ := c_press hq HR (hk1 (by omega)) HH hpr (d + 56)
    have r : am_cl 114 (d + 60) [.ref 3] M = some (none, M') := r
    rw [am_ob_p (kk_3 S), r, am_bV_p] at h0
    exact ⟨M', h0, by rw [hS']; exact H', f⟩
  rw [am_si_f (by omega)] at h0
  by_cases g9 : w = 9
  · rw [am_si_t g9] at h0
    have hS' : sBod Z n w H (.inr (s0, t0, [])) = sForm Z n 0 H (.inr (s0, t0, [])) := by
      unfold sBod
      rw [if_neg (by omega), if_neg (by omega), if_neg (by omega), if_neg (by omega), if_neg (by omega), if_pos g9]
    obtain ⟨M', r, H', f⟩ := c_form hq HR (hk1 (by omega)) HH hCs (j := 0) (by omega) (c_rSum (j := 0) (Or.inl ⟨rfl, by decide⟩)) (Gd_rSum hn (by omega) 6).1 (fun st => rfl) (x0 := am_i w) (by rw [g9]; rfl) d
    exact ⟨M', h0.trans r, by rw [hS']; exact H', f⟩
  rw [am_si_f (by omega)] at h0
  by_cases g10 : w = 10
  · rw [am_si_t g10] at h0
    have hS' : sBod Z n w H (.inr (s0, t0, [])) = sForm Z n 1 H (.inr (s0, t0, [])) := by
      unfold sBod
      rw [if_neg (by omega), if_neg (by omega), if_neg (by omega), if_neg (by omega), if_neg (by omega), if_neg (by omega), if_pos g10]
    obtain ⟨M', r, H', f⟩ := c_form hq HR (hk1 (by omega)) HH hCs (j := 1) (by omega) (c_rSum (j := 1) (Or.inr (Or.inl ⟨rfl, by decide⟩))) (Gd_rSum hn (by omega) 6).1 (fun st => rfl) (x0 := am_i w) (by rw [g10]; rfl) d
    exact ⟨M', h0.trans r, by rw [hS']; exact H', f⟩
  rw [am_si_f (by omega)] at h0
  by_cases g11 : w = 11
  · rw [am_si_t g11] at h0
    have hS' : sBod Z n w H (.inr (s0, t0, [])) = sForm Z n 2 H (.inr (s0, t0, [])) := by
      unfold sBod
      rw [if_neg (by omega), if_neg (by omega), if_neg (by omega), if_neg (by omega), if_neg (by omega), if_neg (by omega), if_neg (by omega), if_pos g11]
    obtain ⟨M', r, H', f⟩ := c_form hq HR (hk1 (by omega)) HH hCs (j := 2) (by omega) (c_rTest (j := 2) (Or.inr (Or.inr (Or.inl ⟨rfl, by decide⟩)))) (Gd_rTest hn (by omega) 6) (fun st => rfl) (x0 := am_i w) (by rw [g11]; rfl) d
    exact ⟨M', h0.trans r, by rw [hS']; exact H', f⟩
  rw [am_si_f (by omega)] at h0
  by_cases g12 : w = 12
  · rw [am_si_t g12] at h0
    have hS' : sBod Z n w H (.inr (s0, t0, [])) = sSet Z n 8 1 5 H (.inr (s0, t0, [])) := by
      unfold sBod
      rw [if_neg (by omega), if_neg (by omega), if_neg (by omega), if_neg (by omega), if_neg (by omega), if_neg (by omega), if_neg (by omega), if_neg (by omega), if_pos g12]
    obtain ⟨M', r, H', f⟩ := c_set hq HR (hk1 (by omega)) HH (i := 8) (by omega) (lo := 1) (hi' := 5) (by omega) (by omega) (d + 57)
    exact ⟨M', h0.trans ((am_ob_p (kk_3 S) _ _).trans r), by rw [hS']; exact H', f⟩
  rw [am_si_f (by omega)] at h0
  by_cases g13 : w = 13
  · rw [am_si_t g13] at h0
    have hS' : sBod Z n w H (.inr (s0, t0, [])) = sSet Z n 9 0 999 H (.inr (s0, t0, [])) := by
      unfold sBod
      rw [if_neg (by omega), if_neg (by omega), if_neg (by omega), if_neg (by omega), if_neg (by omega), if_neg (by omega), if_neg (by omega), if_neg (by omega), if_neg (by omega), if_pos g13]
    obtain ⟨M', r, H', f⟩ := c_set hq HR (hk1 (by omega)) HH (i := 9) (by omega) (lo := 0) (hi' := 999) (by omega) (by omega) (d + 57)
    exact ⟨M', h0.trans ((am_ob_p (kk_3 S) _ _).trans r), by rw [hS']; exact H', f⟩
  rw [am_si_f (by omega)] at h0
  by_cases g14 : w = 14
  · rw [am_si_t g14] at h0
    have hS' : sBod Z n w H (.inr (s0, t0, [])) = sSet Z n 10 0 99 H (.inr (s0, t0, [])) := by
      unfold sBod
      rw [if_neg (by omega), if_neg (by omega), if_neg (by omega), if_neg (by omega), if_neg (by omega), if_neg (by omega), if_neg (by omega), if_neg (by omega), if_neg (by omega), if_neg (by omega), if_pos g14]
    obtain ⟨M', r, H', f⟩ := c_set hq HR (hk1 (by omega)) HH (i := 10) (by omega) (lo := 0) (hi' := 99) (by omega) (by omega) (d + 57)
    exact ⟨M', h0.trans ((am_ob_p (kk_3 S) _ _).trans r), by rw [hS']; exact H', f⟩
  rw [am_si_f (by omega)] at h0
  by_cases g15 : w = 15
  · rw [am_si_t g15] at h0
    have hS' : sBod Z n w H (.inr (s0, t0, [])) = sSet Z n 11 0 100 H (.inr (s0, t0, [])) := by
      unfold sBod
      rw [if_neg (by omega), if_neg (by omega), if_neg (by omega), if_neg (by omega), if_neg (by omega), if_neg (by omega), if_neg (by omega), if_neg (by omega), if_neg (by omega), if_neg (by omega), if_neg (by omega), if_pos g15]
    obtain ⟨M', r, H', f⟩ := c_set hq HR (hk1 (by omega)) HH (i := 11) (by omega) (lo := 0) (hi' := 100) (by omega) (by omega) (d + 57)
    exact ⟨M', h0.trans ((am_ob_p (kk_3 S) _ _).trans r), by rw [hS']; exact H', f⟩
  rw [am_si_f (by omega)] at h0
  exact bad (sBod_bad (by omega)) h0
