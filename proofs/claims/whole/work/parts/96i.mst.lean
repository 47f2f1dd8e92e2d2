/-! The reference's house while it is told. -/
def vd (X : am_X) (a b c : Nat) : Prop := (a = 2 ∧ b < nM X 1 ∧ c = 0) ∨ (a = 3 ∧ b < nM X 1 ∧ c < 6) ∨ ((a = 4 ∨ a = 5) ∧ b < nM X 2 ∧ c = 0) ∨ (a = 6 ∧ b < 5 ∧ c < 6) ∨ (7 ≤ a ∧ a < 12 ∧ b = 0 ∧ c = 0)
def mad (a b c : Nat) : Nat × Nat := if a = 2 then (221, b) else if a = 3 then (222, 6 * b + c) else if a = 4 then (223, 2 * b) else if a = 5 then (223, 2 * b + 1) else if a = 6 then (224, 6 * b + c) else if a = 7 then (187, 46) else (225, a - 8)
theorem mad_c {X : am_X} {a b c : Nat} (h : vd X a b c) : (a = 2 ∧ (mad a b c).1 = 221 ∧ (mad a b c).2 = b) ∨ (a = 3 ∧ (mad a b c).1 = 222 ∧ (mad a b c).2 = 6 * b + c) ∨ (a = 4 ∧ (mad a b c).1 = 223 ∧ (mad a b c).2 = 2 * b) ∨ (a = 5 ∧ (mad a b c).1 = 223 ∧ (mad a b c).2 = 2 * b + 1) ∨ (a = 6 ∧ (mad a b c).1 = 224 ∧ (mad a b c).2 = 6 * b + c) ∨ (a = 7 ∧ (mad a b c).1 = 187 ∧ (mad a b c).2 = 46) ∨ (8 ≤ a ∧ a < 12 ∧ (mad a b c).1 = 225 ∧ (mad a b c).2 = a - 8) := by
  have ha : 2 ≤ a ∧ a < 12 := by unfold vd at h; omega
  by_cases g2 : a = 2
  · subst g2; exact Or.inl ⟨rfl, rfl, rfl⟩
  by_cases g3 : a = 3
  · subst g3; exact Or.inr (Or.inl ⟨rfl, rfl, rfl⟩)
  by_cases g4 : a = 4
  · subst g4; exact Or.inr (Or.inr (Or.inl ⟨rfl, rfl, rfl⟩))
  by_cases g5 : a = 5
  · subst g5; exact Or.inr (Or.inr (Or.inr (Or.inl ⟨rfl, rfl, rfl⟩)))
  by_cases g6 : a = 6
  · subst g6; exact Or.inr (Or.inr (Or.inr (Or.inr (Or.inl ⟨rfl, rfl, rfl⟩))))
  by_cases g7 : a = 7
  · subst g7; exact Or.inr (Or.inr (Or.inr (Or.inr (Or.inr (Or.inl ⟨rfl, rfl, rfl⟩)))))
  have e : mad a b c = (225, a - 8) := by
    unfold mad
    rw [if_neg g2, if_neg g3, if_neg g4, if_neg g5, if_neg g6, if_neg g7]
  rw [e]
  exact Or.inr (Or.inr (Or.inr (Or.inr (Or.inr (Or.inr ⟨by omega, by omega, rfl, rfl⟩)))))
theorem mNm_0 {M : am_M} {X X' : am_X} {N : Nat → Nat → List Int} (H : mNm M X N) (e : ∀ k, X' 0 k 0 = X 0 k 0) : mNm M X' N := by
  have hn : ∀ s, nM X' s = nM X s := fun s => by unfold nM; rw [e]
  obtain ⟨h1, h2, h3, h4, h5, h6⟩ := H
  exact ⟨fun k hk => by rw [e]; exact h1 k hk, fun s hs w hw => h2 s hs w (by rw [hn] at hw; exact hw), by rw [e]; exact h3, by rw [e]; exact h4, by rw [e]; exact h5, fun s hs w hw => h6 s hs w (by rw [hn] at hw; exact hw)⟩
def mHr (M : am_M) (X : am_X) : Prop := ∀ a b c, vd X a b c → am_I M (mad a b c).1 (mad a b c).2 = am_i (X a b c)
theorem mHr_mv {M M' : am_M} {X : am_X} (H : mHr M X) (e : ∀ b k, ((221 ≤ b ∧ b ≤ 225) ∨ (b = 187 ∧ k = 46)) → am_I M' b k = am_I M b k) : mHr M' X := fun a b c h => by
  have := mad_c h
  rw [e _ _ (by omega)]
  exact H a b c h
theorem mHr_u {M : am_M} {X : am_X} (H : mHr M X) {i j k : Nat} (hv : vd X i j k) (v : Int) {b0 k0 : Nat} (hb : b0 = (mad i j k).1) (hk : k0 = (mad i j k).2) : mHr (am_sI M b0 k0 (am_i v)) (uA X i j k v) := fun a b c h => by
  have hi : 2 ≤ i := by unfold vd at hv; omega
  have h2 : vd X a b c := by
    unfold vd at h ⊢
    rw [nM_ne (by omega), nM_ne (by omega)] at h
    exact h
  have m1 := mad_c hv
  have m2 := mad_c h2
  by_cases g : a = i ∧ b = j ∧ c = k
  · obtain ⟨rfl, rfl, rfl⟩ := g
    rw [uA_eq, hb, hk, am_I_same]
  · rw [uA_ne g]
    by_cases g1 : (mad a b c).1 = b0
    · rw [am_I_ne2 (by unfold vd at h2 hv; omega)]
      exact H a b c h2
    · rw [am_I_ne1 g1]
      exact H a b c h2
def mGx (M : am_M) (G : am_Gf) (D : Nat) : Prop := ∀ j, j < 3 → match G j with
  | none => am_I M 226 j = am_i (-1)
  | some l => ∃ o : Nat, o + l.length ≤ D ∧ am_I M 226 j = am_i o ∧ am_I M 227 j = am_i ((o + l.length : Nat) : Int) ∧ ∀ i, i < l.length → am_I M 228 (o + i) = am_i (l.getD i 0)
theorem mGx_mv {M M' : am_M} {G : am_Gf} {D D' : Nat} (H : mGx M G D) (hD : D ≤ D') (e : ∀ b k, ((b = 226 ∨ b = 227) ∧ k < 3) ∨ (b = 228 ∧ k < D) → am_I M' b k = am_I M b k) : mGx M' G D' := by
  intro j hj
  have h1 := H j hj
  cases hx : G j with
  | none =>
    rw [hx] at h1
    exact (e _ _ (by omega)).trans h1
  | some l =>
    rw [hx] at h1
    obtain ⟨o, h2, h3, h4, h5⟩ := h1
    exact ⟨o, by omega, (e _ _ (by omega)).trans h3, (e _ _ (by omega)).trans h4, fun i hi => (e _ _ (by omega)).trans (h5 i hi)⟩
def mHt (M : am_M) (H : am_HS) : Prop := mNm M H.1 H.2.1 ∧ mHr M H.1 ∧ mGx M H.2.2.1 H.2.2.2.2 ∧ am_I M 187 51 = am_i (H.2.2.2.2 : Int) ∧ H.2.2.2.2 ≤ 1600
def mAf (L : Nat) (q : am_Pq) (Z : Nat → Nat → Int) (n : Nat) (M : am_M) : am_SR → Prop
  | .inl e => mFa L q Z n M e
  | .inr (s, t, H) => mP L q Z n M s t ∧ mHt M H
def pMt (b k : Nat) : Prop := sM b k ∧ 187 ≤ b ∧ ¬ (b = 187 ∧ k = 52)
theorem pMt_219 {b k : Nat} (h : b = 219 ∧ k < 3) : pMt b k := ⟨Or.inr (Or.inr (Or.inr (Or.inl h))), by omega⟩
theorem pMt_220 {b k : Nat} (h : b = 220 ∧ k < 24) : pMt b k := ⟨Or.inr (Or.inr (Or.inr (Or.inr (Or.inl h)))), by omega⟩
theorem pMt_221 {b k : Nat} (h : b = 221 ∧ k < 8) : pMt b k := ⟨Or.inr (Or.inr (Or.inr (Or.inr (Or.inr (Or.inl h))))), by omega⟩
theorem pMt_222 {b k : Nat} (h : b = 222 ∧ k < 48) : pMt b k := ⟨Or.inr (Or.inr (Or.inr (Or.inr (Or.inr (Or.inr (Or.inl h)))))), by omega⟩
theorem pMt_223 {b k : Nat} (h : b = 223 ∧ k < 10) : pMt b k := ⟨Or.inr (Or.inr (Or.inr (Or.inr (Or.inr (Or.inr (Or.inr (Or.inl h))))))), by omega⟩
theorem pMt_224 {b k : Nat} (h : b = 224 ∧ k < 30) : pMt b k := ⟨Or.inr (Or.inr (Or.inr (Or.inr (Or.inr (Or.inr (Or.inr (Or.inr (Or.inl h)))))))), by omega⟩
theorem pMt_225 {b k : Nat} (h : b = 225 ∧ k < 4) : pMt b k := ⟨Or.inr (Or.inr (Or.inr (Or.inr (Or.inr (Or.inr (Or.inr (Or.inr (Or.inr (Or.inl h))))))))), by omega⟩
theorem pMt_226 {b k : Nat} (h : b = 226 ∧ k < 3) : pMt b k := ⟨Or.inr (Or.inr (Or.inr (Or.inr (Or.inr (Or.inr (Or.inr (Or.inr (Or.inr (Or.inr (Or.inl h)))))))))), by omega⟩
theorem pMt_227 {b k : Nat} (h : b = 227 ∧ k < 3) : pMt b k := ⟨Or.inr (Or.inr (Or.inr (Or.inr (Or.inr (Or.inr (Or.inr (Or.inr (Or.inr (Or.inr (Or.inr (Or.inl h))))))))))), by omega⟩
theorem pMt_228 {b k : Nat} (h : b = 228 ∧ k < 1600) : pMt b k := ⟨Or.inr (Or.inr (Or.inr (Or.inr (Or.inr (Or.inr (Or.inr (Or.inr (Or.inr (Or.inr (Or.inr (Or.inr (Or.inl h)))))))))))), by omega⟩
theorem rR_pMt {b k : Nat} (h : rR b k) : pMt b k := by
  unfold rR at h
  exact ⟨sM_187 (by omega), by omega⟩
theorem mHt_R {M M' : am_M} {H : am_HS} (HH : mHt M H) (f : fr rR M M') : mHt M' H := by
  obtain ⟨h1, h2, h3, h4, h5⟩ := HH
  exact ⟨mNm_R h1 f, mHr_mv h2 (fun b k g => (f b k (by unfold rR; omega)).1), mGx_mv h3 (Nat.le_refl _) (fun b k g => (f b k (by unfold rR; omega)).1), ((f _ _ (by unfold rR; omega)).1).trans h4, h5⟩
theorem vd_0 {X : am_X} {j k : Nat} {v : Int} {a b c : Nat} (h : vd (uA X 0 0 k v) a b c) : vd X a b c := by
  unfold vd at h ⊢
  have e1 : nM (uA X 0 0 k v) 1 = nM X 1 := by unfold nM; rw [uA_ne (by omega)]
  have e2 : nM (uA X 0 0 k v) 2 = nM X 2 := by unfold nM; rw [uA_ne (by omega)]
  rw [e1, e2] at h
  exact h
theorem m_kind {L : Nat} {q : am_Pq} {Z : Nat → Nat → Int} {n : Nat} {M : am_M} {s0 : Nat} {t0 : Bool} {H : am_HS} (HP : mP L q Z n M (ns Z n s0) (nt Z n s0)) (HH : mHt M H) (d : Nat) : ∃ M', am_cl 148 (d + 5) [.ref 187, .int (am_i (s0 : Int))] M = some (none, M') ∧ mAf L q Z n M' (sKind Z n H (.inr (s0, t0, []))) ∧ fr pMt M M' := by
  obtain ⟨M1, r1, H1, f1⟩ := m_isFull HP HH.1 (s := 0) (by omega) (s0 : Int) (d + 3)
  have h0 := t148 (d + 4) M 187 (am_i (s0 : Int))
  have r1 : am_cl 143 (d + 4) [.ref 187, .int (am_i 0), .int (am_i 6), .int (am_i (s0 : Int))] M = some (some (.int (am_i (if most3 0 ≤ H.1 0 0 0 then 1 else 0))), M1) := r1
  rw [am_ob_p (kk_187 (mP_S HP).1), r1, am_bI_p] at h0
  unfold sKind st1S
  by_cases g : most3 0 ≤ H.1 0 0 0
  · rw [if_pos g] at h0 H1 ⊢
    rw [am_br_eq (by omega) (by omega) (by omega) (by omega), if_neg (by omega)] at h0
    exact ⟨M1, h0, H1, fr_mono f1 (fun b k h => rR_pMt h)⟩
  · rw [if_neg g] at h0 H1 ⊢
    have HH1 := mHt_R HH f1
    obtain ⟨M3, v, r3, H3, e3, f3⟩ := m_newName H1 HH1.1 d
    rw [am_br_eq (by omega) (by omega) (by omega) (by omega), if_pos rfl, am_ob_p (kk_187 (mS_S H1).1), r3, am_bL_p, am_ob_p (kk_187 (mS_S H3).1)] at h0
    have f13 := fr_tr f1 f3
    rw [nx_inr]
    cases hw : nwS Z n H.2.1 (nM H.1) (.inr (ns Z n s0, nt Z n s0, [])) with
    | inl e =>
      rw [hw] at H3
      rw [(m_bad H3).1] at h0
      exact ⟨M3, h0, H3, fr_mono f13 (fun b k h => rR_pMt h)⟩
    | inr x =>
      obtain ⟨s, t, nm⟩ := x
      rw [hw] at H3
      obtain ⟨e4, e5, e6, e7⟩ := e3 s t nm hw
      subst e4
      have HH3 := mHt_R HH f13
      obtain ⟨M5, r5, S5, H5, f5⟩ := m_adds (mS_S H3).1 HH3.1 (s := 0) (by omega) (by omega) e5 e6 e7 (d + 4)
      have r5 : am_cl 147 (d + 4) [.ref 187, .int (am_i 0), .long (am_l (c27 nm))] M3 = some (none, M5) := r5
      rw [(m_ok H3).1, am_ob_p (kk_187 (mS_S H3).1), r5, am_bV_p] at h0
      show ∃ M', am_cl 148 (d + 5) [.ref 187, .int (am_i (s0 : Int))] M = some (none, M') ∧ mAf L q Z n M' (.inr (s, t, uA H.1 0 0 0 (H.1 0 0 0 + 1), uN H.2.1 0 (nM H.1 0) nm, H.2.2)) ∧ fr pMt M M'
      refine ⟨M5, h0, ⟨mP_mv H3 S5 (fr_mono f5 (fun b k h => by unfold nR; omega)), H5, ?_, mGx_mv HH3.2.2.1 (Nat.le_refl _) (fun b k g => (f5 b k (by omega)).1), ((f5 _ _ (by omega)).1).trans HH3.2.2.2.1, HH3.2.2.2.2⟩, fr_tr (fr_mono f13 (fun b k h => rR_pMt h)) (fr_mono f5 (fun b k h => h.elim (fun h => pMt_219 h) (fun h => pMt_220 h)))⟩
      intro a b c hv
      have hv := vd_0 (j := 0) hv
      have := mad_c hv
      show _ = am_i (uA H.1 0 0 0 (H.1 0 0 0 + 1) a b c)
      rw [uA_ne (by unfold vd at hv; omega), (f5 _ _ (by omega)).1]
      exact HH3.2.1 a b c hv
theorem m_likes {L : Nat} {q : am_Pq} {Z : Nat → Nat → Int} {n : Nat} {M : am_M} {s0 : Nat} {t0 : Bool} {H : am_HS} (HP : mP L q Z n M (ns Z n s0) (nt Z n s0)) (HH : mHt M H) (d : Nat) : ∃ M', am_cl 151 (d + 5) [.ref 187] M = some (none, M') ∧ mAf L q Z n M' (sLikes Z n H (.inr (s0, t0, []))) ∧ fr pMt M M' := by
  have HS : mS L q Z n M (nx Z n (.inr (s0, t0, []))) := HP
  obtain ⟨M1, a, r1, H1, ba, ea, f1⟩ := m_oneOf HS HH.1 (s := 2) (by omega) d
  obtain ⟨M3, b, r3, H3, bb, eb, f3⟩ := m_oneOf H1 (mNm_R HH.1 f1) (s := 0) (by omega) d
  obtain ⟨M5, v, r5, H5, ev, bv1, bv2, f5⟩ := m_num H3 (lo := 0) (hi := 9) (by omega) (by omega) (d + 3)
  have H5 : mS L q Z n M5 (li3 Z n H (.inr (s0, t0, []))).1 := H5
  have r1 : am_cl 146 (d + 4) [.ref 187, .int (am_i 2)] M = some (some (.int (am_i a)), M1) := r1
  have r3 : am_cl 146 (d + 4) [.ref 187, .int (am_i 0)] M1 = some (some (.int (am_i b)), M3) := r3
  have h0 := t151 (d + 4) M 187
  rw [am_ob_p (kk_187 (mP_S HP).1), r1, am_bI_p, am_ob_p (kk_187 (mS_S H1).1), r3, am_bI_p, am_ob_p (kk_187 (mS_S H3).1), r5, am_bI_p, am_ob_p (kk_187 (mS_S H5).1)] at h0
  have f15 := fr_tr f1 (fr_tr f3 f5)
  have HH5 := mHt_R HH f15
  have S5 := (mS_S H5).1
  cases h3 : (li3 Z n H (.inr (s0, t0, []))).1 with
  | inl e =>
    rw [h3] at H5
    rw [(m_bad H5).1] at h0
    refine ⟨M5, h0, ?_, fr_mono f15 (fun b k h => rR_pMt h)⟩
    have hS : sLikes Z n H (.inr (s0, t0, [])) = .inl e := by unfold sLikes; simp only [h3]
    rw [hS]
    exact H5
  | inr x =>
    obtain ⟨s, t, l⟩ := x
    rw [h3] at H5
    obtain ⟨a1, a2, e1⟩ := tkN_e h3
    have e1 : (li2 Z n H (.inr (s0, t0, []))).1 = .inr (a1, a2, l) := e1
    obtain ⟨k1, k2, k3, a3, a4, a5, e3, -⟩ := knS_inr e1
    have e3 : (li1 Z n H (.inr (s0, t0, []))).1 = .inr (a3, a4, a5) := e3
    have ea : a = (li1 Z n H (.inr (s0, t0, []))).2 ∧ a < ((nM H.1 2 : Nat) : Int) ∧ _ := ea (by show isE (li1 Z n H (.inr (s0, t0, []))).1 = false; rw [e3]; rfl)
    have eb : b = (li2 Z n H (.inr (s0, t0, []))).2 ∧ b < ((nM H.1 0 : Nat) : Int) ∧ _ := eb (by show isE (li2 Z n H (.inr (s0, t0, []))).1 = false; rw [e1]; rfl)
    have ev : v = (li3 Z n H (.inr (s0, t0, []))).2 := ev (by show isE (li3 Z n H (.inr (s0, t0, []))).1 = false; rw [h3]; rfl)
    have c2 := (xB_c HH.1.2.2 (s := 2) (by omega)).2.2
    have c0 := (xB_c HH.1.2.2 (s := 0) (by omega)).2.2
    have c25 := HH.1.2.2.2.2.1
    have c06 := HH.1.2.2.1
    obtain ⟨a', ha'⟩ : ∃ a' : Nat, a = (a' : Int) := ⟨a.toNat, by omega⟩
    obtain ⟨b', hb'⟩ : ∃ b' : Nat, b = (b' : Int) := ⟨b.toNat, by omega⟩
    have hS : sLikes Z n H (.inr (s0, t0, [])) = .inr (s, t, uA H.1 6 a' b' v, H.2) := by
      unfold sLikes
      simp only [h3]
      rw [← ea.1, ← eb.1, ← ev, ha', hb', Int.toNat_natCast, Int.toNat_natCast]
    rw [(m_ok H5).1, am_ob_p (kk_187 S5), rr_187_45 S5, am_gr_p, ha', hb', am_i_mul, am_i_add, show (6 : Int) * (a' : Int) + (b' : Int) = ((6 * a' + b' : Nat) : Int) by omega, am_iw_p (kk_224 S5) (by omega) (by omega) (by omega) (by omega), am_i_ix (by omega) (by omega), Int.toNat_natCast, am_lt] at h0
    refine ⟨_, h0, ?_, fr_tr (fr_mono f15 (fun b k h => rR_pMt h)) (fr_sI (pMt_224 ⟨rfl, by omega⟩))⟩
    rw [hS]
    refine ⟨mP_mv H5 (S5.sI _ _ _) (fr_sI (by unfold nR; omega)), ?_, mHr_u HH5.2.1 (i := 6) (j := a') (k := b') (by unfold vd; omega) v rfl rfl, mGx_mv HH5.2.2.1 (Nat.le_refl _) (fun b k g => am_I_ne1 (by omega)), by rw [am_I_ne1 (by omega)]; exact HH5.2.2.2.1, HH5.2.2.2.2⟩
    exact mNm_0 (mNm_mv HH5.1 (fun b k g => ⟨am_I_ne1 (by omega), rfl⟩)) (fun k => (uA_ne (by omega) : uA H.1 6 a' b' v 0 k 0 = H.1 0 k 0))
