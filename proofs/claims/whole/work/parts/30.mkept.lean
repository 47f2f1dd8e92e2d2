/-! The reference: what is kept, an hour. -/
def mK (M : am_M) (K : List Int) : Prop := am_I M 229 96 = am_i K.length ∧ K.length ≤ 40 ∧ ∀ k, k < K.length → am_I M 229 (97 + 4 * k) = am_i (K.getD k 0 / 128 / 24) ∧ am_I M 229 (98 + 4 * k) = am_i (K.getD k 0 / 128 % 24) ∧ am_I M 229 (99 + 4 * k) = am_i (K.getD k 0 / 8 % 16) ∧ am_I M 229 (100 + 4 * k) = am_i (K.getD k 0 % 8)
theorem mK_mv {M M' : am_M} {K : List Int} (H : mK M K) (e : ∀ k, 96 ≤ k → am_I M' 229 k = am_I M 229 k) : mK M' K := by
  obtain ⟨h1, h2, h3⟩ := H
  exact ⟨(e _ (by omega)).trans h1, h2, fun k hk => ⟨(e _ (by omega)).trans (h3 k hk).1, (e _ (by omega)).trans (h3 k hk).2.1, (e _ (by omega)).trans (h3 k hk).2.2.1, (e _ (by omega)).trans (h3 k hk).2.2.2⟩⟩
theorem rowc_p {A : am_A} {p f : Nat} (hp : p < 16) (hf : f < 8) (h : 0 ≤ A 0 0 0) : rowc A p f / 128 / 24 = A 0 0 0 / 24 ∧ rowc A p f / 128 % 24 = A 0 0 0 % 24 ∧ rowc A p f / 8 % 16 = p ∧ rowc A p f % 8 = f := by
  unfold rowc
  omega
def pK (b k : Nat) : Prop := b = 229 ∧ 96 ≤ k
theorem m_keep64 {L : Nat} {q : am_Pq} {M : am_M} (S : am_Sh L q M) {A : am_A} (HA : mA M A) {n : Nat} (hn : n < 40) (e : am_I M 229 96 = am_i ((n : Int) + 1)) (p f : Nat) (d : Nat) (v3 : Value) :
    ∃ M', am_ev 181 d 64 [.ref 187, .int (am_i p), .int (am_i f), v3] [] M = some (none, M') ∧ am_Sh L q M' ∧ fr pK M M' ∧ (∀ k, k < 97 + 4 * n → am_I M' 229 k = am_I M 229 k) ∧ am_I M' 229 (97 + 4 * n) = am_i (A 0 0 0 / 24) ∧ am_I M' 229 (98 + 4 * n) = am_i (A 0 0 0 % 24) ∧ am_I M' 229 (99 + 4 * n) = am_i p ∧ am_I M' 229 (100 + 4 * n) = am_i f := by
  have e0 := HA.1
  have e1 := HA.2.1
  have u0 : ((97 : Int) + 4 * ((n : Int) + 1) - 4).toNat = 97 + 4 * n := by omega
  have u1 : ((97 : Int) + 4 * ((n : Int) + 1) - 4 + 1).toNat = 98 + 4 * n := by omega
  have u2 : ((97 : Int) + 4 * ((n : Int) + 1) - 4 + 2).toNat = 99 + 4 * n := by omega
  have u3 : ((97 : Int) + 4 * ((n : Int) + 1) - 4 + 3).toNat = 100 + 4 * n := by omega
  refine ⟨am_sI (am_sI (am_sI (am_sI M 229 (97 + 4 * n) (am_i (A 0 0 0 / 24))) 229 (98 + 4 * n) (am_i (A 0 0 0 % 24))) 229 (99 + 4 * n) (am_i p)) 229 (100 + 4 * n) (am_i f), ?_, (((S.sI _ _ _).sI _ _ _).sI _ _ _).sI _ _ _, fr_tr (fr_tr (fr_tr (fr_sI ⟨rfl, by omega⟩) (fr_sI ⟨rfl, by omega⟩)) (fr_sI ⟨rfl, by omega⟩)) (fr_sI ⟨rfl, by omega⟩), fun k hk => ?_, ?_, ?_, ?_, am_I_same _ _ _ _⟩
  · rw [t181_64]
    simp (disch := omega) only [am_ob_p (kk_187 S), rr_187_54 S, am_ix_p (kk_229 S), am_iw_p (kk_229 S), am_gr_p, am_i_ix, Int.toNat_zero, Int.toNat_one, Int.toNat_natCast, Int.reduceToNat, am_lt, am_i_add, am_i_sub, am_i_mul, am_ob_sI, am_ix_sI, am_iw_sI, am_iq_sI, am_R_sI', am_ob_sL, am_ix_sL, am_iw_sL, am_iq_sL, am_R_sL', am_I_same, am_I_ne1, am_I_ne2, am_L_same, am_L_ne1, am_L_ne2, am_L_sI', am_I_sL', e, e0, e1, u0, u1, u2, u3]
  · simp (disch := omega) only [am_I_ne2]
  · simp (disch := omega) only [am_I_ne2, am_I_same]
  · simp (disch := omega) only [am_I_ne2, am_I_same]
  · simp (disch := omega) only [am_I_ne2, am_I_same]
theorem m_isKept {L : Nat} {q : am_Pq} {M : am_M} (S : am_Sh L q M) {A : am_A} {K : List Int} (HA : mA M A) (ht : 0 ≤ A 0 0 0) (HK : mK M K) (h60 : am_I M 187 60 = am_i 0) {p f : Nat} (hp : p < 16) (hf : f < 8) (d : Nat) :
    ∃ M', am_cl 181 d [.ref 187, .int (am_i p), .int (am_i f)] M = some (none, M') ∧ am_Sh L q M' ∧ fr pK M M' ∧ mK M' (kpush K (rowc A p f)) := by
  obtain ⟨h1, h2, h3⟩ := HK
  obtain ⟨r1, r2, r3, r4⟩ := rowc_p (A := A) hp hf ht
  rw [t181]
  simp (disch := omega) only [am_ob_p (kk_187 S), rr_187_54 S, am_ix_p (kk_229 S), am_iw_p (kk_229 S), am_gr_p, am_i_ix, Int.toNat_zero, Int.toNat_one, Int.toNat_natCast, Int.reduceToNat, am_lt, am_i_add, am_i_sub, am_i_mul, am_ob_sI, am_ix_sI, am_iw_sI, am_iq_sI, am_R_sI', am_ob_sL, am_ix_sL, am_iw_sL, am_iq_sL, am_R_sL', am_I_same, am_I_ne1, am_I_ne2, am_L_same, am_L_ne1, am_L_ne2, am_L_sI', am_I_sL', h60, h1, am_br_eq, am_br_ne]
  rw [if_pos trivial]
  by_cases g : K.length = 40
  · rw [if_pos (by omega)]
    have loop : ∀ m x : Nat, x + m = 253 → 97 ≤ x → ∀ (M1 : am_M), am_Sh L q M1 → fr pK M M1 → (∀ k, am_I M1 229 k = if 97 ≤ k ∧ k < x then am_I M 229 (k + 4) else am_I M 229 k) →
        ∃ M', am_ev 181 d 23 [.ref 187, .int (am_i p), .int (am_i f), .int (am_i x)] [] M1 = am_ev 181 d 64 [.ref 187, .int (am_i p), .int (am_i f), .int (am_i (253 : Int))] [] M' ∧ am_Sh L q M' ∧ fr pK M M' ∧ (∀ k, am_I M' 229 k = if 97 ≤ k ∧ k < 253 then am_I M 229 (k + 4) else am_I M 229 k) := by
      intro m
      induction m with
      | zero =>
        intro x hx h97 M1 S1 f1 hI
        have : x = 253 := by omega
        subst this
        refine ⟨M1, ?_, S1, f1, hI⟩
        rw [t181_23]
        simp (disch := omega) only [am_br_ge]
        rw [if_pos (by omega)]
        rfl
      | succ m ih =>
        intro x hx h97 M1 S1 f1 hI
        have e : am_I M1 229 (x + 4) = am_I M 229 (x + 4) := by rw [hI, if_neg (by omega)]
        have u : ((x : Int) + 4).toNat = x + 4 := by omega
        obtain ⟨M', r, S', f', hI'⟩ := ih (x + 1) (by omega) (by omega) (am_sI M1 229 x (am_I M 229 (x + 4))) (S1.sI _ _ _) (fr_tr f1 (fr_sI ⟨rfl, by omega⟩)) (fun k => by
          by_cases g2 : k = x
          · subst g2
            rw [am_I_same, if_pos (by omega)]
          · rw [am_I_ne2 g2, hI]
            by_cases g3 : 97 ≤ k ∧ k < x
            · rw [if_pos g3, if_pos (by omega)]
            · rw [if_neg g3, if_neg (by omega)])
        refine ⟨M', ?_, S', f', hI'⟩
        rw [t181_23]
        simp (disch := omega) only [am_br_ge]
        rw [if_neg (by omega)]
        simp (disch := omega) only [am_ob_p (kk_187 S1), rr_187_54 S1, am_ix_p (kk_229 S1), am_iw_p (kk_229 S1), am_gr_p, am_i_ix, Int.toNat_zero, Int.toNat_one, Int.toNat_natCast, Int.reduceToNat, am_lt, am_i_add, am_i_sub, am_i_mul, am_ob_sI, am_ix_sI, am_iw_sI, am_iq_sI, am_R_sI', am_ob_sL, am_ix_sL, am_iw_sL, am_iq_sL, am_R_sL', am_I_same, am_I_ne1, am_I_ne2, am_L_same, am_L_ne1, am_L_ne2, am_L_sI', am_I_sL', u, e]
        exact r
    obtain ⟨M1, r1', S1, f1, hI1⟩ := loop 156 97 (by omega) (by omega) M S (fr_rfl _ _) (fun k => by rw [if_neg (by omega)])
    have HA1 := mA_mv (M' := M1) HA (fun k hk => (f1 229 k (by unfold pK; omega)).1)
    obtain ⟨M2, r2', S2, f2, k0, k1, k2, k3, k4⟩ := m_keep64 S1 HA1 (n := 39) (by omega) (by rw [hI1, if_neg (by omega), h1, g]; rfl) p f d (.int (am_i 253))
    refine ⟨M2, ?_, S2, fr_tr f1 f2, ?_⟩
    · have : am_i ((97 : Nat) : Int) = am_i 97 := rfl
      rw [this] at r1'
      rw [r1', r2']
    · have hkp : kpush K (rowc A p f) = K.tail ++ [rowc A p f] := if_neg (by omega)
      have hT : K.tail.length = 39 := by rw [List.length_tail]; omega
      have hl : (K.tail ++ [rowc A p f]).length = 40 := by rw [List.length_append, hT]; rfl
      rw [hkp]
      refine ⟨by rw [k0 96 (by omega), hI1, if_neg (by omega), h1, hl, g], by omega, fun k hk => ?_⟩
      by_cases g2 : k = 39
      · subst g2
        have e : (K.tail ++ [rowc A p f]).getD 39 0 = rowc A p f := by simp [List.getD_eq_getElem?_getD, List.getElem?_append_right (show K.tail.length ≤ 39 by omega), hT]
        rw [e, r1, r2, r3, r4]
        exact ⟨k1, k2, k3, k4⟩
      · have e : (K.tail ++ [rowc A p f]).getD k 0 = K.getD (k + 1) 0 := by simp [List.getD_eq_getElem?_getD, List.getElem?_append_left (show k < K.tail.length by omega)]
        obtain ⟨j1, j2, j3, j4⟩ := h3 (k + 1) (by omega)
        rw [e]
        refine ⟨?_, ?_, ?_, ?_⟩
        · rw [k0 _ (by omega), hI1, if_pos (by omega), ← j1]; congr 1
        · rw [k0 _ (by omega), hI1, if_pos (by omega), ← j2]; congr 1
        · rw [k0 _ (by omega), hI1, if_pos (by omega), ← j3]; congr 1
        · rw [k0 _ (by omega), hI1, if_pos (by omega), ← j4]; congr 1
  · rw [if_neg (by omega)]
    have S1 := S.sI 229 96 (am_i ((K.length : Int) + 1))
    have HA1 := mA_mv (M' := am_sI M 229 96 (am_i ((K.length : Int) + 1))) HA (fun k hk => am_I_ne2 (by omega))
    obtain ⟨M2, r2', S2, f2, k0, k1, k2, k3, k4⟩ := m_keep64 S1 HA1 (n := K.length) (by omega) (am_I_same _ _ _ _) p f d .null
    refine ⟨M2, r2', S2, fr_tr (fr_sI ⟨rfl, by omega⟩) f2, ?_⟩
    have hkp : kpush K (rowc A p f) = K ++ [rowc A p f] := if_pos (by omega)
    have hl : (K ++ [rowc A p f]).length = K.length + 1 := by rw [List.length_append]; rfl
    rw [hkp]
    refine ⟨by rw [k0 96 (by omega), am_I_same, hl]; rfl, by omega, fun k hk => ?_⟩
    by_cases g2 : k = K.length
    · subst g2
      have e : (K ++ [rowc A p f]).getD K.length 0 = rowc A p f := by simp [List.getD_eq_getElem?_getD]
      rw [e, r1, r2, r3, r4]
      exact ⟨k1, k2, k3, k4⟩
    · have e : (K ++ [rowc A p f]).getD k 0 = K.getD k 0 := by simp [List.getD_eq_getElem?_getD, List.getElem?_append_left (show k < K.length by omega)]
      obtain ⟨j1, j2, j3, j4⟩ := h3 k (by omega)
      rw [e]
      refine ⟨?_, ?_, ?_, ?_⟩
      · rw [k0 _ (by omega), am_I_ne2 (by omega)]; exact j1
      · rw [k0 _ (by omega), am_I_ne2 (by omega)]; exact j2
      · rw [k0 _ (by omega), am_I_ne2 (by omega)]; exact j3
      · rw [k0 _ (by omega), am_I_ne2 (by omega)]; exact j4
theorem m_isKept_th {L : Nat} {q : am_Pq} {M : am_M} (S : am_Sh L q M) (h60 : am_I M 187 60 = am_i 1) (x y : Int32) (d : Nat) :
    am_cl 181 d [.ref 187, .int x, .int y] M = some (none, M) := by
  rw [t181]
  simp (disch := omega) only [am_ob_p (kk_187 S), h60, am_br_eq]
  rw [if_neg (by omega)]
theorem m_hasSeen {L : Nat} {q : am_Pq} {M : am_M} (S : am_Sh L q M) {X : am_X} {A : am_A} (HA : mA M A) (BA : aB X A) {p : Nat} (hp : p < 5) (d : Nat) :
    ∃ M', am_cl 182 d [.ref 187, .int (am_i p)] M = some (none, M') ∧ am_Sh L q M' ∧ fr (fun b k => b = 229 ∧ k < 96) M M' ∧ mA M' (uA A 4 p 0 (if A 4 p 0 + 1 < 9999 then A 4 p 0 + 1 else 9999)) := by
  have b := aB_sa BA hp
  have e := HA.2.2.2.2.2 p hp
  have u : ((86 : Int) + 2 * (p : Int) + 1).toNat = 87 + 2 * p := by omega
  rw [t182]
  simp (disch := omega) only [am_ob_p (kk_187 S), rr_187_54 S, am_ix_p (kk_229 S), am_iw_p (kk_229 S), am_gr_p, am_i_ix, Int.toNat_zero, Int.toNat_one, Int.toNat_natCast, Int.reduceToNat, am_lt, am_i_add, am_i_sub, am_i_mul, u, e, am_br_ge]
  by_cases g : 9999 ≤ A 4 p 0
  · rw [if_pos g]
    refine ⟨M, rfl, S, fr_rfl _ _, ?_⟩
    have e2 : (if A 4 p 0 + 1 < 9999 then A 4 p 0 + 1 else 9999) = A 4 p 0 := by rw [if_neg (by omega)]; omega
    rw [e2, uA_self]
    exact HA
  · rw [if_neg g]
    have e2 : (if A 4 p 0 + 1 < 9999 then A 4 p 0 + 1 else 9999) = A 4 p 0 + 1 := by split <;> omega
    rw [e2]
    exact ⟨_, rfl, S.sI _ _ _, fr_sI ⟨rfl, by omega⟩, mA_w4 HA hp _⟩
theorem m_pleasedBy {L : Nat} {q0 : am_Pq} {M : am_M} (S : am_Sh L q0 M) {X : am_X} {A : am_A} (HX : mH M X) (HA : mA M A) (B : hB X) {p f : Nat} (hp : p < nP X) (hf : f < nF X) (d : Nat) :
    am_cl 183 (d + 2) [.ref 187, .int (am_i p), .int (am_i f)] M = some (some (.int (am_i (plz X A p f))), M) := by
  have hP5 := (hB_P B).2
  have e6 : am_I M 225 6 = am_i (X 10 0 0) := HX.2.2.2.2.2.2 2 (by decide)
  have h01 := prs_01 A p
  rw [t183]
  simp (disch := omega) only [am_ob_p (kk_187 S), m_worthOf S HX B hp hf, m_doesPress S HA, am_bI_p, am_br_eq]
  unfold plz
  rcases h01 with g | g
  · rw [if_pos g, if_neg (by omega), am_i_sub]
  · rw [if_neg (by omega), if_pos g]
    simp (disch := omega) only [rr_187_47 S, am_ix_p (kk_225 S), am_gr_p, am_i_ix, Int.toNat_zero, Int.toNat_one, Int.toNat_natCast, Int.reduceToNat, am_lt, am_i_add, am_i_sub, am_i_mul, e6]
set_option maxHeartbeats 4000000 in
theorem m_fade {L : Nat} {q0 : am_Pq} {M : am_M} (S : am_Sh L q0 M) {X : am_X} {G : am_Gf} {A : am_A} (HX : mH M X) (HG : mG M G) (HA : mA M A) (B : hB X) (BG : gB G) (BA : aB X A) (d : Nat) :
    ∃ M', am_cl 184 (d + 4) [.ref 187] M = some (none, M') ∧ am_Sh L q0 M' ∧ fr pN M M' ∧ mA M' (fadeA X G A) := by
  obtain ⟨hKK, hK6⟩ := hB_K B
  obtain ⟨hPP, hP5⟩ := hB_P B
  have bt := aB_t BA
  rw [t184]
  cases hl : G 1 with
  | none =>
    have e : am_I M 226 4 = am_i (-1) := mG_none HG (j := 1) (by decide) hl
    simp (disch := omega) only [am_ob_p (kk_187 S), rr_187_48 S, am_ix_p (kk_226 S), am_gr_p, am_i_ix, Int.toNat_zero, Int.toNat_one, Int.toNat_natCast, Int.reduceToNat, am_lt, am_i_add, am_i_sub, am_i_mul, e, am_br_ne]
    rw [if_pos trivial]
    exact ⟨M, rfl, S, fr_rfl _ _, by unfold fadeA; rw [hl]; exact HA⟩
  | some l =>
    obtain ⟨o, h1, h2, h3, h4⟩ := mG_some HG (j := 1) (by decide) hl
    have e : am_I M 226 4 = am_i o := h2
    have hwf := BG.2.1 l hl
    have hfa : fadeA X G A = fun i q k => if i = 2 ∧ q ≤ nP X ∧ k < nK X then held (fev (fct X A q 0 0 (A 2 q k) 0) (fun _ => 0) l) else A i q k := by unfold fadeA; rw [hl]
    have key : ∀ m qn kn : Nat, qn ≤ nP X → kn ≤ nK X → (nP X - qn) * (nK X + 1) + (nK X - kn) = m → ∀ (M : am_M), am_Sh L q0 M → mH M X → mG M G →
        mA M (fun i q k => if i = 2 ∧ (q < qn ∨ (q = qn ∧ k < kn)) ∧ k < nK X then held (fev (fct X A q 0 0 (A 2 q k) 0) (fun _ => 0) l) else A i q k) →
        ∃ M', am_ev 184 (d + 4) 23 [.ref 187, .int (am_i qn), .int (am_i kn)] [] M = some (none, M') ∧ am_Sh L q0 M' ∧ fr pN M M' ∧ mA M' (fadeA X G A) := by
      intro m
      induction m using Nat.strongRecOn with
      | _ m ih =>
        intro qn kn hq hk hm M S HX HG HA
        rw [t184_23]
        simp (disch := omega) only [am_ob_p (kk_187 S), m_kindMany S HX, am_bI_p, am_br_ge]
        by_cases g : kn < nK X
        · rw [if_neg (by omega)]
          have eT := HA.2.2.1 qn (by omega) kn (by omega)
          simp only [] at eT
          rw [if_neg (by omega)] at eT
          have bT := aB_ta BA (show qn < 6 by omega) (show kn < 6 by omega)
          have e5 : ((2 : Int) + 14 * (qn : Int) + (kn : Int)).toNat = 2 + 14 * qn + kn := by omega
          have S1 := S.sI 187 58 (am_i (A 2 qn kn))
          have f1 : fr pN M (am_sI M 187 58 (am_i (A 2 qn kn))) := fr_sI (Or.inr (Or.inr ⟨rfl, by omega⟩))
          have HA1 := mA_mv (M' := am_sI M 187 58 (am_i (A 2 qn kn))) HA (fun k h => am_I_ne1 (by omega))
          have hFok : Fok (alw 1) (fct X A qn 0 0 (A 2 qn kn) 0) := by
            intro k hk ha
            rcases alw1 ha with rfl | rfl
            · show -1000000 ≤ A 0 0 0 % 24 ∧ A 0 0 0 % 24 ≤ 1000000
              omega
            · show -1000000 ≤ A 2 qn kn ∧ A 2 qn kn ≤ 1000000
              omega
          have hv := fev_ok hFok Wok0 hwf
          obtain ⟨M4, r4, S4, f4⟩ := m_codesTell (j := 1) S1 (mG_mv HG (fun b k h1 h2 h3 h4 => am_I_ne1 (by omega))) (by decide) hl hwf hFok (show 0 < 8 by omega) (d := d + 1) (fun M' S' f' k hk ha => by
            have h229 : am_I M' 229 1 = am_i (A 0 0 0 % 24) := by rw [(f' 229 1 (by unfold pT; omega)).1]; exact HA1.2.1
            have h58 : am_I M' 187 58 = am_i (A 2 qn kn) := by rw [(f' 187 58 (by unfold pT; omega)).1]; exact am_I_same _ _ _ _
            rw [t255]
            rcases alw1 ha with rfl | rfl
            · repeat rw [am_si_f (by omega)]
              rw [am_si_t (by omega)]
              simp (disch := omega) only [am_ob_p (kk_187 S'), rr_187_54 S', am_gr_p, am_ix_p (kk_229 S'), am_i_ix, Int.toNat_one, h229, am_i2l]
              rfl
            · repeat rw [am_si_f (by omega)]
              rw [am_si_t (by omega)]
              simp (disch := omega) only [am_ob_p (kk_187 S'), h58, am_i2l]
              rfl)
          have f4' : fr pN M M4 := fr_tr f1 (fr_mono f4 (fun b k h => by unfold pT at h; unfold pN; omega))
          have f5 : fr pN M (am_sI M4 229 (2 + 14 * qn + kn) (am_i (held (fev (fct X A qn 0 0 (A 2 qn kn) 0) (fun _ => 0) l)))) := fr_tr f4' (fr_sI (Or.inl ⟨rfl, by omega⟩))
          have hk2 : (nP X - qn) * (nK X + 1) + (nK X - (kn + 1)) < m := by omega
          obtain ⟨M', r, S', f', HA'⟩ := ih _ hk2 qn (kn + 1) hq (by omega) rfl _ (S4.sI 229 (2 + 14 * qn + kn) (am_i (held (fev (fct X A qn 0 0 (A 2 qn kn) 0) (fun _ => 0) l)))) (mH_mv HX B (fun b k h1 h2 h3 => (f5 b k (by unfold pN; omega)).1)) (mG_mv HG (fun b k h1 h2 h3 h4 => (f5 b k (by unfold pN; omega)).1)) (by
            have hw := mA_w2 (mA_mv HA1 (M' := M4) (fun k h => (f4 229 k (by unfold pT; omega)).1)) (show qn < 6 by omega) (show kn < 6 by omega) (held (fev (fct X A qn 0 0 (A 2 qn kn) 0) (fun _ => 0) l))
            have e : uA (fun i q k => if i = 2 ∧ (q < qn ∨ (q = qn ∧ k < kn)) ∧ k < nK X then held (fev (fct X A q 0 0 (A 2 q k) 0) (fun _ => 0) l) else A i q k) 2 qn kn (held (fev (fct X A qn 0 0 (A 2 qn kn) 0) (fun _ => 0) l)) = (fun i q k => if i = 2 ∧ (q < qn ∨ (q = qn ∧ k < kn + 1)) ∧ k < nK X then held (fev (fct X A q 0 0 (A 2 q k) 0) (fun _ => 0) l) else A i q k) := by
              funext i q k
              by_cases g1 : i = 2 ∧ q = qn ∧ k = kn
              · obtain ⟨rfl, rfl, rfl⟩ := g1
                rw [uA_eq, if_pos (by omega)]
              · rw [uA_ne g1]
                by_cases g2 : i = 2 ∧ (q < qn ∨ (q = qn ∧ k < kn)) ∧ k < nK X
                · rw [if_pos g2, if_pos (by omega)]
                · rw [if_neg g2, if_neg (by omega)]
            rw [← e]
            exact hw)
          refine ⟨M', ?_, S', fr_tr f5 f', HA'⟩
          simp (disch := omega) only [am_ob_p (kk_187 S), rr_187_54 S, am_gr_p, t171, am_bI_p, am_i_add, am_i_mul, am_ix_p (kk_229 S), am_i_ix, e5, eT, am_lt, am_ob_sI, am_R_sI']
          rw [show (am_i 1) = am_i ((1 : Nat) : Int) from rfl, show (am_i 0) = am_i ((0 : Nat) : Int) from rfl, r4, am_bL_p, m_cut (by omega) (by omega), am_bI_p]
          simp (disch := omega) only [am_iw_p (kk_229 S4), am_i_ix, e5, am_i_add]
          exact r
        · rw [if_pos (by omega), t184_13]
          simp (disch := omega) only [am_ob_p (kk_187 S), m_personMany S HX, am_bI_p, am_br_gt, am_i_add]
          by_cases g2 : qn < nP X
          · rw [if_neg (by omega)]
            have hk2 : (nP X - (qn + 1)) * (nK X + 1) + (nK X - 0) < m := by
              have e : (nP X - qn) * (nK X + 1) = (nP X - (qn + 1)) * (nK X + 1) + (nK X + 1) := by
                rw [show nP X - qn = (nP X - (qn + 1)) + 1 by omega, Nat.add_mul, Nat.one_mul]
              omega
            exact ih _ hk2 (qn + 1) 0 (by omega) (by omega) rfl M S HX HG (by
              have e : (fun i q k => if i = 2 ∧ (q < qn + 1 ∨ (q = qn + 1 ∧ k < 0)) ∧ k < nK X then held (fev (fct X A q 0 0 (A 2 q k) 0) (fun _ => 0) l) else A i q k) = (fun i q k => if i = 2 ∧ (q < qn ∨ (q = qn ∧ k < kn)) ∧ k < nK X then held (fev (fct X A q 0 0 (A 2 q k) 0) (fun _ => 0) l) else A i q k) := by
                funext i q k
                by_cases g3 : i = 2 ∧ (q < qn ∨ (q = qn ∧ k < kn)) ∧ k < nK X
                · rw [if_pos g3, if_pos (by omega)]
                · rw [if_neg g3, if_neg (by omega)]
              rw [e]
              exact HA)
          · rw [if_pos (by omega)]
            refine ⟨M, rfl, S, fr_rfl _ _, ?_⟩
            have e : fadeA X G A = (fun i q k => if i = 2 ∧ (q < qn ∨ (q = qn ∧ k < kn)) ∧ k < nK X then held (fev (fct X A q 0 0 (A 2 q k) 0) (fun _ => 0) l) else A i q k) := by
              rw [hfa]
              funext i q k
              by_cases g3 : i = 2 ∧ (q < qn ∨ (q = qn ∧ k < kn)) ∧ k < nK X
              · rw [if_pos (by omega), if_pos g3]
              · rw [if_neg (by omega), if_neg g3]
            rw [e]
            exact HA
    simp (disch := omega) only [am_ob_p (kk_187 S), rr_187_48 S, am_ix_p (kk_226 S), am_gr_p, am_i_ix, Int.toNat_zero, Int.toNat_one, Int.toNat_natCast, Int.reduceToNat, am_lt, am_i_add, am_i_sub, am_i_mul, e, am_br_ne]
    rw [if_neg (by omega), t184_13]
    simp (disch := omega) only [am_ob_p (kk_187 S), m_personMany S HX, am_bI_p, am_br_gt]
    rw [if_neg (by omega)]
    exact key _ 0 0 (by omega) (by omega) rfl M S HX HG (by
      have e : (fun i q k => if i = 2 ∧ (q < 0 ∨ (q = 0 ∧ k < 0)) ∧ k < nK X then held (fev (fct X A q 0 0 (A 2 q k) 0) (fun _ => 0) l) else A i q k) = A := by
        funext i q k
        exact if_neg (by omega)
      rw [e]
      exact HA)
