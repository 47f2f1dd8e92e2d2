/-! on: the reference reads. -/
def mTS (M : am_M) (A : am_A) : Prop := (∀ q, q < 6 → ∀ k, k < 6 → am_I M 229 (2 + 14 * q + k) = am_i (A 2 q k)) ∧ ∀ q, q < 6 → ∀ f, f < 8 → am_I M 229 (2 + 14 * q + 6 + f) = am_i (A 3 q f)
theorem mTS_2 {M : am_M} {A : am_A} (H : mTS M A) {q k : Nat} (hk : k < 6) (v : Int) : mTS (am_sI M 229 (2 + 14 * q + k) (am_i v)) (uA A 2 q k v) := by
  obtain ⟨h3, h4⟩ := H
  refine ⟨fun q' hq' k' hk' => ?_, fun q' hq' f' hf' => ?_⟩
  · by_cases g : q' = q ∧ k' = k
    · obtain ⟨rfl, rfl⟩ := g
      rw [am_I_same, uA_eq]
    · rw [am_I_ne2 (by omega), uA_ne (by omega)]; exact h3 q' hq' k' hk'
  · rw [am_I_ne2 (by omega), uA_ne (by omega)]; exact h4 q' hq' f' hf'
theorem mTS_3 {M : am_M} {A : am_A} (H : mTS M A) {q k : Nat} (hk : k < 8) (v : Int) : mTS (am_sI M 229 (2 + 14 * q + 6 + k) (am_i v)) (uA A 3 q k v) := by
  obtain ⟨h3, h4⟩ := H
  refine ⟨fun q' hq' k' hk' => ?_, fun q' hq' f' hf' => ?_⟩
  · rw [am_I_ne2 (by omega), uA_ne (by omega)]; exact h3 q' hq' k' hk'
  · by_cases g : q' = q ∧ f' = k
    · obtain ⟨rfl, rfl⟩ := g
      rw [am_I_same, uA_eq]
    · rw [am_I_ne2 (by omega), uA_ne (by omega)]; exact h4 q' hq' f' hf'
/-- while the reference reads profiles -/
def mRd (L : Nat) (q : am_Pq) (M0 M : am_M) (A : am_A) : Prop := am_Sh L q M ∧ fr (fun b k => b = 229 ∧ 2 ≤ k ∧ k < 86) M0 M ∧ mTS M A
theorem m_readT {L : Nat} {q : am_Pq} {M0 : am_M} {X : am_X} {Z : Nat → Nat → Int} (HX : mH M0 X) (B : hB X) (BZ : zB X Z) (HI : ∀ k, k < 1600 → am_I M0 188 k = am_i (Z 0 k)) {p : Nat} (hp : p ≤ nP X) {A : am_A} (v1 : Value) :
    ∀ m n : Nat, n + m = nK X → ∀ (M : am_M), mRd L q M0 M (rdT X Z p A n) → ∃ M', am_ev 270 599 72 [.ref 187, v1, .int (am_i p), .int (am_i ((pf X p : Nat) : Int)), .int (am_i n)] [] M = am_ev 270 599 112 [.ref 187, v1, .int (am_i p), .int (am_i ((pf X p : Nat) : Int)), .int (am_i ((0 : Nat) : Int))] [] M' ∧ mRd L q M0 M' (rdT X Z p A (nK X)) := by
  obtain ⟨hKK, hK6⟩ := hB_K B
  obtain ⟨hPP, hP5⟩ := hB_P B
  have hpf := pf_bd B p
  intro m
  induction m with
  | zero =>
    intro n hn M H
    have : n = nK X := by omega
    subst this
    have HX1 : mH M X := mH_mv HX B (fun b k k1 k2 k3 => (H.2.1 b k (by omega)).1)
    refine ⟨M, ?_, H⟩
    rw [t270_72, am_ob_p (kk_187 H.1), m_kindMany H.1 HX1, am_bI_p, am_br_ge (by omega) (by omega) (by omega) (by omega), if_pos (by omega)]
    rfl
  | succ m ih =>
    intro n hn M H
    obtain ⟨S, f, HT⟩ := H
    have HX1 : mH M X := mH_mv HX B (fun b k k1 k2 k3 => (f b k (by omega)).1)
    have HI1 : ∀ k, k < 1600 → am_I M 188 k = am_i (Z 0 k) := fun k hk => by rw [(f _ _ (by omega)).1]; exact HI k hk
    have u : ((2 : Int) + 14 * (p : Int) + (n : Int)).toNat = 2 + 14 * p + n := by omega
    have H2 : mRd L q M0 (am_sI M 229 (2 + 14 * p + n) (am_i (tw Z (pf X p + 2 * n)))) (rdT X Z p A (n + 1)) := ⟨S.sI _ _ _, fr_tr f (fr_sI ⟨rfl, by omega, by omega⟩), mTS_2 HT (by omega) _⟩
    obtain ⟨M', r, hR⟩ := ih (n + 1) (by omega) _ H2
    refine ⟨M', ?_, hR⟩
    rw [t270_72, am_ob_p (kk_187 S), m_kindMany S HX1, am_bI_p, am_br_ge (by omega) (by omega) (by omega) (by omega), if_neg (by omega), am_ob_p (kk_187 S), rr_187_54 S, am_gr_p, am_ob_p (kk_187 S), t171, am_bI_p, am_ob_p (kk_187 S), am_i_mul, am_i_add, show ((pf X p : Nat) : Int) + 2 * (n : Int) = ((pf X p + 2 * n : Nat) : Int) by omega, m_twoAt S HI1 (by omega), am_bI_p, am_i_mul, am_i_add, am_i_add, am_iw_p (kk_229 S) (by omega) (by omega) (by omega) (by omega), am_i_ix (by omega) (by omega), u, am_lt, am_i_add]
    exact r
theorem m_readS {L : Nat} {q : am_Pq} {M0 : am_M} {X : am_X} {Z : Nat → Nat → Int} (HX : mH M0 X) (B : hB X) (BZ : zB X Z) (HI : ∀ k, k < 1600 → am_I M0 188 k = am_i (Z 0 k)) {p : Nat} (hp : p ≤ nP X) {A : am_A} :
    ∀ m n : Nat, n + m = nF X → ∀ (M : am_M) (v1 : Value), mRd L q M0 M (rdS X Z p A n) → ∃ M' v1' v3 v4, am_ev 270 599 112 [.ref 187, v1, .int (am_i p), .int (am_i ((pf X p : Nat) : Int)), .int (am_i n)] [] M = am_ev 270 599 55 [.ref 187, v1', .int (am_i ((p + 1 : Nat) : Int)), v3, v4] [] M' ∧ mRd L q M0 M' (rdS X Z p A (nF X)) := by
  obtain ⟨hKK, hK6⟩ := hB_K B
  obtain ⟨hFF, hF8⟩ := hB_F B
  obtain ⟨hPP, hP5⟩ := hB_P B
  have hpf := pf_bd B p
  intro m
  induction m with
  | zero =>
    intro n hn M v1 H
    have : n = nF X := by omega
    subst this
    have HX1 : mH M X := mH_mv HX B (fun b k k1 k2 k3 => (H.2.1 b k (by omega)).1)
    refine ⟨M, am_kl v1, .int (am_i ((pf X p : Nat) : Int)), .int (am_i (nF X)), ?_, H⟩
    rw [t270_112, am_ob_p (kk_187 H.1), m_filmMany H.1 HX1, am_bI_p, am_br_ge (by omega) (by omega) (by omega) (by omega), if_pos (by omega), am_i_add]
    rfl
  | succ m ih =>
    intro n hn M v1 H
    obtain ⟨S, f, HT⟩ := H
    have HX1 : mH M X := mH_mv HX B (fun b k k1 k2 k3 => (f b k (by omega)).1)
    have HI1 : ∀ k, k < 1600 → am_I M 188 k = am_i (Z 0 k) := fun k hk => by rw [(f _ _ (by omega)).1]; exact HI k hk
    have u : ((2 : Int) + 14 * (p : Int) + 6 + (n : Int)).toNat = 2 + 14 * p + 6 + n := by omega
    have u2 : (((pf X p : Nat) : Int) + 2 * X 0 0 0 + (n : Int)).toNat = pf X p + 2 * nK X + n := by omega
    have H2 : mRd L q M0 (am_sI M 229 (2 + 14 * p + 6 + n) (am_i (Z 0 (pf X p + 2 * nK X + n)))) (rdS X Z p A (n + 1)) := ⟨S.sI _ _ _, fr_tr f (fr_sI ⟨rfl, by omega, by omega⟩), mTS_3 HT (by omega) _⟩
    obtain ⟨M', v1', v3, v4, r, hR⟩ := ih (n + 1) (by omega) _ v1 H2
    refine ⟨M', v1', v3, v4, ?_, hR⟩
    rw [t270_112, am_ob_p (kk_187 S), m_filmMany S HX1, am_bI_p, am_br_ge (by omega) (by omega) (by omega) (by omega), if_neg (by omega), am_ob_p (kk_187 S), rr_187_54 S, am_gr_p, am_ob_p (kk_187 S), t172, am_bI_p, am_ob_p (kk_187 S), rr_187_0 S, am_gr_p, am_ob_p (kk_187 S), m_kindMany S HX1, am_bI_p]
    simp (disch := omega) only [am_i_mul, am_i_add, am_ix_p (kk_188 S), am_iw_p (kk_229 S), am_i_ix, u, u2, HI1 (pf X p + 2 * nK X + n), am_lt]
    exact r
theorem m_readQ {L : Nat} {q : am_Pq} {M0 : am_M} {X : am_X} {Z : Nat → Nat → Int} (HX : mH M0 X) (B : hB X) (BZ : zB X Z) (HI : ∀ k, k < 1600 → am_I M0 188 k = am_i (Z 0 k)) {A : am_A} :
    ∀ m p : Nat, p + m = nP X + 1 → ∀ (M : am_M) (v1 v3 v4 : Value), mRd L q M0 M (rdQ X Z A p) → ∃ M' v1' v4', am_ev 270 599 55 [.ref 187, v1, .int (am_i p), v3, v4] [] M = am_ev 270 599 174 [.ref 187, v1', .int (am_i ((pb X : Nat) : Int)), .int (am_i ((0 : Nat) : Int)), v4'] [] M' ∧ mRd L q M0 M' (rdQ X Z A (nP X + 1)) := by
  obtain ⟨hPP, hP5⟩ := hB_P B
  intro m
  induction m with
  | zero =>
    intro p hp M v1 v3 v4 H
    have : p = nP X + 1 := by omega
    subst this
    have S := H.1
    have HX1 : mH M X := mH_mv HX B (fun b k k1 k2 k3 => (H.2.1 b k (by omega)).1)
    refine ⟨M, am_kl v1, v4, ?_, H⟩
    rw [t270_55, am_ob_p (kk_187 S), m_personMany S HX1, am_bI_p, am_br_gt (by omega) (by omega) (by omega) (by omega), if_pos (by omega), am_ob_p (kk_187 S), m_personMany S HX1, am_bI_p, am_ob_p (kk_187 S), am_i_add, show (1 : Int) + X 0 2 0 = ((nP X + 1 : Nat) : Int) by omega, m_profileFrom S HX1 B (nP X + 1), am_bI_p]
    rfl
  | succ m ih =>
    intro p hp M v1 v3 v4 H
    have S := H.1
    have HX1 : mH M X := mH_mv HX B (fun b k k1 k2 k3 => (H.2.1 b k (by omega)).1)
    obtain ⟨M2, r2, H2⟩ := m_readT HX B BZ HI (p := p) (by omega) v1 (nK X) 0 (by omega) M H
    obtain ⟨M3, v1', v3', v4', r3, H3⟩ := m_readS HX B BZ HI (p := p) (by omega) (nF X) 0 (by omega) M2 v1 H2
    obtain ⟨M4, v1'', v4'', r4, H4⟩ := ih (p + 1) (by omega) M3 v1' v3' v4' H3
    refine ⟨M4, v1'', v4'', ?_, H4⟩
    rw [t270_55, am_ob_p (kk_187 S), m_personMany S HX1, am_bI_p, am_br_gt (by omega) (by omega) (by omega) (by omega), if_neg (by omega), am_ob_p (kk_187 S), m_profileFrom S HX1 B p, am_bI_p]
    exact r2.trans (r3.trans r4)
theorem m_readP {L : Nat} {q : am_Pq} {M0 : am_M} {X : am_X} {Z : Nat → Nat → Int} (HX : mH M0 X) (B : hB X) (BZ : zB X Z) (HI : ∀ k, k < 1600 → am_I M0 188 k = am_i (Z 0 k)) (v1 v4 : Value) :
    ∀ m n : Nat, n + m = nP X → ∀ M : am_M, am_Sh L q M → fr (fun b k => b = 229 ∧ 86 ≤ k ∧ k < 86 + 2 * nP X) M0 M → (∀ p, p < n → am_I M 229 (86 + 2 * p) = am_i (Z 0 (pb X + 3 * p)) ∧ am_I M 229 (87 + 2 * p) = am_i (tw Z (pb X + 3 * p + 1))) → ∃ M', am_ev 270 599 174 [.ref 187, v1, .int (am_i ((pb X : Nat) : Int)), .int (am_i n), v4] [] M = some (some (.int (am_i 1)), am_sI (am_sI M' 229 96 (am_i 0)) 187 68 (am_i 0)) ∧ am_Sh L q M' ∧ fr (fun b k => b = 229 ∧ 86 ≤ k ∧ k < 86 + 2 * nP X) M0 M' ∧ (∀ p, p < nP X → am_I M' 229 (86 + 2 * p) = am_i (Z 0 (pb X + 3 * p)) ∧ am_I M' 229 (87 + 2 * p) = am_i (tw Z (pb X + 3 * p + 1))) := by
  obtain ⟨hPP, hP5⟩ := hB_P B
  have hpb : pb X ≤ 3 + 20 * (nP X + 1) := pf_bd B (nP X + 1)
  intro m
  induction m with
  | zero =>
    intro n hn M S f hI
    have : n = nP X := by omega
    subst this
    have HX1 : mH M X := mH_mv HX B (fun b k k1 k2 k3 => (f b k (by omega)).1)
    refine ⟨M, ?_, S, f, hI⟩
    rw [t270_174, am_ob_p (kk_187 S), m_personMany S HX1, am_bI_p, am_br_ge (by omega) (by omega) (by omega) (by omega), if_pos (by omega), am_ob_p (kk_187 S), rr_187_54 S, am_gr_p, am_iw_p (kk_229 S) (by omega) (by omega) (by omega) (by omega), am_i_ix (by omega) (by omega), show (96 : Int).toNat = 96 from rfl]
    simp only [am_lt]
    rw [am_ob_p (kk_187 (S.sI 229 96 _)), am_tr_1]
  | succ m ih =>
    intro n hn M S f hI
    have HX1 : mH M X := mH_mv HX B (fun b k k1 k2 k3 => (f b k (by omega)).1)
    have HI1 : ∀ k, k < 1600 → am_I M 188 k = am_i (Z 0 k) := fun k hk => by rw [(f _ _ (by omega)).1]; exact HI k hk
    have S2 := S.sI 229 (86 + 2 * n) (am_i (Z 0 (pb X + 3 * n)))
    have HI2 : ∀ k, k < 1600 → am_I (am_sI M 229 (86 + 2 * n) (am_i (Z 0 (pb X + 3 * n)))) 188 k = am_i (Z 0 k) := fun k hk => by rw [am_I_ne1 (by omega)]; exact HI1 k hk
    have u : ((86 : Int) + 2 * (n : Int)).toNat = 86 + 2 * n := by omega
    have u2 : ((86 : Int) + 2 * (n : Int) + 1).toNat = 87 + 2 * n := by omega
    have u3 : (((pb X : Nat) : Int) + 3 * (n : Int)).toNat = pb X + 3 * n := by omega
    obtain ⟨M', r, hR⟩ := ih (n + 1) (by omega) (am_sI (am_sI M 229 (86 + 2 * n) (am_i (Z 0 (pb X + 3 * n)))) 229 (87 + 2 * n) (am_i (tw Z (pb X + 3 * n + 1)))) (S2.sI _ _ _) (fr_tr f (fr_tr (fr_sI ⟨rfl, by omega, by omega⟩) (fr_sI ⟨rfl, by omega, by omega⟩))) (fun p hp => by
      by_cases g : p = n
      · subst g
        exact ⟨by rw [am_I_ne2 (by omega), am_I_same], am_I_same _ _ _ _⟩
      · rw [am_I_ne2 (by omega), am_I_ne2 (by omega), am_I_ne2 (by omega), am_I_ne2 (by omega)]
        exact hI p (by omega))
    refine ⟨M', ?_, hR⟩
    rw [t270_174, am_ob_p (kk_187 S), m_personMany S HX1, am_bI_p, am_br_ge (by omega) (by omega) (by omega) (by omega), if_neg (by omega)]
    simp (disch := omega) only [am_ob_p (kk_187 S), rr_187_54 S, rr_187_0 S, am_gr_p, am_i_mul, am_i_add, am_ix_p (kk_188 S), am_iw_p (kk_229 S), am_i_ix, u, u3, HI1 (pb X + 3 * n), am_lt]
    rw [am_ob_p (kk_187 S2), rr_187_54 S2, am_gr_p, am_ob_p (kk_187 S2), show ((pb X : Nat) : Int) + 1 + 3 * (n : Int) = ((pb X + 3 * n + 1 : Nat) : Int) by omega, m_twoAt S2 HI2 (by omega), am_bI_p, am_iw_p (kk_229 S2) (by omega) (by omega) (by omega) (by omega), u2]
    exact r
