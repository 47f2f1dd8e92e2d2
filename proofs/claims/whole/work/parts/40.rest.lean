/-! At rest. -/
theorem shl_0 : ∀ n : Fin 6, am_i 1 <<< (am_i (n.val : Int) &&& 31) = am_i ((2 ^ n.val : Nat) : Int) := by decide +kernel
theorem shl_1 {n : Nat} (h : n ≤ 5) : am_i 1 <<< (am_i (n : Int) &&& 31) = am_i ((2 ^ n : Nat) : Int) := shl_0 ⟨n, by omega⟩
def atRk (pl : Nat → Nat → Int) (set : Nat) : Nat → Nat → Int
  | 0, _ => 1
  | m + 1, k => if pl set k < pl (bflip set k).toNat k then 0 else atRk pl set m (k + 1)
theorem atRk_01 (pl : Nat → Nat → Int) (set : Nat) : ∀ m k, atRk pl set m k = 0 ∨ atRk pl set m k = 1
  | 0, _ => Or.inr rfl
  | m + 1, k => by
    unfold atRk
    split
    · exact Or.inl rfl
    · exact atRk_01 pl set m (k + 1)
def restk (pl : Nat → Nat → Int) (np : Nat) : Nat → Nat → Int → Int
  | 0, _, best => best
  | m + 1, set, best => restk pl np m (set + 1) (if (best = -1 ∨ bcnt set < bcnt best.toNat) ∧ atRk pl set np 0 = 1 then (set : Int) else best)
theorem bcnt_bd (P : Nat) : 0 ≤ bcnt P ∧ bcnt P ≤ 5 := by unfold bcnt; omega
theorem c_isAtRest {L : Nat} {q : am_Pq} {M : am_M} (S : am_Sh L q M) {np : Nat} (hnp : np ≤ 5) {pl : Nat → Nat → Int} (hpl : ∀ s p, s < 2 ^ np → p < np → -1000000 ≤ pl s p ∧ pl s p ≤ 1000000) (HI : ∀ s p, s < 2 ^ np → p < 5 → am_I M 35 (5 * s + p) = am_i (pl s p)) {set : Nat} (hs : set < 2 ^ np) (d : Nat) :
    am_cl 46 d [.ref 2, .int (am_i set), .int (am_i np)] M = some (some (.int (am_i (atRk pl set np 0))), M) := by
  have h32 : 2 ^ np ≤ 2 ^ 5 := Nat.pow_le_pow_right (by decide) hnp
  have key : ∀ m k : Nat, k + m = np → ∀ v4 : Value, am_ev 46 d 2 [.ref 2, .int (am_i set), .int (am_i np), .int (am_i k), v4] [] M = some (some (.int (am_i (atRk pl set m k))), M) := by
    intro m
    induction m with
    | zero =>
      intro k hk v4
      rw [t46_2, am_br_ge (by omega) (by omega) (by omega) (by omega), if_pos (by omega), am_tr_1]
      rfl
    | succ m ih =>
      intro k hk v4
      obtain ⟨-, -, e3, -, -, o3⟩ := bit_q (P := (set : Int)) (n := np) (p := k) (by omega) hnp (by omega) (by omega)
      obtain ⟨s2, hs2⟩ : ∃ s2 : Nat, bflip set k = s2 := ⟨(bflip set k).toNat, by omega⟩
      have hs2' : s2 < 2 ^ np := by omega
      have i1 := HI s2 k hs2' (by omega)
      have i2 := HI set k hs (by omega)
      have b1 := hpl s2 k hs2' (by omega)
      have b2 := hpl set k hs (by omega)
      have u1 : ((s2 : Int) * 5 + (k : Int)).toNat = 5 * s2 + k := by omega
      have u2 : ((set : Int) * 5 + (k : Int)).toNat = 5 * set + k := by omega
      have ea : atRk pl set (m + 1) k = if pl set k < pl s2 k then 0 else atRk pl set m (k + 1) := by
        show (if pl set k < pl (bflip set k).toNat k then 0 else atRk pl set m (k + 1)) = _
        rw [hs2, Int.toNat_natCast]
      rw [t46_2, am_br_ge (by omega) (by omega) (by omega) (by omega), if_neg (by omega), e3, hs2]
      simp (disch := omega) only [am_ob_p (kk_2 S), rr_2_12 S, am_ix_p (kk_35 S), am_gr_p, am_i_ix, Int.toNat_zero, Int.toNat_one, Int.toNat_natCast, Int.reduceToNat, am_lt, am_i_add, am_i_sub, am_i_mul, u1, u2, i1, i2, am_br_le, am_tr_0]
      rw [ea]
      by_cases g : pl set k < pl s2 k
      · rw [if_neg (by omega), if_pos g]
      · rw [if_pos (by omega), if_neg g]
        exact ih (k + 1) (by omega) _
  rw [t46]
  exact key np 0 (by omega) .null
theorem m_isRest {L : Nat} {q : am_Pq} {M : am_M} (S : am_Sh L q M) {X : am_X} (HX : mH M X) (B : hB X) {pl : Nat → Nat → Int} (hpl : ∀ s p, s < 2 ^ nP X → p < nP X → -1000000 ≤ pl s p ∧ pl s p ≤ 1000000) (HI : ∀ s p, s < 2 ^ nP X → p < nP X → am_L M 234 (5 * s + p) = am_l (pl s p)) {set : Nat} (hs : set < 2 ^ nP X) (d : Nat) :
    am_cl 208 (d + 1) [.ref 187, .int (am_i set)] M = some (some (.int (am_i (atRk pl set (nP X) 0))), M) := by
  obtain ⟨hPP, hP5⟩ := hB_P B
  have h32 : 2 ^ nP X ≤ 2 ^ 5 := Nat.pow_le_pow_right (by decide) hP5
  have key : ∀ m k : Nat, k + m = nP X → am_ev 208 (d + 1) 2 [.ref 187, .int (am_i set), .int (am_i k)] [] M = some (some (.int (am_i (atRk pl set m k))), M) := by
    intro m
    induction m with
    | zero =>
      intro k hk
      rw [t208_2]
      simp (disch := omega) only [am_ob_p (kk_187 S), m_personMany S HX, am_bI_p, am_br_ge]
      rw [if_pos (by omega), am_tr_1]
      rfl
    | succ m ih =>
      intro k hk
      obtain ⟨-, -, e3, -, -, o3⟩ := bit_q (P := (set : Int)) (n := nP X) (p := k) (by omega) hP5 (by omega) (by omega)
      obtain ⟨s2, hs2⟩ : ∃ s2 : Nat, bflip set k = s2 := ⟨(bflip set k).toNat, by omega⟩
      have hs2' : s2 < 2 ^ nP X := by omega
      have i1 := HI s2 k hs2' (by omega)
      have i2 := HI set k hs (by omega)
      have b1 := hpl s2 k hs2' (by omega)
      have b2 := hpl set k hs (by omega)
      have u1 : (5 * (s2 : Int) + (k : Int)).toNat = 5 * s2 + k := by omega
      have u2 : (5 * (set : Int) + (k : Int)).toNat = 5 * set + k := by omega
      have ea : atRk pl set (m + 1) k = if pl set k < pl s2 k then 0 else atRk pl set m (k + 1) := by
        show (if pl set k < pl (bflip set k).toNat k then 0 else atRk pl set m (k + 1)) = _
        rw [hs2, Int.toNat_natCast]
      rw [t208_2]
      simp (disch := omega) only [am_ob_p (kk_187 S), m_personMany S HX, am_bI_p, am_br_ge]
      rw [if_neg (by omega), e3, hs2]
      simp (disch := omega) only [am_ob_p (kk_187 S), rr_187_64 S, am_ix_p (kk_234 S), am_gr_p, am_i_ix, Int.toNat_zero, Int.toNat_one, Int.toNat_natCast, Int.reduceToNat, am_lt, am_i_add, am_i_sub, am_i_mul, u1, u2, i1, i2, cmp_le, am_tr_0]
      rw [ea]
      by_cases g : pl set k < pl s2 k
      · rw [if_neg (by omega), if_pos g]
      · rw [if_pos (by omega), if_neg g]
        exact ih (k + 1) (by omega)
  rw [t208]
  exact key (nP X) 0 (by omega)
theorem mTh_hours2 {L : Nat} {q : am_Pq} {M : am_M} {W : am_Wo} {A : am_A} (T : mTh L q M W A) (B : wB W) (BA : aB (wX W) A) (K : List Int) {n : Nat} (hn : n ≤ 100) (hn2 : A 0 0 0 + n ≤ 23999) (d : Nat) : ∃ M', am_cl 187 (d + 7) [.ref 187, .int (am_i n)] M = some (some (.int (am_i (hsum (wX W) (wG W) (A, qz, K) n))), M') ∧ fr (pH 1) M M' ∧ mTh L q M' W (hours (wX W) (wG W) (A, qz, K) n).1 ∧ mQ M' 0 (hours (wX W) (wG W) (A, qz, K) n).2.1 := by
  obtain ⟨S, HX, HG, HA, HS, h60⟩ := T
  obtain ⟨M1, r1, S1, f1, Hs⟩ := m_hoursGo (K := K) (th := 1) S HX HG HA (fun h => absurd h (by decide)) h60 (by decide) B.1 B.2.2.1 BA hn hn2 d
  exact ⟨M1, r1, f1, ⟨S1, mH_mv HX B.1 (fun b k k1 k2 k3 => (f1 b k (by unfold pH; omega)).1), mG_mv HG (fun b k k1 k2 k3 k4 => (f1 b k (by unfold pH; omega)).1), Hs.1, mAs_mv HS (fun k => (f1 230 k (by unfold pH; omega)).1), Hs.2.2.2⟩, Hs.2.2.1⟩
theorem mTh_press2 {L : Nat} {q : am_Pq} {M : am_M} {W : am_Wo} {A : am_A} (T : mTh L q M W A) (B : wB W) (BA : aB (wX W) A) {P : Int} (h0 : 0 ≤ P) (h1 : P < ((2 ^ nP (wX W) : Nat) : Int)) (d : Nat) : ∃ M', am_cl 168 (d + 1) [.ref 187, .int (am_i P)] M = some (none, M') ∧ fr (fun b k => b = 229 ∧ k < 96) M M' ∧ mTh L q M' W (aP A P) := by
  obtain ⟨S, HX, HG, HA, HS, h60⟩ := T
  obtain ⟨M1, r1, S1, f1, HA1⟩ := m_pressAll S HX HA B.1 BA h0 h1 d
  exact ⟨M1, r1, f1, S1, mH_mv HX B.1 (fun b k k1 k2 k3 => (f1 b k (by omega)).1), mG_mv HG (fun b k k1 k2 k3 k4 => (f1 b k (by omega)).1), HA1, mAs_mv HS (fun k => (f1 230 k (by omega)).1), by rw [(f1 187 60 (by omega)).1]; exact h60⟩
def plS (W : am_Wo) (n : Nat) (s p : Nat) : Int := (hours (wX W) (wG W) (aP (wA W) s, qz, wK W) n).2.1 0 p
theorem plS_bd {W : am_Wo} (B : wB W) {n : Nat} (hn : n ≤ 100) (hn2 : wA W 0 0 0 + n ≤ 23999) {s : Nat} (hs : s < 2 ^ nP (wX W)) (p : Nat) : -1000000 ≤ plS W n s p ∧ plS W n s p ≤ 1000000 := by
  have h := hours_q (G := wG W) B.1 (s := (aP (wA W) s, qz, wK W)) (aB_aP B.2.2.2.1 (by omega) (by omega)) p n (by dsimp only; rw [aP_t]; exact hn2)
  have h0 : (aP (wA W) s, qz, wK W).2.1 0 p = 0 := rfl
  rw [h0] at h
  unfold plS
  omega
theorem call_rest {L : Nat} {xs : Nat → Int32} {M : am_M} {W : am_Wo} {b : Nat} (R : Rel L xs M W b) (hb : b < 1000000000) (x : Int32) : Call L xs 18 209 [.int x] M b := by
  obtain ⟨q, hq, S, HC, HM, B, h0⟩ := R
  obtain ⟨w, rfl, w1, w2⟩ := int_of x
  have hh := qok_h hq
  have B1 := B.1
  have BA := B.2.2.2.1
  obtain ⟨hPP, hP5⟩ := hB_P B1
  have h32 : 2 ^ nP (wX W) ≤ 2 ^ 5 := Nat.pow_le_pow_right (by decide) hP5
  have h0N : (0 : Int) ≤ ((2 ^ nP (wX W) : Nat) : Int) := Int.natCast_nonneg _
  have h0P : (1 : Int) ≤ ((2 ^ nP (wX W) : Nat) : Int) := by have : 0 < 2 ^ nP (wX W) := Nat.pow_pos (by decide); omega
  have b1 := pas_01 (wA W) w 0 48
  have r2 := c_canPass S HC.2.2.2.1 BA w1 w2 (lo := 0) (hi := 48) (by decide) (by decide) (by decide) 598
  have e2 := HC.1.1 2 (by decide)
  by_cases g2 : pas (wA W) w 0 48 = 1
  · obtain ⟨n, rfl, hn1, hn2, hn3, hn4⟩ := pas_ex g2 (by decide) (by decide)
    have hpl : ∀ s p, s < 2 ^ nP (wX W) → p < nP (wX W) → -1000000 ≤ plS W n s p ∧ plS W n s p ≤ 1000000 := fun s p hs _ => plS_bd B hn1 hn2 hs p
    -- the class looks ahead for every set
    have look : ∀ m set : Nat, set + m = 2 ^ nP (wX W) → ∀ (M1 : am_M) (q1 : am_Pq) (v5 v6 : Value), qok q1 → q1.2.2.1 = q.2.2.1 → am_Sh L q1 M1 → cWo q1 M1 W b → fr (fun b k => pB b k ∨ b = 35) M M1 → (∀ s p, s < set → p < 5 → am_I M1 35 (5 * s + p) = am_i (plS W n s p)) →
        ∃ M2 q2 v6', am_ev 18 599 33 [.ref 2, .int (am_i n), .int (am_i (wX W 0 2 0)), .int (am_i ((2 ^ nP (wX W) : Nat) : Int)), .int (am_i set), v5, v6] [] M1 = am_ev 18 599 78 [.ref 2, .int (am_i n), .int (am_i (wX W 0 2 0)), .int (am_i ((2 ^ nP (wX W) : Nat) : Int)), .int (am_i (-1)), .int (am_i 0), v6'] [] M2 ∧ qok q2 ∧ q2.2.2.1 = q.2.2.1 ∧ am_Sh L q2 M2 ∧ fr (fun b k => pB b k ∨ b = 35) M M2 ∧ (∀ s p, s < 2 ^ nP (wX W) → p < 5 → am_I M2 35 (5 * s + p) = am_i (plS W n s p)) := by
      intro m
      induction m with
      | zero =>
        intro set hset M1 q1 v5 v6 hq1 hqq S1 HC1 f1 hI
        have : set = 2 ^ nP (wX W) := by omega
        subst this
        refine ⟨M1, q1, v6, ?_, hq1, hqq, S1, f1, hI⟩
        rw [t18_33, am_br_ge (by omega) (by omega) (by omega) (by omega), if_pos (by omega)]
      | succ m ih =>
        intro set hset M1 q1 v5 v6 hq1 hqq S1 HC1 f1 hI
        have hh1 := qok_h hq1
        obtain ⟨M2, s2, S2, f2, HA2, HK2, HQ2⟩ := c_lookAhead S1 hh1 HC1.1 HC1.2.2.1 HC1.2.2.2.1 HC1.2.2.2.2.1 (by omega) B1 B.2.2.1 BA (P := (set : Int)) (by omega) (by omega) hn1 hn2 592
        have ha := am_ac_p (w := 0) (kk_81 S2) (kk_35 S2) (sp := 0) (dp := (set : Int) * 5) (n := 5) (by omega)
        have u5 : ((set : Int) * 5).toNat = 5 * set := by omega
        have S3 := Sh_cp S2 81 0 35 (5 * set) 5
        have f3 : fr (fun b k => pB b k ∨ b = 35) M1 (am_cp M2 81 0 35 (5 * set) 5) := fr_tr (fr_mono f2 (fun b k h => Or.inl h)) (fr_cp (fun k => Or.inr rfl))
        have HC3 : cWo (q1.1, q1.2.1, q1.2.2.1, q1.2.2.1) (am_cp M2 81 0 35 (5 * set) 5) W b := cWo_mv HC1 hq1 B1 rfl (fr_mono f3 (fun b k h => h.elim (fun h => (pB_s h).1) (fun h => sC_35 h)))
        obtain ⟨M4, q4, v6', r4, hq4, hqq4, S4, f4, hI4⟩ := ih (set + 1) (by omega) _ _ v5 v6 (qok_a hq1) hqq S3 HC3 (fr_tr f1 f3) (fun s p hs hp => by
          rw [am_I_cp]
          by_cases g : s = set
          · subst g
            rw [if_pos ⟨rfl, by omega, by omega⟩, show 0 + (5 * s + p - 5 * s) = p by omega]
            exact HQ2.1 p hp
          · rw [if_neg (by omega), (f2 35 _ (by unfold pB; omega)).1]
            exact hI s p (by omega) hp)
        refine ⟨M4, q4, v6', ?_, hq4, hqq4, S4, f4, hI4⟩
        rw [t18_33, am_br_ge (by omega) (by omega) (by omega) (by omega), if_neg (by omega), am_ob_p (kk_2 S1), s2, am_bV_p, am_ob_p (kk_2 S2), rr_2_4 S2, am_gr_p, am_ob_p (kk_75 S2), rr_75_2 S2, am_gr_p, am_ob_p (kk_2 S2), rr_2_12 S2, am_gr_p, am_i_mul, ha, am_i_ix (by omega) (by omega), am_i_ix (by omega) (by omega), am_i_ix (by omega) (by omega), u5, am_i_add]
        exact r4
    -- the class chooses
    have choose : ∀ (M1 : am_M) (q1 : am_Pq), am_Sh L q1 M1 → (∀ s p, s < 2 ^ nP (wX W) → p < 5 → am_I M1 35 (5 * s + p) = am_i (plS W n s p)) → ∀ m set : Nat, set + m = 2 ^ nP (wX W) → ∀ (best : Int) (v1 v6 : Value), -1 ≤ best → best < ((2 ^ nP (wX W) : Nat) : Int) → am_ev 18 599 78 [.ref 2, v1, .int (am_i (wX W 0 2 0)), .int (am_i ((2 ^ nP (wX W) : Nat) : Int)), .int (am_i best), .int (am_i set), v6] [] M1 = some (some (.int (am_i (restk (plS W n) (nP (wX W)) m set best))), M1) := by
      intro M1 q1 S1 hI m
      induction m with
      | zero =>
        intro set hset best v1 v6 hb1 hb2
        rw [t18_78, am_br_ge (by omega) (by omega) (by omega) (by omega), if_pos (by omega)]
        rfl
      | succ m ih =>
        intro set hset best v1 v6 hb1 hb2
        have hs : set < 2 ^ nP (wX W) := by omega
        have c1 := bcnt_bd set
        have c2 := bcnt_bd best.toNat
        have rr := c_isAtRest S1 hP5 hpl hI hs 598
        rw [hPP] at rr
        have h01 := atRk_01 (plS W n) set (nP (wX W)) 0
        have e : restk (plS W n) (nP (wX W)) (m + 1) set best = restk (plS W n) (nP (wX W)) m (set + 1) (if (best = -1 ∨ bcnt set < bcnt best.toNat) ∧ atRk (plS W n) set (nP (wX W)) 0 = 1 then (set : Int) else best) := rfl
        have skip : ∀ v6, ¬ ((best = -1 ∨ bcnt set < bcnt best.toNat) ∧ atRk (plS W n) set (nP (wX W)) 0 = 1) → am_ev 18 599 78 [.ref 2, v1, .int (am_i (wX W 0 2 0)), .int (am_i ((2 ^ nP (wX W) : Nat) : Int)), .int (am_i best), .int (am_i ((set : Int) + 1)), v6] [] M1 = some (some (.int (am_i (restk (plS W n) (nP (wX W)) (m + 1) set best))), M1) := by
          intro v6 h
          rw [e, if_neg h]
          exact ih (set + 1) (by omega) best v1 v6 hb1 hb2
        have at1 : ∀ f : Int, (f = 0 ∨ f = 1) → (f = 1 ↔ (best = -1 ∨ bcnt set < bcnt best.toNat)) → am_ev 18 599 108 [.ref 2, v1, .int (am_i (wX W 0 2 0)), .int (am_i ((2 ^ nP (wX W) : Nat) : Int)), .int (am_i best), .int (am_i set), v6] [.int (am_i f)] M1 = some (some (.int (am_i (restk (plS W n) (nP (wX W)) (m + 1) set best))), M1) := by
          intro f hf hf2
          rw [t18_108, am_br_eq (by omega) (by omega) (by omega) (by omega), am_i_add]
          by_cases g : f = 0
          · rw [if_pos g]
            exact skip _ (fun h => by have := hf2.mpr h.1; omega)
          · rw [if_neg g, am_ob_p (kk_2 S1), rr, am_bI_p, am_br_eq (by omega) (by omega) (by omega) (by omega)]
            by_cases g3 : atRk (plS W n) set (nP (wX W)) 0 = 0
            · rw [if_pos g3]
              exact skip _ (fun h => by have := h.2; omega)
            · rw [if_neg g3, e, if_pos ⟨hf2.mp (by omega), by omega⟩]
              exact ih (set + 1) (by omega) set v1 _ (by omega) (by omega)
        rw [t18_78, am_br_ge (by omega) (by omega) (by omega) (by omega), if_neg (by omega), am_br_eq (by omega) (by omega) (by omega) (by omega)]
        by_cases g : best = -1
        · rw [if_pos g]
          exact at1 1 (Or.inr rfl) ⟨fun _ => Or.inl g, fun _ => rfl⟩
        · have cs : (set : Int).toNat = set := Int.toNat_natCast _
          rw [if_neg g, j_bitCount (P := (set : Int)) (by omega) (by omega), am_bI_p, j_bitCount (P := best) (by omega) (by omega), am_bI_p, cs, am_br_ge (by omega) (by omega) (by omega) (by omega)]
          by_cases g3 : bcnt best.toNat ≤ bcnt set
          · rw [if_pos g3]
            exact at1 0 (Or.inl rfl) ⟨fun h => absurd h (by decide), fun h => by omega⟩
          · rw [if_neg g3]
            exact at1 1 (Or.inr rfl) ⟨fun _ => Or.inr (by omega), fun _ => rfl⟩
    obtain ⟨M1, q1, v6', r1, hq1, hqq1, S1, f1, hI1⟩ := look (2 ^ nP (wX W)) 0 (by omega) M q .null .null hq rfl S HC (fr_rfl _ _) (fun s p hs => absurd hs (by omega))
    have rC := choose M1 q1 S1 hI1 (2 ^ nP (wX W)) 0 (by omega) (-1) (.int (am_i n)) v6' (by omega) (by omega)
    -- the reference
    have HM1 := mWo_mv HM B1 (M' := M1) (fr_mono f1 (fun b k h => sM_lt (by unfold pB at h; omega)))
    obtain ⟨M2, s2, f2, T2⟩ := mTh_aside S1 HM1 B 598
    have inner : ∀ (set : Nat), set < 2 ^ nP (wX W) → ∀ m p : Nat, p + m = nP (wX W) → ∀ (M3 : am_M), mTh L q1 M3 W (wA W) → fr pR M1 M3 → (∀ p, p < 5 → am_L M3 232 p = am_l (plS W n set p)) → (∀ s p', (s < set ∨ (s = set ∧ p' < p)) → p' < nP (wX W) → am_L M3 234 (5 * s + p') = am_l (plS W n s p')) →
        ∃ M4, am_ev 209 599 49 [.ref 187, .int (am_i n), .int (am_i ((2 ^ nP (wX W) : Nat) : Int)), .int (am_i set), .int (am_i p)] [] M3 = am_ev 209 599 26 [.ref 187, .int (am_i n), .int (am_i ((2 ^ nP (wX W) : Nat) : Int)), .int (am_i ((set : Int) + 1)), .int (am_i (wX W 0 2 0))] [] M4 ∧ mTh L q1 M4 W (wA W) ∧ fr pR M1 M4 ∧ (∀ s p', s < set + 1 → p' < nP (wX W) → am_L M4 234 (5 * s + p') = am_l (plS W n s p')) := by
      intro set hset m
      induction m with
      | zero =>
        intro p hp M3 T3 f3 hL hI
        have : p = nP (wX W) := by omega
        subst this
        refine ⟨M3, ?_, T3, f3, fun s p' hs hp' => hI s p' (by omega) hp'⟩
        rw [t209_49]
        simp (disch := omega) only [am_ob_p (kk_187 T3.1), m_personMany T3.1 T3.2.1, am_bI_p, am_br_ge, am_i_add]
        rw [if_pos (by omega), hPP]
      | succ m ih =>
        intro p hp M3 T3 f3 hL hI
        have u : (5 * (set : Int) + (p : Int)).toNat = 5 * set + p := by omega
        have eL := hL p (by omega)
        have S3 := T3.1
        obtain ⟨M4, r4, T4, f4, hI4⟩ := ih (p + 1) (by omega) (am_sL M3 234 (5 * set + p) (am_l (plS W n set p))) ⟨S3.sL _ _ _, T3.2.1, T3.2.2.1, T3.2.2.2.1, T3.2.2.2.2.1, T3.2.2.2.2.2⟩ (fr_tr f3 (fr_sL ⟨Or.inl (sM_230 (by omega)), by omega⟩)) (fun p hp => by rw [am_L_ne1 (by omega)]; exact hL p hp) (fun s p' hs hp' => by
          by_cases g : 5 * s + p' = 5 * set + p
          · have h1 : s = set := by omega
            have h2 : p' = p := by omega
            subst h1 h2
            rw [am_L_same]
          · rw [am_L_ne2 g]
            exact hI s p' (by omega) hp')
        refine ⟨M4, ?_, T4, f4, hI4⟩
        rw [t209_49]
        simp (disch := omega) only [am_ob_p (kk_187 S3), m_personMany S3 T3.2.1, am_bI_p, am_br_ge]
        rw [if_neg (by omega)]
        simp (disch := omega) only [am_ob_p (kk_187 S3), rr_187_64 S3, rr_187_62 S3, am_ix_p (kk_232 S3), am_iw_p (kk_234 S3), am_gr_p, am_i_ix, Int.toNat_zero, Int.toNat_one, Int.toNat_natCast, Int.reduceToNat, am_lt, am_i_add, am_i_sub, am_i_mul, u, eL]
        exact r4
    have outer : ∀ m set : Nat, set + m = 2 ^ nP (wX W) → ∀ (M3 : am_M) (v4 : Value), mTh L q1 M3 W (wA W) → fr pR M1 M3 → (∀ s p', s < set → p' < nP (wX W) → am_L M3 234 (5 * s + p') = am_l (plS W n s p')) →
        ∃ M4, am_ev 209 599 26 [.ref 187, .int (am_i n), .int (am_i ((2 ^ nP (wX W) : Nat) : Int)), .int (am_i set), v4] [] M3 = am_ev 209 599 97 [.ref 187, .int (am_i n), .int (am_i ((2 ^ nP (wX W) : Nat) : Int)), .int (am_i (-1)), .int (am_i 0)] [] M4 ∧ am_Sh L q1 M4 ∧ fr pR M1 M4 ∧ mA M4 (wA W) ∧ am_I M4 187 60 = am_i 0 ∧ mH M4 (wX W) ∧ (∀ s p', s < 2 ^ nP (wX W) → p' < nP (wX W) → am_L M4 234 (5 * s + p') = am_l (plS W n s p')) := by
      intro m
      induction m with
      | zero =>
        intro set hset M3 v4 T3 f3 hI
        have : set = 2 ^ nP (wX W) := by omega
        subst this
        obtain ⟨M4, s4, f4, S4, HA4, h60⟩ := mTh_back T3 597
        refine ⟨M4, ?_, S4, fr_tr f3 (fr_mono f4 (fun b k h => pR_back h)), HA4, h60, mH_mv T3.2.1 B1 (fun b k k1 k2 k3 => (f4 b k (by omega)).1), fun s p' hs hp' => by rw [(f4 234 _ (by omega)).2]; exact hI s p' hs hp'⟩
        rw [t209_26, am_br_ge (by omega) (by omega) (by omega) (by omega), if_pos (by omega), am_ob_p (kk_187 T3.1), s4, am_bV_p]
      | succ m ih =>
        intro set hset M3 v4 T3 f3 hI
        obtain ⟨M4, s4, f4, T4⟩ := mTh_press2 T3 B BA (P := (set : Int)) (by omega) (by omega) 597
        obtain ⟨M5, s5, f5, T5, Q5⟩ := mTh_hours2 T4 B (aB_aP BA (by omega) (by omega)) (wK W) hn1 (by rw [aP_t]; exact hn2) 591
        obtain ⟨M6, s6, f6, T6⟩ := mTh_anew T5 B 598
        have h234 : ∀ k, am_L M6 234 k = am_L M3 234 k := fun k => by rw [(f6 234 k (by omega)).2, (f5 234 k (by unfold pH; omega)).2, (f4 234 k (by omega)).2]
        obtain ⟨M7, r7, T7, f7, hI7⟩ := inner set (by omega) (nP (wX W)) 0 (by omega) M6 T6 (fr_tr (fr_tr (fr_tr f3 (fr_mono f4 (fun b k h => pR_229 h))) (fr_mono f5 (fun b k h => pH_s h))) (fr_mono f6 (fun b k h => pR_229 h))) (fun p hp => by rw [(f6 232 p (by omega)).2]; exact Q5.1 p hp) (fun s p' hs hp' => by rw [h234]; exact hI s p' (by omega) hp')
        obtain ⟨M8, r8, hR⟩ := ih (set + 1) (by omega) M7 _ T7 f7 hI7
        refine ⟨M8, ?_, hR⟩
        rw [t209_26, am_br_ge (by omega) (by omega) (by omega) (by omega), if_neg (by omega), am_ob_p (kk_187 T3.1), s4, am_bV_p, am_ob_p (kk_187 T4.1), s5, am_bI_p, am_ob_p (kk_187 T5.1), s6, am_bV_p]
        exact r7.trans r8
    have mchoose : ∀ (M4 : am_M), am_Sh L q1 M4 → mH M4 (wX W) → (∀ s p, s < 2 ^ nP (wX W) → p < nP (wX W) → am_L M4 234 (5 * s + p) = am_l (plS W n s p)) → ∀ m set : Nat, set + m = 2 ^ nP (wX W) → ∀ (best : Int) (v1 : Value), -1 ≤ best → best < ((2 ^ nP (wX W) : Nat) : Int) → am_ev 209 599 97 [.ref 187, v1, .int (am_i ((2 ^ nP (wX W) : Nat) : Int)), .int (am_i best), .int (am_i set)] [] M4 = some (some (.int (am_i (restk (plS W n) (nP (wX W)) m set best))), M4) := by
      intro M4 S4 HX4 hI m
      induction m with
      | zero =>
        intro set hset best v1 hb1 hb2
        rw [t209_97, am_br_ge (by omega) (by omega) (by omega) (by omega), if_pos (by omega)]
        rfl
      | succ m ih =>
        intro set hset best v1 hb1 hb2
        have hs : set < 2 ^ nP (wX W) := by omega
        have c1 := bcnt_bd set
        have c2 := bcnt_bd best.toNat
        have rr := m_isRest S4 HX4 B1 hpl hI hs 597
        have h01 := atRk_01 (plS W n) set (nP (wX W)) 0
        have e : restk (plS W n) (nP (wX W)) (m + 1) set best = restk (plS W n) (nP (wX W)) m (set + 1) (if (best = -1 ∨ bcnt set < bcnt best.toNat) ∧ atRk (plS W n) set (nP (wX W)) 0 = 1 then (set : Int) else best) := rfl
        have skip : ¬ ((best = -1 ∨ bcnt set < bcnt best.toNat) ∧ atRk (plS W n) set (nP (wX W)) 0 = 1) → am_ev 209 599 97 [.ref 187, v1, .int (am_i ((2 ^ nP (wX W) : Nat) : Int)), .int (am_i best), .int (am_i ((set : Int) + 1))] [] M4 = some (some (.int (am_i (restk (plS W n) (nP (wX W)) (m + 1) set best))), M4) := by
          intro h
          rw [e, if_neg h]
          exact ih (set + 1) (by omega) best v1 hb1 hb2
        have take : ((best = -1 ∨ bcnt set < bcnt best.toNat) ∧ atRk (plS W n) set (nP (wX W)) 0 = 1) → am_ev 209 599 97 [.ref 187, v1, .int (am_i ((2 ^ nP (wX W) : Nat) : Int)), .int (am_i set), .int (am_i ((set : Int) + 1))] [] M4 = some (some (.int (am_i (restk (plS W n) (nP (wX W)) (m + 1) set best))), M4) := by
          intro h
          rw [e, if_pos h]
          exact ih (set + 1) (by omega) set v1 (by omega) (by omega)
        rw [t209_97, am_br_ge (by omega) (by omega) (by omega) (by omega), if_neg (by omega), am_br_eq (by omega) (by omega) (by omega) (by omega), am_i_add]
        by_cases g : best = -1
        · rw [if_pos g, am_ob_p (kk_187 S4), rr, am_bI_p, am_br_eq (by omega) (by omega) (by omega) (by omega)]
          by_cases g3 : atRk (plS W n) set (nP (wX W)) 0 = 0
          · rw [if_pos g3]
            exact skip (fun h => by have := h.2; omega)
          · rw [if_neg g3]
            exact take ⟨Or.inl g, by omega⟩
        · have cs : (set : Int).toNat = set := Int.toNat_natCast _
          rw [if_neg g, m_bits (P := (set : Int)) (by omega) (by omega), am_bI_p, m_bits (P := best) (by omega) (by omega), am_bI_p, cs, am_br_ge (by omega) (by omega) (by omega) (by omega)]
          by_cases g3 : bcnt best.toNat ≤ bcnt set
          · rw [if_pos g3]
            exact skip (fun h => by omega)
          · rw [if_neg g3, am_ob_p (kk_187 S4), rr, am_bI_p, am_br_eq (by omega) (by omega) (by omega) (by omega)]
            by_cases g4 : atRk (plS W n) set (nP (wX W)) 0 = 0
            · rw [if_pos g4]
              exact skip (fun h => by have := h.2; omega)
            · rw [if_neg g4]
              exact take ⟨Or.inr (by omega), by omega⟩
    obtain ⟨M4, r4, S4, f4, HA4, h60, HX4, hI4⟩ := outer (2 ^ nP (wX W)) 0 (by omega) M2 .null T2 f2 (fun s p hs => absurd hs (by omega))
    have rM := mchoose M4 S4 HX4 hI4 (2 ^ nP (wX W)) 0 (by omega) (-1) (.int (am_i n)) (by omega) (by omega)
    have esh := shl_1 hP5
    rw [hPP] at esh
    refine Call_ahead (v := .int (am_i (restk (plS W n) (nP (wX W)) (2 ^ nP (wX W)) 0 (-1)))) (M1 := M1) (M2 := M4) (iv _) hq HC HM B h0 ?_ (fr_mono f1 (fun b k h => h.elim (fun h => pB_s h) (fun h => ⟨sC_35 h, by omega⟩))) hq1 hqq1 ?_ f4 HA4 h60 S4
    · rw [t18, am_ob_p (kk_2 S), r2, am_bI_p, am_br_ne (by omega) (by omega) (by omega) (by omega), if_p1 g2]
      simp (disch := omega) only [am_ob_p (kk_2 S), am_ob_p (kk_3 S), am_ob_p (kk_63 S), am_ob_p (kk_64 S), rr_63_0 S, rr_63_1 S, rr_64_2 S, rr_64_3 S, rr_64_4 S, rr_64_5 S, rr_2_0 S, rr_2_1 S, rr_2_3 S, rr_2_4 S, rr_2_5 S, rr_2_8 S, rr_2_10 S, rr_2_12 S, rr_2_13 S, rr_2_14 S, am_ix_p (kk_30 S), am_iw_p (kk_30 S), am_ix_p (kk_33 S), am_iw_p (kk_33 S), am_ix_p (kk_34 S), am_iw_p (kk_34 S), am_ix_p (kk_35 S), am_iw_p (kk_35 S), am_ix_p (kk_36 S), am_iw_p (kk_36 S), am_ix_p (kk_37 S), am_iw_p (kk_37 S), am_ix_p (kk_65 S), am_iw_p (kk_65 S), am_ix_p (kk_66 S), am_iw_p (kk_66 S), am_ix_p (kk_67 S), am_iw_p (kk_67 S), am_ix_p (kk_68 S), am_iw_p (kk_68 S), am_ob_p (H_k0 S hh), am_ix_p (H_k1 S hh), am_iw_p (H_k1 S hh), am_ix_p (H_k6 S hh), am_iw_p (H_k6 S hh), am_ix_p (H_k16 S hh), am_iw_p (H_k16 S hh), am_ix_p (H_k17 S hh), am_iw_p (H_k17 S hh), am_ix_p (H_k24 S hh), am_iw_p (H_k24 S hh), H_r0_0 S hh, H_r0_1 S hh, H_r0_2 S hh, H_r0_3 S hh, H_r0_4 S hh, H_r0_5 S hh, H_r0_6 S hh, H_r0_15 S hh, H_r2 S hh, H_r7 S hh, H_r18 S hh, am_iq_p (H_k2 S hh), am_iq_p (H_k7 S hh), am_iq_p (H_k18 S hh), am_gr_p, am_i_ix, Int.toNat_zero, Int.toNat_one, Int.toNat_natCast, Int.reduceToNat, am_lt, am_i_add, am_i_sub, am_i_mul, e2, esh]
      exact r1.trans rC
    · have r5 := m_isAhead S1 HM1.2.2.2.1 BA w1 w2 (lo := 0) (hi := 48) (by decide) (by decide) (by decide) 597
      rw [t209, am_ob_p (kk_187 S1), r5, am_bI_p, am_br_ne (by omega) (by omega) (by omega) (by omega), if_p1 g2, am_ob_p (kk_187 S1), m_personMany S1 HM1.1, am_bI_p, am_ob_p (kk_187 S1), s2, am_bV_p, esh]
      exact r4.trans rM
  · have g2' := pas_0 g2
    refine Call_same (v := .int (am_i (-1))) (iv _) hq HC HM B h0 S ?_ ?_
    · rw [t18, am_ob_p (kk_2 S), r2, am_bI_p, am_br_ne (by omega) (by omega) (by omega) (by omega), if_p0 g2']
    · rw [t209, am_ob_p (kk_187 S), m_isAhead S HM.2.2.2.1 BA w1 w2 (by decide) (by decide) (by decide), am_bI_p, am_br_ne (by omega) (by omega) (by omega) (by omega), if_p0 g2']
