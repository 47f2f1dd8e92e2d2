/-! on: is it an image, the reference. -/
theorem okT_mono (Z : Nat → Nat → Int) (o : Nat) (f : Int) {n : Nat} (h : okT Z o n f = 0) : ∀ m, okT Z o (n + m) f = 0
  | 0 => h
  | m + 1 => by
    show (if okT Z o (n + m) f = 1 ∧ tw Z (o + 2 * (n + m)) ≤ 999 then (1 : Int) else 0) = 0
    rw [if_neg (fun g => by have := okT_mono Z o f h m; omega)]
theorem okS_mono (X : am_X) (Z : Nat → Nat → Int) (o : Nat) (f : Int) {n : Nat} (h : okS X Z o n f = 0) : ∀ m, okS X Z o (n + m) f = 0
  | 0 => h
  | m + 1 => by
    show (if okS X Z o (n + m) f = 1 ∧ Z 0 (o + (n + m)) ≤ X 2 (n + m) 0 then (1 : Int) else 0) = 0
    rw [if_neg (fun g => by have := okS_mono X Z o f h m; omega)]
theorem okP_mono (X : am_X) (Z : Nat → Nat → Int) {n : Nat} (h : okP X Z n = 0) : ∀ m, okP X Z (n + m) = 0
  | 0 => h
  | m + 1 => by
    show (if okP X Z (n + m) = 1 ∧ Z 0 (pb X + 3 * (n + m)) ≤ 1 ∧ tw Z (pb X + 3 * (n + m) + 1) ≤ 9999 then (1 : Int) else 0) = 0
    rw [if_neg (fun g => by have := okP_mono X Z h m; omega)]
/-- is a profile well -/
def prOk (X : am_X) (Z : Nat → Nat → Int) (q : Nat) : Int := okS X Z (pf X q + 2 * nK X) (nF X) (okT Z (pf X q) (nK X) 1)
theorem okQ_0 (X : am_X) (Z : Nat → Nat → Int) {f : Int} {n : Nat} (h : okQ X Z n f = 0) : ∀ m, okQ X Z (n + m) f = 0
  | 0 => h
  | m + 1 => by
    show okS X Z (pf X (n + m) + 2 * nK X) (nF X) (okT Z (pf X (n + m)) (nK X) (okQ X Z (n + m) f)) = 0
    rw [okQ_0 X Z h m]
    have h1 := okT_mono Z (pf X (n + m)) 0 (n := 0) rfl (nK X)
    rw [Nat.zero_add] at h1
    rw [h1]
    have h2 := okS_mono X Z (pf X (n + m) + 2 * nK X) 0 (n := 0) rfl (nF X)
    rw [Nat.zero_add] at h2
    exact h2
theorem m_twoAt {L : Nat} {q : am_Pq} {M : am_M} (S : am_Sh L q M) {Z : Nat → Nat → Int} (HI : ∀ k, k < 1600 → am_I M 188 k = am_i (Z 0 k)) {k : Nat} (hk : k < 1599) (d : Nat) : am_cl 266 d [.ref 187, .int (am_i k)] M = some (some (.int (am_i (tw Z k))), M) := by
  have u : ((k : Int) + 1).toNat = k + 1 := by omega
  rw [t266, am_ob_p (kk_187 S), rr_187_0 S, am_gr_p, am_ix_p (kk_188 S) (by omega) (by omega) (by omega), am_ob_p (kk_187 S), am_gr_p, am_i_add, am_ix_p (kk_188 S) (by omega) (by omega) (by omega), am_i_ix (by omega) (by omega), am_i_ix (by omega) (by omega), Int.toNat_natCast, u, HI k (by omega), HI (k + 1) (by omega), am_i_mul, am_i_add]
  unfold tw
  rw [Int.mul_comm]
theorem m_profileFrom {L : Nat} {q : am_Pq} {M : am_M} (S : am_Sh L q M) {X : am_X} (HX : mH M X) (B : hB X) (p : Nat) (d : Nat) : am_cl 267 (d + 1) [.ref 187, .int (am_i p)] M = some (some (.int (am_i ((pf X p : Nat) : Int))), M) := by
  obtain ⟨hKK, -⟩ := hB_K B
  obtain ⟨hFF, -⟩ := hB_F B
  rw [t267, am_ob_p (kk_187 S), m_kindMany S HX, am_bI_p, am_ob_p (kk_187 S), m_filmMany S HX, am_bI_p, am_i_mul, am_i_add, am_i_mul, am_i_add, ← hKK, ← hFF]
  have e : (3 : Int) + (p : Int) * (2 * (nK X : Int) + (nF X : Int)) = ((pf X p : Nat) : Int) := by
    unfold pf rl
    push_cast
    rfl
  rw [e]
theorem m_isProfileTold {L : Nat} {q : am_Pq} {M : am_M} (S : am_Sh L q M) {X : am_X} (HX : mH M X) (B : hB X) {Z : Nat → Nat → Int} (BZ : zB X Z) (HI : ∀ k, k < 1600 → am_I M 188 k = am_i (Z 0 k)) {p : Nat} (hp : p ≤ nP X) (d : Nat) : am_cl 268 (d + 2) [.ref 187, .int (am_i p)] M = some (some (.int (am_i (prOk X Z p))), M) := by
  obtain ⟨hKK, hK6⟩ := hB_K B
  obtain ⟨hFF, hF8⟩ := hB_F B
  obtain ⟨hPP, hP5⟩ := hB_P B
  have hpf := pf_bd B p
  have seen : okT Z (pf X p) (nK X) 1 = 1 → ∀ m n : Nat, n + m = nF X → okS X Z (pf X p + 2 * nK X) n 1 = 1 → ∀ v1 : Value, am_ev 268 (d + 2) 50 [.ref 187, v1, .int (am_i ((pf X p + 2 * nK X : Nat) : Int)), .int (am_i n)] [] M = some (some (.int (am_i (prOk X Z p))), M) := by
    intro hT m
    induction m with
    | zero =>
      intro n hn h1 v1
      have : n = nF X := by omega
      subst this
      rw [t268_50, am_ob_p (kk_187 S), m_filmMany S HX, am_bI_p, am_br_ge (by omega) (by omega) (by omega) (by omega), if_pos (by omega), am_tr_1]
      unfold prOk
      rw [hT, h1]
    | succ m ih =>
      intro n hn h1 v1
      have u : (((pf X p + 2 * nK X : Nat) : Int) + (n : Int)).toNat = pf X p + 2 * nK X + n := by omega
      have b := BZ.1 (pf X p + 2 * nK X + n)
      have bp := hB_pt B (show n < nF X by omega)
      have ek : okS X Z (pf X p + 2 * nK X) (n + 1) 1 = if okS X Z (pf X p + 2 * nK X) n 1 = 1 ∧ Z 0 (pf X p + 2 * nK X + n) ≤ X 2 n 0 then 1 else 0 := rfl
      rw [t268_50, am_ob_p (kk_187 S), m_filmMany S HX, am_bI_p, am_br_ge (by omega) (by omega) (by omega) (by omega), if_neg (by omega), am_ob_p (kk_187 S), rr_187_0 S, am_gr_p, am_i_add, am_ix_p (kk_188 S) (by omega) (by omega) (by omega), am_ob_p (kk_187 S), m_partsOf S HX B (show n < nF X by omega), am_bI_p, am_i_ix (by omega) (by omega), u, HI _ (by omega), am_br_le (by omega) (by omega) (by omega) (by omega), am_i_add]
      by_cases g : Z 0 (pf X p + 2 * nK X + n) ≤ X 2 n 0
      · rw [if_pos g]
        exact ih (n + 1) (by omega) (by rw [ek, if_pos ⟨h1, g⟩]) v1
      · rw [if_neg g, am_tr_0]
        have h0 := okS_mono X Z (pf X p + 2 * nK X) 1 (n := n + 1) (by rw [ek, if_neg (fun h => g h.2)]) m
        rw [show n + 1 + m = nF X by omega] at h0
        unfold prOk
        rw [hT, h0]
  have taste : ∀ m n : Nat, n + m = nK X → okT Z (pf X p) n 1 = 1 → ∀ v1 : Value, am_ev 268 (d + 2) 8 [.ref 187, v1, .int (am_i ((pf X p : Nat) : Int)), .int (am_i n)] [] M = some (some (.int (am_i (prOk X Z p))), M) := by
    intro m
    induction m with
    | zero =>
      intro n hn h1 v1
      have : n = nK X := by omega
      subst this
      rw [t268_8, am_ob_p (kk_187 S), m_kindMany S HX, am_bI_p, am_br_ge (by omega) (by omega) (by omega) (by omega), if_pos (by omega), am_ob_p (kk_187 S), m_kindMany S HX, am_bI_p, am_i_mul, am_i_add, show ((pf X p : Nat) : Int) + 2 * X 0 0 0 = ((pf X p + 2 * nK X : Nat) : Int) by omega]
      exact seen h1 (nF X) 0 (by omega) rfl _
    | succ m ih =>
      intro n hn h1 v1
      have bw := tw_bd BZ (pf X p + 2 * n)
      have ek : okT Z (pf X p) (n + 1) 1 = if okT Z (pf X p) n 1 = 1 ∧ tw Z (pf X p + 2 * n) ≤ 999 then 1 else 0 := rfl
      rw [t268_8, am_ob_p (kk_187 S), m_kindMany S HX, am_bI_p, am_br_ge (by omega) (by omega) (by omega) (by omega), if_neg (by omega), am_ob_p (kk_187 S), am_i_mul, am_i_add, show ((pf X p : Nat) : Int) + 2 * (n : Int) = ((pf X p + 2 * n : Nat) : Int) by omega, m_twoAt S HI (by omega), am_bI_p, am_br_le (by omega) (by omega) (by omega) (by omega), am_i_add]
      by_cases g : tw Z (pf X p + 2 * n) ≤ 999
      · rw [if_pos g]
        exact ih (n + 1) (by omega) (by rw [ek, if_pos ⟨h1, g⟩]) v1
      · rw [if_neg g, am_tr_0]
        have h0 := okT_mono Z (pf X p) 1 (n := n + 1) (by rw [ek, if_neg (fun h => g h.2)]) m
        rw [show n + 1 + m = nK X by omega] at h0
        unfold prOk
        rw [h0]
        have h2 := okS_mono X Z (pf X p + 2 * nK X) 0 (n := 0) rfl (nF X)
        rw [Nat.zero_add] at h2
        rw [h2]
  rw [t268, am_ob_p (kk_187 S), m_profileFrom S HX B p, am_bI_p]
  exact taste (nK X) 0 (by omega) rfl _
/-- the tape's first n bytes -/
def tpl (Z : Nat → Nat → Int) (n : Nat) : List Int := (List.range n).map (Z 0)
theorem tpl_len (Z : Nat → Nat → Int) (n : Nat) : (tpl Z n).length = n := by unfold tpl; rw [List.length_map, List.length_range]
theorem tpl_get (Z : Nat → Nat → Int) {n k : Nat} (h : k < n) : (tpl Z n).getD k 0 = Z 0 k := by
  unfold tpl
  rw [List.getD_eq_getElem?_getD, List.getElem?_map, List.getElem?_range h]
  rfl
theorem tpl_B {X : am_X} {Z : Nat → Nat → Int} (B : zB X Z) (n : Nat) : lB (tpl Z n) := by
  intro k hk
  rw [tpl_len] at hk
  rw [tpl_get Z hk]
  exact B.1 k
/-- is the tape of n bytes an image -/
def isImg (X : am_X) (Z : Nat → Nat → Int) (N : Int) : Int := if N = ((pb X + 3 * nP X + 1 : Nat) : Int) ∧ Z 0 (pb X + 3 * nP X) = chkN (tpl Z (pb X + 3 * nP X)) (pb X + 3 * nP X) ∧ okQ X Z (nP X + 1) (ok0 Z) = 1 ∧ okP X Z (nP X) = 1 then 1 else 0
theorem m_isImage {L : Nat} {q : am_Pq} {M : am_M} (S : am_Sh L q M) {X : am_X} (HX : mH M X) (B : hB X) {Z : Nat → Nat → Int} (BZ : zB X Z) (HI : ∀ k, k < 1600 → am_I M 188 k = am_i (Z 0 k)) {N : Int} (hN0 : 0 ≤ N) (hN : N ≤ 1600) (d : Nat) : am_cl 269 (d + 3) [.ref 187, .int (am_i N)] M = some (some (.int (am_i (isImg X Z N))), M) := by
  obtain ⟨hPP, hP5⟩ := hB_P B
  have hpb : pb X ≤ 3 + 20 * (nP X + 1) := pf_bd B (nP X + 1)
  have people : N = ((pb X + 3 * nP X + 1 : Nat) : Int) → Z 0 (pb X + 3 * nP X) = chkN (tpl Z (pb X + 3 * nP X)) (pb X + 3 * nP X) → okQ X Z (nP X + 1) (ok0 Z) = 1 → ∀ m n : Nat, n + m = nP X → okP X Z n = 1 → ∀ v1 : Value, am_ev 269 (d + 3) 98 [.ref 187, v1, .int (am_i ((pb X : Nat) : Int)), .int (am_i n)] [] M = some (some (.int (am_i (isImg X Z N))), M) := by
    intro a1 a2 a3 m
    induction m with
    | zero =>
      intro n hn h1 v1
      have : n = nP X := by omega
      subst this
      rw [t269_98, am_ob_p (kk_187 S), m_personMany S HX, am_bI_p, am_br_ge (by omega) (by omega) (by omega) (by omega), if_pos (by omega), am_tr_1, show isImg X Z N = 1 from if_pos ⟨a1, a2, a3, h1⟩]
    | succ m ih =>
      intro n hn h1 v1
      have u : (((pb X : Nat) : Int) + 3 * (n : Int)).toNat = pb X + 3 * n := by omega
      have b := BZ.1 (pb X + 3 * n)
      have bw := tw_bd BZ (pb X + 3 * n + 1)
      have ek : okP X Z (n + 1) = if okP X Z n = 1 ∧ Z 0 (pb X + 3 * n) ≤ 1 ∧ tw Z (pb X + 3 * n + 1) ≤ 9999 then 1 else 0 := rfl
      have bad : okP X Z (n + 1) = 0 → isImg X Z N = 0 := fun h => if_neg (fun g => by
        have h0 := okP_mono X Z h m
        rw [show n + 1 + m = nP X by omega] at h0
        have := g.2.2.2
        omega)
      rw [t269_98, am_ob_p (kk_187 S), m_personMany S HX, am_bI_p, am_br_ge (by omega) (by omega) (by omega) (by omega), if_neg (by omega), am_ob_p (kk_187 S), rr_187_0 S, am_gr_p, am_i_mul, am_i_add, am_ix_p (kk_188 S) (by omega) (by omega) (by omega), am_i_ix (by omega) (by omega), u, HI _ (by omega), am_br_gt (by omega) (by omega) (by omega) (by omega)]
      by_cases g : 1 < Z 0 (pb X + 3 * n)
      · rw [if_pos g, am_tr_0, bad (by rw [ek, if_neg (by omega)])]
      · rw [if_neg g, am_ob_p (kk_187 S), am_i_add, am_i_add, show ((pb X : Nat) : Int) + 1 + 3 * (n : Int) = ((pb X + 3 * n + 1 : Nat) : Int) by omega, m_twoAt S HI (by omega), am_bI_p, am_br_le (by omega) (by omega) (by omega) (by omega), am_i_add]
        by_cases g2 : tw Z (pb X + 3 * n + 1) ≤ 9999
        · rw [if_pos g2]
          exact ih (n + 1) (by omega) (by rw [ek, if_pos ⟨h1, by omega, g2⟩]) v1
        · rw [if_neg g2, am_tr_0, bad (by rw [ek, if_neg (by omega)])]
  have profs : N = ((pb X + 3 * nP X + 1 : Nat) : Int) → Z 0 (pb X + 3 * nP X) = chkN (tpl Z (pb X + 3 * nP X)) (pb X + 3 * nP X) → ∀ m n : Nat, n + m = nP X + 1 → okQ X Z n (ok0 Z) = 1 → ∀ v1 : Value, am_ev 269 (d + 3) 72 [.ref 187, v1, .int (am_i ((pb X : Nat) : Int)), .int (am_i n)] [] M = some (some (.int (am_i (isImg X Z N))), M) := by
    intro a1 a2 m
    induction m with
    | zero =>
      intro n hn h1 v1
      have : n = nP X + 1 := by omega
      subst this
      rw [t269_72, am_ob_p (kk_187 S), m_personMany S HX, am_bI_p, am_br_gt (by omega) (by omega) (by omega) (by omega), if_pos (by omega)]
      exact people a1 a2 h1 (nP X) 0 (by omega) rfl v1
    | succ m ih =>
      intro n hn h1 v1
      have ek : okQ X Z (n + 1) (ok0 Z) = prOk X Z n := by
        show okS X Z (pf X n + 2 * nK X) (nF X) (okT Z (pf X n) (nK X) (okQ X Z n (ok0 Z))) = _
        rw [h1]
        rfl
      have h01 := okQ_01 X Z (ok0_01 Z) (n + 1)
      rw [t269_72, am_ob_p (kk_187 S), m_personMany S HX, am_bI_p, am_br_gt (by omega) (by omega) (by omega) (by omega), if_neg (by omega), am_ob_p (kk_187 S), m_isProfileTold S HX B BZ HI (by omega), am_bI_p, ← ek, am_br_ne (by omega) (by omega) (by omega) (by omega), am_i_add]
      rcases h01 with g | g
      · rw [if_pos g, am_tr_0]
        have h0 := okQ_0 X Z g m
        rw [show n + 1 + m = nP X + 1 by omega] at h0
        rw [show isImg X Z N = 0 from if_neg (fun g => by have := g.2.2.1; omega)]
      · rw [if_neg (by omega)]
        exact ih (n + 1) (by omega) g v1
  rw [t269, am_ob_p (kk_187 S), m_personMany S HX, am_bI_p, am_ob_p (kk_187 S), am_i_add, show (1 : Int) + X 0 2 0 = ((nP X + 1 : Nat) : Int) by omega, m_profileFrom S HX B (nP X + 1), am_bI_p, am_ob_p (kk_187 S), m_personMany S HX, am_bI_p, am_i_mul, am_i_add, am_i_add, show ((pf X (nP X + 1) : Nat) : Int) + 3 * X 0 2 0 + 1 = ((pb X + 3 * nP X + 1 : Nat) : Int) by unfold pb; omega, am_br_ne (by omega) (by omega) (by omega) (by omega)]
  by_cases g1 : N = ((pb X + 3 * nP X + 1 : Nat) : Int)
  · have eN : N - 1 = ((pb X + 3 * nP X : Nat) : Int) := by omega
    have hck := m_check S (r := 188) (Or.inr (kk_188 S)) (l := tpl Z (pb X + 3 * nP X)) (by rw [tpl_len]; omega) (tpl_B BZ _) (fun k hk => by rw [tpl_len] at hk; rw [tpl_get Z hk]; exact HI k (by omega)) (d + 2)
    rw [tpl_len] at hck
    have bc := chkN_bd (tpl Z (pb X + 3 * nP X)) (pb X + 3 * nP X)
    have bz := BZ.1 (pb X + 3 * nP X)
    have bw := tw_bd BZ 0
    have b2 := BZ.1 2
    rw [if_pos g1, am_ob_p (kk_187 S), rr_187_0 S, am_gr_p, am_i_sub, eN, am_ix_p (kk_188 S) (by omega) (by omega) (by omega), am_ob_p (kk_187 S), am_gr_p, hck, am_bI_p, am_i_ix (by omega) (by omega), Int.toNat_natCast, HI _ (by omega), am_br_ne (by omega) (by omega) (by omega) (by omega)]
    by_cases g2 : Z 0 (pb X + 3 * nP X) = chkN (tpl Z (pb X + 3 * nP X)) (pb X + 3 * nP X)
    · have bad : ok0 Z = 0 → isImg X Z N = 0 := fun h => if_neg (fun g => by
        have h0 := okQ_0 X Z (f := ok0 Z) (n := 0) h (nP X + 1)
        rw [Nat.zero_add] at h0
        have := g.2.2.1
        omega)
      rw [if_pos g2, am_ob_p (kk_187 S), show (am_i 0) = am_i ((0 : Nat) : Int) from rfl, m_twoAt S HI (k := 0) (by decide), am_bI_p, am_br_gt (by omega) (by omega) (by omega) (by omega)]
      by_cases g3 : 999 < tw Z 0
      · rw [if_pos g3, show am_tr (am_i ((0 : Nat) : Int)) = am_tr (am_i 0) from rfl, am_tr_0, bad (if_neg (by omega))]
        rfl
      · rw [if_neg g3, am_ob_p (kk_187 S), rr_187_0 S, am_gr_p, am_ix_p (kk_188 S) (by omega) (by omega) (by omega), am_i_ix (by omega) (by omega), show (2 : Int).toNat = 2 from rfl, HI 2 (by decide), am_br_lt (by omega) (by omega) (by omega) (by omega)]
        by_cases g4 : Z 0 2 < 24
        · rw [if_pos g4]
          exact profs g1 g2 (nP X + 1) 0 (by omega) (if_pos ⟨by omega, g4⟩) _
        · rw [if_neg g4, show am_tr (am_i ((0 : Nat) : Int)) = am_tr (am_i 0) from rfl, am_tr_0, bad (if_neg (by omega))]
          rfl
    · rw [if_neg g2, am_tr_0, show isImg X Z N = 0 from if_neg (fun g => g2 g.2.1)]
  · rw [if_neg g1, am_tr_0, show isImg X Z N = 0 from if_neg (fun g => g1 g.1)]
