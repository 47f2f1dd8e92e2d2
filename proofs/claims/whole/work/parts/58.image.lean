/-! image. -/
/-- an image so far -/
def imgZ (Z : Nat → Nat → Int) (l : List Int) : Nat → Nat → Int := fun a b => if a = 5 ∧ b < l.length then l.getD b 0 else if a = 6 ∧ b = 0 then (l.length : Int) else Z a b
theorem imgZ_o {Z : Nat → Nat → Int} {l : List Int} {a b : Nat} (h0 : a ≠ 5) (h1 : a ≠ 6) : imgZ Z l a b = Z a b := (if_neg (fun h => h0 h.1)).trans (if_neg (fun h => h1 h.1))
theorem imgZ_6 (Z : Nat → Nat → Int) (l : List Int) : imgZ Z l 6 0 = l.length := (if_neg (by omega)).trans (if_pos ⟨rfl, rfl⟩)
theorem imgZ_5 {Z : Nat → Nat → Int} {l : List Int} {k : Nat} (h : k < l.length) : imgZ Z l 5 k = l.getD k 0 := if_pos ⟨rfl, h⟩
theorem imgZ_s (Z : Nat → Nat → Int) (l : List Int) (x : Int) (k : Nat) : imgZ Z (l ++ [x]) 5 k = if k = l.length then x else imgZ Z l 5 k := by
  have hl : (l ++ [x]).length = l.length + 1 := by rw [List.length_append]; rfl
  by_cases g : k = l.length
  · subst g
    rw [if_pos rfl, imgZ_5 (by omega), List.getD_eq_getElem?_getD, List.getElem?_append_right (Nat.le_refl _), Nat.sub_self]
    rfl
  · rw [if_neg g]
    by_cases g2 : k < l.length
    · rw [imgZ_5 (by omega), imgZ_5 g2, List.getD_eq_getElem?_getD, List.getD_eq_getElem?_getD, List.getElem?_append_left g2]
    · exact ((if_neg (by omega)).trans (if_neg (by omega))).trans ((if_neg (by omega)).trans (if_neg (by omega))).symm
theorem cWz_img {M : am_M} {Z : Nat → Nat → Int} {l : List Int} (H : cWz M (imgZ Z l)) (x : Int) : cWz (am_sI (am_sI M 34 l.length (am_i x)) 2 11 (am_i ((l.length : Int) + 1))) (imgZ Z (l ++ [x])) := by
  obtain ⟨k1, k2, k3, k4, k5, k6, k7, k8, k9, k10⟩ := H
  have e : ∀ a b, a ≠ 5 → a ≠ 6 → imgZ Z (l ++ [x]) a b = imgZ Z l a b := fun a b h h2 => (imgZ_o h h2).trans (imgZ_o h h2).symm
  refine ⟨fun k hk => ?_, ?_, ?_, ?_, fun k hk => ?_, ?_, fun k hk => ?_, ?_, fun k hk => ?_, ?_⟩
  · rw [am_I_ne1 (by omega), am_I_ne1 (by omega), e _ _ (by decide) (by decide)]; exact k1 k hk
  · rw [am_I_ne2 (by omega), am_I_ne1 (by omega), e _ _ (by decide) (by decide)]; exact k2
  · rw [am_I_ne1 (by omega), am_I_ne1 (by omega), e _ _ (by decide) (by decide)]; exact k3
  · rw [am_I_ne1 (by omega), am_I_ne1 (by omega), e _ _ (by decide) (by decide)]; exact k4
  · rw [am_I_ne1 (by omega), am_I_ne1 (by omega), e _ _ (by decide) (by decide)]; exact k5 k hk
  · rw [am_I_ne2 (by omega), am_I_ne1 (by omega), e _ _ (by decide) (by decide)]; exact k6
  · rw [am_I_ne1 (by omega), imgZ_s]
    by_cases g : k = l.length
    · subst g; rw [am_I_same, if_pos rfl]
    · rw [am_I_ne2 g, if_neg g]; exact k7 k hk
  · rw [am_I_same, imgZ_6, List.length_append]; rfl
  · rw [am_I_ne1 (by omega), am_I_ne1 (by omega), e _ _ (by decide) (by decide)]; exact k9 k hk
  · rw [am_I_ne2 (by omega), am_I_ne1 (by omega), e _ _ (by decide) (by decide)]; exact k10
theorem mWz_img {M : am_M} {Z : Nat → Nat → Int} {l : List Int} (H : mWz M (imgZ Z l)) (x : Int) : mWz (am_sI (am_sI M 260 l.length (am_i x)) 187 102 (am_i ((l.length : Int) + 1))) (imgZ Z (l ++ [x])) := by
  obtain ⟨k1, k2, k3, k4, k5, k6, k7, k8, k9, k10⟩ := H
  have e : ∀ a b, a ≠ 5 → a ≠ 6 → imgZ Z (l ++ [x]) a b = imgZ Z l a b := fun a b h h2 => (imgZ_o h h2).trans (imgZ_o h h2).symm
  refine ⟨fun k hk => ?_, ?_, ?_, ?_, fun k hk => ?_, ?_, fun k hk => ?_, ?_, fun k hk => ?_, ?_⟩
  · rw [am_I_ne1 (by omega), am_I_ne1 (by omega), e _ _ (by decide) (by decide)]; exact k1 k hk
  · rw [am_I_ne2 (by omega), am_I_ne1 (by omega), e _ _ (by decide) (by decide)]; exact k2
  · rw [am_I_ne2 (by omega), am_I_ne1 (by omega), e _ _ (by decide) (by decide)]; exact k3
  · rw [am_I_ne2 (by omega), am_I_ne1 (by omega), e _ _ (by decide) (by decide)]; exact k4
  · rw [am_I_ne1 (by omega), am_I_ne1 (by omega), e _ _ (by decide) (by decide)]; exact k5 k hk
  · rw [am_I_ne2 (by omega), am_I_ne1 (by omega), e _ _ (by decide) (by decide)]; exact k6
  · rw [am_I_ne1 (by omega), imgZ_s]
    by_cases g : k = l.length
    · subst g; rw [am_I_same, if_pos rfl]
    · rw [am_I_ne2 g, if_neg g]; exact k7 k hk
  · rw [am_I_same, imgZ_6, List.length_append]; rfl
  · rw [am_I_ne1 (by omega), am_I_ne1 (by omega), e _ _ (by decide) (by decide)]; exact k9 k hk
  · rw [am_L_sI', am_L_sI', e _ _ (by decide) (by decide)]; exact k10
def pI (b k : Nat) : Prop := b = 34 ∨ (b = 2 ∧ k = 11)
def pJ (b k : Nat) : Prop := b = 260 ∨ (b = 187 ∧ k = 102)
/-- the class's image so far -/
def cIm (L : Nat) (q : am_Pq) (M0 M : am_M) (Z : Nat → Nat → Int) (l : List Int) : Prop := am_Sh L q M ∧ fr pI M0 M ∧ cWz M (imgZ Z l)
def mIm (L : Nat) (q : am_Pq) (M0 M : am_M) (Z : Nat → Nat → Int) (l : List Int) : Prop := am_Sh L q M ∧ fr pJ M0 M ∧ mWz M (imgZ Z l)
theorem c_putByte {L : Nat} {q : am_Pq} {M0 M : am_M} {Z : Nat → Nat → Int} {l : List Int} (H : cIm L q M0 M Z l) (hl : l.length < 139) (x : Int) (d : Nat) : ∃ M', am_cl 57 d [.ref 2, .int (am_i x)] M = some (none, M') ∧ cIm L q M0 M' Z (l ++ [x]) := by
  obtain ⟨S, f, HZ⟩ := H
  have e := HZ.2.2.2.2.2.2.2.1
  rw [imgZ_6] at e
  refine ⟨_, ?_, ((S.sI 34 l.length (am_i x)).sI 2 11 (am_i ((l.length : Int) + 1))), fr_tr f (fr_tr (fr_sI (Or.inl rfl)) (fr_sI (Or.inr ⟨rfl, rfl⟩))), cWz_img HZ x⟩
  rw [t57, am_ob_p (kk_2 S), e, am_br_ge (by omega) (by omega) (by omega) (by omega), if_neg (by omega), am_ob_p (kk_2 S), rr_2_10 S, am_gr_p, am_ob_p (kk_2 S), am_iw_p (kk_34 S) (by omega) (by omega) (by omega) (by omega), am_i_ix (by omega) (by omega), Int.toNat_natCast]
  simp only [am_lt]
  rw [am_ob_p (kk_2 (S.sI 34 _ _)), am_ob_p (kk_2 (S.sI 34 _ _)), am_I_ne1 (by omega), e, am_i_add]
theorem c_putTwo {L : Nat} {q : am_Pq} {M0 M : am_M} {Z : Nat → Nat → Int} {l : List Int} (H : cIm L q M0 M Z l) (hl : l.length < 138) {x : Int} (h0 : 0 ≤ x) (h1 : x ≤ 65535) (d : Nat) : ∃ M', am_cl 56 (d + 1) [.ref 2, .int (am_i x)] M = some (none, M') ∧ cIm L q M0 M' Z (l ++ [x / 256, x % 256]) := by
  obtain ⟨M1, r1, H1⟩ := c_putByte H (by omega) (x / 256) d
  obtain ⟨M2, r2, H2⟩ := c_putByte H1 (by rw [List.length_append]; show l.length + 1 < 139; omega) (x % 256) d
  rw [List.append_assoc] at H2
  refine ⟨M2, ?_, H2⟩
  rw [t56, am_ob_p (kk_2 H.1), show (am_i 8) = am_i ((8 : Nat) : Int) from rfl, shr_i (by omega) (by omega) (by decide), show ((2 ^ 8 : Nat) : Int) = 256 from rfl, r1, am_bV_p, am_ob_p (kk_2 H1.1), and_255, r2, am_bV_p]
theorem m_writes {L : Nat} {q : am_Pq} {M0 M : am_M} {Z : Nat → Nat → Int} {l : List Int} (H : mIm L q M0 M Z l) (hl : l.length < 139) (x : Int) (d : Nat) : ∃ M', am_cl 262 d [.ref 187, .int (am_i x)] M = some (none, M') ∧ mIm L q M0 M' Z (l ++ [x]) := by
  obtain ⟨S, f, HZ⟩ := H
  have e := HZ.2.2.2.2.2.2.2.1
  rw [imgZ_6] at e
  refine ⟨_, ?_, ((S.sI 260 l.length (am_i x)).sI 187 102 (am_i ((l.length : Int) + 1))), fr_tr f (fr_tr (fr_sI (Or.inl rfl)) (fr_sI (Or.inr ⟨rfl, rfl⟩))), mWz_img HZ x⟩
  rw [t262, am_ob_p (kk_187 S), rr_187_101 S, am_gr_p, am_ob_p (kk_187 S), e, am_iw_p (kk_260 S) (by omega) (by omega) (by omega) (by omega), am_i_ix (by omega) (by omega), Int.toNat_natCast]
  simp only [am_lt]
  rw [am_ob_p (kk_187 (S.sI 260 _ _)), am_ob_p (kk_187 (S.sI 260 _ _)), am_I_ne1 (by omega), e, am_i_add]
theorem m_writesTwo {L : Nat} {q : am_Pq} {M0 M : am_M} {Z : Nat → Nat → Int} {l : List Int} (H : mIm L q M0 M Z l) (hl : l.length < 138) {x : Int} (h0 : 0 ≤ x) (h1 : x ≤ 65535) (d : Nat) : ∃ M', am_cl 263 (d + 1) [.ref 187, .int (am_i x)] M = some (none, M') ∧ mIm L q M0 M' Z (l ++ [x / 256, x % 256]) := by
  obtain ⟨M1, r1, H1⟩ := m_writes H (by omega) (x / 256) d
  obtain ⟨M2, r2, H2⟩ := m_writes H1 (by rw [List.length_append]; show l.length + 1 < 139; omega) (x % 256) d
  rw [List.append_assoc] at H2
  refine ⟨M2, ?_, H2⟩
  rw [t263, am_if_f (by decide), am_ob_p (kk_187 H.1), am_i_div (by omega) (by omega) (by omega) (by omega), r1, am_bV_p, am_if_f (by decide), am_ob_p (kk_187 H1.1), ← am_i_div (by omega) (by omega) (by omega) (by omega), am_i_rem (by omega) (by omega) (by omega) (by omega), r2, am_bV_p]
/-- what an image holds -/
def imK (A : am_A) (q : Nat) (l : List Int) : Nat → List Int
  | 0 => l
  | n + 1 => imK A q l n ++ [A 2 q n / 256, A 2 q n % 256]
def imF (A : am_A) (q : Nat) (l : List Int) : Nat → List Int
  | 0 => l
  | n + 1 => imF A q l n ++ [A 3 q n]
def imQ (K F : Nat) (A : am_A) (l : List Int) : Nat → List Int
  | 0 => l
  | n + 1 => imF A n (imK A n (imQ K F A l n) K) F
def imP (A : am_A) (l : List Int) : Nat → List Int
  | 0 => l
  | n + 1 => imP A l n ++ [prs A n] ++ [A 4 n 0 / 256, A 4 n 0 % 256]
theorem imK_len (A : am_A) (q : Nat) (l : List Int) : ∀ n, (imK A q l n).length = l.length + 2 * n
  | 0 => rfl
  | n + 1 => by
    show (imK A q l n ++ [A 2 q n / 256, A 2 q n % 256]).length = _
    rw [List.length_append, imK_len A q l n]
    show l.length + 2 * n + 2 = _
    omega
theorem imF_len (A : am_A) (q : Nat) (l : List Int) : ∀ n, (imF A q l n).length = l.length + n
  | 0 => rfl
  | n + 1 => by
    show (imF A q l n ++ [A 3 q n]).length = _
    rw [List.length_append, imF_len A q l n]
    rfl
theorem imQ_len {K F : Nat} (hK : K ≤ 6) (hF : F ≤ 8) (A : am_A) (l : List Int) : ∀ n, (imQ K F A l n).length ≤ l.length + 20 * n
  | 0 => Nat.le_refl _
  | n + 1 => by
    have := imQ_len hK hF A l n
    show (imF A n (imK A n (imQ K F A l n) K) F).length ≤ _
    rw [imF_len, imK_len]
    omega
theorem imP_len (A : am_A) (l : List Int) : ∀ n, (imP A l n).length = l.length + 3 * n
  | 0 => rfl
  | n + 1 => by
    show (imP A l n ++ [prs A n] ++ [A 4 n 0 / 256, A 4 n 0 % 256]).length = _
    rw [List.length_append, List.length_append, imP_len A l n]
    show l.length + 3 * n + 1 + 2 = _
    omega
/-- the sum over an image -/
def chkN (l : List Int) : Nat → Int
  | 0 => 53
  | n + 1 => (3 * chkN l n + l.getD n 0) % 251
def lB (l : List Int) : Prop := ∀ k, k < l.length → 0 ≤ l.getD k 0 ∧ l.getD k 0 ≤ 255
theorem chkN_bd (l : List Int) : ∀ n, 0 ≤ chkN l n ∧ chkN l n ≤ 250
  | 0 => by show (0 : Int) ≤ 53 ∧ (53 : Int) ≤ 250; omega
  | n + 1 => by show 0 ≤ (3 * chkN l n + l.getD n 0) % 251 ∧ (3 * chkN l n + l.getD n 0) % 251 ≤ 250; omega
theorem lB_s {l : List Int} (h : lB l) {x : Int} (h0 : 0 ≤ x) (h1 : x ≤ 255) : lB (l ++ [x]) := by
  intro k hk
  rw [List.length_append] at hk
  have hk' : k < l.length + 1 := hk
  rw [List.getD_eq_getElem?_getD]
  by_cases g : k < l.length
  · rw [List.getElem?_append_left g, ← List.getD_eq_getElem?_getD]
    exact h k g
  · have : k = l.length := by omega
    subst this
    rw [List.getElem?_append_right (Nat.le_refl _), Nat.sub_self]
    exact ⟨h0, h1⟩
theorem lB_2 {l : List Int} (h : lB l) {x : Int} (h0 : 0 ≤ x) (h1 : x ≤ 65535) : lB (l ++ [x / 256, x % 256]) := by
  have h2 := lB_s (lB_s h (x := x / 256) (by omega) (by omega)) (x := x % 256) (by omega) (by omega)
  rw [List.append_assoc] at h2
  exact h2
theorem c_check {L : Nat} {q : am_Pq} {M : am_M} (S : am_Sh L q M) {l : List Int} (hl : l.length ≤ 138) (HB : lB l) (HI : ∀ k, k < l.length → am_I M 34 k = am_i (l.getD k 0)) (d : Nat) : am_cl 58 d [.ref 2, .ref 34, .int (am_i l.length)] M = some (some (.int (am_i (chkN l l.length))), M) := by
  have key : ∀ m n : Nat, n + m = l.length → am_ev 58 d 6 [.ref 2, .ref 34, .int (am_i l.length), .int (am_i (chkN l n)), .int (am_i n)] [] M = some (some (.int (am_i (chkN l l.length))), M) := by
    intro m
    induction m with
    | zero =>
      intro n hn
      have : n = l.length := by omega
      subst this
      rw [t58_6, am_br_ge (by omega) (by omega) (by omega) (by omega), if_pos (by omega)]
    | succ m ih =>
      intro n hn
      have b := chkN_bd l n
      have b2 := HB n (by omega)
      have e := HI n (by omega)
      have ec : (3 * chkN l n + l.getD n 0) % 251 = chkN l (n + 1) := rfl
      rw [t58_6, am_br_ge (by omega) (by omega) (by omega) (by omega), if_neg (by omega), kk_34 S, am_if_t (by decide), am_i_nI, am_br_ge (by omega) (by omega) (by omega) (by omega), if_neg (by omega), am_ix_p (kk_34 S) (by omega) (by omega) (by omega), am_i_ix (by omega) (by omega), Int.toNat_natCast, e, am_if_f (by decide), am_i_mul, am_i_add]
      simp only [am_lt]
      rw [am_i_rem (by omega) (by omega) (by omega) (by omega), ec, am_i_add]
      exact ih (n + 1) (by omega)
  rw [t58]
  exact key l.length 0 (by omega)
theorem m_check {L : Nat} {q : am_Pq} {M : am_M} (S : am_Sh L q M) {r : Nat} (hr : am_K M r = (2, 139) ∨ am_K M r = (2, 1600)) {l : List Int} (hl : l.length ≤ 139) (HB : lB l) (HI : ∀ k, k < l.length → am_I M r k = am_i (l.getD k 0)) (d : Nat) : am_cl 261 d [.ref r, .int (am_i l.length)] M = some (some (.int (am_i (chkN l l.length))), M) := by
  have key : ∀ m n : Nat, n + m = l.length → am_ev 261 d 5 [.ref r, .int (am_i l.length), .int (am_i (chkN l n)), .int (am_i n)] [] M = some (some (.int (am_i (chkN l l.length))), M) := by
    intro m
    induction m with
    | zero =>
      intro n hn
      have : n = l.length := by omega
      subst this
      rw [t261_5, am_br_ge (by omega) (by omega) (by omega) (by omega), if_pos (by omega)]
    | succ m ih =>
      intro n hn
      have b := chkN_bd l n
      have b2 := HB n (by omega)
      have e := HI n (by omega)
      have ec : (3 * chkN l n + l.getD n 0) % 251 = chkN l (n + 1) := rfl
      have hx : ∀ t s : am_Q, am_ix M r 2 (am_i (n : Int)) t s = t := fun t s => by
        rcases hr with hr | hr
        · exact am_ix_p hr (by omega) (by omega) (by omega) t s
        · exact am_ix_p hr (by omega) (by omega) (by omega) t s
      rw [t261_5, am_br_ge (by omega) (by omega) (by omega) (by omega), if_neg (by omega), hx, am_i_ix (by omega) (by omega), Int.toNat_natCast, e, am_if_f (by decide), am_i_mul, am_i_add]
      simp only [am_lt]
      rw [am_i_rem (by omega) (by omega) (by omega) (by omega), ec, am_i_add]
      exact ih (n + 1) (by omega)
  rw [t261]
  exact key l.length 0 (by omega)
