/-! The reference's reader: tokens. -/
/-- ended, the place of a fault (none yet), the words -/
def mE (Z : Nat → Nat → Int) (M : am_M) (s : Nat) (t : Bool) : Prop := (∃ e : Int, am_I M 187 4 = am_i e ∧ -1 ≤ e ∧ e ≤ (s : Int) ∧ (t = true ↔ e = (s : Int))) ∧ am_I M 187 6 = am_i (-1) ∧ mWw M ∧ ∀ k, 0 ≤ Z 0 k ∧ Z 0 k ≤ 255
/-- the next token stands at s; the reader is at it, or at blanks ahead of it -/
def mP (L : Nat) (q : am_Pq) (Z : Nat → Nat → Int) (n : Nat) (M : am_M) (s : Nat) (t : Bool) : Prop := ∃ a, mAt L q M Z n a ∧ sk Z n a = s ∧ mE Z M s t
def mQt (L : Nat) (q : am_Pq) (Z : Nat → Nat → Int) (n : Nat) (M : am_M) (s : Nat) (t : Bool) : Prop := mAt L q M Z n s ∧ sk Z n s = s ∧ mE Z M s t
theorem mQ_P {L : Nat} {q : am_Pq} {Z : Nat → Nat → Int} {n : Nat} {M : am_M} {s : Nat} {t : Bool} (H : mQt L q Z n M s t) : mP L q Z n M s t := ⟨s, H⟩
theorem mP_S {L : Nat} {q : am_Pq} {Z : Nat → Nat → Int} {n : Nat} {M : am_M} {s : Nat} {t : Bool} (H : mP L q Z n M s t) : am_Sh L q M ∧ am_I M 187 5 = am_i 0 ∧ s ≤ n ∧ n ≤ 1600 ∧ ∀ k, 0 ≤ Z 0 k ∧ Z 0 k ≤ 255 := by
  obtain ⟨a, ⟨S, HI, e2, e3, e5, ha, hn⟩, hs, hE⟩ := H
  exact ⟨S, e5, by rw [← hs]; exact (sk_bd Z n a).2 ha, hn, hE.2.2.2⟩
theorem mWw_mv {M M' : am_M} (H : mWw M) (e : ∀ b k, ((190 ≤ b ∧ b < 219) ∨ (237 ≤ b ∧ b < 257)) → am_I M' b k = am_I M b k) : mWw M' := ⟨fun j hj k hk => (e _ _ (by omega)).trans (H.1 j hj k hk), fun j hj k hk => (e _ _ (by omega)).trans (H.2 j hj k hk)⟩
/-- what does not touch the reader -/
def nR (b k : Nat) : Prop := ¬ (b = 188 ∨ (190 ≤ b ∧ b < 219) ∨ (237 ≤ b ∧ b < 257) ∨ (b = 187 ∧ 2 ≤ k ∧ k ≤ 6))
theorem mP_mv {L : Nat} {q : am_Pq} {Z : Nat → Nat → Int} {n : Nat} {M M' : am_M} {s : Nat} {t : Bool} (H : mP L q Z n M s t) (S' : am_Sh L q M') (f : fr nR M M') : mP L q Z n M' s t := by
  obtain ⟨a, ⟨S, HI, e2, e3, e5, ha, hn⟩, hs, ⟨e, e4, h1, h2, h3⟩, e6, hw, hz⟩ := H
  have g : ∀ b k, ¬ nR b k → am_I M' b k = am_I M b k := fun b k h => (f b k h).1
  exact ⟨a, ⟨S', fun k hk => (g _ _ (by unfold nR; omega)).trans (HI k hk), (g _ _ (by unfold nR; omega)).trans e2, (g _ _ (by unfold nR; omega)).trans e3, (g _ _ (by unfold nR; omega)).trans e5, ha, hn⟩, hs, ⟨e, (g _ _ (by unfold nR; omega)).trans e4, h1, h2, h3⟩, (g _ _ (by unfold nR; omega)).trans e6, mWw_mv hw (fun b k h => g b k (by unfold nR; omega)), hz⟩
theorem mQt_mv {L : Nat} {q : am_Pq} {Z : Nat → Nat → Int} {n : Nat} {M M' : am_M} {s : Nat} {t : Bool} (H : mQt L q Z n M s t) (S' : am_Sh L q M') (f : fr nR M M') : mQt L q Z n M' s t := by
  obtain ⟨⟨S, HI, e2, e3, e5, ha, hn⟩, hs, ⟨e, e4, h1, h2, h3⟩, e6, hw, hz⟩ := H
  have g : ∀ b k, ¬ nR b k → am_I M' b k = am_I M b k := fun b k h => (f b k h).1
  exact ⟨⟨S', fun k hk => (g _ _ (by unfold nR; omega)).trans (HI k hk), (g _ _ (by unfold nR; omega)).trans e2, (g _ _ (by unfold nR; omega)).trans e3, (g _ _ (by unfold nR; omega)).trans e5, ha, hn⟩, hs, ⟨e, (g _ _ (by unfold nR; omega)).trans e4, h1, h2, h3⟩, (g _ _ (by unfold nR; omega)).trans e6, mWw_mv hw (fun b k h => g b k (by unfold nR; omega)), hz⟩
theorem m_lk {L : Nat} {q : am_Pq} {Z : Nat → Nat → Int} {n : Nat} {M : am_M} {s : Nat} {t : Bool} (H : mP L q Z n M s t) (d : Nat) : ∃ M', am_cl 133 d [.ref 187] M = some (some (.int (am_i (if s < n then Z 0 s else -1))), M') ∧ mQt L q Z n M' s t ∧ fr (fun b k => b = 187 ∧ k = 2) M M' := by
  obtain ⟨a, hA, hs, ⟨e, e4, h1, h2, h3⟩, e6, hw, hz⟩ := H
  obtain ⟨S, HI, e2, e3, e5, ha, hn⟩ := hA
  obtain ⟨M', r, S', f', e'⟩ := m_look' hz hn d (n - a) a rfl ha M S HI e2 e3
  rw [hs] at r e'
  have hsn : s ≤ n := by rw [← hs]; exact (sk_bd Z n a).2 ha
  refine ⟨M', ?_, ⟨⟨S', fun k hk => by rw [(f' 188 k (by omega)).1]; exact HI k hk, e', by rw [(f' 187 3 (by omega)).1]; exact e3, by rw [(f' 187 5 (by omega)).1]; exact e5, hsn, hn⟩, by rw [← hs]; exact sk_idem Z n a, ⟨e, by rw [(f' 187 4 (by omega)).1]; exact e4, h1, h2, h3⟩, by rw [(f' 187 6 (by omega)).1]; exact e6, mWw_mv hw (fun b k h => (f' b k (by omega)).1), hz⟩, f'⟩
  rw [t133]
  exact r
theorem kd_kinds (Z : Nat → Nat → Int) (n s : Nat) (t : Bool) : (kd Z n s t = 1 ↔ s < n ∧ ltr (Z 0 s) = 1 ∧ t = false) ∧ (kd Z n s t = 2 ↔ s < n ∧ ¬ ltr (Z 0 s) = 1 ∧ dgt (Z 0 s) = 1 ∧ t = false) ∧ (kd Z n s t = 3 ↔ s < n ∧ ¬ ltr (Z 0 s) = 1 ∧ ¬ dgt (Z 0 s) = 1) ∧ (kd Z n s t = 0 ↔ ¬ s < n) := by
  unfold kd
  by_cases g : s < n
  · simp only [if_pos g]
    by_cases g1 : ltr (Z 0 s) = 1
    · simp only [if_pos g1]
      cases t <;> simp [g, g1]
    · simp only [if_neg g1]
      by_cases g2 : dgt (Z 0 s) = 1
      · simp only [if_pos g2]
        cases t <;> simp [g, g1, g2]
      · simp only [if_neg g2]
        simp [g, g1, g2]
  · simp only [if_neg g]
    simp [g]
/-- the bytes from s to e -/
def wrd (Z : Nat → Nat → Int) (s e : Nat) : List Int := (List.range (e - s)).map (fun i => Z 0 (s + i))
theorem wrd_len (Z : Nat → Nat → Int) (s e : Nat) : (wrd Z s e).length = e - s := by simp [wrd]
theorem wrd_get {Z : Nat → Nat → Int} {s e i : Nat} (h : i < e - s) : (wrd Z s e).getD i 0 = Z 0 (s + i) := by
  simp [wrd, List.getD_eq_getElem?_getD, List.getElem?_range h]
theorem wrd_eq {Z : Nat → Nat → Int} {s e : Nat} {w : List Int} (hl : e - s = w.length) (h : ∀ i, i < w.length → Z 0 (s + i) = w.getD i 0) : wrd Z s e = w := by
  apply List.ext_getElem
  · rw [wrd_len]; exact hl
  · intro i h1 h2
    have := h i h2
    rw [List.getD_eq_getElem?_getD, List.getElem?_eq_getElem h2] at this
    simp only [Option.getD_some] at this
    rw [← this]
    simp [wrd]
/-- the word w is here -/
def hrb (Z : Nat → Nat → Int) (n s : Nat) (t : Bool) (w : List Int) : Bool := decide (kd Z n s t = 1 ∧ wrd Z s (te Z n s) = w)
theorem m_isHere0 {L : Nat} {q : am_Pq} {Z : Nat → Nat → Int} {n : Nat} {M M1 : am_M} {s : Nat} {t : Bool} (S : am_Sh L q M) (e5 : am_I M 187 5 = am_i 0) (hz : ∀ k, 0 ≤ Z 0 k ∧ Z 0 k ≤ 255) (hsn : s ≤ n) (hn : n ≤ 1600) {d : Nat} (r1 : am_cl 133 d [.ref 187] M = some (some (.int (am_i (if s < n then Z 0 s else -1))), M1)) (H1 : mQt L q Z n M1 s t) {r : Nat} {w : List Int} (hK : ∀ M', am_Sh L q M' → am_K M' r = (4, w.length)) (hw8 : w.length ≤ 8) (hW1 : ∀ k, k < w.length → am_I M1 r k = am_i (w.getD k 0)) (hwb : ∀ k, k < w.length → 0 ≤ w.getD k 0 ∧ w.getD k 0 ≤ 255) : am_cl 134 (d + 1) [.ref 187, .ref r] M = some (some (.int (am_i (if hrb Z n s t w = true then 1 else 0))), M1) := by
  obtain ⟨⟨S1, HI, g2, g3, g5, -, -⟩, hs2, ⟨e, g4, h1, h2, h3⟩, g6, hww, -⟩ := H1
  have hK1 := hK M1 S1
  have hkk := kd_kinds Z n s t
  have hb : -1 ≤ (if s < n then Z 0 s else -1) ∧ (if s < n then Z 0 s else -1) ≤ 255 := by have := hz s; split <;> omega
  rw [t134, am_ob_p (kk_187 S), e5, am_br_ne (by omega) (by omega) (by omega) (by omega), if_pos rfl, am_ob_p (kk_187 S), r1, am_bI_p, m_isLetter (by omega) (by omega), am_bI_p]
  by_cases c0 : s < n
  · rw [if_pos c0]
    have hb := hz s
    by_cases c1 : ltr (Z 0 s) = 1
    · rw [c1, am_br_eq (by omega) (by omega) (by omega) (by omega), if_neg (by omega), am_ob_p (kk_187 S1), am_ob_p (kk_187 S1), g2, g4, am_br_ne (by omega) (by omega) (by omega) (by omega)]
      by_cases c2 : (s : Int) = e
      · have ht : t = true := h3.mpr c2.symm
        have hf : ¬ hrb Z n s t w = true := fun h => by
          have := (hkk.1.mp (of_decide_eq_true h).1).2.2
          rw [ht] at this
          exact absurd this (by decide)
        rw [if_pos c2, am_tr_0, if_neg hf]
      · have ht : t = false := by
          cases t
          · rfl
          · exact absurd (h3.mp rfl).symm c2
        have hk1 : kd Z n s t = 1 := hkk.1.mpr ⟨c0, c1, ht⟩
        have hte := (kd_1 hk1).2.2.2
        rw [if_neg c2, am_ob_p (kk_187 S1)]
        have lp : ∀ m a : Nat, n - a = m → a ≤ n → s ≤ a → (rn ltr Z n s = rn ltr Z n a) → ∀ v, am_ev 134 (d + 1) 35 [.ref 187, .ref r, .int (am_i (a : Int)), v] [] M1 = am_ev 134 (d + 1) 61 [.ref 187, .ref r, .int (am_i (te Z n s : Int)), v] [] M1 := by
          intro m
          induction m with
          | zero =>
            intro a hm ha hsa hra v
            rw [t134_35, am_ob_p (kk_187 S1), g3, am_br_ge (by omega) (by omega) (by omega) (by omega), if_pos (by omega), hte, hra, rn_stop (by omega)]
          | succ m ih =>
            intro a hm ha hsa hra v
            have b := hz a
            rw [t134_35, am_ob_p (kk_187 S1), g3, am_br_ge (by omega) (by omega) (by omega) (by omega), if_neg (by omega), am_ob_p (kk_187 S1), rr_187_0 S1, am_gr_p, am_ix_p (kk_188 S1) (by omega) (by omega) (by omega), am_i_ix (by omega) (by omega), Int.toNat_natCast, HI a (by omega), m_isLetter (by omega) (by omega), am_bI_p]
            by_cases c3 : ltr (Z 0 a) = 1
            · rw [c3, am_br_eq (by omega) (by omega) (by omega) (by omega), if_neg (by omega), am_i_add]
              exact ih (a + 1) (by omega) (by omega) (by omega) (by rw [hra, rn_step (by omega) c3]) v
            · have c4 : ltr (Z 0 a) = 0 := by unfold ltr at c3 ⊢; split <;> simp_all
              rw [c4, am_br_eq (by omega) (by omega) (by omega) (by omega), if_pos rfl, hte, hra, rn_here (by omega) c3]
        rw [lp (n - s) s rfl hsn (Nat.le_refl _) rfl .null, t134_61, am_ob_p (kk_187 S1), hK1, am_if_t (p := 2 ≤ (4, w.length).1 ∧ (4, w.length).1 ≤ 6) ⟨show 2 ≤ 4 by decide, show 4 ≤ 6 by decide⟩, g2, am_i_sub, am_i_nI]
        have hteb := te_bd Z hsn
        rw [am_br_eq (by omega) (by omega) (by omega) (by omega)]
        by_cases c3 : te Z n s - s = w.length
        · rw [if_pos (by omega)]
          have lp2 : ∀ m i : Nat, i + m = w.length → (∀ k, k < i → Z 0 (s + k) = w.getD k 0) → ∀ v, am_ev 134 (d + 1) 76 [.ref 187, .ref r, v, .int (am_i (i : Int))] [] M1 = some (some (.int (am_i (if hrb Z n s t w = true then 1 else 0))), M1) := by
            intro m
            induction m with
            | zero =>
              intro i hi hk v
              have : hrb Z n s t w = true := decide_eq_true ⟨hk1, wrd_eq c3 (fun k h => hk k (by omega))⟩
              rw [t134_76, hK1, am_if_t (p := 2 ≤ (4, w.length).1 ∧ (4, w.length).1 ≤ 6) ⟨show 2 ≤ 4 by decide, show 4 ≤ 6 by decide⟩, am_i_nI, am_br_ge (by omega) (by omega) (by omega) (by omega), if_pos (by omega), am_tr_1, if_pos this]
            | succ m ih =>
              intro i hi hk v
              have b := hz (s + i)
              have b2 := hwb i (by omega)
              rw [t134_76, hK1, am_if_t (p := 2 ≤ (4, w.length).1 ∧ (4, w.length).1 ≤ 6) ⟨show 2 ≤ 4 by decide, show 4 ≤ 6 by decide⟩, am_i_nI, am_br_ge (by omega) (by omega) (by omega) (by omega), if_neg (by omega), am_ob_p (kk_187 S1), rr_187_0 S1, am_gr_p, am_ob_p (kk_187 S1), g2, am_i_add, am_ix_p (kk_188 S1) (by omega) (by omega) (by omega), am_ix_p hK1 (by omega) (by omega) (by omega), am_i_ix (by omega) (by omega), am_i_ix (by omega) (by omega), show ((s : Int) + (i : Int)).toNat = s + i by omega, Int.toNat_natCast, HI (s + i) (by omega), hW1 i (by omega), am_br_eq (by omega) (by omega) (by omega) (by omega)]
              by_cases c4 : Z 0 (s + i) = w.getD i 0
              · rw [if_pos c4, am_i_add]
                exact ih (i + 1) (by omega) (fun k hk2 => by
                  by_cases g : k = i
                  · subst g; exact c4
                  · exact hk k (by omega)) _
              · have : ¬ hrb Z n s t w = true := fun h => c4 (by
                  have := (of_decide_eq_true h).2
                  rw [← this, wrd_get (by omega)])
                rw [if_neg c4, am_tr_0, if_neg this]
          exact lp2 w.length 0 (by omega) (fun k hk => absurd hk (by omega)) _
        · have : ¬ hrb Z n s t w = true := fun h => c3 (by
            have := (of_decide_eq_true h).2
            rw [← this, wrd_len])
          rw [if_neg (by omega), am_tr_0, if_neg this]
    · have c4 : ltr (Z 0 s) = 0 := by unfold ltr at c1 ⊢; split <;> simp_all
      have : ¬ hrb Z n s t w = true := fun h => c1 (hkk.1.mp (of_decide_eq_true h).1).2.1
      rw [c4, am_br_eq (by omega) (by omega) (by omega) (by omega), if_pos rfl, am_tr_0, if_neg this]
  · have : ¬ hrb Z n s t w = true := fun h => c0 (hkk.1.mp (of_decide_eq_true h).1).1
    rw [if_neg c0, show ltr (-1) = 0 from rfl, am_br_eq (by omega) (by omega) (by omega) (by omega), if_pos rfl, am_tr_0, if_neg this]
theorem m_isHere {L : Nat} {q : am_Pq} {Z : Nat → Nat → Int} {n : Nat} {M : am_M} {s : Nat} {t : Bool} (H : mP L q Z n M s t) {r : Nat} {w : List Int} (hK : ∀ M', am_Sh L q M' → am_K M' r = (4, w.length)) (hw8 : w.length ≤ 8) (hW : ∀ k, k < w.length → am_I M r k = am_i (w.getD k 0)) (hwb : ∀ k, k < w.length → 0 ≤ w.getD k 0 ∧ w.getD k 0 ≤ 255) (hr : r ≠ 187) (d : Nat) : ∃ M', am_cl 134 (d + 1) [.ref 187, .ref r] M = some (some (.int (am_i (if hrb Z n s t w = true then 1 else 0))), M') ∧ mQt L q Z n M' s t ∧ fr (fun b k => b = 187 ∧ k = 2) M M' := by
  obtain ⟨S, e5, hsn, hn, hz⟩ := mP_S H
  obtain ⟨M1, r1, H1, f1⟩ := m_lk H d
  exact ⟨M1, m_isHere0 S e5 hz hsn hn r1 H1 hK hw8 (fun k hk => by rw [(f1 r k (by omega)).1]; exact hW k hk) hwb, H1, f1⟩
/-- where the reader is at the token, looking leaves all as it was -/
theorem m_lkQ {L : Nat} {q : am_Pq} {Z : Nat → Nat → Int} {n : Nat} {M : am_M} {s : Nat} {t : Bool} (H : mQt L q Z n M s t) (d : Nat) : am_cl 133 d [.ref 187] M = some (some (.int (am_i (if s < n then Z 0 s else -1))), M) := by
  obtain ⟨⟨S, HI, e2, e3, e5, ha, hn⟩, hs, ⟨e, e4, h1, h2, h3⟩, e6, hw, hz⟩ := H
  have b := hz s
  rw [t133, t133_0]
  by_cases g : s < n
  · have hnb : ¬ (Z 0 s = 10 ∨ Z 0 s = 32) := by
      rw [← hs] at g
      have := skp_out Z (n - s) s (by unfold sk at g; omega)
      unfold sk at hs
      rw [hs] at this
      exact this
    have ek := HI s (by omega)
    simp (disch := omega) only [am_ob_p (kk_187 S), rr_187_0 S, am_gr_p, e2, e3, am_br_ge, am_ix_p (kk_188 S), am_i_ix, Int.toNat_natCast, ek, am_br_eq, am_br_ne, am_i_add, am_lt]
    rw [if_neg (by omega), if_neg (fun h => hnb (Or.inl h)), if_neg (fun h => hnb (Or.inr h)), t133_52]
    simp (disch := omega) only [am_ob_p (kk_187 S), rr_187_0 S, am_gr_p, e2, e3, am_br_ge, am_ix_p (kk_188 S), am_i_ix, Int.toNat_natCast, ek]
    rw [if_neg (by omega), if_pos g]
  · rw [am_ob_p (kk_187 S), am_ob_p (kk_187 S), e2, e3, am_br_ge (by omega) (by omega) (by omega) (by omega), if_pos (by omega), t133_52, am_ob_p (kk_187 S), am_ob_p (kk_187 S), e2, e3, am_br_ge (by omega) (by omega) (by omega) (by omega), if_pos (by omega), if_neg g]
theorem m_isHereQ {L : Nat} {q : am_Pq} {Z : Nat → Nat → Int} {n : Nat} {M : am_M} {s : Nat} {t : Bool} (H : mQt L q Z n M s t) {r : Nat} {w : List Int} (hK : ∀ M', am_Sh L q M' → am_K M' r = (4, w.length)) (hw8 : w.length ≤ 8) (hW : ∀ k, k < w.length → am_I M r k = am_i (w.getD k 0)) (hwb : ∀ k, k < w.length → 0 ≤ w.getD k 0 ∧ w.getD k 0 ≤ 255) (d : Nat) : am_cl 134 (d + 1) [.ref 187, .ref r] M = some (some (.int (am_i (if hrb Z n s t w = true then 1 else 0))), M) := by
  have hp := mP_S (mQ_P H)
  exact m_isHere0 hp.1 hp.2.1 hp.2.2.2.2 hp.2.2.1 hp.2.2.2.1 (m_lkQ H d) H hK hw8 hW hwb
/-- the place behind the token at s -/
def ns (Z : Nat → Nat → Int) (n s : Nat) : Nat := sk Z n (te Z n s)
def nt (Z : Nat → Nat → Int) (n s : Nat) : Bool := gl Z s && decide (sk Z n (te Z n s) = te Z n s)
theorem nx_inr (Z : Nat → Nat → Int) (n s : Nat) (t : Bool) (l : List Int) : nx Z n (.inr (s, t, l)) = .inr (ns Z n s, nt Z n s, l) := rfl
theorem ns_bd {Z : Nat → Nat → Int} {n s : Nat} (h : s < n) : s < ns Z n s ∧ ns Z n s ≤ n := by
  have h1 := te_bd Z (Nat.le_of_lt h)
  have h2 := sk_bd Z n (te Z n s)
  unfold ns
  omega
theorem m_takes {L : Nat} {q : am_Pq} {Z : Nat → Nat → Int} {n : Nat} {M : am_M} {s : Nat} {t : Bool} (H : mP L q Z n M s t) {r : Nat} {w : List Int} (hK : ∀ M', am_Sh L q M' → am_K M' r = (4, w.length)) (hw8 : w.length ≤ 8) (hW : ∀ k, k < w.length → am_I M r k = am_i (w.getD k 0)) (hwb : ∀ k, k < w.length → 0 ≤ w.getD k 0 ∧ w.getD k 0 ≤ 255) (hr : r ≠ 187) (d : Nat) : ∃ M', am_cl 135 (d + 2) [.ref 187, .ref r] M = some (some (.int (am_i (if hrb Z n s t w = true then 1 else 0))), M') ∧ (¬ hrb Z n s t w = true → mQt L q Z n M' s t) ∧ (hrb Z n s t w = true → mP L q Z n M' (ns Z n s) (nt Z n s)) ∧ fr (fun b k => b = 187 ∧ (k = 2 ∨ k = 4)) M M' := by
  obtain ⟨S, e5, hsn, hn, hz⟩ := mP_S H
  obtain ⟨M1, r1, H1, f1⟩ := m_isHere H hK hw8 hW hwb hr d
  have S1 := H1.1.1
  by_cases g : hrb Z n s t w = true
  · obtain ⟨⟨S1, HI, g2, g3, g5, -, -⟩, hs2, ⟨e, g4, h1, h2, h3⟩, g6, hww, -⟩ := H1
    have hk := (of_decide_eq_true g).1
    have hl := (of_decide_eq_true g).2
    have hl2 : te Z n s - s = w.length := by rw [← hl, wrd_len]
    have hteb := te_bd Z hsn
    obtain ⟨c0, c1, c2, c3⟩ := kd_1 hk
    have hgl : gl Z s = true := decide_eq_true (Or.inl c1)
    have S2 := S1.sI 187 2 (am_i (te Z n s : Int))
    refine ⟨am_sI (am_sI M1 187 2 (am_i (te Z n s : Int))) 187 4 (am_i (te Z n s : Int)), ?_, fun h => absurd g h, fun _ => ⟨te Z n s, ⟨S2.sI _ _ _, fun k hk => by rw [am_I_ne1 (by decide), am_I_ne1 (by decide)]; exact HI k hk, by rw [am_I_ne2 (by decide), am_I_same], by rw [am_I_ne2 (by decide), am_I_ne2 (by decide)]; exact g3, by rw [am_I_ne2 (by decide), am_I_ne2 (by decide)]; exact g5, hteb.2.1, hn⟩, rfl, ⟨(te Z n s : Int), am_I_same _ _ _ _, by omega, by have := sk_bd Z n (te Z n s); unfold ns; omega, ?_⟩, by rw [am_I_ne2 (by decide), am_I_ne2 (by decide)]; exact g6, mWw_mv hww (fun b k h => by rw [am_I_ne1 (by omega), am_I_ne1 (by omega)]), hz⟩, fr_tr (fr_mono f1 (fun b k h => ⟨h.1, Or.inl h.2⟩)) (fr_tr (fr_sI ⟨rfl, Or.inl rfl⟩) (fr_sI ⟨rfl, Or.inr rfl⟩))⟩
    · rw [t135, am_ob_p (kk_187 S), r1, am_bI_p, if_pos g, am_br_ne (by omega) (by omega) (by omega) (by omega), if_neg (by omega), am_ob_p (kk_187 S1), hK M1 S1, am_if_t (p := 2 ≤ (4, w.length).1 ∧ (4, w.length).1 ≤ 6) ⟨show 2 ≤ 4 by decide, show 4 ≤ 6 by decide⟩, am_ob_p (kk_187 S1), g2, am_i_nI, am_i_add, show (s : Int) + (w.length : Int) = (te Z n s : Int) by omega]
      simp only [am_lt]
      rw [am_ob_p (kk_187 S2), am_ob_p (kk_187 S2), am_I_same, am_tr_1]
    · unfold nt ns
      rw [hgl, Bool.true_and, decide_eq_true_iff]
      omega
  · refine ⟨M1, ?_, fun _ => H1, fun h => absurd h g, fr_mono f1 (fun b k h => ⟨h.1, Or.inl h.2⟩)⟩
    rw [t135, am_ob_p (kk_187 S), r1, am_bI_p, if_neg g, am_br_ne (by omega) (by omega) (by omega) (by omega), if_pos rfl, am_tr_0]
/-! Signs, numbers, names, faults. -/
theorem m_tkG {L : Nat} {q : am_Pq} {Z : Nat → Nat → Int} {n : Nat} {M : am_M} {s : Nat} {t : Bool} (H : mP L q Z n M s t) {x : Int} (h0 : 0 ≤ x) (h1 : x < 256) (hx1 : ¬ ltr x = 1) (hx2 : ¬ dgt x = 1) (d : Nat) : ∃ M', am_cl 137 (d + 1) [.ref 187, .int (am_i x)] M = some (some (.int (am_i (if isG Z n x (.inr (s, t, [])) = true then 1 else 0))), M') ∧ (¬ isG Z n x (.inr (s, t, [])) = true → mQt L q Z n M' s t) ∧ (isG Z n x (.inr (s, t, [])) = true → mP L q Z n M' (ns Z n s) (nt Z n s) ∧ am_I M' 187 2 = am_i ((s : Int) + 1)) ∧ fr (fun b k => b = 187 ∧ k = 2) M M' := by
  obtain ⟨S, e5, hsn, hn, hz⟩ := mP_S H
  obtain ⟨M1, r1, H1, f1⟩ := m_lk H d
  have H1' := H1
  obtain ⟨⟨S1, HI, g2, g3, g5, -, -⟩, hs2, ⟨e, g4, h2, h3, h4⟩, g6, hww, -⟩ := H1
  have hkk := kd_kinds Z n s t
  have hb := hz s
  have hG : isG Z n x (.inr (s, t, [])) = true ↔ s < n ∧ Z 0 s = x := by
    show decide (kd Z n s t = 3 ∧ Z 0 s = x) = true ↔ _
    rw [decide_eq_true_iff]
    constructor
    · rintro ⟨h5, h6⟩
      exact ⟨(hkk.2.2.1.mp h5).1, h6⟩
    · rintro ⟨h5, h6⟩
      exact ⟨hkk.2.2.1.mpr ⟨h5, by rw [h6]; exact hx1, by rw [h6]; exact hx2⟩, h6⟩
  rw [t137, am_ob_p (kk_187 S), e5, am_br_ne (by omega) (by omega) (by omega) (by omega), if_pos rfl, am_ob_p (kk_187 S), r1, am_bI_p]
  by_cases g : s < n ∧ Z 0 s = x
  · have hGt := hG.mpr g
    have S2 := S1.sI 187 2 (am_i ((s : Int) + 1))
    have hgl : gl Z s = false := decide_eq_false (by rw [g.2]; exact fun h => h.elim hx1 hx2)
    have hte : te Z n s = s + 1 := by unfold te; rw [if_pos g.1, if_neg (by rw [g.2]; exact hx1), if_neg (by rw [g.2]; exact hx2)]
    refine ⟨am_sI M1 187 2 (am_i ((s : Int) + 1)), ?_, fun h => absurd hGt h, fun _ => ⟨⟨s + 1, ⟨S2, fun k hk => by rw [am_I_ne1 (by decide)]; exact HI k hk, am_I_same _ _ _ _, by rw [am_I_ne2 (by decide)]; exact g3, by rw [am_I_ne2 (by decide)]; exact g5, by omega, hn⟩, by unfold ns; rw [hte], ⟨e, by rw [am_I_ne2 (by decide)]; exact g4, h2, by have := sk_bd Z n (te Z n s); unfold ns; omega, ?_⟩, by rw [am_I_ne2 (by decide)]; exact g6, mWw_mv hww (fun b k h => by rw [am_I_ne1 (by omega)]), hz⟩, am_I_same _ _ _ _⟩, fr_tr f1 (fr_sI ⟨rfl, rfl⟩)⟩
    · rw [if_pos g.1, am_br_eq (by omega) (by omega) (by omega) (by omega), if_pos g.2, am_ob_p (kk_187 S1), am_ob_p (kk_187 S1), g2, am_i_add, am_lt, am_tr_1, if_pos hGt]
    · unfold nt ns
      rw [hgl, Bool.false_and]
      have hb2 := sk_bd Z n (te Z n s)
      constructor
      · intro h; exact absurd h (by decide)
      · intro h; omega
  · have hGf : ¬ isG Z n x (.inr (s, t, [])) = true := fun h => g (hG.mp h)
    refine ⟨M1, ?_, fun _ => H1', fun h => absurd h hGf, f1⟩
    rw [if_neg hGf]
    by_cases g1 : s < n
    · rw [if_pos g1, am_br_eq (by omega) (by omega) (by omega) (by omega), if_neg (fun h => g ⟨g1, h⟩), am_tr_0]
    · rw [if_neg g1, am_br_eq (by omega) (by omega) (by omega) (by omega), if_neg (by omega), am_tr_0]
