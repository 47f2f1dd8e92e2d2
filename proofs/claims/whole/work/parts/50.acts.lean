/-! Acts: what is remembered. -/
theorem isA_64 : isA 64 := Or.inl rfl
theorem isA_past {s : Nat} (h : s < 20) : isA (87 + 5 * s) := by unfold isA; omega
theorem rr_32_s {L : Nat} {q : am_Pq} {M : am_M} (S : am_Sh L q M) {s : Nat} (h : s < 20) : am_R M 32 s = some (87 + 5 * s) := by
  rcases s with _ | _ | _ | _ | _ | _ | _ | _ | _ | _ | _ | _ | _ | _ | _ | _ | _ | _ | _ | _ | s
  · exact rr_32_0 S
  · exact rr_32_1 S
  · exact rr_32_2 S
  · exact rr_32_3 S
  · exact rr_32_4 S
  · exact rr_32_5 S
  · exact rr_32_6 S
  · exact rr_32_7 S
  · exact rr_32_8 S
  · exact rr_32_9 S
  · exact rr_32_10 S
  · exact rr_32_11 S
  · exact rr_32_12 S
  · exact rr_32_13 S
  · exact rr_32_14 S
  · exact rr_32_15 S
  · exact rr_32_16 S
  · exact rr_32_17 S
  · exact rr_32_18 S
  · exact rr_32_19 S
  · omega
/-- the acts with one more -/
def actP (A : am_A) (K : List Int) (P : List (am_A × List Int)) : List (am_A × List Int) := (A, K) :: P.take 19
theorem actP_len (A : am_A) (K : List Int) {P : List (am_A × List Int)} (h : P.length ≤ 20) : (actP A K P).length = if P.length = 20 then 20 else P.length + 1 := by
  unfold actP
  rw [List.length_cons, List.length_take]
  split <;> omega
theorem actP_s {A : am_A} {K : List Int} {P : List (am_A × List Int)} {j : Nat} {a : am_A × List Int} (h : (actP A K P)[j + 1]? = some a) : P[j]? = some a ∧ j < 19 := by
  unfold actP at h
  rw [List.getElem?_cons_succ, List.getElem?_take] at h
  split at h
  · exact ⟨h, by assumption⟩
  · exact absurd h (by simp)
def pP (b k : Nat) : Prop := (b = 2 ∧ (k = 6 ∨ k = 7)) ∨ (87 ≤ b ∧ b < 187)
theorem getE_lt {P : List (am_A × List Int)} {j : Nat} {a : am_A × List Int} (h : P[j]? = some a) : j < P.length := by
  rcases Nat.lt_or_ge j P.length with g | g
  · exact g
  · rw [List.getElem?_eq_none_iff.mpr g] at h
    exact absurd h (by simp)
/-- one more, where fewer than 20 are held -/
theorem c_push {L : Nat} {q : am_Pq} {M : am_M} (S : am_Sh L q M) {A : am_A} {K : List Int} {P : List (am_A × List Int)} {b : Nat} (HA : cA M 64 A) (HK : cK M 64 K b) (HP : cWp M P b) (hl : P.length < 20) (d : Nat) :
    ∃ M', am_ev 43 (d + 2) 32 [.ref 2] [] M = some (none, M') ∧ am_Sh L q M' ∧ fr pP M M' ∧ cWp M' ((A, K) :: P) b := by
  obtain ⟨o, h1, h2, h3, h4, h5⟩ := HP
  obtain ⟨s, hs, hs2⟩ : ∃ s : Nat, s = (o + P.length) % 20 ∧ s < 20 := ⟨_, rfl, by omega⟩
  obtain ⟨M1, r1, S1, f1, HA1, HK1⟩ := c_copyFrom S (isA_past hs2) isA_64 (by omega) HA HK d
  have e7 : am_I M1 2 7 = am_i P.length := by rw [(f1 2 7 (by unfold pA; omega)).1]; exact h3
  have u : ((o : Int) + (P.length : Int)) % 20 = s := by omega
  refine ⟨am_sI M1 2 7 (am_i ((P.length : Int) + 1)), ?_, S1.sI _ _ _, fr_tr (fr_mono f1 (fun b k h => by unfold pA at h; unfold pP; omega)) (fr_sI (Or.inl ⟨rfl, Or.inr rfl⟩)), o, h1, ?_, ?_, by rw [List.length_cons]; omega, fun j a hj => ?_⟩
  · rw [t43_32, am_ob_p (kk_2 S), rr_2_5 S, am_gr_p, am_ob_p (kk_2 S), am_ob_p (kk_2 S), am_if_f (by decide), h2, h3, am_i_add]
    simp only [am_lt]
    rw [am_i_rem (by omega) (by omega) (by omega) (by omega), u, am_iq_p (kk_32 S) (Or.inl rfl) (by omega) (by omega) (by omega), am_i_ix (by omega) (by omega), Int.toNat_natCast, rr_32_s S hs2, am_gr_p, am_ob_p (kk_2 S), rr_2_3 S, am_gr_p, am_ob_p (kk_63 S), rr_63_1 S, am_gr_p, am_ob_p (A_k0 S (isA_past hs2)), r1, am_bV_p, am_ob_p (kk_2 S1), am_ob_p (kk_2 S1), e7, am_i_add]
  · rw [am_I_ne2 (by omega), (f1 2 6 (by unfold pA; omega)).1]; exact h2
  · rw [am_I_same, List.length_cons]; rfl
  · rw [List.length_cons]
    rcases j with _ | j
    · rw [List.getElem?_cons_zero] at hj
      cases hj
      rw [show (o + (P.length + 1 - 1 - 0)) % 20 = s by omega]
      exact ⟨cA_mv HA1 (fun b k k1 k2 k3 => am_I_ne1 (by omega)), cK_mv HK1 (am_I_ne1 (by omega)) (fun k => am_I_ne1 (by omega))⟩
    · rw [List.getElem?_cons_succ] at hj
      have hjl := getE_lt hj
      obtain ⟨k1, k2⟩ := h5 j a hj
      rw [show o + (P.length + 1 - 1 - (j + 1)) = o + (P.length - 1 - j) by omega]
      have hne : (o + (P.length - 1 - j)) % 20 ≠ s := by omega
      refine ⟨cA_mv k1 (fun b k m1 m2 m3 => ?_), cK_mv k2 ?_ (fun k => ?_)⟩
      · rw [am_I_ne1 (by omega)]; exact (f1 b k (by unfold pA; omega)).1
      · rw [am_I_ne1 (by omega)]; exact (f1 _ _ (by unfold pA; omega)).1
      · rw [am_I_ne1 (by omega)]; exact (f1 _ _ (by unfold pA; omega)).1
theorem c_remember {L : Nat} {q : am_Pq} {M : am_M} (S : am_Sh L q M) {A : am_A} {K : List Int} {P : List (am_A × List Int)} {b : Nat} (HA : cA M 64 A) (HK : cK M 64 K b) (HP : cWp M P b) (d : Nat) :
    ∃ M', am_cl 43 (d + 2) [.ref 2] M = some (none, M') ∧ am_Sh L q M' ∧ fr pP M M' ∧ cWp M' (actP A K P) b := by
  obtain ⟨o, h1, h2, h3, h4, h5⟩ := HP
  by_cases g : P.length = 20
  · have S2 := (S.sI 2 6 (am_i (((o : Int) + 1) % 20))).sI 2 7 (am_i ((P.length : Int) - 1))
    have f2 : fr pP M (am_sI (am_sI M 2 6 (am_i (((o : Int) + 1) % 20))) 2 7 (am_i ((P.length : Int) - 1))) := fr_tr (fr_sI (Or.inl ⟨rfl, Or.inl rfl⟩)) (fr_sI (Or.inl ⟨rfl, Or.inr rfl⟩))
    have hlt : (P.take 19).length = 19 := by rw [List.length_take]; omega
    have HP2 : cWp (am_sI (am_sI M 2 6 (am_i (((o : Int) + 1) % 20))) 2 7 (am_i ((P.length : Int) - 1))) (P.take 19) b := by
      refine ⟨(o + 1) % 20, by omega, ?_, ?_, by omega, fun j a hj => ?_⟩
      · rw [am_I_ne2 (by omega), am_I_same, show (((o : Int) + 1) % 20) = (((o + 1) % 20 : Nat) : Int) by omega]
      · rw [am_I_same, hlt, show ((P.length : Int) - 1) = ((19 : Nat) : Int) by omega]
      · have hjl := getE_lt hj
        rw [hlt] at hjl ⊢
        rw [List.getElem?_take, if_pos hjl] at hj
        obtain ⟨k1, k2⟩ := h5 j a hj
        rw [show ((o + 1) % 20 + (19 - 1 - j)) % 20 = (o + (P.length - 1 - j)) % 20 by omega]
        exact ⟨cA_mv k1 (fun b k m1 m2 m3 => by rw [am_I_ne1 (by omega), am_I_ne1 (by omega)]), cK_mv k2 (by rw [am_I_ne1 (by omega), am_I_ne1 (by omega)]) (fun k => by rw [am_I_ne1 (by omega), am_I_ne1 (by omega)])⟩
    obtain ⟨M', r, S', f', HP'⟩ := c_push S2 (cA_mv HA (fun b k m1 m2 m3 => by rw [am_I_ne1 (by omega), am_I_ne1 (by omega)])) (cK_mv HK (by rw [am_I_ne1 (by omega), am_I_ne1 (by omega)]) (fun k => by rw [am_I_ne1 (by omega), am_I_ne1 (by omega)])) HP2 (by omega) d
    refine ⟨M', ?_, S', fr_tr f2 f', HP'⟩
    rw [t43, am_ob_p (kk_2 S), h3, am_br_ne (by omega) (by omega) (by omega) (by omega), if_pos (by omega), am_ob_p (kk_2 S), am_if_f (by decide), h2, am_i_add]
    simp only [am_lt]
    rw [am_ob_p (kk_2 S), am_i_rem (by omega) (by omega) (by omega) (by omega), am_ob_p (kk_2 (S.sI 2 6 _)), am_ob_p (kk_2 (S.sI 2 6 _)), am_I_ne2 (by omega), h3, am_i_sub]
    exact r
  · obtain ⟨M', r, S', f', HP'⟩ := c_push S HA HK ⟨o, h1, h2, h3, h4, h5⟩ (by omega) d
    refine ⟨M', ?_, S', f', ?_⟩
    · rw [t43, am_ob_p (kk_2 S), h3, am_br_ne (by omega) (by omega) (by omega) (by omega), if_neg (by omega)]
      exact r
    · unfold actP
      rw [List.take_of_length_le (by omega)]
      exact HP'
/-- an account, its rows, at a place -/
theorem mAo_cp {M M' : am_M} {b b' o o' : Nat} {A : am_A} (H : mAo M b o A) (e : ∀ k, k < 257 → am_I M' b' (o' + k) = am_I M b (o + k)) : mAo M' b' o' A := by
  obtain ⟨h1, h2, h3, h4, h5, h6⟩ := H
  exact ⟨(e 0 (by omega)).trans h1, (e 1 (by omega)).trans h2, fun q hq k hk => (e _ (by omega)).trans (h3 q hq k hk), fun q hq k hk => (e _ (by omega)).trans (h4 q hq k hk), fun p hp => (e _ (by omega)).trans (h5 p hp), fun p hp => (e _ (by omega)).trans (h6 p hp)⟩
theorem mKo_cp {M M' : am_M} {b b' o o' : Nat} {K : List Int} (H : mKo M b o K) (e : ∀ k, k < 257 → am_I M' b' (o' + k) = am_I M b (o + k)) : mKo M' b' o' K := by
  obtain ⟨h1, h2, h3⟩ := H
  exact ⟨(e _ (by omega)).trans h1, h2, fun k hk => ⟨(e _ (by omega)).trans (h3 k hk).1, (e _ (by omega)).trans (h3 k hk).2.1, (e _ (by omega)).trans (h3 k hk).2.2.1, (e _ (by omega)).trans (h3 k hk).2.2.2⟩⟩
theorem mAo_of {M : am_M} {A : am_A} (H : mA M A) : mAo M 229 0 A := by
  obtain ⟨h1, h2, h3, h4, h5, h6⟩ := H
  exact ⟨h1, h2, fun q hq k hk => by rw [Nat.zero_add]; exact h3 q hq k hk, fun q hq k hk => by rw [Nat.zero_add]; exact h4 q hq k hk, fun p hp => by rw [Nat.zero_add]; exact h5 p hp, fun p hp => by rw [Nat.zero_add]; exact h6 p hp⟩
theorem mA_at {M : am_M} {A : am_A} (H : mAo M 229 0 A) : mA M A := by
  obtain ⟨h1, h2, h3, h4, h5, h6⟩ := H
  exact ⟨h1, h2, fun q hq k hk => by have := h3 q hq k hk; rw [Nat.zero_add] at this; exact this, fun q hq k hk => by have := h4 q hq k hk; rw [Nat.zero_add] at this; exact this, fun p hp => by have := h5 p hp; rw [Nat.zero_add] at this; exact this, fun p hp => by have := h6 p hp; rw [Nat.zero_add] at this; exact this⟩
theorem mKo_of {M : am_M} {K : List Int} (H : mK M K) : mKo M 229 0 K := by
  obtain ⟨h1, h2, h3⟩ := H
  refine ⟨h1, h2, fun k hk => ?_⟩
  rw [Nat.zero_add, Nat.zero_add, Nat.zero_add, Nat.zero_add]
  exact h3 k hk
theorem mK_at {M : am_M} {K : List Int} (H : mKo M 229 0 K) : mK M K := by
  obtain ⟨h1, h2, h3⟩ := H
  refine ⟨h1, h2, fun k hk => ?_⟩
  have := h3 k hk
  rw [Nat.zero_add, Nat.zero_add, Nat.zero_add, Nat.zero_add] at this
  exact this
def pQ (b k : Nat) : Prop := b = 236 ∨ (b = 187 ∧ (k = 68 ∨ k = 69))
theorem m_keeps {L : Nat} {q : am_Pq} {M : am_M} (S : am_Sh L q M) {A : am_A} {K : List Int} {P : List (am_A × List Int)} (HA : mA M A) (HK : mK M K) (HP : mWp M P) (d : Nat) :
    ∃ M', am_cl 222 d [.ref 187] M = some (none, M') ∧ am_Sh L q M' ∧ fr pQ M M' ∧ mWp M' (actP A K P) := by
  obtain ⟨w, h1, h2, h3, h4, h5⟩ := HP
  obtain ⟨s, hs, hs2⟩ : ∃ s : Nat, s = (w + 1) % 20 ∧ s < 20 := ⟨_, rfl, by omega⟩
  have u : ((w : Int) + 1) % 20 = s := by omega
  have key : ∀ m n : Nat, n + m = 257 → ∀ (M1 : am_M), am_Sh L q M1 → fr pQ M M1 → am_I M1 187 69 = am_i s → am_I M1 187 68 = am_i P.length → (∀ k, k < n → am_I M1 236 (257 * s + k) = am_I M 229 k) → (∀ k, k < 257 * s ∨ 257 * s + 257 ≤ k → am_I M1 236 k = am_I M 236 k) →
      ∃ M', am_ev 222 d 15 [.ref 187, .int (am_i n)] [] M1 = some (none, M') ∧ am_Sh L q M' ∧ fr pQ M M' ∧ am_I M' 187 69 = am_i s ∧ am_I M' 187 68 = am_i (actP A K P).length ∧ (∀ k, k < 257 → am_I M' 236 (257 * s + k) = am_I M 229 k) ∧ (∀ k, k < 257 * s ∨ 257 * s + 257 ≤ k → am_I M' 236 k = am_I M 236 k) := by
    intro m
    induction m with
    | zero =>
      intro n hn M1 S1 f1 e69 e68 hI hI2
      have : n = 257 := by omega
      subst this
      have hl := actP_len A K h4
      by_cases g : P.length = 20
      · refine ⟨M1, ?_, S1, f1, e69, by rw [e68, hl, if_pos g, g], hI, hI2⟩
        rw [t222_15, am_br_ge (by omega) (by omega) (by omega) (by omega), if_pos (by omega), am_ob_p (kk_187 S1), e68, am_br_ge (by omega) (by omega) (by omega) (by omega), if_pos (by omega)]
      · refine ⟨am_sI M1 187 68 (am_i ((P.length : Int) + 1)), ?_, S1.sI _ _ _, fr_tr f1 (fr_sI (Or.inr ⟨rfl, Or.inl rfl⟩)), by rw [am_I_ne2 (by omega)]; exact e69, by rw [am_I_same, hl, if_neg g]; rfl, fun k hk => by rw [am_I_ne1 (by omega)]; exact hI k hk, fun k hk => by rw [am_I_ne1 (by omega)]; exact hI2 k hk⟩
        rw [t222_15, am_br_ge (by omega) (by omega) (by omega) (by omega), if_pos (by omega), am_ob_p (kk_187 S1), e68, am_br_ge (by omega) (by omega) (by omega) (by omega), if_neg (by omega), am_ob_p (kk_187 S1), am_ob_p (kk_187 S1), am_i_add]
        rfl
    | succ m ih =>
      intro n hn M1 S1 f1 e69 e68 hI hI2
      have e : am_I M1 229 n = am_I M 229 n := (f1 229 n (by unfold pQ; omega)).1
      have ux : (257 * (s : Int) + (n : Int)).toNat = 257 * s + n := by omega
      obtain ⟨M', r, hR⟩ := ih (n + 1) (by omega) _ (S1.sI 236 (257 * s + n) (am_I M 229 n)) (fr_tr f1 (fr_sI (Or.inl rfl))) (by rw [am_I_ne1 (by omega)]; exact e69) (by rw [am_I_ne1 (by omega)]; exact e68) (fun k hk => by
        by_cases g : k = n
        · subst g
          rw [am_I_same]
        · rw [am_I_ne2 (by omega)]; exact hI k (by omega)) (fun k hk => by rw [am_I_ne2 (by omega)]; exact hI2 k hk)
      refine ⟨M', ?_, hR⟩
      rw [t222_15, am_br_ge (by omega) (by omega) (by omega) (by omega), if_neg (by omega)]
      simp (disch := omega) only [am_ob_p (kk_187 S1), rr_187_54 S1, rr_187_67 S1, am_ix_p (kk_229 S1), am_iw_p (kk_236 S1), e69, am_gr_p, am_i_ix, Int.toNat_zero, Int.toNat_one, Int.toNat_natCast, Int.reduceToNat, am_lt, am_i_add, am_i_sub, am_i_mul, ux, e]
      exact r
  obtain ⟨M', r, S', f', e69, e68, hI, hI2⟩ := key 257 0 (by omega) _ (S.sI 187 69 (am_i s)) (fr_sI (Or.inr ⟨rfl, Or.inr rfl⟩)) (am_I_same _ _ _ _) (by rw [am_I_ne2 (by omega)]; exact h3) (fun k hk => absurd hk (by omega)) (fun k _ => am_I_ne1 (by omega))
  have hl := actP_len A K h4
  refine ⟨M', ?_, S', f', s, hs2, e69, e68, by rw [hl]; split <;> omega, fun j a hj => ?_⟩
  · rw [t222, am_ob_p (kk_187 S), am_if_f (by decide), h2, am_i_add]
    simp only [am_lt]
    rw [am_ob_p (kk_187 S), am_i_rem (by omega) (by omega) (by omega) (by omega), u]
    exact r
  · rcases j with _ | j
    · have : (A, K) = a := by
        have h : (actP A K P)[0]? = some (A, K) := rfl
        rw [h] at hj
        exact Option.some.inj hj
      subst this
      rw [show (s + 20 - 0) % 20 = s by omega]
      exact ⟨mAo_cp (mAo_of HA) (fun k hk => by rw [Nat.zero_add]; exact hI k hk), mKo_cp (mKo_of HK) (fun k hk => by rw [Nat.zero_add]; exact hI k hk)⟩
    · obtain ⟨hj2, hj3⟩ := actP_s hj
      obtain ⟨k1, k2⟩ := h5 j a hj2
      obtain ⟨t, ht, ht2⟩ : ∃ t : Nat, t = (w + 20 - j) % 20 ∧ t < 20 := ⟨_, rfl, by omega⟩
      rw [← ht] at k1 k2
      rw [show (s + 20 - (j + 1)) % 20 = t by omega]
      have hne : t ≠ s := by omega
      have e : ∀ k, k < 257 → am_I M' 236 (257 * t + k) = am_I M 236 (257 * t + k) := fun k hk => hI2 _ (by
        rcases Nat.lt_or_ge t s with g | g
        · have : 257 * t + 257 ≤ 257 * s := by omega
          omega
        · have : 257 * s + 257 ≤ 257 * t := by omega
          omega)
      exact ⟨mAo_cp k1 e, mKo_cp k2 e⟩
