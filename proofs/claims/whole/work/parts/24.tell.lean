/-! The reference's pile. -/
theorem m_clip {M : am_M} {v : Int} (h1 : -1000000000000 ≤ v) (h2 : v ≤ 1000000000000) (d : Nat) : am_cl 251 d [.long (am_l v)] M = some (some (.long (am_l (clip v))), M) := by
  rw [t251]
  simp (disch := omega) only [cmp_le, cmp_ge]
  unfold clip
  by_cases g1 : 1000000 < v
  · rw [if_neg (by omega), if_pos g1]
  · rw [if_pos (by omega), if_neg g1]
    by_cases g2 : v < -1000000
    · rw [if_neg (by omega), if_pos g2]
    · rw [if_pos (by omega), if_neg g2]
theorem m_floor {M : am_M} {a b : Int} (h1 : -1000000 ≤ a) (h2 : a ≤ 1000000) (h3 : -1000000 ≤ b) (h4 : b ≤ 1000000) (d : Nat) :
    am_cl 252 d [.long (am_l a), .long (am_l b)] M = some (some (.long (am_l (if b = 0 then 0 else Int.fdiv a b))), M) := by
  rw [t252, cmp_ne (by omega) (by omega) (by omega) (by omega)]
  by_cases hb : b = 0
  · rw [if_pos hb, if_pos hb]
  · obtain ⟨f1, f2, f3⟩ := tdiv_fd (a := a) hb
    have h5 := tdiv_bd (b := b) h1 h2
    have h6 := tm_bd h5.1 h5.2 h3 h4
    rw [if_neg hb, if_neg hb, am_if_f (by rw [am_l_z0 h3 h4]; exact hb), am_if_f (by rw [am_l_z0 h3 h4]; exact hb), am_l_tdiv h1 h2 h3 h4, am_l_mul, am_l_sub, cmp_eq (by omega) (by omega) (by omega) (by omega)]
    by_cases g2 : Int.tdiv a b * b = a
    · rw [if_pos (by omega), f1 g2]
    · rw [if_neg (by omega), cmp_ge (by omega) (by omega) (by omega) (by omega)]
      by_cases g3 : 0 ≤ a
      · rw [if_pos g3, t252_32, cmp_ge (by omega) (by omega) (by omega) (by omega), am_l_sub]
        simp (disch := omega) only [am_br_eq]
        by_cases g4 : 0 ≤ b
        · rw [if_pos g4, if_pos trivial, f2 (by omega)]
        · rw [if_neg g4, if_neg (by omega), f3 g2 (by omega)]
      · rw [if_neg g3, t252_32, cmp_ge (by omega) (by omega) (by omega) (by omega), am_l_sub]
        simp (disch := omega) only [am_br_eq]
        by_cases g4 : 0 ≤ b
        · rw [if_pos g4, if_neg (by omega), f3 g2 (by omega)]
        · rw [if_neg g4, if_pos trivial, f2 (by omega)]
theorem m_puts {L : Nat} {q : am_Pq} {M : am_M} (S : am_Sh L q M) {n : Nat} (hn : n < 1700) (e : am_I M 187 98 = am_i n) (v : Int64) (d : Nat) :
    am_cl 253 d [.ref 187, .long v] M = some (none, am_sI (am_sL M 259 n v) 187 98 (am_i (n + 1))) := by
  rw [t253]
  simp (disch := omega) only [am_ob_p (kk_187 S), rr_187_97 S, am_gr_p, e, am_iw_p (kk_259 S), am_i_ix, Int.toNat_natCast, am_lt, am_ob_p (kk_187 (S.sL 259 n v)), am_I_sL', am_i_add]
theorem m_joins {L : Nat} {q : am_Pq} {M : am_M} (S : am_Sh L q M) {n : Nat} (hn : n + 2 ≤ 1700) (e : am_I M 187 98 = am_i (n + 2)) {c a b : Int} (ea : am_L M 259 n = am_l a) (eb : am_L M 259 (n + 1) = am_l b)
    (h1 : -1000000 ≤ a) (h2 : a ≤ 1000000) (h3 : -1000000 ≤ b) (h4 : b ≤ 1000000) (hc : 1 ≤ c) (hc2 : c ≤ 11) (d : Nat) :
    am_cl 254 (d + 1) [.ref 187, .int (am_i c)] M = some (none, am_sI (am_sL (am_sI M 187 98 (am_i n)) 259 n (am_l (opv c a b))) 187 98 (am_i (n + 1))) := by
  have hm := tm_bd h1 h2 h3 h4
  have e1 : ((n : Int) + 2 - 1).toNat = n + 1 := by omega
  have e2 : ((n : Int) + 2 - 2).toNat = n := by omega
  have e3 : ((n : Int) + 2 - 2) = n := by omega
  have S1 := S.sI 187 98 (am_i n)
  have e4 : am_I (am_sI M 187 98 (am_i n)) 187 98 = am_i n := am_I_same _ _ _ _
  have hp := fun v => m_puts S1 (show n < 1700 by omega) e4 v d
  rw [t254]
  simp (disch := omega) only [am_ob_p (kk_187 S), rr_187_97 S, am_gr_p, e, am_i_sub, am_ix_p (kk_259 S), am_i_ix, e1, e2, e3, Int.toNat_natCast, ea, eb, am_lt]
  have hcs : c = 1 ∨ c = 2 ∨ c = 3 ∨ c = 4 ∨ c = 5 ∨ c = 6 ∨ c = 7 ∨ c = 8 ∨ c = 9 ∨ c = 10 ∨ c = 11 := by omega
  rcases hcs with rfl | rfl | rfl | rfl | rfl | rfl | rfl | rfl | rfl | rfl | rfl
  · repeat rw [am_si_f (by omega)]
    (try rw [am_si_t (by omega)])
    simp (disch := omega) only [am_l_add, m_clip, am_bL_p, am_ob_p (kk_187 S1), hp, am_bV_p, opv_1]
  · repeat rw [am_si_f (by omega)]
    (try rw [am_si_t (by omega)])
    simp (disch := omega) only [am_l_sub, m_clip, am_bL_p, am_ob_p (kk_187 S1), hp, am_bV_p, opv_2]
  · repeat rw [am_si_f (by omega)]
    (try rw [am_si_t (by omega)])
    simp (disch := omega) only [am_l_mul, m_clip, am_bL_p, am_ob_p (kk_187 S1), hp, am_bV_p, opv_3]
  · repeat rw [am_si_f (by omega)]
    (try rw [am_si_t (by omega)])
    simp (disch := omega) only [m_floor h1 h2 h3 h4, am_bL_p, am_ob_p (kk_187 S1), hp, am_bV_p, opv_4]
  · have eo := opv_5 a b
    repeat rw [am_si_f (by omega)]
    (try rw [am_si_t (by omega)])
    simp (disch := omega) only [cmp_ge, am_bL_p, am_ob_p (kk_187 S1), hp, am_bV_p, eo]
    by_cases g : a < b
    · rw [if_pos g, if_neg (show ¬ b ≤ a by omega)]
    · rw [if_neg g, if_pos (show b ≤ a by omega)]
  · have eo := opv_6 a b
    repeat rw [am_si_f (by omega)]
    (try rw [am_si_t (by omega)])
    simp (disch := omega) only [cmp_le, am_bL_p, am_ob_p (kk_187 S1), hp, am_bV_p, eo]
    by_cases g : b < a
    · rw [if_pos g, if_neg (show ¬ a ≤ b by omega)]
    · rw [if_neg g, if_pos (show a ≤ b by omega)]
  · have eo := opv_7 a b
    repeat rw [am_si_f (by omega)]
    (try rw [am_si_t (by omega)])
    simp (disch := omega) only [cmp_ge, am_bL_p, am_ob_p (kk_187 S1), hp, am_bV_p, eo]
    by_cases g : a < b
    · rw [if_pos g, if_neg (show ¬ b ≤ a by omega)]
    · rw [if_neg g, if_pos (show b ≤ a by omega)]
  · have eo := opv_8 a b
    repeat rw [am_si_f (by omega)]
    (try rw [am_si_t (by omega)])
    simp (disch := omega) only [cmp_le, am_bL_p, am_ob_p (kk_187 S1), hp, am_bV_p, eo]
    by_cases g : b < a
    · rw [if_pos g, if_neg (show ¬ a ≤ b by omega)]
    · rw [if_neg g, if_pos (show a ≤ b by omega)]
  · have eo := opv_9 a b
    repeat rw [am_si_f (by omega)]
    (try rw [am_si_t (by omega)])
    simp (disch := omega) only [cmp_ne, am_bL_p, am_ob_p (kk_187 S1), hp, am_bV_p, eo]
    by_cases g : a = b
    · rw [if_pos g, if_pos g]
    · rw [if_neg g, if_neg g]
  · have eo := opv_10 a b
    repeat rw [am_si_f (by omega)]
    (try rw [am_si_t (by omega)])
    simp (disch := omega) only [am_l_mul, am_bL_p, am_ob_p (kk_187 S1), hp, am_bV_p, eo]
    (try rfl)
  · have eo := opv_11 a b
    repeat rw [am_si_f (by omega)]
    (try rw [am_si_t (by omega)])
    simp (disch := omega) only [am_l_add, cmp_le, am_bL_p, am_ob_p (kk_187 S1), hp, am_bV_p, eo]
    by_cases g : 0 < a + b
    · rw [if_pos g, if_neg (show ¬ a + b ≤ 0 by omega)]
    · rw [if_neg g, if_pos (show a + b ≤ 0 by omega)]
theorem alw0 {k : Nat} (h : alw 0 k = true) : k = 0 ∨ k = 1 ∨ k = 2 := by
  have : k < 3 := Nat.le_of_ble_eq_true h
  omega
theorem alw1 {k : Nat} (h : alw 1 k = true) : k = 0 ∨ k = 1 := by
  have : k < 2 := Nat.le_of_ble_eq_true h
  omega
theorem alw2 {k : Nat} (h : alw 2 k = true) : k = 0 ∨ k = 3 ∨ k = 4 ∨ k = 5 := by
  simp only [alw, Bool.or_eq_true, Bool.and_eq_true, Nat.beq_eq, Nat.ble_eq] at h
  omega
theorem alw3 {k : Nat} (h : alw 3 k = true) : k = 0 ∨ k = 3 ∨ k = 4 ∨ k = 5 ∨ k = 6 ∨ k = 7 := by
  simp only [alw, Bool.or_eq_true, Bool.and_eq_true, Nat.beq_eq, Nat.ble_eq] at h
  omega
theorem alw_k {j k : Nat} (hj : j < 4) (h : alw j k = true) : (k = 1 → j ≤ 1) ∧ (k = 2 → j = 0) ∧ (3 ≤ k → 2 ≤ j) ∧ (6 ≤ k → 3 ≤ j) := by
  have hc : j = 0 ∨ j = 1 ∨ j = 2 ∨ j = 3 := by omega
  rcases hc with rfl | rfl | rfl | rfl
  · have := alw0 h; omega
  · have := alw1 h; omega
  · have := alw2 h; omega
  · have := alw3 h; omega
theorem Wok0 : Wok (fun _ => 0) := fun _ => ⟨show (-1000000 : Int) ≤ 0 by decide, show (0 : Int) ≤ 1000000 by decide⟩
/-- what a reckoning of the reference may write -/
def pT (b k : Nat) : Prop := b = 259 ∨ (b = 187 ∧ (k = 53 ∨ k = 98))
set_option maxHeartbeats 4000000 in
theorem m_run {L : Nat} {q : am_Pq} {M0 : am_M} {al : Nat → Bool} {b : Bool} {F : Nat → Int} (hF : Fok al F) {j f d : Nat} (hj : j < 3) (hf : f < 8)
    (hP : ∀ M', am_Sh L q M' → fr pT M0 M' → ∀ k, k < 8 → al k = true → am_cl 255 (d + 1) [.ref 187, .int (am_i k), .int (am_i f)] M' = some (some (.long (am_l (F k))), M')) :
    ∀ (l : List Int) (o : Nat) (s : List Int) (t : List Bool) (M : am_M) (v4 : Value), am_Sh L q M → fr pT M0 M → o + l.length ≤ 1600 → (∀ i, i < l.length → am_I M 228 (1600 + (o + i)) = am_i (l.getD i 0)) → am_I M 227 (3 + j) = am_i ((o + l.length : Nat) : Int) →
    stl (am_L M 259) s → am_I M 187 98 = am_i s.length → okv s t → t.length ≤ 60 → tys al false l t = some [b] →
    ∃ M', am_ev 177 (d + 2) 19 [.ref 187, .int (am_i j), .int (am_i f), .int (am_i o), v4] [] M = some (some (.long (am_l ((l.foldl (fst1 F (fun _ => 0)) s).getD 0 0))), M') ∧ am_Sh L q M' ∧ fr pT M M' := by
  have hW := Wok0
  have e3j : ((3 : Int) + (j : Int)).toNat = 3 + j := by omega
  intro l
  induction l with
  | nil =>
    intro o s t M v4 S f0 ho hcd he hs hn hok ht60 hty
    unfold tys at hty
    cases hty
    obtain ⟨v, s', rfl, g1, g2, g3, g4⟩ := okv_cons hok
    have h0 : s' = [] := by
      cases s' with
      | nil => rfl
      | cons _ _ => exact False.elim g4
    subst h0
    have e1 : am_L M 259 0 = am_l v := hs.1
    have he' : am_I M 227 (3 + j) = am_i o := he
    simp only [List.length_nil] at ho
    refine ⟨M, ?_, S, fr_rfl _ _⟩
    rw [t177_19]
    simp (disch := omega) only [am_ob_p (kk_187 S), rr_187_49 S, am_gr_p, am_i_add, am_ix_p (kk_227 S), am_i_ix, e3j, he', am_br_ge]
    rw [if_pos (by omega)]
    simp (disch := omega) only [am_ob_p (kk_187 S), rr_187_97 S, am_gr_p, am_ix_p (kk_259 S), am_i_ix, Int.toNat_zero, e1]
    rfl
  | cons c0 l ih =>
    intro o s t M v4 S f0 ho hcd he hs hn hok ht60 hty
    obtain ⟨t1, hty1, htyl⟩ := tys_cons hty
    have hok1 := ty1_ok hF hW hok hty1
    have hlen := okv_len hok
    have ht61 := ty1_len hty1 ht60
    have hs60 : s.length ≤ 60 := by omega
    have hlo : (c0 :: l).length = l.length + 1 := rfl
    have e0 : am_I M 228 (1600 + o) = am_i c0 := hcd 0 (by omega)
    have eo : ((1600 : Int) + (o : Int)).toNat = 1600 + o := by omega
    have go : ∀ (M1 : am_M) (m1 : Int) (v4 : Value), am_Sh L q M1 → fr pT M M1 → am_I M1 187 98 = am_i ((fst1 F (fun _ => 0) s c0).length : Nat) → m1 = (o : Int) + 1 → stl (am_L M1 259) (fst1 F (fun _ => 0) s c0) →
        ∃ M', am_ev 177 (d + 2) 19 [.ref 187, .int (am_i j), .int (am_i f), .int (am_i m1), v4] [] M1 = some (some (.long (am_l (((c0 :: l).foldl (fst1 F (fun _ => 0)) s).getD 0 0))), M') ∧ am_Sh L q M' ∧ fr pT M M' := by
      intro M1 m1 v4 S1 f1 hn1 hm1 hs1
      obtain ⟨M', r1', S', f'⟩ := ih (o + 1) (fst1 F (fun _ => 0) s c0) t1 M1 v4 S1 (fr_tr f0 f1) (by omega) (fun i hi => by
        rw [(f1 228 (1600 + (o + 1 + i)) (by unfold pT; omega)).1, Nat.add_assoc o, Nat.add_comm 1 i]
        exact hcd (i + 1) (by omega)) (by
        rw [(f1 227 (3 + j) (by unfold pT; omega)).1, Nat.add_assoc, Nat.add_comm 1]
        exact he) hs1 hn1 hok1 ht61 htyl
      refine ⟨M', ?_, S', fr_tr f1 f'⟩
      subst hm1
      exact r1'
    have he2 : am_I M 227 (3 + j) = am_i ((o : Int) + l.length + 1) := by rw [he]; exact congrArg am_i (by rw [hlo]; omega)
    rw [t177_19]
    simp (disch := omega) only [am_ob_p (kk_187 S), rr_187_49 S, rr_187_50 S, am_gr_p, am_i_add, am_ix_p (kk_227 S), am_i_ix, e3j, he2, am_br_ge, am_ix_p (kk_228 S), eo, e0]
    rw [if_neg (by omega)]
    rcases ty1_cases hty1 with ⟨v, rfl, h1, h2, h3, rfl⟩ | ⟨rfl, h1, r, rfl, rfl⟩ | ⟨k, rfl, h1, h2, h3, rfl⟩ | ⟨rfl, h1, rfl⟩ | ⟨rfl, r, rfl, rfl⟩ | ⟨hc0, r, rfl, rfl⟩ | ⟨hc0, r, rfl, rfl⟩ | ⟨hc0, r, rfl, rfl⟩
    · rw [fst1_num F _ s h1] at go
      have ev : (1000 + v - 1000 : Int) = v := by omega
      simp (disch := omega) only [am_br_lt, am_i_sub, ev, am_i2l]
      rw [if_neg (by omega), m_puts S (show s.length < 1700 by omega) hn, am_bV_p]
      refine go _ _ _ ((S.sL _ _ _).sI _ _ _) (fr_tr (fr_sL (Or.inl rfl)) (fr_sI (Or.inr ⟨rfl, Or.inr rfl⟩))) (am_I_same _ _ _ _) rfl ⟨?_, ?_⟩
      · exact am_L_same M 259 s.length (am_l v)
      · exact stl_mv hs (fun k hk => am_L_ne2 (show k ≠ s.length by omega))
    · cases h1
    · rw [fst1_part F _ s h1] at go
      have ev : (40 + (k : Int) - 40 : Int) = k := by omega
      simp (disch := omega) only [am_br_lt, am_i_sub, ev]
      rw [if_pos (by omega), if_neg (by omega)]
      simp only [hP M S f0 k h1 h2, am_bL_p, am_ob_p (kk_187 S), m_puts S (show s.length < 1700 by omega) hn, am_bV_p]
      refine go _ _ _ ((S.sL _ _ _).sI _ _ _) (fr_tr (fr_sL (Or.inl rfl)) (fr_sI (Or.inr ⟨rfl, Or.inr rfl⟩))) (am_I_same _ _ _ _) rfl ⟨?_, ?_⟩
      · exact am_L_same M 259 s.length _
      · exact stl_mv hs (fun k hk => am_L_ne2 (show k ≠ s.length by omega))
    · rw [fst1_all] at go
      simp (disch := omega) only [am_br_lt, am_br_ne]
      rw [if_pos (by omega), if_pos (by omega), if_pos trivial, m_puts S (show s.length < 1700 by omega) hn, am_bV_p]
      refine go _ _ _ ((S.sL _ _ _).sI _ _ _) (fr_tr (fr_sL (Or.inl rfl)) (fr_sI (Or.inr ⟨rfl, Or.inr rfl⟩))) (am_I_same _ _ _ _) rfl ⟨?_, ?_⟩
      · exact am_L_same M 259 s.length _
      · exact stl_mv hs (fun k hk => am_L_ne2 (show k ≠ s.length by omega))
    · obtain ⟨a, s', rfl, g1, g2, g3, g4⟩ := okv_cons hok
      have hl2 : (a :: s').length = s'.length + 1 := rfl
      rw [fst1_not] at go
      have en : am_I M 187 98 = am_i ((s'.length : Int) + 1) := hn
      have ev : ((s'.length : Int) + 1 - 1).toNat = s'.length := by omega
      have e1 : am_L M 259 s'.length = am_l a := hs.1
      simp (disch := omega) only [am_br_lt, am_br_ne]
      rw [if_pos (by omega), if_pos (by omega), if_neg (by omega), if_pos trivial]
      simp (disch := omega) only [rr_187_97 S, am_gr_p, en, am_i_sub, am_ix_p (kk_259 S), am_iw_p (kk_259 S), am_i_ix, ev, e1, am_l_sub, am_lt]
      refine go _ _ _ (S.sL _ _ _) (fr_sL (Or.inl rfl)) hn rfl ⟨?_, ?_⟩
      · exact am_L_same M 259 s'.length _
      · exact stl_mv hs.2 (fun k hk => am_L_ne2 (show k ≠ s'.length by omega))
    all_goals
      obtain ⟨y, s', rfl, g1, g2, g3, g4⟩ := okv_cons hok
      obtain ⟨x, s'', rfl, g5, g6, g7, g8⟩ := okv_cons g4
      have hl2 : (y :: x :: s'').length = s''.length + 2 := rfl
      have hc1 : 1 ≤ c0 := by omega
      have hc11 : c0 ≤ 11 := by omega
      have ef := fst1_op F (fun _ => 0) s'' x y hc1 hc11
      rw [ef] at go
      have en : am_I M 187 98 = am_i ((s''.length : Int) + 2) := hn
      simp (disch := omega) only [am_br_lt, am_br_ne]
      rw [if_pos (by omega), if_pos (by omega), if_neg (by omega), if_neg (by omega)]
      rw [m_joins S (show s''.length + 2 ≤ 1700 by omega) en hs.2.1 hs.1 g5 g6 g1 g2 hc1 hc11, am_bV_p]
      refine go _ _ _ (((S.sI _ _ _).sL _ _ _).sI _ _ _) (fr_tr (fr_tr (fr_sI (Or.inr ⟨rfl, Or.inr rfl⟩)) (fr_sL (Or.inl rfl))) (fr_sI (Or.inr ⟨rfl, Or.inr rfl⟩))) (am_I_same _ _ _ _) rfl ⟨?_, ?_⟩
      · exact am_L_same (am_sI M 187 98 (am_i s''.length)) 259 s''.length _
      · exact stl_mv hs.2.2 (fun k hk => am_L_ne2 (show k ≠ s''.length by omega))
/-- the reference's formulas: where the codes of one lie -/
def mG (M : am_M) (G : am_Gf) : Prop := ∀ j, j < 3 → match G j with
  | none => am_I M 226 (3 + j) = am_i (-1)
  | some l => ∃ o : Nat, o + l.length ≤ 1600 ∧ am_I M 226 (3 + j) = am_i o ∧ am_I M 227 (3 + j) = am_i ((o + l.length : Nat) : Int) ∧ ∀ i, i < l.length → am_I M 228 (1600 + (o + i)) = am_i (l.getD i 0)
theorem m_codesTell {L : Nat} {q : am_Pq} {M : am_M} (S : am_Sh L q M) {G : am_Gf} (HG : mG M G) {j : Nat} (hj : j < 3) {l : List Int} (hl : G j = some l) {b : Bool} {F : Nat → Int} (hwf : wf (alw j) false b l) (hF : Fok (alw j) F) {f d : Nat} (hf : f < 8)
    (hP : ∀ M', am_Sh L q M' → fr pT M M' → ∀ k, k < 8 → alw j k = true → am_cl 255 (d + 1) [.ref 187, .int (am_i k), .int (am_i f)] M' = some (some (.long (am_l (F k))), M')) :
    ∃ M', am_cl 177 (d + 2) [.ref 187, .int (am_i j), .int (am_i f)] M = some (some (.long (am_l (fev F (fun _ => 0) l))), M') ∧ am_Sh L q M' ∧ fr pT M M' := by
  have h := HG j hj
  rw [hl] at h
  obtain ⟨o, h1, h2, h3, h4⟩ := h
  have e3j : ((3 : Int) + (j : Int)).toNat = 3 + j := by omega
  have S1 := S.sI 187 53 (am_i j)
  have S2 := S1.sI 187 98 (am_i 0)
  have f2 : fr pT M (am_sI (am_sI M 187 53 (am_i j)) 187 98 (am_i 0)) := fr_tr (fr_sI (Or.inr ⟨rfl, Or.inl rfl⟩)) (fr_sI (Or.inr ⟨rfl, Or.inr rfl⟩))
  obtain ⟨M', r, S', f'⟩ := m_run hF (d := d) hj hf hP l o [] [] (am_sI (am_sI M 187 53 (am_i j)) 187 98 (am_i 0)) .null S2 f2 h1 (fun i hi => by
    rw [(f2 228 _ (by unfold pT; omega)).1]; exact h4 i hi) (by rw [(f2 227 _ (by unfold pT; omega)).1]; exact h3) trivial (am_I_same _ _ _ _) trivial (by decide) hwf
  refine ⟨M', ?_, S', fr_tr f2 f'⟩
  have h2' : am_I (am_sI (am_sI M 187 53 (am_i j)) 187 98 (am_i 0)) 226 (3 + j) = am_i o := by rw [(f2 226 _ (by unfold pT; omega)).1]; exact h2
  rw [t177]
  simp (disch := omega) only [am_ob_p (kk_187 S), am_lt, am_ob_p (kk_187 S1), am_ob_p (kk_187 S2), rr_187_48 S2, am_gr_p, am_i_add, am_ix_p (kk_226 S2), am_i_ix, e3j, h2']
  exact r
/-- a part, as the reference tells it -/
theorem m_partOf {L : Nat} {q0 : am_Pq} {M : am_M} (S : am_Sh L q0 M) {X : am_X} {A : am_A} (HX : mH M X) (HA : mA M A) (B : hB X) (BA : aB X A) {j q f p : Nat} {t w : Int} (hj : j < 4)
    (hq : 2 ≤ j → q < 6 ∧ f < nF X ∧ am_I M 187 57 = am_i q) (hp : 3 ≤ j → p < nP X ∧ am_I M 187 56 = am_i p) (ht : j ≤ 1 → am_I M 187 58 = am_i t ∧ 0 ≤ t ∧ t ≤ 999) (hw : j = 0 → am_I M 187 59 = am_i w ∧ 0 ≤ w ∧ w ≤ 9) (hf8 : f < 8) (d : Nat)
    {k : Nat} (hk : k < 8) (ha : alw j k = true) : am_cl 255 (d + 2) [.ref 187, .int (am_i k), .int (am_i f)] M = some (some (.long (am_l (fct X A q f p t w k))), M) := by
  have bt := aB_t BA
  rw [t255]
  match k, hk, ha with
  | 0, _, ha =>
    have e := HA.2.1
    repeat rw [am_si_f (by omega)]
    (try rw [am_si_t (by omega)])
    simp (disch := omega) only [am_ob_p (kk_187 S), rr_187_54 S, am_gr_p, am_ix_p (kk_229 S), am_i_ix, Int.toNat_one, e, am_i2l]
    rfl
  | 1, _, ha =>
    have hj1 : j ≤ 1 := (alw_k hj ha).1 rfl
    obtain ⟨e, h1, h2⟩ := ht hj1
    repeat rw [am_si_f (by omega)]
    (try rw [am_si_t (by omega)])
    simp (disch := omega) only [am_ob_p (kk_187 S), e, am_i2l]
    rfl
  | 2, _, ha =>
    have hj1 : j = 0 := (alw_k hj ha).2.1 rfl
    obtain ⟨e, h1, h2⟩ := hw hj1
    repeat rw [am_si_f (by omega)]
    (try rw [am_si_t (by omega)])
    simp (disch := omega) only [am_ob_p (kk_187 S), e, am_i2l]
    rfl
  | 3, _, ha =>
    have hj1 : 2 ≤ j := (alw_k hj ha).2.2.1 (by decide)
    obtain ⟨h1, h2, e⟩ := hq hj1
    have b := hB_pt B h2
    repeat rw [am_si_f (by omega)]
    (try rw [am_si_t (by omega)])
    simp (disch := omega) only [am_ob_p (kk_187 S), m_partsOf S HX B h2, am_bI_p, am_i2l]
    rfl
  | 4, _, ha =>
    have hj1 : 2 ≤ j := (alw_k hj ha).2.2.1 (by decide)
    obtain ⟨h1, h2, e⟩ := hq hj1
    have b := aB_se9 B BA h1 hf8
    repeat rw [am_si_f (by omega)]
    (try rw [am_si_t (by omega)])
    simp (disch := omega) only [am_ob_p (kk_187 S), e, m_seenBy S HA h1 hf8, am_bI_p, am_i2l]
    rfl
  | 5, _, ha =>
    have hj1 : 2 ≤ j := (alw_k hj ha).2.2.1 (by decide)
    obtain ⟨h1, h2, e⟩ := hq hj1
    have b := score_bd B BA h1 h2
    repeat rw [am_si_f (by omega)]
    (try rw [am_si_t (by omega)])
    simp (disch := omega) only [am_ob_p (kk_187 S), e, m_scoreOf S HX HA B h1 h2, am_bI_p, am_i2l]
    rfl
  | 6, _, ha =>
    repeat rw [am_si_f (by omega)]
    (try rw [am_si_t (by omega)])
    rw [am_i2l (by omega) (by omega)]
    rfl
  | 7, _, ha =>
    have hj1 : 3 ≤ j := (alw_k hj ha).2.2.2 (by decide)
    obtain ⟨h1, e⟩ := hp hj1
    obtain ⟨h2, h3, e3⟩ := hq (by omega)
    have b := worth_bd B h1 h3
    repeat rw [am_si_f (by omega)]
    (try rw [am_si_t (by omega)])
    simp (disch := omega) only [am_ob_p (kk_187 S), e, m_worthOf S HX B h1 h3, am_bI_p, am_i2l]
    rfl
theorem fct_ok {X : am_X} {A : am_A} (B : hB X) (BA : aB X A) {j q f p : Nat} {t w : Int} (hj : j < 4) (hq : 2 ≤ j → q < 6 ∧ f < nF X) (hp : 3 ≤ j → p < nP X) (ht : j ≤ 1 → 0 ≤ t ∧ t ≤ 999) (hw : j = 0 → 0 ≤ w ∧ w ≤ 9) : Fok (alw j) (fct X A q f p t w) := by
  intro k hk ha
  have bt := aB_t BA
  have hF8 := (hB_F B).2
  have h01 := alw_k hj ha
  match k, hk with
  | 0, _ => show -1000000 ≤ A 0 0 0 % 24 ∧ A 0 0 0 % 24 ≤ 1000000; omega
  | 1, _ => have := ht (h01.1 rfl); exact ⟨by show -1000000 ≤ t; omega, by show t ≤ 1000000; omega⟩
  | 2, _ => have := hw (h01.2.1 rfl); exact ⟨by show -1000000 ≤ w; omega, by show w ≤ 1000000; omega⟩
  | 3, _ => have := hB_pt B (hq (h01.2.2.1 (by decide))).2; exact ⟨by show -1000000 ≤ X 2 f 0; omega, by show X 2 f 0 ≤ 1000000; omega⟩
  | 4, _ => have h := hq (h01.2.2.1 (by decide)); have := aB_se9 B BA h.1 (f := f) (by omega); exact ⟨by show -1000000 ≤ A 3 q f; omega, by show A 3 q f ≤ 1000000; omega⟩
  | 5, _ => have h := hq (h01.2.2.1 (by decide)); have := score_bd B BA h.1 h.2; exact ⟨by show -1000000 ≤ score X A q f; omega, by show score X A q f ≤ 1000000; omega⟩
  | 6, _ => have h := hq (h01.2.2.1 (by decide)); exact ⟨by show -1000000 ≤ (f : Int); omega, by show (f : Int) ≤ 1000000; omega⟩
  | 7, _ => have h := hq (h01.2.2.1 (by decide)); have := worth_bd B (hp (h01.2.2.2 (by decide))) h.2; exact ⟨by show -1000000 ≤ worth X p f; omega, by show worth X p f ≤ 1000000; omega⟩
