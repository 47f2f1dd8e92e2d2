/-! Bits of numbers. -/
theorem shr_s : ∀ s : Fin 32, ((am_i (s.val : Int) &&& 31).toBitVec.smod 32).toNat = s.val := by decide +kernel
theorem shr_i {v : Int} (h0 : -2147483648 ≤ v) (h1 : v < 2147483648) {s : Nat} (hs : s < 32) : am_i v >>> (am_i (s : Int) &&& 31) = am_i (v / ((2 ^ s : Nat) : Int)) := by
  have hd : (1 : Int) ≤ ((2 ^ s : Nat) : Int) := by have : 0 < 2 ^ s := Nat.pow_pos (by decide); omega
  have b1 : -2147483648 ≤ v / ((2 ^ s : Nat) : Int) := Int.le_ediv_of_mul_le (by omega) (by
    have : (-2147483648 : Int) * ((2 ^ s : Nat) : Int) ≤ -2147483648 * 1 := Int.mul_le_mul_of_nonpos_left (by decide) hd
    omega)
  have b2 : v / ((2 ^ s : Nat) : Int) < 2147483648 := Int.ediv_lt_of_lt_mul (by omega) (by
    have : (2147483648 : Int) * 1 ≤ 2147483648 * ((2 ^ s : Nat) : Int) := Int.mul_le_mul_of_nonneg_left hd (by decide)
    omega)
  rw [← Int32.toInt_inj, am_i_toInt b1 b2]
  have e : (am_i v >>> (am_i (s : Int) &&& 31)).toInt = (am_i v).toInt >>> ((am_i (s : Int) &&& 31).toBitVec.smod 32).toNat := BitVec.toInt_sshiftRight
  rw [e, am_i_toInt h0 h1, shr_s ⟨s, hs⟩, Int.shiftRight_eq_div_pow]
theorem am_bv (v : Int) : (am_i v).toBitVec = BitVec.ofInt 32 v := rfl
theorem and_31 (v : Int) : am_i v &&& am_i 31 = am_i (v % 32) := by
  rw [← Int32.toBitVec_inj, Int32.toBitVec_and, am_bv, am_bv, am_bv]
  apply BitVec.eq_of_toNat_eq
  rw [BitVec.toNat_and, BitVec.toNat_ofInt, BitVec.toNat_ofInt, BitVec.toNat_ofInt]
  have e : ((31 : Int) % ((2 ^ 32 : Nat) : Int)).toNat = 2 ^ 5 - 1 := by decide
  rw [e, Nat.and_two_pow_sub_one_eq_mod]
  have e2 : ((2 ^ 32 : Nat) : Int) = 4294967296 := by decide
  rw [e2]
  omega
theorem and_255 (v : Int) : am_i v &&& am_i 255 = am_i (v % 256) := by
  rw [← Int32.toBitVec_inj, Int32.toBitVec_and, am_bv, am_bv, am_bv]
  apply BitVec.eq_of_toNat_eq
  rw [BitVec.toNat_and, BitVec.toNat_ofInt, BitVec.toNat_ofInt, BitVec.toNat_ofInt]
  have e : ((255 : Int) % ((2 ^ 32 : Nat) : Int)).toNat = 2 ^ 8 - 1 := by decide
  rw [e, Nat.and_two_pow_sub_one_eq_mod]
  have e2 : ((2 ^ 32 : Nat) : Int) = 4294967296 := by decide
  rw [e2]
  omega
/-! Names by their letters. -/
def lok (l : List Int) : Prop := ∀ a ∈ l, 1 ≤ a ∧ a ≤ 26
theorem c5_bd : ∀ {l : List Int}, lok l → 0 ≤ c5 l ∧ c5 l < ((32 ^ l.length : Nat) : Int)
  | [], _ => by decide
  | a :: l, h => by
    have h1 := c5_bd (l := l) (fun b hb => h b (List.mem_cons_of_mem _ hb))
    have h2 := h a List.mem_cons_self
    have e : ((32 ^ (a :: l).length : Nat) : Int) = 32 * ((32 ^ l.length : Nat) : Int) := by
      rw [List.length_cons, Nat.pow_succ, Nat.mul_comm]; simp
    show 0 ≤ a + 32 * c5 l ∧ a + 32 * c5 l < _
    rw [e]
    omega
theorem c5_get : ∀ {l : List Int} (k : Nat), lok l → c5 l / ((2 ^ (5 * k) : Nat) : Int) % 32 = l.getD k 0
  | [], k, _ => by
    show (0 : Int) / _ % 32 = _
    rw [Int.zero_ediv]; simp
  | a :: l, 0, h => by
    have h2 := h a List.mem_cons_self
    show (a + 32 * c5 l) / ((1 : Nat) : Int) % 32 = a
    omega
  | a :: l, k + 1, h => by
    have h2 := h a List.mem_cons_self
    have ih := c5_get (l := l) k (fun b hb => h b (List.mem_cons_of_mem _ hb))
    have e : ((2 ^ (5 * (k + 1)) : Nat) : Int) = 32 * ((2 ^ (5 * k) : Nat) : Int) := by
      rw [show 5 * (k + 1) = 5 + 5 * k by omega, Nat.pow_add]; simp
    have e2 : (a + 32 * c5 l) / 32 = c5 l := by omega
    show (a + 32 * c5 l) / ((2 ^ (5 * (k + 1)) : Nat) : Int) % 32 = l.getD k 0
    rw [e, ← Int.ediv_ediv_of_nonneg (show (0 : Int) ≤ 32 by decide), e2]
    exact ih
theorem c27_app (l : List Int) (a : Int) : c27 (l ++ [a]) = 27 * c27 l + a := by
  unfold c27
  rw [List.foldl_append]
  rfl
/-- the same from the last letter on -/
def r27 : List Int → Int
  | [] => 0
  | a :: t => a + 27 * r27 t
theorem c27_rev : ∀ r : List Int, c27 r.reverse = r27 r
  | [] => rfl
  | a :: t => by
    rw [List.reverse_cons, c27_app, c27_rev t]
    show _ = a + 27 * r27 t
    omega
theorem r27_bd : ∀ {r : List Int}, lok r → 0 ≤ r27 r ∧ r27 r < ((27 ^ r.length : Nat) : Int)
  | [], _ => by decide
  | a :: t, h => by
    have h1 := r27_bd (r := t) (fun b hb => h b (List.mem_cons_of_mem _ hb))
    have h2 := h a List.mem_cons_self
    have e : ((27 ^ (a :: t).length : Nat) : Int) = 27 * ((27 ^ t.length : Nat) : Int) := by
      rw [List.length_cons, Nat.pow_succ, Nat.mul_comm]; simp
    show 0 ≤ a + 27 * r27 t ∧ a + 27 * r27 t < _
    rw [e]
    omega
theorem r27_6 {r : List Int} (h : lok r) (hl : r.length ≤ 6) : 0 ≤ r27 r ∧ r27 r < 387420489 := by
  have h1 := r27_bd h
  have : 27 ^ r.length ≤ 27 ^ 6 := Nat.pow_le_pow_right (by decide) hl
  omega
theorem lok_rev {l : List Int} (h : lok l) : lok l.reverse := fun a ha => h a (List.mem_reverse.mp ha)
theorem lok_drop {l : List Int} (h : lok l) (n : Nat) : lok (l.drop n) := fun a ha => h a (List.mem_of_mem_drop ha)
theorem rev_get {l : List Int} {k : Nat} (hk : k < l.length) : l.reverse.drop (l.length - 1 - k) = l.getD k 0 :: l.reverse.drop (l.length - k) := by
  have h1 : l.length - 1 - k < l.reverse.length := by rw [List.length_reverse]; omega
  rw [List.drop_eq_getElem_cons h1]
  have e : l.reverse[l.length - 1 - k] = l.getD k 0 := by
    rw [List.getElem_reverse, List.getD_eq_getElem?_getD]
    have : l.length - 1 - (l.length - 1 - k) = k := by omega
    simp only [this]
    rw [List.getElem?_eq_getElem hk]
    rfl
  rw [e, show l.length - 1 - k + 1 = l.length - k by omega]
theorem call_letter {L : Nat} {xs : Nat → Int32} {M : am_M} {W : am_Wo} {b : Nat} (R : Rel L xs M W b) (x y t : Int32) : Call L xs 7 196 [.int x, .int y, .int t] M b := by
  obtain ⟨q, hq, S, HC, HM, B, h0⟩ := R
  obtain ⟨z, rfl, z1, z2⟩ := int_of x
  obtain ⟨w, rfl, w1, w2⟩ := int_of y
  obtain ⟨k, rfl, k1, k2⟩ := int_of t
  have hh := qok_h hq
  have hh' : q.2.2.1 = 4 ∨ q.2.2.1 = 38 := hh
  have B1 := B.1
  have HX := HC.1
  have HY := HM.1
  by_cases g1 : 0 ≤ z ∧ z ≤ 2
  · have hs : ∃ s : Nat, z = s ∧ s < 3 := ⟨z.toNat, by omega, by omega⟩
    obtain ⟨s, rfl, hs3⟩ := hs
    have hz3 : -2147483648 ≤ (s : Int) ∧ (s : Int) < 2147483648 := by omega
    have hn := nX_bd B1 hs3
    have b0 := is1_01 (wX W) s w
    have r1 := c_isOne S hh HX B1 hs3 w1 w2 598
    have e3 := HY.1 s hs3
    have u3 : ((3 : Int) + (s : Int)).toNat = 3 + s := by omega
    have hi1 : isin (s : Int) 0 2 = 1 := if_pos g1
    have hi2 := isin_is1 (wX W) s w
    by_cases g2 : is1 (wX W) s w = 1
    · by_cases g3 : 0 ≤ k ∧ k ≤ 5
      · obtain ⟨v, rfl, hv⟩ := is1_ex g2
        obtain ⟨j, rfl⟩ : ∃ j : Nat, k = j := ⟨k.toNat, by omega⟩
        have hvM : v < nM (wX W) s := by unfold nM; omega
        have hv8 := nM_8 B1 hs3
        obtain ⟨n1, n2, n3⟩ := B.2.1 s hs3 v hvM
        have e1 := HC.2.1 s hs3 v hvM
        have e2 := HM.2.1 s hs3 v hvM
        have hi3 : isin (j : Int) 0 5 = 1 := if_pos g3
        generalize hl : wN W s v = l at *
        have hlok : lok l := n3
        refine Call_same (v := .int (am_i (l.getD j 0))) (iv _) hq HC HM B h0 S ?_ ?_
        · have bc := c5_bd hlok
          have hp : 32 ^ l.length ≤ 32 ^ 6 := Nat.pow_le_pow_right (by decide) n2
          have es : am_i (c5 l) >>> (am_i (5 * (j : Int)) &&& 31) = am_i (c5 l / ((2 ^ (5 * j) : Nat) : Int)) := by
            have := shr_i (v := c5 l) (by omega) (by omega) (s := 5 * j) (by omega)
            exact this
          rw [t7, am_br_lt (by omega) (by omega) (by omega) (by omega), if_neg (by omega), am_br_gt (by omega) (by omega) (by omega) (by omega), if_neg (by omega), am_ob_p (kk_2 S), r1, am_bI_p, am_br_eq (by omega) (by omega) (by omega) (by omega), if_p1 g2, am_br_lt (by omega) (by omega) (by omega) (by omega), if_neg (by omega), am_br_le (by omega) (by omega) (by omega) (by omega), if_pos (by omega)]
          simp (disch := omega) only [am_ob_p (kk_2 S), am_ob_p (kk_3 S), am_ob_p (kk_63 S), am_ob_p (kk_64 S), rr_63_0 S, rr_63_1 S, rr_64_2 S, rr_64_3 S, rr_64_4 S, rr_64_5 S, rr_2_0 S, rr_2_1 S, rr_2_3 S, rr_2_4 S, rr_2_5 S, rr_2_8 S, rr_2_10 S, rr_2_12 S, rr_2_13 S, rr_2_14 S, am_ix_p (kk_30 S), am_iw_p (kk_30 S), am_ix_p (kk_33 S), am_iw_p (kk_33 S), am_ix_p (kk_34 S), am_iw_p (kk_34 S), am_ix_p (kk_35 S), am_iw_p (kk_35 S), am_ix_p (kk_36 S), am_iw_p (kk_36 S), am_ix_p (kk_37 S), am_iw_p (kk_37 S), am_ix_p (kk_65 S), am_iw_p (kk_65 S), am_ix_p (kk_66 S), am_iw_p (kk_66 S), am_ix_p (kk_67 S), am_iw_p (kk_67 S), am_ix_p (kk_68 S), am_iw_p (kk_68 S), am_ob_p (H_k0 S hh), am_ix_p (H_k1 S hh), am_iw_p (H_k1 S hh), am_ix_p (H_k6 S hh), am_iw_p (H_k6 S hh), am_ix_p (H_k16 S hh), am_iw_p (H_k16 S hh), am_ix_p (H_k17 S hh), am_iw_p (H_k17 S hh), am_ix_p (H_k24 S hh), am_iw_p (H_k24 S hh), H_r0_0 S hh, H_r0_1 S hh, H_r0_2 S hh, H_r0_3 S hh, H_r0_4 S hh, H_r0_5 S hh, H_r0_6 S hh, H_r0_15 S hh, H_r2 S hh, H_r7 S hh, H_r18 S hh, am_iq_p (H_k2 S hh), am_iq_p (H_k7 S hh), am_iq_p (H_k18 S hh), am_ix_p (H_q2 S hh hs3), am_gr_p, am_i_ix, Int.toNat_zero, Int.toNat_one, Int.toNat_natCast, Int.reduceToNat, am_lt, am_i_add, am_i_sub, am_i_mul, e1, es, and_31, c5_get j hlok]
        · have el : c27 l = r27 l.reverse := by rw [← c27_rev, List.reverse_reverse]
          have hlr := lok_rev hlok
          have hlen : l.reverse.length = l.length := List.length_reverse
          have h27 : ¬ (am_l 27 = 0) := by decide
          have u24 : ((24 : Int) + 8 * (s : Int) + (v : Int)).toNat = 24 + 8 * s + v := by omega
          -- how many letters
          have loop1 : ∀ (r : List Int), lok r → r.length ≤ 6 → ∀ (c : Int) (y4 : Int64) (a0 a1 a2 a5 a8 : Value), 0 ≤ c → c + (r.length : Int) ≤ 100 → ∃ b5 b8, am_ev 196 599 69 [a0, a1, a2, .int (am_i (j : Int)), .long y4, a5, .int (am_i c), .long (am_l (r27 r)), a8] [] M = am_ev 196 599 69 [a0, a1, a2, .int (am_i (j : Int)), .long y4, b5, .int (am_i (c + r.length)), .long (am_l 0), b8] [] M := by
            intro r
            induction r with
            | nil =>
              intro _ _ c y4 a0 a1 a2 a5 a8 _ _
              exact ⟨a5, a8, by rw [List.length_nil]; simp [r27]⟩
            | cons a r ih =>
              intro hr hr6 c y4 a0 a1 a2 a5 a8 hc0 hc
              rw [List.length_cons] at hc
              have ha := hr a List.mem_cons_self
              have hb := r27_6 hr hr6
              have hlr : lok r := fun b hb => hr b (List.mem_cons_of_mem _ hb)
              simp only [List.length_cons] at hr6
              have hb2 := r27_6 hlr (by omega)
              have e : r27 (a :: r) = a + 27 * r27 r := rfl
              have ed : am_l (r27 (a :: r)) / am_l 27 = am_l (r27 r) := by
                rw [am_l_div (by omega) (by omega) (by omega) (by omega)]
                congr 1
                omega
              obtain ⟨b5, b8, h⟩ := ih hlr (by omega) (c + 1) y4 a0 a1 a2 (am_kl a5) .null (by omega) (by omega)
              refine ⟨b5, b8, ?_⟩
              rw [t196_69, cmp_le (by omega) (by omega) (by omega) (by omega), if_neg (by omega), am_if_f h27, ed, am_i_add, h]
              rw [List.length_cons, show c + 1 + (r.length : Int) = c + ((r.length + 1 : Nat) : Int) by omega]
          obtain ⟨b5, b8, L1⟩ := loop1 l.reverse hlr (by omega) 0 (am_l (c27 l)) (.ref 187) (.int (am_i s)) (.int (am_i v)) .null .null (by omega) (by omega)
          -- down to the letter that is asked
          have loop2 : ∀ m i : Nat, i + m = l.length - 1 - j → j < l.length → ∀ (a0 a1 a2 a5 a6 a8 : Value), am_ev 196 599 104 [a0, a1, a2, .int (am_i (j : Int)), .long (am_l (r27 (l.reverse.drop i))), a5, a6, .int (am_i ((l.length - 1 - i : Nat) : Int)), a8] [] M = some (some (.int (am_i (l.getD j 0))), M) := by
            intro m
            induction m with
            | zero =>
              intro i hi hj a0 a1 a2 a5 a6 a8
              have : i = l.length - 1 - j := by omega
              subst this
              have hd : lok (l.reverse.drop (l.length - j)) := lok_drop hlr _
              have hb := r27_6 hd (by rw [List.length_drop]; omega)
              have ha := n3 (l.getD j 0) (by rw [List.getD_eq_getElem?_getD, List.getElem?_eq_getElem hj]; exact List.getElem_mem hj)
              rw [rev_get hj]
              have e : r27 (l.getD j 0 :: l.reverse.drop (l.length - j)) = l.getD j 0 + 27 * r27 (l.reverse.drop (l.length - j)) := rfl
              have er : am_l (r27 (l.getD j 0 :: l.reverse.drop (l.length - j))) - am_l (r27 (l.getD j 0 :: l.reverse.drop (l.length - j))) / am_l 27 * am_l 27 = am_l (l.getD j 0) := by
                rw [am_l_rem (by omega) (by omega) (by omega) (by omega)]
                congr 1
                omega
              rw [t196_104, am_br_le (by omega) (by omega) (by omega) (by omega), if_pos (by omega), am_if_f h27, er, am_l2i]
            | succ m ih =>
              intro i hi hj a0 a1 a2 a5 a6 a8
              have hi2 : i < l.reverse.length := by omega
              have hd : lok (l.reverse.drop i) := lok_drop hlr _
              have hb := r27_6 hd (by rw [List.length_drop]; omega)
              have hd2 : lok (l.reverse.drop (i + 1)) := lok_drop hlr _
              have hb2 := r27_6 hd2 (by rw [List.length_drop]; omega)
              have e0 : l.reverse.drop i = l.reverse[i] :: l.reverse.drop (i + 1) := List.drop_eq_getElem_cons hi2
              have ha := hlr _ (List.getElem_mem hi2)
              have e : r27 (l.reverse.drop i) = l.reverse[i] + 27 * r27 (l.reverse.drop (i + 1)) := by rw [e0]; rfl
              have ed : am_l (r27 (l.reverse.drop i)) / am_l 27 = am_l (r27 (l.reverse.drop (i + 1))) := by
                rw [am_l_div (by omega) (by omega) (by omega) (by omega)]
                congr 1
                omega
              rw [t196_104, am_br_le (by omega) (by omega) (by omega) (by omega), if_neg (by omega), am_if_f h27, ed, am_i_add]
              have := ih (i + 1) (by omega) hj a0 a1 a2 .null (am_kl a6) a8
              rw [show ((l.length - 1 - i : Nat) : Int) + -1 = ((l.length - 1 - (i + 1) : Nat) : Int) by omega]
              exact this
          rw [t196, am_i2l (by omega) (by omega), m_isIn (by omega) (by omega) (by omega) (by omega) (by omega) (by omega), am_bI_p, hi1]
          simp (disch := omega) only [am_br_eq]
          rw [if_neg (by omega)]
          simp (disch := omega) only [am_ob_p (kk_187 S), rr_187_40 S, am_gr_p, am_i_add, am_ix_p (kk_219 S), am_i_ix, u3, e3, am_i_sub, am_i2l, m_isIn, am_bI_p, hi2, g2, am_br_eq]
          rw [if_neg (by omega), hi3]
          simp (disch := omega) only [am_br_ne]
          rw [if_neg (by omega)]
          simp (disch := omega) only [am_ob_p (kk_187 S), rr_187_41 S, am_gr_p, am_i_add, am_i_mul, am_ix_p (kk_220 S), am_i_ix, u24, e2, am_lt]
          rw [show am_l (c27 l) = am_l (r27 l.reverse) by rw [el]] at L1 ⊢
          rw [L1, t196_69, cmp_le (by omega) (by omega) (by omega) (by omega), if_pos (by omega), am_br_lt (by omega) (by omega) (by omega) (by omega)]
          by_cases g4 : j < l.length
          · rw [if_pos (by omega), am_i_sub]
            have := loop2 (l.length - 1 - j) 0 (by omega) g4 (.ref 187) (.int (am_i s)) (.int (am_i v)) b5 (.int (am_i (0 + (l.reverse.length : Int)))) b8
            rw [List.drop_zero] at this
            rw [show (0 + (l.reverse.length : Int) - 1) = ((l.length - 1 - 0 : Nat) : Int) by omega]
            exact this
          · rw [if_neg (by omega)]
            have : l.getD j 0 = 0 := by rw [List.getD_eq_getElem?_getD, List.getElem?_eq_none (by omega)]; rfl
            rw [this]
      · have hi3 : isin k 0 5 = 0 := if_neg g3
        refine Call_same (v := .int (am_i (-1))) (iv _) hq HC HM B h0 S ?_ ?_
        · rw [t7, am_br_lt (by omega) (by omega) (by omega) (by omega), if_neg (by omega), am_br_gt (by omega) (by omega) (by omega) (by omega), if_neg (by omega), am_ob_p (kk_2 S), r1, am_bI_p, am_br_eq (by omega) (by omega) (by omega) (by omega), if_p1 g2, am_br_lt (by omega) (by omega) (by omega) (by omega)]
          by_cases g4 : k < 0
          · rw [if_pos g4]
          · rw [if_neg g4, am_br_le (by omega) (by omega) (by omega) (by omega), if_neg (by omega)]
        · rw [t196, am_i2l (by omega) (by omega), m_isIn (by omega) (by omega) (by omega) (by omega) (by omega) (by omega), am_bI_p, hi1]
          simp (disch := omega) only [am_br_eq]
          rw [if_neg (by omega)]
          simp (disch := omega) only [am_ob_p (kk_187 S), rr_187_40 S, am_gr_p, am_i_add, am_ix_p (kk_219 S), am_i_ix, u3, e3, am_i_sub, am_i2l, m_isIn, am_bI_p, hi2, g2, am_br_eq]
          rw [if_neg (by omega), hi3]
          simp (disch := omega) only [am_br_ne]
          rw [if_pos trivial]
    · have g2' := is1_0 g2
      refine Call_same (v := .int (am_i (-1))) (iv _) hq HC HM B h0 S ?_ ?_
      · rw [t7, am_br_lt (by omega) (by omega) (by omega) (by omega), if_neg (by omega), am_br_gt (by omega) (by omega) (by omega) (by omega), if_neg (by omega), am_ob_p (kk_2 S), r1, am_bI_p, am_br_eq (by omega) (by omega) (by omega) (by omega), if_p0 g2']
      · rw [t196, am_i2l (by omega) (by omega), m_isIn (by omega) (by omega) (by omega) (by omega) (by omega) (by omega), am_bI_p, hi1]
        simp (disch := omega) only [am_br_eq]
        rw [if_neg (by omega)]
        simp (disch := omega) only [am_ob_p (kk_187 S), rr_187_40 S, am_gr_p, am_i_add, am_ix_p (kk_219 S), am_i_ix, u3, e3, am_i_sub, am_i2l, m_isIn, am_bI_p, hi2, g2', am_br_eq]
        rw [if_pos trivial]
  · have hi1 : isin z 0 2 = 0 := if_neg g1
    refine Call_same (v := .int (am_i (-1))) (iv _) hq HC HM B h0 S ?_ ?_
    · rw [t7, am_br_lt (by omega) (by omega) (by omega) (by omega)]
      by_cases g4 : z < 0
      · rw [if_pos g4]
      · rw [if_neg g4, am_br_gt (by omega) (by omega) (by omega) (by omega), if_pos (by omega)]
    · rw [t196, am_i2l (by omega) (by omega), m_isIn (by omega) (by omega) (by omega) (by omega) (by omega) (by omega), am_bI_p, hi1]
      simp (disch := omega) only [am_br_eq]
      rw [if_pos trivial]
