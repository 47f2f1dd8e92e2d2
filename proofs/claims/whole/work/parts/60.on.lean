/-! on: what is read, the class. -/
def tb (Z : Nat → Nat → Int) (k : Nat) : Int := Z 0 k
def tw (Z : Nat → Nat → Int) (k : Nat) : Int := Z 0 k * 256 + Z 0 (k + 1)
/-- bytes a profile takes, where a profile starts, where the people start -/
def rl (X : am_X) : Nat := 2 * nK X + nF X
def pf (X : am_X) (q : Nat) : Nat := 3 + q * rl X
theorem pf_s (X : am_X) (q : Nat) : pf X (q + 1) = pf X q + rl X := by unfold pf; rw [Nat.add_mul]; omega
theorem rl_bd {X : am_X} (B : hB X) : rl X ≤ 20 := by
  have := (hB_K B).2
  have := (hB_F B).2
  unfold rl
  omega
theorem pf_bd {X : am_X} (B : hB X) : ∀ q, pf X q ≤ 3 + 20 * q
  | 0 => by unfold pf; omega
  | q + 1 => by
    have := pf_bd B q
    have := rl_bd B
    rw [pf_s]
    omega
theorem tw_bd {X : am_X} {Z : Nat → Nat → Int} (B : zB X Z) (k : Nat) : 0 ≤ tw Z k ∧ tw Z k ≤ 65535 := by
  have h1 := B.1 k
  have h2 := B.1 (k + 1)
  unfold tw
  omega
/-- flags: tastes of a profile, what it saw, all profiles, all people -/
def okT (Z : Nat → Nat → Int) (o : Nat) : Nat → Int → Int
  | 0, f => f
  | n + 1, f => if okT Z o n f = 1 ∧ tw Z (o + 2 * n) ≤ 999 then 1 else 0
def okS (X : am_X) (Z : Nat → Nat → Int) (o : Nat) : Nat → Int → Int
  | 0, f => f
  | n + 1, f => if okS X Z o n f = 1 ∧ Z 0 (o + n) ≤ X 2 n 0 then 1 else 0
def okQ (X : am_X) (Z : Nat → Nat → Int) : Nat → Int → Int
  | 0, f => f
  | n + 1, f => okS X Z (pf X n + 2 * nK X) (nF X) (okT Z (pf X n) (nK X) (okQ X Z n f))
theorem okT_01 (Z : Nat → Nat → Int) (o : Nat) {f : Int} (h : f = 0 ∨ f = 1) : ∀ n, okT Z o n f = 0 ∨ okT Z o n f = 1
  | 0 => h
  | n + 1 => by unfold okT; split; exact Or.inr rfl; exact Or.inl rfl
theorem okS_01 (X : am_X) (Z : Nat → Nat → Int) (o : Nat) {f : Int} (h : f = 0 ∨ f = 1) : ∀ n, okS X Z o n f = 0 ∨ okS X Z o n f = 1
  | 0 => h
  | n + 1 => by unfold okS; split; exact Or.inr rfl; exact Or.inl rfl
theorem okQ_01 (X : am_X) (Z : Nat → Nat → Int) {f : Int} (h : f = 0 ∨ f = 1) : ∀ n, okQ X Z n f = 0 ∨ okQ X Z n f = 1
  | 0 => h
  | n + 1 => okS_01 X Z _ (okT_01 Z _ (okQ_01 X Z h n) _) _
theorem c_tapeByte {L : Nat} {q : am_Pq} {M : am_M} (S : am_Sh L q M) {Z : Nat → Nat → Int} (HI : ∀ k, k < 1600 → am_I M 30 k = am_i (Z 0 k)) {k : Nat} (hk : k < 1600) (d : Nat) : am_cl 60 d [.ref 2, .int (am_i k)] M = some (some (.int (am_i (Z 0 k))), M) := by
  rw [t60, am_br_lt (by omega) (by omega) (by omega) (by omega), if_neg (by omega), am_br_ge (by omega) (by omega) (by omega) (by omega), if_neg (by omega), am_ob_p (kk_2 S), rr_2_1 S, am_gr_p, am_ix_p (kk_30 S) (by omega) (by omega) (by omega), am_i_ix (by omega) (by omega), Int.toNat_natCast, HI k hk]
theorem c_tapeTwo {L : Nat} {q : am_Pq} {M : am_M} (S : am_Sh L q M) {Z : Nat → Nat → Int} (HI : ∀ k, k < 1600 → am_I M 30 k = am_i (Z 0 k)) {k : Nat} (hk : k < 1599) (d : Nat) : am_cl 61 (d + 1) [.ref 2, .int (am_i k)] M = some (some (.int (am_i (tw Z k))), M) := by
  rw [t61, am_ob_p (kk_2 S), c_tapeByte S HI (by omega), am_bI_p, am_ob_p (kk_2 S), am_i_add, show ((k : Int) + 1) = ((k + 1 : Nat) : Int) from rfl, c_tapeByte S HI (k := k + 1) (by omega), am_bI_p, am_i_mul, am_i_add]
  rfl
theorem c_lengthOfImage {L : Nat} {q : am_Pq} {M : am_M} (S : am_Sh L q M) (hh : isH q.2.2.1) {X : am_X} (HX : cH M q.2.2.1 X) (B : hB X) (d : Nat) : am_cl 59 d [.ref 2] M = some (some (.int (am_i ((pf X (nP X + 1) + 3 * nP X + 1 : Nat) : Int))), M) := by
  obtain ⟨hKK, -⟩ := hB_K B
  obtain ⟨hFF, -⟩ := hB_F B
  obtain ⟨hPP, -⟩ := hB_P B
  have e0 := HX.1 0 (by decide)
  have e1 := HX.1 1 (by decide)
  have e2 := HX.1 2 (by decide)
  rw [t59]
  simp (disch := omega) only [am_ob_p (kk_2 S), am_ob_p (kk_3 S), am_ob_p (kk_63 S), am_ob_p (kk_64 S), rr_63_0 S, rr_63_1 S, rr_64_2 S, rr_64_3 S, rr_64_4 S, rr_64_5 S, rr_2_0 S, rr_2_1 S, rr_2_3 S, rr_2_4 S, rr_2_5 S, rr_2_8 S, rr_2_10 S, rr_2_12 S, rr_2_13 S, rr_2_14 S, am_ix_p (kk_30 S), am_iw_p (kk_30 S), am_ix_p (kk_33 S), am_iw_p (kk_33 S), am_ix_p (kk_34 S), am_iw_p (kk_34 S), am_ix_p (kk_35 S), am_iw_p (kk_35 S), am_ix_p (kk_36 S), am_iw_p (kk_36 S), am_ix_p (kk_37 S), am_iw_p (kk_37 S), am_ix_p (kk_65 S), am_iw_p (kk_65 S), am_ix_p (kk_66 S), am_iw_p (kk_66 S), am_ix_p (kk_67 S), am_iw_p (kk_67 S), am_ix_p (kk_68 S), am_iw_p (kk_68 S), am_gr_p, am_ob_p (H_k0 S hh), am_ix_p (H_k1 S hh), am_iw_p (H_k1 S hh), am_ix_p (H_k6 S hh), am_iw_p (H_k6 S hh), am_ix_p (H_k16 S hh), am_iw_p (H_k16 S hh), am_ix_p (H_k17 S hh), am_iw_p (H_k17 S hh), am_ix_p (H_k24 S hh), am_iw_p (H_k24 S hh), H_r0_0 S hh, H_r0_1 S hh, H_r0_2 S hh, H_r0_3 S hh, H_r0_4 S hh, H_r0_5 S hh, H_r0_6 S hh, H_r0_15 S hh, H_r2 S hh, H_r7 S hh, H_r18 S hh, am_iq_p (H_k2 S hh), am_iq_p (H_k7 S hh), am_iq_p (H_k18 S hh), am_i_ix, Int.reduceToNat, Int.toNat_zero, Int.toNat_one, e0, e1, e2, am_lt, am_i_mul, am_i_add]
  rw [← hKK, ← hFF, ← hPP]
  have e : (4 : Int) + ((nP X : Int) + 1) * (2 * (nK X : Int) + (nF X : Int)) + 3 * (nP X : Int) = ((pf X (nP X + 1) + 3 * nP X + 1 : Nat) : Int) := by
    unfold pf rl
    push_cast
    omega
  rw [e]
theorem c_check2 {L : Nat} {q : am_Pq} {M : am_M} (S : am_Sh L q M) {l : List Int} (hl : l.length ≤ 138) (HB : lB l) (HI : ∀ k, k < l.length → am_I M 30 k = am_i (l.getD k 0)) (d : Nat) : am_cl 58 d [.ref 2, .ref 30, .int (am_i l.length)] M = some (some (.int (am_i (chkN l l.length))), M) := by
  have key : ∀ m n : Nat, n + m = l.length → am_ev 58 d 6 [.ref 2, .ref 30, .int (am_i l.length), .int (am_i (chkN l n)), .int (am_i n)] [] M = some (some (.int (am_i (chkN l l.length))), M) := by
    intro m
    induction m with
    | zero =>
      intro n hn
      have : n = l.length := by omega
      subst this
      rw [t58_6, am_br_ge (by omega) (by omega) (by omega) (by omega), if_pos (by omega)]
    | succ m ih =>
      intro n hn
      have b := chkN_bd l n
      have b2 := HB n (by omega)
      have e := HI n (by omega)
      have ec : (3 * chkN l n + l.getD n 0) % 251 = chkN l (n + 1) := rfl
      rw [t58_6, am_br_ge (by omega) (by omega) (by omega) (by omega), if_neg (by omega), kk_30 S, am_if_t (by decide), am_i_nI, am_br_ge (by omega) (by omega) (by omega) (by omega), if_neg (by omega), am_ix_p (kk_30 S) (by omega) (by omega) (by omega), am_i_ix (by omega) (by omega), Int.toNat_natCast, e, am_if_f (by decide), am_i_mul, am_i_add]
      simp only [am_lt]
      rw [am_i_rem (by omega) (by omega) (by omega) (by omega), ec, am_i_add]
      exact ih (n + 1) (by omega)
  rw [t58]
  exact key l.length 0 (by omega)
def pO (b k : Nat) : Prop := pA 76 b k
/-- an empty account -/
def azr : am_A := fun _ _ _ => 0
theorem c_clear {L : Nat} {q : am_Pq} {M : am_M} (S : am_Sh L q M) (d : Nat) : ∃ M', am_cl 65 d [.ref 76] M = some (none, M') ∧ am_Sh L q M' ∧ fr (pA 76) M M' ∧ cA M' 76 azr ∧ cK M' 76 [] 0 := by
  have k3 : ∀ m n : Nat, n + m = 5 → ∀ M1, am_Sh L q M1 → fr (pA 76) M M1 → am_I M1 76 0 = am_i 0 → am_I M1 76 1 = am_i 0 → (∀ k, k < 36 → am_I M1 77 k = am_i 0) → (∀ k, k < 48 → am_I M1 78 k = am_i 0) → (∀ k, k < n → am_I M1 79 k = am_i 0) → ∃ M', am_ev 65 d 60 [.ref 76, .int (am_i n)] [] M1 = some (none, M') ∧ am_Sh L q M' ∧ fr (pA 76) M M' ∧ cA M' 76 azr ∧ cK M' 76 [] 0 := by
    intro m
    induction m with
    | zero =>
      intro n hn M1 S1 f1 h0 h1 h2 h3 h4
      refine ⟨am_sI M1 76 6 (am_i 0), ?_, S1.sI _ _ _, fr_tr f1 (fr_sI (Or.inl ⟨rfl, Or.inr (Or.inr rfl)⟩)), ⟨by rw [am_I_ne2 (by omega)]; exact h0, by rw [am_I_ne2 (by omega)]; exact h1, fun q' hq' k hk => by rw [am_I_ne1 (by omega)]; exact h2 _ (by omega), fun q' hq' f hf => by rw [am_I_ne1 (by omega)]; exact h3 _ (by omega), fun p hp => by rw [am_I_ne1 (by omega)]; exact h4 p (by omega)⟩, 0, Nat.le_refl _, am_I_same _ _ _ _, rfl, fun k hk => absurd hk (by show ¬ k < 0; omega)⟩
      rw [t65_60, am_br_ge (by omega) (by omega) (by omega) (by omega), if_pos (by omega), am_ob_p (kk_76 S1)]
      rfl
    | succ m ih =>
      intro n hn M1 S1 f1 h0 h1 h2 h3 h4
      obtain ⟨M', r, hR⟩ := ih (n + 1) (by omega) (am_sI M1 79 n (am_i 0)) (S1.sI _ _ _) (fr_tr f1 (fr_sI (Or.inr ⟨by omega, by omega⟩))) (by rw [am_I_ne1 (by omega)]; exact h0) (by rw [am_I_ne1 (by omega)]; exact h1) (fun k hk => by rw [am_I_ne1 (by omega)]; exact h2 k hk) (fun k hk => by rw [am_I_ne1 (by omega)]; exact h3 k hk) (fun k hk => by
        by_cases g : k = n
        · subst g; rw [am_I_same]
        · rw [am_I_ne2 g]; exact h4 k (by omega))
      refine ⟨M', ?_, hR⟩
      rw [t65_60, am_br_ge (by omega) (by omega) (by omega) (by omega), if_neg (by omega), am_ob_p (kk_76 S1), rr_76_4 S1, am_gr_p, am_iw_p (kk_79 S1) (by omega) (by omega) (by omega) (by omega), am_i_ix (by omega) (by omega), Int.toNat_natCast, am_lt, am_i_add]
      exact r
  have k2 : ∀ m n : Nat, n + m = 48 → ∀ M1, am_Sh L q M1 → fr (pA 76) M M1 → am_I M1 76 0 = am_i 0 → am_I M1 76 1 = am_i 0 → (∀ k, k < 36 → am_I M1 77 k = am_i 0) → (∀ k, k < n → am_I M1 78 k = am_i 0) → ∃ M', am_ev 65 d 36 [.ref 76, .int (am_i n)] [] M1 = some (none, M') ∧ am_Sh L q M' ∧ fr (pA 76) M M' ∧ cA M' 76 azr ∧ cK M' 76 [] 0 := by
    intro m
    induction m with
    | zero =>
      intro n hn M1 S1 f1 h0 h1 h2 h3
      obtain ⟨M', r, hR⟩ := k3 5 0 (by omega) M1 S1 f1 h0 h1 h2 (fun k hk => h3 k (by omega)) (fun k hk => absurd hk (by omega))
      refine ⟨M', ?_, hR⟩
      rw [t65_36, am_ob_p (kk_76 S1), rr_76_3 S1, am_gr_p, kk_78 S1, am_if_t (by decide), am_i_nI, am_br_ge (by omega) (by omega) (by omega) (by omega), if_pos (by omega)]
      exact r
    | succ m ih =>
      intro n hn M1 S1 f1 h0 h1 h2 h3
      obtain ⟨M', r, hR⟩ := ih (n + 1) (by omega) (am_sI M1 78 n (am_i 0)) (S1.sI _ _ _) (fr_tr f1 (fr_sI (Or.inr ⟨by omega, by omega⟩))) (by rw [am_I_ne1 (by omega)]; exact h0) (by rw [am_I_ne1 (by omega)]; exact h1) (fun k hk => by rw [am_I_ne1 (by omega)]; exact h2 k hk) (fun k hk => by
        by_cases g : k = n
        · subst g; rw [am_I_same]
        · rw [am_I_ne2 g]; exact h3 k (by omega))
      refine ⟨M', ?_, hR⟩
      rw [t65_36, am_ob_p (kk_76 S1), rr_76_3 S1, am_gr_p, kk_78 S1, am_if_t (by decide), am_i_nI, am_br_ge (by omega) (by omega) (by omega) (by omega), if_neg (by omega), am_ob_p (kk_76 S1), am_gr_p, am_iw_p (kk_78 S1) (by omega) (by omega) (by omega) (by omega), am_i_ix (by omega) (by omega), Int.toNat_natCast, am_lt, am_i_add]
      exact r
  have k1 : ∀ m n : Nat, n + m = 36 → ∀ M1, am_Sh L q M1 → fr (pA 76) M M1 → am_I M1 76 0 = am_i 0 → am_I M1 76 1 = am_i 0 → (∀ k, k < n → am_I M1 77 k = am_i 0) → ∃ M', am_ev 65 d 12 [.ref 76, .int (am_i n)] [] M1 = some (none, M') ∧ am_Sh L q M' ∧ fr (pA 76) M M' ∧ cA M' 76 azr ∧ cK M' 76 [] 0 := by
    intro m
    induction m with
    | zero =>
      intro n hn M1 S1 f1 h0 h1 h2
      obtain ⟨M', r, hR⟩ := k2 48 0 (by omega) M1 S1 f1 h0 h1 (fun k hk => h2 k (by omega)) (fun k hk => absurd hk (by omega))
      refine ⟨M', ?_, hR⟩
      rw [t65_12, am_ob_p (kk_76 S1), rr_76_2 S1, am_gr_p, kk_77 S1, am_if_t (by decide), am_i_nI, am_br_ge (by omega) (by omega) (by omega) (by omega), if_pos (by omega)]
      exact r
    | succ m ih =>
      intro n hn M1 S1 f1 h0 h1 h2
      obtain ⟨M', r, hR⟩ := ih (n + 1) (by omega) (am_sI M1 77 n (am_i 0)) (S1.sI _ _ _) (fr_tr f1 (fr_sI (Or.inr ⟨by omega, by omega⟩))) (by rw [am_I_ne1 (by omega)]; exact h0) (by rw [am_I_ne1 (by omega)]; exact h1) (fun k hk => by
        by_cases g : k = n
        · subst g; rw [am_I_same]
        · rw [am_I_ne2 g]; exact h2 k (by omega))
      refine ⟨M', ?_, hR⟩
      rw [t65_12, am_ob_p (kk_76 S1), rr_76_2 S1, am_gr_p, kk_77 S1, am_if_t (by decide), am_i_nI, am_br_ge (by omega) (by omega) (by omega) (by omega), if_neg (by omega), am_ob_p (kk_76 S1), am_gr_p, am_iw_p (kk_77 S1) (by omega) (by omega) (by omega) (by omega), am_i_ix (by omega) (by omega), Int.toNat_natCast, am_lt, am_i_add]
      exact r
  obtain ⟨M', r, hR⟩ := k1 36 0 (by omega) (am_sI (am_sI M 76 0 (am_i 0)) 76 1 (am_i 0)) ((S.sI _ _ _).sI _ _ _) (fr_tr (fr_sI (Or.inl ⟨rfl, Or.inl rfl⟩)) (fr_sI (Or.inl ⟨rfl, Or.inr (Or.inl rfl)⟩))) (by rw [am_I_ne2 (by omega), am_I_same]) (am_I_same _ _ _ _) (fun k hk => absurd hk (by omega))
  refine ⟨M', ?_, hR⟩
  rw [t65, am_ob_p (kk_76 S)]
  simp only [am_lt]
  rw [am_ob_p (kk_76 (S.sI 76 0 _))]
  exact r
