/-! A tree's words, where what they ask is known. -/
theorem am_ob_p {M : am_M} {r a : Nat} (h : am_K M r = (1, a)) (t s : am_Q) : am_ob M r a t s = t := if_pos h
theorem am_inx {i : Int} {n : Nat} (h0 : 0 ≤ i) (h1 : i < n) (hn : n ≤ 65536) : ¬ (am_i i < 0 ∨ n ≤ (am_i i).toNatClampNeg) := by
  intro h
  rw [am_i_0, am_i_lt (by omega) (by omega) (by omega) (by omega), am_i_ix (by omega) (by omega)] at h
  omega
theorem am_ix_p {M : am_M} {r g n : Nat} {i : Int} (h : am_K M r = (g, n)) (h0 : 0 ≤ i) (h1 : i < n) (hn : n ≤ 65536) (t s : am_Q) : am_ix M r g (am_i i) t s = t :=
  if_pos ⟨by rw [h], by rw [h]; exact am_inx h0 h1 hn⟩
theorem am_iw_p {M : am_M} {r g n : Nat} {i : Int} (h : am_K M r = (g, n)) (h2 : 2 ≤ r) (h0 : 0 ≤ i) (h1 : i < n) (hn : n ≤ 65536) (t s : am_Q) : am_iw M r g (am_i i) t s = t :=
  if_pos ⟨h2, by rw [h], by rw [h]; exact am_inx h0 h1 hn⟩
theorem am_iq_p {M : am_M} {r g n : Nat} {i : Int} (h : am_K M r = (g, n)) (hg : g = 5 ∨ g = 6) (h0 : 0 ≤ i) (h1 : i < n) (hn : n ≤ 65536) (t s : am_Q) : am_iq M r (am_i i) t s = t :=
  if_pos ⟨by rw [h]; exact hg, by rw [h]; exact am_inx h0 h1 hn⟩
theorem am_gr_p {q : Nat} {f : Nat → am_Q} {s : am_Q} : am_gr (some q) f s = f q := rfl
theorem am_tr_0 (t s : am_Q) : am_tr (am_i 0) t s = t := if_pos (Or.inl rfl)
theorem am_tr_1 (t s : am_Q) : am_tr (am_i 1) t s = t := if_pos (Or.inr rfl)
theorem am_tr_b {x : Int} (h : x = 0 ∨ x = 1) (t s : am_Q) : am_tr (am_i x) t s = t := by
  rcases h with rfl | rfl
  · exact am_tr_0 t s
  · exact am_tr_1 t s
theorem am_br_lt {a b : Int} (h1 : -2147483648 ≤ a) (h2 : a < 2147483648) (h3 : -2147483648 ≤ b) (h4 : b < 2147483648) (t f : am_Q) : am_br .lt (am_i a) (am_i b) t f = if a < b then t else f := by
  unfold am_br; simp only [am_i_lt h1 h2 h3 h4]
theorem am_br_ge {a b : Int} (h1 : -2147483648 ≤ a) (h2 : a < 2147483648) (h3 : -2147483648 ≤ b) (h4 : b < 2147483648) (t f : am_Q) : am_br .ge (am_i a) (am_i b) t f = if b ≤ a then t else f := by
  unfold am_br; simp only [am_i_le h3 h4 h1 h2]
theorem am_br_gt {a b : Int} (h1 : -2147483648 ≤ a) (h2 : a < 2147483648) (h3 : -2147483648 ≤ b) (h4 : b < 2147483648) (t f : am_Q) : am_br .gt (am_i a) (am_i b) t f = if b < a then t else f := by
  unfold am_br; simp only [am_i_lt h3 h4 h1 h2]
theorem am_br_le {a b : Int} (h1 : -2147483648 ≤ a) (h2 : a < 2147483648) (h3 : -2147483648 ≤ b) (h4 : b < 2147483648) (t f : am_Q) : am_br .le (am_i a) (am_i b) t f = if a ≤ b then t else f := by
  unfold am_br; simp only [am_i_le h1 h2 h3 h4]
theorem am_br_eq {a b : Int} (h1 : -2147483648 ≤ a) (h2 : a < 2147483648) (h3 : -2147483648 ≤ b) (h4 : b < 2147483648) (t f : am_Q) : am_br .eq (am_i a) (am_i b) t f = if a = b then t else f := by
  unfold am_br; simp only [am_i_eq h1 h2 h3 h4]
theorem am_br_ne {a b : Int} (h1 : -2147483648 ≤ a) (h2 : a < 2147483648) (h3 : -2147483648 ≤ b) (h4 : b < 2147483648) (t f : am_Q) : am_br .ne (am_i a) (am_i b) t f = if a = b then f else t := by
  unfold am_br; simp only [am_i_eq h1 h2 h3 h4]
theorem am_si_p {k x : Int} (h1 : -2147483648 ≤ k) (h2 : k < 2147483648) (h3 : -2147483648 ≤ x) (h4 : x < 2147483648) (t f : am_Q) : am_si k (am_i x) t f = if x = k then t else f := by
  unfold am_si; simp only [am_i_eq h3 h4 h1 h2]
theorem am_bI_p {x : Int32} {M : am_M} {f : Int32 → am_M → am_Q} : am_bI (some (some (.int x), M)) f = f x M := rfl
theorem am_bL_p {x : Int64} {M : am_M} {f : Int64 → am_M → am_Q} : am_bL (some (some (.long x), M)) f = f x M := rfl
theorem am_bV_p {M : am_M} {f : am_M → am_Q} : am_bV (some (none, M)) f = f M := rfl
-- what a write leaves
theorem am_K_sI (M : am_M) (a j : Nat) (v : Int32) : am_K (am_sI M a j v) = am_K M := rfl
theorem am_R_sI (M : am_M) (a j : Nat) (v : Int32) : am_R (am_sI M a j v) = am_R M := rfl
theorem am_L_sI (M : am_M) (a j : Nat) (v : Int32) : am_L (am_sI M a j v) = am_L M := rfl
theorem am_K_sL (M : am_M) (a j : Nat) (v : Int64) : am_K (am_sL M a j v) = am_K M := rfl
theorem am_R_sL (M : am_M) (a j : Nat) (v : Int64) : am_R (am_sL M a j v) = am_R M := rfl
theorem am_I_sL (M : am_M) (a j : Nat) (v : Int64) : am_I (am_sL M a j v) = am_I M := rfl
theorem am_K_sR (M : am_M) (a j v : Nat) : am_K (am_sR M a j v) = am_K M := rfl
theorem am_I_sR (M : am_M) (a j v : Nat) : am_I (am_sR M a j v) = am_I M := rfl
theorem am_L_sR (M : am_M) (a j v : Nat) : am_L (am_sR M a j v) = am_L M := rfl
theorem am_n_sI (M : am_M) (a j : Nat) (v : Int32) : am_n (am_sI M a j v) = am_n M := rfl
theorem am_I_sI (M : am_M) (a j : Nat) (v : Int32) (b k : Nat) : am_I (am_sI M a j v) b k = if b = a ∧ k = j then v else am_I M b k := rfl
theorem am_L_sL (M : am_M) (a j : Nat) (v : Int64) (b k : Nat) : am_L (am_sL M a j v) b k = if b = a ∧ k = j then v else am_L M b k := rfl
theorem am_R_sR (M : am_M) (a j v : Nat) (b k : Nat) : am_R (am_sR M a j v) b k = if b = a ∧ k = j then some v else am_R M b k := rfl
