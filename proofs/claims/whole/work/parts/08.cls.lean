/-! The rows of the kit, over the abstract memory: cells read and written. -/
theorem am_cl_at : ∀ a, a < 7 → vwCl[a]? = some (am_cR a, am_cT a, am_nf a)
  | 0, _ => rfl
  | 1, _ => rfl
  | 2, _ => rfl
  | 3, _ => rfl
  | 4, _ => rfl
  | 5, _ => rfl
  | 6, _ => rfl
  | a + 7, h => absurd h (by omega)
theorem am_cty : ∀ a, a < 7 → ∀ k, k < am_nf a → parseFieldDescriptor (am_cT a k).2.2.1 = some (am_ty a k)
  | 0, _ => tyX0_ok
  | 1, _ => tyX1_ok
  | 2, _ => tyX2_ok
  | 3, _ => tyX3_ok
  | 4, _ => tyX4_ok
  | 5, _ => tyX5_ok
  | 6, _ => tyX6_ok
  | a + 7, h => absurd h (by omega)
theorem am_cnm : ∀ a, a < 7 → ∀ x, x < am_nf a → ∀ y, y < am_nf a → x ≠ y → (am_cT a x).2.1 ≠ (am_cT a y).2.1
  | 0, _ => nmX0
  | 1, _ => nmX1
  | 2, _ => nmX2
  | 3, _ => nmX3
  | 4, _ => nmX4
  | 5, _ => nmX5
  | 6, _ => nmX6
  | a + 7, h => absurd h (by omega)
theorem am_inW {ws : List Jvm.Cond} (h : ws.all (fun w => decide (w ∈ lw_tbl) && goodWord w) = true) : ∀ w ∈ ws, w ∈ am_W := by
  intro w hw
  have := List.all_eq_true.mp h w hw
  rw [Bool.and_eq_true, decide_eq_true_eq] at this
  exact List.mem_filter.mpr this
theorem am_cin0 : ∀ w ∈ u_ws RX0 TX0 7, w ∈ am_W := am_inW (by decide +kernel)
theorem am_cin1 : ∀ w ∈ u_ws RX1 TX1 6, w ∈ am_W := am_inW (by decide +kernel)
theorem am_cin2 : ∀ w ∈ u_ws RX2 TX2 16, w ∈ am_W := am_inW (by decide +kernel)
theorem am_cin3 : ∀ w ∈ u_ws RX3 TX3 3, w ∈ am_W := am_inW (by decide +kernel)
theorem am_cin4 : ∀ w ∈ u_ws RX4 TX4 17, w ∈ am_W := am_inW (by decide +kernel)
theorem am_cin5 : ∀ w ∈ u_ws RX5 TX5 16, w ∈ am_W := am_inW (by decide +kernel)
theorem am_cin6 : ∀ w ∈ u_ws RX6 TX6 103, w ∈ am_W := am_inW (by decide +kernel)
theorem am_cin : ∀ a, a < 7 → ∀ w ∈ u_ws (am_cR a) (am_cT a) (am_nf a), w ∈ am_W
  | 0, _ => am_cin0
  | 1, _ => am_cin1
  | 2, _ => am_cin2
  | 3, _ => am_cin3
  | 4, _ => am_cin4
  | 5, _ => am_cin5
  | 6, _ => am_cin6
  | a + 7, h => absurd h (by omega)
