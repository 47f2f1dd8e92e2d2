theorem am_oks (i : Nat) : (am_sok (am_hd i) = true ∧ am_sop (am_hd i)) ∧ (am_tb i).all (am_eok (am_hd i)) = true := by
  sorry
