theorem am_all_app0 : True := trivial
theorem am_oks (i : Nat) : am_sok (am_hd i) = true ∧ (am_tb i).all (am_eok (am_hd i)) = true := sorry
