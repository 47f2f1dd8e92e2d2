def am_cut (l : List Nat) (pc : Nat) : Bool := l.any (Nat.beq pc)
set_option maxRecDepth 100000 in
set_option maxHeartbeats 4000000 in
theorem am_x1 (d t : Nat) (M : am_M) (P F S K : Int32) : am_ev 79 d 5 [.ref t, .int P, .int F, .int S, .int K] [] M =
  am_ob M t 1 (am_gr (am_R M t 0) (fun h => am_ob M h 2 (am_gr (am_R M h 0) (fun q => am_ix M q 2 (am_i 0) (am_br .ge K (am_I M q (am_i 0).toNatClampNeg) (some (some (.int S), M))
    (am_ob M t 1 (am_gr (am_R M t 0) (fun h => am_ob M h 2 (am_gr (am_R M h 3) (fun w => am_iq M w F (am_gr (am_R M w F.toNatClampNeg) (fun r => am_ix M r 2 K
     (am_ob M t 1 (am_gr (am_R M t 1) (fun a => am_ob M a 0 (am_gr (am_R M a 2) (fun ta => am_ix M ta 2 (P * am_i 6 + K) (am_ev 79 d 5 [.ref t, .int P, .int F, .int (S + am_I M r K.toNatClampNeg * am_I M ta (P * am_i 6 + K).toNatClampNeg), .int (K + am_i 1)] [] M) none) none) none) none) none) none) none) none) none) none) none) none)) none) none) none) none) none := by
  exact am_tree (cut := am_cut [5]) 40 rfl
