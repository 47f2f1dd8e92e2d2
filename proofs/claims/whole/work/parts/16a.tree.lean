/-! Trees: what a method does, printed by a program out of the tables, each proved by running the abstract machine. -/

-- 1: X5_init
set_option maxHeartbeats 2000000 in
set_option maxRecDepth 100000 in
theorem t1 (d : Nat) (M : am_M) (r0 : Nat) :
  am_cl 1 (d + 1) [.ref r0] M =
 am_lt (am_nw M (1, 4) 17) (fun M1 => am_bV (am_cl 95 d [.ref (am_n M)] M1) (fun M2 => am_ob M2 r0 5 (am_lt (am_sR M2 r0 0 (am_n M)) (fun M3 => am_ob M3 r0 5 (am_gr (am_R M3 r0 0) (fun h4 => am_ob M3 h4 4 (am_gr (am_R M3 h4 5) (fun h5 => am_ob M3 r0 5 (am_lt (am_sR M3 r0 1 h5) (fun M6 => am_ob M6 r0 5 (am_lt (am_sI M6 r0 2 (am_i 0)) (fun M7 => am_if ((am_i 20) < 0 ∨ 65536 < (am_i 20).toNatClampNeg) none (am_lt (am_nw M7 (5, (am_i 20).toNatClampNeg) (am_i 20).toNatClampNeg) (fun M8 => am_ob M8 r0 5 (am_lt (am_sR M8 r0 5 (am_n M7)) (fun M9 => am_ob M9 r0 5 (am_lt (am_sI M9 r0 6 (am_i 0)) (fun M10 => am_ob M10 r0 5 (am_lt (am_sI M10 r0 7 (am_i 0)) (fun M11 => am_if ((am_i 48) < 0 ∨ 65536 < (am_i 48).toNatClampNeg) none (am_lt (am_nw M11 (2, (am_i 48).toNatClampNeg) (am_i 48).toNatClampNeg) (fun M12 => am_ob M12 r0 5 (am_lt (am_sR M12 r0 8 (am_n M11)) (fun M13 => am_ob M13 r0 5 (am_lt (am_sI M13 r0 9 (am_i 0)) (fun M14 => am_if ((am_i 139) < 0 ∨ 65536 < (am_i 139).toNatClampNeg) none (am_lt (am_nw M14 (2, (am_i 139).toNatClampNeg) (am_i 139).toNatClampNeg) (fun M15 => am_ob M15 r0 5 (am_lt (am_sR M15 r0 10 (am_n M14)) (fun M16 => am_ob M16 r0 5 (am_lt (am_sI M16 r0 11 (am_i 0)) (fun M17 => am_if ((am_i 160) < 0 ∨ 65536 < (am_i 160).toNatClampNeg) none (am_lt (am_nw M17 (2, (am_i 160).toNatClampNeg) (am_i 160).toNatClampNeg) (fun M18 => am_ob M18 r0 5 (am_lt (am_sR M18 r0 12 (am_n M17)) (fun M19 => am_if ((am_i 8) < 0 ∨ 65536 < (am_i 8).toNatClampNeg) none (am_lt (am_nw M19 (2, (am_i 8).toNatClampNeg) (am_i 8).toNatClampNeg) (fun M20 => am_ob M20 r0 5 (am_lt (am_sR M20 r0 13 (am_n M19)) (fun M21 => am_if ((am_i 6) < 0 ∨ 65536 < (am_i 6).toNatClampNeg) none (am_lt (am_nw M21 (2, (am_i 6).toNatClampNeg) (am_i 6).toNatClampNeg) (fun M22 => am_ob M22 r0 5 (am_lt (am_sR M22 r0 14 (am_n M21)) (fun M23 => am_ob M23 r0 5 (am_lt (am_sI M23 r0 15 (am_i 1)) (fun M24 => am_lt (am_nw M24 (1, 2) 16) (fun M25 => am_bV (am_cl 84 d [.ref (am_n M24)] M25) (fun M26 => am_lt (am_nw M26 (1, 1) 6) (fun M27 => am_bV (am_cl 71 d [.ref (am_n M26), .ref (am_n M24)] M27) (fun M28 => am_ob M28 r0 5 (am_lt (am_sR M28 r0 3 (am_n M26)) (fun M29 => am_lt (am_nw M29 (1, 1) 6) (fun M30 => am_bV (am_cl 71 d [.ref (am_n M29), .ref (am_n M24)] M30) (fun M31 => am_ob M31 r0 5 (am_lt (am_sR M31 r0 4 (am_n M29)) (fun M32 => am_ev 1 (d + 1) 141 [.ref r0, .ref (am_n M24), .int (am_i 0)] [] M32)) none)))) none)))))) none)) none)))) none)))) none)))) none)) none)))) none)) none)))) none)) none)) none)))) none)) none) none) none) none) none)) none)) :=
  show am_ev 1 (d + 1) 0 [.ref r0, .null, .null] [] M = _ from am_tree (cut := am_cut [141]) 73 rfl
set_option maxHeartbeats 2000000 in
set_option maxRecDepth 100000 in
theorem t1_141 (d : Nat) (M : am_M) (r0 : Nat) (v1 : Value) (x2 : Int32) :
  am_ev 1 (d + 1) 141 [.ref r0, v1, .int x2] [] M =
 am_br .ge x2 (am_i 20)
 (some (none, M))
 (am_ob M r0 5 (am_gr (am_R M r0 5) (fun h1 => am_lt (am_nw M (1, 0) 7) (fun M2 => am_bV (am_cl 64 d [.ref (am_n M)] M2) (fun M3 => am_iw M3 h1 5 x2 (am_if (am_K M3 (am_n M) = (1, 0) ∧ 2 ≤ (am_n M)) (am_lt (am_sR M3 h1 x2.toNatClampNeg (am_n M)) (fun M4 => am_ev 1 (d + 1) 141 [.ref r0, (am_kl v1), .int (x2 + am_i 1)] [] M4)) none) none))) none) none) :=
  am_tree (cut := am_cut [141]) 13 rfl
-- 2: X5_feed
set_option maxHeartbeats 2000000 in
set_option maxRecDepth 100000 in
theorem t2 (d : Nat) (M : am_M) (r0 : Nat) (x1 x2 x3 x4 x5 : Int32) :
  am_cl 2 (d + 1) [.ref r0, .int x1, .int x2, .int x3, .int x4, .int x5] M =
 am_ob M r0 5 (am_br .le ((am_I M r0 2) + (am_i 20)) (am_i 1600)
 (am_ob M r0 5 (am_bV (am_cl 38 d [.ref r0, .int x1] M) (fun M1 => am_ob M1 r0 5 (am_bV (am_cl 38 d [.ref r0, .int x2] M1) (fun M2 => am_ob M2 r0 5 (am_bV (am_cl 38 d [.ref r0, .int x3] M2) (fun M3 => am_ob M3 r0 5 (am_bV (am_cl 38 d [.ref r0, .int x4] M3) (fun M4 => am_ob M4 r0 5 (am_bV (am_cl 38 d [.ref r0, .int x5] M4) (fun M5 => am_ob M5 r0 5 (some (some (.int (am_I M5 r0 2)), M5)) none)) none)) none)) none)) none)) none)
 (am_ob M r0 5 (am_bI (am_cl 37 d [.ref r0, .int (am_i 0)] M) (fun c7 M6 => some (some (.int c7), M6))) none)) none :=
  show am_ev 2 (d + 1) 0 [.ref r0, .int x1, .int x2, .int x3, .int x4, .int x5] [] M = _ from am_tree (cut := am_cut []) 25 rfl
-- 3: X5_end
set_option maxHeartbeats 2000000 in
set_option maxRecDepth 100000 in
theorem t3 (d : Nat) (M : am_M) (r0 : Nat) (x1 : Int32) :
  am_cl 3 (d + 1) [.ref r0, .int x1] M =
 am_br .lt x1 (am_i 0)
 (am_ob M r0 5 (am_bI (am_cl 37 d [.ref r0, .int (am_i 0)] M) (fun c2 M1 => am_tr (am_i 0) (some (some (.int (am_i 0)), M1)) none)) none)
 (am_ob M r0 5 (am_br .le x1 (am_I M r0 2)
 (am_ob M r0 5 (am_lt (am_sI M r0 2 x1) (fun M3 => am_tr (am_i 1) (some (some (.int (am_i 1)), M3)) none)) none)
 (am_ob M r0 5 (am_bI (am_cl 37 d [.ref r0, .int (am_i 0)] M) (fun c5 M4 => am_tr (am_i 0) (some (some (.int (am_i 0)), M4)) none)) none)) none) :=
  show am_ev 3 (d + 1) 0 [.ref r0, .int x1] [] M = _ from am_tree (cut := am_cut []) 13 rfl
-- 4: X5_house
set_option maxHeartbeats 2000000 in
set_option maxRecDepth 100000 in
theorem t4 (d : Nat) (M : am_M) (r0 : Nat) :
  am_cl 4 (d + 1) [.ref r0] M =
 am_ob M r0 5 (am_gr (am_R M r0 0) (fun h1 => am_ob M r0 5 (am_bI (am_cl 39 d [.ref r0] M) (fun c3 M2 => am_ob M2 h1 4 (am_bI (am_cl 96 d [.ref h1, .int c3] M2) (fun c5 M4 => am_br .ne c5 (am_i (-1))
 (am_ob M4 r0 5 (am_gr (am_R M4 r0 3) (fun h6 => am_ob M4 h6 1 (am_gr (am_R M4 h6 0) (fun h7 => am_ob M4 r0 5 (am_gr (am_R M4 r0 3) (fun h8 => am_ob M4 r0 5 (am_gr (am_R M4 r0 0) (fun h9 => am_ob M4 h9 4 (am_gr (am_R M4 h9 2) (fun h10 => am_ob M4 h8 1 (am_lt (am_sR M4 h8 0 h10) (fun M11 => am_ob M11 r0 5 (am_gr (am_R M11 r0 0) (fun h12 => am_ob M11 h12 4 (am_lt (am_sR M11 h12 2 h7) (fun M13 => am_ob M13 r0 5 (am_gr (am_R M13 r0 3) (fun h14 => am_ob M13 h14 1 (am_gr (am_R M13 h14 1) (fun h15 => am_ob M13 h15 0 (am_bV (am_cl 65 d [.ref h15] M13) (fun M16 => am_ob M16 r0 5 (am_gr (am_R M16 r0 3) (fun h17 => am_ob M16 h17 1 (am_gr (am_R M16 h17 1) (fun h18 => am_ob M16 r0 5 (am_gr (am_R M16 r0 3) (fun h19 => am_ob M16 h19 1 (am_gr (am_R M16 h19 0) (fun h20 => am_ob M16 h20 2 (am_ob M16 h18 0 (am_lt (am_sI M16 h18 1 (am_I M16 h20 7)) (fun M21 => am_ob M21 r0 5 (am_lt (am_sI M21 r0 9 (am_i 0)) (fun M22 => am_ob M22 r0 5 (am_bV (am_cl 44 d [.ref r0] M22) (fun M23 => some (some (.int c5), M23))) none)) none)) none) none) none) none) none) none) none) none) none) none)) none) none) none) none) none)) none) none) none)) none) none) none) none) none) none) none) none) none) none) none)
 (am_ob M4 r0 5 (am_bI (am_cl 37 d [.ref r0, .int (am_i 1)] M4) (fun c25 M24 => some (some (.int c25), M24))) none))) none)) none) none) none :=
  show am_ev 4 (d + 1) 0 [.ref r0, .null, .null] [] M = _ from am_tree (cut := am_cut []) 43 rfl
-- 5: X5_fault
set_option maxHeartbeats 2000000 in
set_option maxRecDepth 100000 in
theorem t5 (d : Nat) (M : am_M) (r0 : Nat) (x1 : Int32) :
  am_cl 5 d [.ref r0, .int x1] M =
 am_br .ne x1 (am_i 0)
 (am_br .ne x1 (am_i 1)
 (some (some (.int (am_i (-1))), M))
 (am_ob M r0 5 (am_gr (am_R M r0 0) (fun h1 => am_ob M h1 4 (some (some (.int (am_I M h1 1)), M)) none) none) none))
 (am_ob M r0 5 (am_gr (am_R M r0 0) (fun h2 => am_ob M h2 4 (some (some (.int (am_I M h2 0)), M)) none) none) none) :=
  show am_ev 5 d 0 [.ref r0, .int x1] [] M = _ from am_tree (cut := am_cut []) 11 rfl
-- 6: X5_has
set_option maxHeartbeats 2000000 in
set_option maxRecDepth 100000 in
theorem t6 (d : Nat) (M : am_M) (r0 : Nat) (x1 : Int32) :
  am_cl 6 (d + 1) [.ref r0, .int x1] M =
 am_si 0 x1 (am_ob M r0 5 (am_gr (am_R M r0 3) (fun h1 => am_ob M h1 1 (am_gr (am_R M h1 0) (fun h2 => am_ob M h2 2 (am_gr (am_R M h2 0) (fun h3 => am_ix M h3 2 (am_i 0) (some (some (.int (am_I M h3 (am_i 0).toNatClampNeg)), M)) none) none) none) none) none) none) none)
 (am_si 1 x1 (am_ob M r0 5 (am_gr (am_R M r0 3) (fun h4 => am_ob M h4 1 (am_gr (am_R M h4 0) (fun h5 => am_ob M h5 2 (am_gr (am_R M h5 0) (fun h6 => am_ix M h6 2 (am_i 1) (some (some (.int (am_I M h6 (am_i 1).toNatClampNeg)), M)) none) none) none) none) none) none) none)
 (am_si 2 x1 (am_ob M r0 5 (am_gr (am_R M r0 3) (fun h7 => am_ob M h7 1 (am_gr (am_R M h7 0) (fun h8 => am_ob M h8 2 (am_gr (am_R M h8 0) (fun h9 => am_ix M h9 2 (am_i 2) (some (some (.int (am_I M h9 (am_i 2).toNatClampNeg)), M)) none) none) none) none) none) none) none)
 (am_si 3 x1 (am_ob M r0 5 (am_gr (am_R M r0 3) (fun h10 => am_ob M h10 1 (am_gr (am_R M h10 0) (fun h11 => am_ob M h11 2 (some (some (.int (am_I M h11 8)), M)) none) none) none) none) none)
 (am_si 4 x1 (am_ob M r0 5 (am_gr (am_R M r0 3) (fun h12 => am_ob M h12 1 (am_gr (am_R M h12 1) (fun h13 => am_ob M h13 0 (am_if ((am_i 24) = 0) none (some (some (.int ((am_I M h13 0) / (am_i 24))), M))) none) none) none) none) none)
 (am_si 5 x1 (am_ob M r0 5 (am_gr (am_R M r0 3) (fun h14 => am_ob M h14 1 (am_gr (am_R M h14 1) (fun h15 => am_ob M h15 0 (am_if ((am_i 24) = 0) none (some (some (.int ((am_I M h15 0) - (am_I M h15 0) / (am_i 24) * (am_i 24))), M))) none) none) none) none) none)
 (am_si 6 x1 (am_ob M r0 5 (am_gr (am_R M r0 3) (fun h16 => am_ob M h16 1 (am_gr (am_R M h16 1) (fun h17 => am_ob M h17 0 (am_bI (am_cl 272 d [.int (am_I M h17 1)] M) (fun c19 M18 => some (some (.int c19), M18))) none) none) none) none) none)
 (am_si 7 x1 (am_ob M r0 5 (am_bI (am_cl 42 d [.ref r0] M) (fun c21 M20 => some (some (.int c21), M20))) none)
 (am_si 8 x1 (am_ob M r0 5 (am_gr (am_R M r0 3) (fun h22 => am_ob M h22 1 (am_gr (am_R M h22 1) (fun h23 => am_ob M h23 0 (am_bI (am_cl 68 d [.ref h23] M) (fun c25 M24 => some (some (.int c25), M24))) none) none) none) none) none)
 (am_si 9 x1 (am_ob M r0 5 (some (some (.int (am_I M r0 9)), M)) none)
 (am_si 10 x1 (am_ob M r0 5 (some (some (.int (am_I M r0 7)), M)) none)
 (some (some (.int (am_i (-1))), M)))))))))))) :=
  show am_ev 6 (d + 1) 0 [.ref r0, .int x1] [] M = _ from am_tree (cut := am_cut []) 10 rfl
-- 7: X5_letter
set_option maxHeartbeats 2000000 in
set_option maxRecDepth 100000 in
theorem t7 (d : Nat) (M : am_M) (r0 : Nat) (x1 x2 x3 : Int32) :
  am_cl 7 (d + 1) [.ref r0, .int x1, .int x2, .int x3] M =
 am_br .lt x1 (am_i 0)
 (some (some (.int (am_i (-1))), M))
 (am_br .gt x1 (am_i 2)
 (some (some (.int (am_i (-1))), M))
 (am_ob M r0 5 (am_bI (am_cl 40 d [.ref r0, .int x1, .int x2] M) (fun c2 M1 => am_br .eq c2 (am_i 0)
 (some (some (.int (am_i (-1))), M1))
 (am_br .lt x3 (am_i 0)
 (some (some (.int (am_i (-1))), M1))
 (am_br .le x3 (am_i 5)
 (am_ob M1 r0 5 (am_gr (am_R M1 r0 3) (fun h3 => am_ob M1 h3 1 (am_gr (am_R M1 h3 0) (fun h4 => am_ob M1 h4 2 (am_gr (am_R M1 h4 1) (fun h5 => am_iq M1 h5 x1 (am_gr (am_R M1 h5 x1.toNatClampNeg) (fun h6 => am_ix M1 h6 2 x2 (some (some (.int (((am_I M1 h6 x2.toNatClampNeg) >>> (((am_i 5) * x3) &&& 31)) &&& (am_i 31))), M1)) none) none) none) none) none) none) none) none) none)
 (some (some (.int (am_i (-1))), M1)))))) none)) :=
  show am_ev 7 (d + 1) 0 [.ref r0, .int x1, .int x2, .int x3] [] M = _ from am_tree (cut := am_cut []) 31 rfl
-- 8: X5_film
set_option maxHeartbeats 2000000 in
set_option maxRecDepth 100000 in
theorem t8 (d : Nat) (M : am_M) (r0 : Nat) (x1 x2 : Int32) :
  am_cl 8 (d + 1) [.ref r0, .int x1, .int x2] M =
 am_ob M r0 5 (am_bI (am_cl 40 d [.ref r0, .int (am_i 1), .int x1] M) (fun c2 M1 => am_br .ne c2 (am_i 0)
 (am_br .ne x2 (am_i 0)
 (am_br .lt x2 (am_i 10)
 (some (some (.int (am_i (-1))), M1))
 (am_ob M1 r0 5 (am_bI (am_cl 40 d [.ref r0, .int (am_i 0), .int (x2 - (am_i 10))] M1) (fun c4 M3 => am_br .eq c4 (am_i 0)
 (some (some (.int (am_i (-1))), M3))
 (am_ob M3 r0 5 (am_gr (am_R M3 r0 3) (fun h5 => am_ob M3 h5 1 (am_gr (am_R M3 h5 0) (fun h6 => am_ob M3 h6 2 (am_gr (am_R M3 h6 3) (fun h7 => am_iq M3 h7 x1 (am_gr (am_R M3 h7 x1.toNatClampNeg) (fun h8 => am_ix M3 h8 2 (x2 - (am_i 10)) (some (some (.int (am_I M3 h8 (x2 - (am_i 10)).toNatClampNeg)), M3)) none) none) none) none) none) none) none) none) none))) none))
 (am_ob M1 r0 5 (am_gr (am_R M1 r0 3) (fun h9 => am_ob M1 h9 1 (am_gr (am_R M1 h9 0) (fun h10 => am_ob M1 h10 2 (am_gr (am_R M1 h10 2) (fun h11 => am_ix M1 h11 2 x1 (some (some (.int (am_I M1 h11 x1.toNatClampNeg)), M1)) none) none) none) none) none) none) none))
 (some (some (.int (am_i (-1))), M1)))) none :=
  show am_ev 8 (d + 1) 0 [.ref r0, .int x1, .int x2] [] M = _ from am_tree (cut := am_cut []) 30 rfl
-- 9: X5_person
set_option maxHeartbeats 2000000 in
set_option maxRecDepth 100000 in
theorem t9 (d : Nat) (M : am_M) (r0 : Nat) (x1 x2 : Int32) :
  am_cl 9 (d + 1) [.ref r0, .int x1, .int x2] M =
 am_ob M r0 5 (am_bI (am_cl 40 d [.ref r0, .int (am_i 2), .int x1] M) (fun c2 M1 => am_br .ne c2 (am_i 0)
 (am_si 0 x2 (am_ob M1 r0 5 (am_gr (am_R M1 r0 3) (fun h3 => am_ob M1 h3 1 (am_gr (am_R M1 h3 0) (fun h4 => am_ob M1 h4 2 (am_gr (am_R M1 h4 4) (fun h5 => am_ix M1 h5 2 x1 (some (some (.int (am_I M1 h5 x1.toNatClampNeg)), M1)) none) none) none) none) none) none) none)
 (am_si 1 x2 (am_ob M1 r0 5 (am_gr (am_R M1 r0 3) (fun h6 => am_ob M1 h6 1 (am_gr (am_R M1 h6 0) (fun h7 => am_ob M1 h7 2 (am_gr (am_R M1 h7 5) (fun h8 => am_ix M1 h8 2 x1 (some (some (.int (am_I M1 h8 x1.toNatClampNeg)), M1)) none) none) none) none) none) none) none)
 (am_si 2 x2 (am_ob M1 r0 5 (am_gr (am_R M1 r0 3) (fun h9 => am_ob M1 h9 1 (am_gr (am_R M1 h9 1) (fun h10 => am_ob M1 h10 0 (some (some (.int (((am_I M1 h10 1) >>> (x1 &&& 31)) &&& (am_i 1))), M1)) none) none) none) none) none)
 (am_si 3 x2 (am_ob M1 r0 5 (am_gr (am_R M1 r0 3) (fun h11 => am_ob M1 h11 1 (am_gr (am_R M1 h11 1) (fun h12 => am_ob M1 h12 0 (am_gr (am_R M1 h12 4) (fun h13 => am_ix M1 h13 2 x1 (some (some (.int (am_I M1 h13 x1.toNatClampNeg)), M1)) none) none) none) none) none) none) none)
 (am_br .lt x2 (am_i 10)
 (some (some (.int (am_i (-1))), M1))
 (am_ob M1 r0 5 (am_bI (am_cl 40 d [.ref r0, .int (am_i 0), .int (x2 - (am_i 10))] M1) (fun c15 M14 => am_br .eq c15 (am_i 0)
 (some (some (.int (am_i (-1))), M14))
 (am_ob M14 r0 5 (am_gr (am_R M14 r0 3) (fun h16 => am_ob M14 h16 1 (am_gr (am_R M14 h16 0) (fun h17 => am_ob M14 h17 2 (am_gr (am_R M14 h17 6) (fun h18 => am_iq M14 h18 x1 (am_gr (am_R M14 h18 x1.toNatClampNeg) (fun h19 => am_ix M14 h19 2 (x2 - (am_i 10)) (some (some (.int (am_I M14 h19 (x2 - (am_i 10)).toNatClampNeg)), M14)) none) none) none) none) none) none) none) none) none))) none))))))
 (some (some (.int (am_i (-1))), M1)))) none :=
  show am_ev 9 (d + 1) 0 [.ref r0, .int x1, .int x2] [] M = _ from am_tree (cut := am_cut []) 30 rfl
-- 10: X5_taste
set_option maxHeartbeats 2000000 in
set_option maxRecDepth 100000 in
theorem t10 (d : Nat) (M : am_M) (r0 : Nat) (x1 x2 : Int32) :
  am_cl 10 (d + 1) [.ref r0, .int x1, .int x2] M =
 am_br .eq x1 (am_i (-1))
 (am_ev 10 (d + 1) 14 [.ref r0, .int x1, .int x2] [] M)
 (am_ob M r0 5 (am_bI (am_cl 40 d [.ref r0, .int (am_i 2), .int x1] M) (fun c2 M1 => am_br .eq c2 (am_i 0)
 (some (some (.int (am_i (-1))), M1))
 (am_ev 10 (d + 1) 14 [.ref r0, .int x1, .int x2] [] M1))) none) :=
  show am_ev 10 (d + 1) 0 [.ref r0, .int x1, .int x2] [] M = _ from am_tree (cut := am_cut [14]) 11 rfl
set_option maxHeartbeats 2000000 in
set_option maxRecDepth 100000 in
theorem t10_14 (d : Nat) (M : am_M) (r0 : Nat) (x1 x2 : Int32) :
  am_ev 10 (d + 1) 14 [.ref r0, .int x1, .int x2] [] M =
 am_ob M r0 5 (am_bI (am_cl 40 d [.ref r0, .int (am_i 0), .int x2] M) (fun c2 M1 => am_br .ne c2 (am_i 0)
 (am_ob M1 r0 5 (am_gr (am_R M1 r0 3) (fun h3 => am_ob M1 h3 1 (am_gr (am_R M1 h3 1) (fun h4 => am_ob M1 h4 0 (am_gr (am_R M1 h4 2) (fun h5 => am_ix M1 h5 2 (((x1 + (am_i 1)) * (am_i 6)) + x2) (some (some (.int (am_I M1 h5 (((x1 + (am_i 1)) * (am_i 6)) + x2).toNatClampNeg)), M1)) none) none) none) none) none) none) none)
 (some (some (.int (am_i (-1))), M1)))) none :=
  am_tree (cut := am_cut [14]) 19 rfl
-- 11: X5_seen
set_option maxHeartbeats 2000000 in
set_option maxRecDepth 100000 in
theorem t11 (d : Nat) (M : am_M) (r0 : Nat) (x1 x2 : Int32) :
  am_cl 11 (d + 1) [.ref r0, .int x1, .int x2] M =
 am_br .eq x1 (am_i (-1))
 (am_ev 11 (d + 1) 14 [.ref r0, .int x1, .int x2] [] M)
 (am_ob M r0 5 (am_bI (am_cl 40 d [.ref r0, .int (am_i 2), .int x1] M) (fun c2 M1 => am_br .eq c2 (am_i 0)
 (some (some (.int (am_i (-1))), M1))
 (am_ev 11 (d + 1) 14 [.ref r0, .int x1, .int x2] [] M1))) none) :=
  show am_ev 11 (d + 1) 0 [.ref r0, .int x1, .int x2] [] M = _ from am_tree (cut := am_cut [14]) 11 rfl
set_option maxHeartbeats 2000000 in
set_option maxRecDepth 100000 in
theorem t11_14 (d : Nat) (M : am_M) (r0 : Nat) (x1 x2 : Int32) :
  am_ev 11 (d + 1) 14 [.ref r0, .int x1, .int x2] [] M =
 am_ob M r0 5 (am_bI (am_cl 40 d [.ref r0, .int (am_i 1), .int x2] M) (fun c2 M1 => am_br .ne c2 (am_i 0)
 (am_ob M1 r0 5 (am_gr (am_R M1 r0 3) (fun h3 => am_ob M1 h3 1 (am_gr (am_R M1 h3 1) (fun h4 => am_ob M1 h4 0 (am_gr (am_R M1 h4 3) (fun h5 => am_ix M1 h5 2 (((x1 + (am_i 1)) * (am_i 8)) + x2) (some (some (.int (am_I M1 h5 (((x1 + (am_i 1)) * (am_i 8)) + x2).toNatClampNeg)), M1)) none) none) none) none) none) none) none)
 (some (some (.int (am_i (-1))), M1)))) none :=
  am_tree (cut := am_cut [14]) 19 rfl
-- 12: X5_suggest
set_option maxHeartbeats 2000000 in
set_option maxRecDepth 100000 in
theorem t12 (d : Nat) (M : am_M) (r0 : Nat) (x1 : Int32) :
  am_cl 12 (d + 1) [.ref r0, .int x1] M =
 am_ob M r0 5 (am_bI (am_cl 40 d [.ref r0, .int (am_i 2), .int x1] M) (fun c2 M1 => am_br .eq c2 (am_i 0)
 (some (some (.int (am_i (-1))), M1))
 (am_ob M1 r0 5 (am_gr (am_R M1 r0 3) (fun h3 => am_ob M1 h3 1 (am_bI (am_cl 74 d [.ref h3, .int x1] M1) (fun c5 M4 => some (some (.int c5), M4))) none) none) none))) none :=
  show am_ev 12 (d + 1) 0 [.ref r0, .int x1] [] M = _ from am_tree (cut := am_cut []) 12 rfl
-- 13: X5_worth
set_option maxHeartbeats 2000000 in
set_option maxRecDepth 100000 in
theorem t13 (d : Nat) (M : am_M) (r0 : Nat) (x1 x2 : Int32) :
  am_cl 13 (d + 1) [.ref r0, .int x1, .int x2] M =
 am_ob M r0 5 (am_bI (am_cl 40 d [.ref r0, .int (am_i 2), .int x1] M) (fun c2 M1 => am_br .eq c2 (am_i 0)
 (some (some (.int (am_i (-1))), M1))
 (am_ob M1 r0 5 (am_bI (am_cl 40 d [.ref r0, .int (am_i 1), .int x2] M1) (fun c4 M3 => am_br .eq c4 (am_i 0)
 (some (some (.int (am_i (-1))), M3))
 (am_ob M3 r0 5 (am_gr (am_R M3 r0 3) (fun h5 => am_ob M3 h5 1 (am_gr (am_R M3 h5 0) (fun h6 => am_ob M3 h6 2 (am_bI (am_cl 88 d [.ref h6, .int x1, .int x2] M3) (fun c8 M7 => some (some (.int c8), M7))) none) none) none) none) none))) none))) none :=
  show am_ev 13 (d + 1) 0 [.ref r0, .int x1, .int x2] [] M = _ from am_tree (cut := am_cut []) 19 rfl
-- 14: X5_kept
set_option maxHeartbeats 2000000 in
set_option maxRecDepth 100000 in
theorem t14 (d : Nat) (M : am_M) (r0 : Nat) (x1 x2 : Int32) :
  am_cl 14 (d + 1) [.ref r0, .int x1, .int x2] M =
 am_br .lt x1 (am_i 0)
 (some (some (.int (am_i (-1))), M))
 (am_ob M r0 5 (am_gr (am_R M r0 3) (fun h1 => am_ob M h1 1 (am_gr (am_R M h1 1) (fun h2 => am_ob M h2 0 (am_bI (am_cl 68 d [.ref h2] M) (fun c4 M3 => am_br .lt x1 c4
 (am_ob M3 r0 5 (am_gr (am_R M3 r0 3) (fun h5 => am_ob M3 h5 1 (am_gr (am_R M3 h5 1) (fun h6 => am_ob M3 h6 0 (am_bI (am_cl 69 d [.ref h6, .int x1] M3) (fun c8 M7 => am_if ((am_i 128) = 0) none (am_si 0 x2 (am_if ((am_i 24) = 0) none (some (some (.int ((c8 / (am_i 128)) / (am_i 24))), M7)))
 (am_si 1 x2 (am_if ((am_i 24) = 0) none (some (some (.int ((c8 / (am_i 128)) - (c8 / (am_i 128)) / (am_i 24) * (am_i 24))), M7)))
 (am_si 2 x2 (am_if ((am_i 8) = 0) none (am_if ((am_i 16) = 0) none (some (some (.int ((c8 / (am_i 8)) - (c8 / (am_i 8)) / (am_i 16) * (am_i 16))), M7))))
 (am_si 3 x2 (am_if ((am_i 8) = 0) none (some (some (.int (c8 - c8 / (am_i 8) * (am_i 8))), M7)))
 (some (some (.int (am_i (-1))), M7)))))))) none) none) none) none) none)
 (some (some (.int (am_i (-1))), M3)))) none) none) none) none) none) :=
  show am_ev 14 (d + 1) 0 [.ref r0, .int x1, .int x2, .null, .null] [] M = _ from am_tree (cut := am_cut []) 27 rfl
-- 15: X5_pleased
set_option maxHeartbeats 2000000 in
set_option maxRecDepth 100000 in
theorem t15 (d : Nat) (M : am_M) (r0 : Nat) (x1 x2 : Int32) :
  am_cl 15 (d + 1) [.ref r0, .int x1, .int x2] M =
 am_ob M r0 5 (am_bI (am_cl 40 d [.ref r0, .int (am_i 2), .int x1] M) (fun c2 M1 => am_br .eq c2 (am_i 0)
 (some (some (.long (am_l (-1000000000000000))), M1))
 (am_ob M1 r0 5 (am_bI (am_cl 41 d [.ref r0, .int x2, .int (am_i 0), .int (am_i 72)] M1) (fun c4 M3 => am_br .ne c4 (am_i 0)
 (am_ob M3 r0 5 (am_gr (am_R M3 r0 3) (fun h5 => am_ob M3 h5 1 (am_gr (am_R M3 h5 1) (fun h6 => am_ob M3 h6 0 (am_ob M3 r0 5 (am_bV (am_cl 45 d [.ref r0, .int (am_I M3 h6 1), .int x2] M3) (fun M7 => am_ob M7 r0 5 (am_gr (am_R M7 r0 4) (fun h8 => am_ob M7 h8 1 (am_gr (am_R M7 h8 2) (fun h9 => am_ix M7 h9 2 x1 (some (some (.long (am_I M7 h9 x1.toNatClampNeg).toInt64), M7)) none) none) none) none) none)) none) none) none) none) none) none)
 (some (some (.long (am_l (-1000000000000000))), M3)))) none))) none :=
  show am_ev 15 (d + 1) 0 [.ref r0, .int x1, .int x2] [] M = _ from am_tree (cut := am_cut []) 26 rfl
-- 16: X5_refused
set_option maxHeartbeats 2000000 in
set_option maxRecDepth 100000 in
theorem t16 (d : Nat) (M : am_M) (r0 : Nat) (x1 x2 : Int32) :
  am_cl 16 (d + 1) [.ref r0, .int x1, .int x2] M =
 am_ob M r0 5 (am_bI (am_cl 40 d [.ref r0, .int (am_i 2), .int x1] M) (fun c2 M1 => am_br .eq c2 (am_i 0)
 (some (some (.int (am_i (-1))), M1))
 (am_ob M1 r0 5 (am_bI (am_cl 41 d [.ref r0, .int x2, .int (am_i 0), .int (am_i 72)] M1) (fun c4 M3 => am_br .ne c4 (am_i 0)
 (am_ob M3 r0 5 (am_gr (am_R M3 r0 3) (fun h5 => am_ob M3 h5 1 (am_gr (am_R M3 h5 1) (fun h6 => am_ob M3 h6 0 (am_ob M3 r0 5 (am_bV (am_cl 45 d [.ref r0, .int (am_I M3 h6 1), .int x2] M3) (fun M7 => am_ob M7 r0 5 (am_gr (am_R M7 r0 4) (fun h8 => am_ob M7 h8 1 (am_gr (am_R M7 h8 3) (fun h9 => am_ix M7 h9 2 x1 (some (some (.int (am_I M7 h9 x1.toNatClampNeg)), M7)) none) none) none) none) none)) none) none) none) none) none) none)
 (some (some (.int (am_i (-1))), M3)))) none))) none :=
  show am_ev 16 (d + 1) 0 [.ref r0, .int x1, .int x2] [] M = _ from am_tree (cut := am_cut []) 25 rfl
-- 17: X5_pressing
set_option maxHeartbeats 2000000 in
set_option maxRecDepth 100000 in
theorem t17 (d : Nat) (M : am_M) (r0 : Nat) (x1 x2 : Int32) :
  am_cl 17 (d + 1) [.ref r0, .int x1, .int x2] M =
 am_ob M r0 5 (am_bI (am_cl 40 d [.ref r0, .int (am_i 2), .int x1] M) (fun c2 M1 => am_br .eq c2 (am_i 0)
 (some (some (.long (am_l (-1000000000000000))), M1))
 (am_ob M1 r0 5 (am_bI (am_cl 41 d [.ref r0, .int x2, .int (am_i 0), .int (am_i 72)] M1) (fun c4 M3 => am_br .ne c4 (am_i 0)
 (am_ob M3 r0 5 (am_gr (am_R M3 r0 3) (fun h5 => am_ob M3 h5 1 (am_gr (am_R M3 h5 1) (fun h6 => am_ob M3 h6 0 (am_ob M3 r0 5 (am_bV (am_cl 45 d [.ref r0, .int ((am_I M3 h6 1) ||| ((am_i 1) <<< (x1 &&& 31))), .int x2] M3) (fun M7 => am_ob M7 r0 5 (am_gr (am_R M7 r0 4) (fun h8 => am_ob M7 h8 1 (am_gr (am_R M7 h8 2) (fun h9 => am_ix M7 h9 2 x1 (am_ob M7 r0 5 (am_gr (am_R M7 r0 3) (fun h10 => am_ob M7 h10 1 (am_gr (am_R M7 h10 1) (fun h11 => am_ob M7 h11 0 (am_ob M7 r0 5 (am_bV (am_cl 45 d [.ref r0, .int ((am_I M7 h11 1) &&& (((am_i 1) <<< (x1 &&& 31)) ^^^ (am_i (-1)))), .int x2] M7) (fun M12 => am_ob M12 r0 5 (am_gr (am_R M12 r0 4) (fun h13 => am_ob M12 h13 1 (am_gr (am_R M12 h13 2) (fun h14 => am_ix M12 h14 2 x1 (some (some (.long ((am_I M7 h9 x1.toNatClampNeg).toInt64 - (am_I M12 h14 x1.toNatClampNeg).toInt64)), M12)) none) none) none) none) none)) none) none) none) none) none) none) none) none) none) none) none)) none) none) none) none) none) none)
 (some (some (.long (am_l (-1000000000000000))), M3)))) none))) none :=
  show am_ev 17 (d + 1) 0 [.ref r0, .int x1, .int x2, .null, .null, .null] [] M = _ from am_tree (cut := am_cut []) 52 rfl
-- 18: X5_rest
set_option maxHeartbeats 2000000 in
set_option maxRecDepth 100000 in
theorem t18 (d : Nat) (M : am_M) (r0 : Nat) (x1 : Int32) :
  am_cl 18 (d + 1) [.ref r0, .int x1] M =
 am_ob M r0 5 (am_bI (am_cl 41 d [.ref r0, .int x1, .int (am_i 0), .int (am_i 48)] M) (fun c2 M1 => am_br .ne c2 (am_i 0)
 (am_ob M1 r0 5 (am_gr (am_R M1 r0 3) (fun h3 => am_ob M1 h3 1 (am_gr (am_R M1 h3 0) (fun h4 => am_ob M1 h4 2 (am_gr (am_R M1 h4 0) (fun h5 => am_ix M1 h5 2 (am_i 2) (am_lt ((am_i 1) <<< ((am_I M1 h5 (am_i 2).toNatClampNeg) &&& 31)) (fun u6 => am_ev 18 (d + 1) 33 [.ref r0, .int x1, .int (am_I M1 h5 (am_i 2).toNatClampNeg), .int u6, .int (am_i 0), .null, .null] [] M1)) none) none) none) none) none) none) none)
 (some (some (.int (am_i (-1))), M1)))) none :=
  show am_ev 18 (d + 1) 0 [.ref r0, .int x1, .null, .null, .null, .null, .null] [] M = _ from am_tree (cut := am_cut [33, 78, 108]) 20 rfl
set_option maxHeartbeats 2000000 in
set_option maxRecDepth 100000 in
theorem t18_33 (d : Nat) (M : am_M) (r0 : Nat) (x1 x2 x3 x4 : Int32) (v5 v6 : Value) :
  am_ev 18 (d + 1) 33 [.ref r0, .int x1, .int x2, .int x3, .int x4, v5, v6] [] M =
 am_br .ge x4 x3
 (am_ev 18 (d + 1) 78 [.ref r0, .int x1, .int x2, .int x3, .int (am_i (-1)), .int (am_i 0), v6] [] M)
 (am_ob M r0 5 (am_bV (am_cl 45 d [.ref r0, .int x4, .int x1] M) (fun M1 => am_ob M1 r0 5 (am_gr (am_R M1 r0 4) (fun h2 => am_ob M1 h2 1 (am_gr (am_R M1 h2 2) (fun h3 => am_ob M1 r0 5 (am_gr (am_R M1 r0 12) (fun h4 => am_ac M1 h3 (am_i 0) h4 (x4 * (am_i 5)) (am_i 5) 0 (am_lt (am_cp M1 h3 (am_i 0).toNatClampNeg h4 (x4 * (am_i 5)).toNatClampNeg (am_i 5).toNatClampNeg) (fun M5 => am_ev 18 (d + 1) 33 [.ref r0, .int x1, .int x2, .int x3, .int (x4 + am_i 1), v5, v6] [] M5)) none) none) none) none) none) none) none)) none) :=
  am_tree (cut := am_cut [33, 78, 108]) 21 rfl
set_option maxHeartbeats 2000000 in
set_option maxRecDepth 100000 in
theorem t18_78 (d : Nat) (M : am_M) (r0 : Nat) (v1 v6 : Value) (x2 x3 x4 x5 : Int32) :
  am_ev 18 (d + 1) 78 [.ref r0, v1, .int x2, .int x3, .int x4, .int x5, v6] [] M =
 am_br .ge x5 x3
 (some (some (.int x4), M))
 (am_br .eq x4 (am_i (-1))
 (am_ev 18 (d + 1) 108 [.ref r0, v1, .int x2, .int x3, .int x4, .int x5, v6] [.int (am_i 1)] M)
 (am_bI (am_cl 272 d [.int x5] M) (fun c2 M1 => am_bI (am_cl 272 d [.int x4] M1) (fun c4 M3 => am_br .ge c2 c4
 (am_ev 18 (d + 1) 108 [.ref r0, v1, .int x2, .int x3, .int x4, .int x5, v6] [.int (am_i 0)] M3)
 (am_ev 18 (d + 1) 108 [.ref r0, v1, .int x2, .int x3, .int x4, .int x5, v6] [.int (am_i 1)] M3))))) :=
  am_tree (cut := am_cut [33, 78, 108]) 14 rfl
set_option maxHeartbeats 2000000 in
set_option maxRecDepth 100000 in
theorem t18_108 (d : Nat) (M : am_M) (r0 : Nat) (v1 v6 : Value) (x2 x3 x4 x5 sx0 : Int32) :
  am_ev 18 (d + 1) 108 [.ref r0, v1, .int x2, .int x3, .int x4, .int x5, v6] [.int sx0] M =
 am_br .eq sx0 (am_i 0)
 (am_ev 18 (d + 1) 78 [.ref r0, v1, .int x2, .int x3, .int x4, .int (x5 + am_i 1), .int sx0] [] M)
 (am_ob M r0 5 (am_bI (am_cl 46 d [.ref r0, .int x5, .int x2] M) (fun c2 M1 => am_br .eq c2 (am_i 0)
 (am_ev 18 (d + 1) 78 [.ref r0, v1, .int x2, .int x3, .int x4, .int (x5 + am_i 1), .int sx0] [] M1)
 (am_ev 18 (d + 1) 78 [.ref r0, v1, .int x2, .int x3, .int x5, .int (x5 + am_i 1), .int sx0] [] M1))) none) :=
  am_tree (cut := am_cut [33, 78, 108]) 13 rfl
-- 19: X5_gone
set_option maxHeartbeats 2000000 in
set_option maxRecDepth 100000 in
theorem t19 (d : Nat) (M : am_M) (r0 : Nat) (x1 x2 : Int32) :
  am_cl 19 (d + 1) [.ref r0, .int x1, .int x2] M =
 am_ob M r0 5 (am_bI (am_cl 40 d [.ref r0, .int (am_i 2), .int x1] M) (fun c2 M1 => am_br .eq c2 (am_i 0)
 (some (some (.int (am_i (-1))), M1))
 (am_ob M1 r0 5 (am_bI (am_cl 40 d [.ref r0, .int (am_i 0), .int x2] M1) (fun c4 M3 => am_br .ne c4 (am_i 0)
 (am_ob M3 r0 5 (am_gr (am_R M3 r0 3) (fun h5 => am_ob M3 h5 1 (am_gr (am_R M3 h5 1) (fun h6 => am_ob M3 h6 0 (am_ob M3 r0 5 (am_bV (am_cl 45 d [.ref r0, .int (am_I M3 h6 1), .int (am_i 0)] M3) (fun M7 => am_ob M7 r0 5 (am_gr (am_R M7 r0 4) (fun h8 => am_ob M7 h8 1 (am_gr (am_R M7 h8 1) (fun h9 => am_ob M7 h9 0 (am_bI (am_cl 67 d [.ref h9, .int x1] M7) (fun c11 M10 => am_ob M10 r0 5 (am_gr (am_R M10 r0 3) (fun h12 => am_ob M10 h12 1 (am_gr (am_R M10 h12 1) (fun h13 => am_ob M10 h13 0 (am_bI (am_cl 276 d [.int (am_i 72), .int ((am_i 23999) - (am_I M10 h13 0))] M10) (fun c15 M14 => am_ev 19 (d + 1) 76 [.ref r0, .int x1, .int x2, .int ((c11 * (am_i 6)) + x2), .int c15, .int (am_i 0)] [] M14)) none) none) none) none) none)) none) none) none) none) none)) none) none) none) none) none) none)
 (some (some (.int (am_i (-1))), M3)))) none))) none :=
  show am_ev 19 (d + 1) 0 [.ref r0, .int x1, .int x2, .null, .null, .null] [] M = _ from am_tree (cut := am_cut [76]) 39 rfl
set_option maxHeartbeats 2000000 in
set_option maxRecDepth 100000 in
theorem t19_76 (d : Nat) (M : am_M) (r0 : Nat) (v1 v2 : Value) (x3 x4 x5 : Int32) :
  am_ev 19 (d + 1) 76 [.ref r0, v1, v2, .int x3, .int x4, .int x5] [] M =
 am_br .gt x5 x4
 (some (some (.int (am_i (-1))), M))
 (am_ob M r0 5 (am_gr (am_R M r0 4) (fun h1 => am_ob M h1 1 (am_gr (am_R M h1 1) (fun h2 => am_ob M h2 0 (am_gr (am_R M h2 2) (fun h3 => am_ix M h3 2 x3 (am_br .ne (am_I M h3 x3.toNatClampNeg) (am_i 0)
 (am_br .ge x5 x4
 (am_ev 19 (d + 1) 76 [.ref r0, v1, v2, .int x3, .int x4, .int (x5 + am_i 1)] [] M)
 (am_ob M r0 5 (am_gr (am_R M r0 4) (fun h4 => am_ob M h4 1 (am_bI (am_cl 73 d [.ref h4] M) (fun c6 M5 => am_ev 19 (d + 1) 76 [.ref r0, v1, v2, .int x3, .int x4, .int (x5 + am_i 1)] [] M5)) none) none) none))
 (some (some (.int x5), M))) none) none) none) none) none) none) none) :=
  am_tree (cut := am_cut [76]) 20 rfl
-- 20: X5_sow
set_option maxHeartbeats 2000000 in
set_option maxRecDepth 100000 in
theorem t20 (d : Nat) (M : am_M) (r0 : Nat) (x1 x2 : Int32) :
  am_cl 20 (d + 1) [.ref r0, .int x1, .int x2] M =
 am_ob M r0 5 (am_bI (am_cl 40 d [.ref r0, .int (am_i 2), .int x1] M) (fun c2 M1 => am_br .eq c2 (am_i 0)
 (some (some (.int (am_i (-1))), M1))
 (am_ob M1 r0 5 (am_bI (am_cl 41 d [.ref r0, .int x2, .int (am_i 0), .int (am_i 72)] M1) (fun c4 M3 => am_br .ne c4 (am_i 0)
 (am_ev 20 (d + 1) 30 [.ref r0, .int x1, .int x2, .int (am_i (-1)), .int (am_i 0), .int (am_i 0), .null] [] M3)
 (some (some (.int (am_i (-1))), M3)))) none))) none :=
  show am_ev 20 (d + 1) 0 [.ref r0, .int x1, .int x2, .null, .null, .null, .null] [] M = _ from am_tree (cut := am_cut [30, 102, 141]) 18 rfl
set_option maxHeartbeats 2000000 in
set_option maxRecDepth 100000 in
theorem t20_30 (d : Nat) (M : am_M) (r0 : Nat) (x1 x2 x3 x4 x5 : Int32) (v6 : Value) :
  am_ev 20 (d + 1) 30 [.ref r0, .int x1, .int x2, .int x3, .int x4, .int x5, v6] [] M =
 am_ob M r0 5 (am_gr (am_R M r0 3) (fun h1 => am_ob M h1 1 (am_gr (am_R M h1 0) (fun h2 => am_ob M h2 2 (am_gr (am_R M h2 0) (fun h3 => am_ix M h3 2 (am_i 1) (am_br .ge x5 (am_I M h3 (am_i 1).toNatClampNeg)
 (some (some (.int x3), M))
 (am_ob M r0 5 (am_gr (am_R M r0 3) (fun h4 => am_ob M h4 1 (am_bI (am_cl 75 d [.ref h4, .int x1, .int x5] M) (fun c6 M5 => am_br .ne c6 (am_i 0)
 (am_ob M5 r0 5 (am_gr (am_R M5 r0 3) (fun h7 => am_ob M5 h7 1 (am_gr (am_R M5 h7 1) (fun h8 => am_ob M5 h8 0 (am_ob M5 r0 5 (am_bV (am_cl 45 d [.ref r0, .int (am_I M5 h8 1), .int (am_i 0)] M5) (fun M9 => am_ob M9 r0 5 (am_gr (am_R M9 r0 4) (fun h10 => am_ob M9 h10 1 (am_bI (am_cl 76 d [.ref h10, .int x1, .int x5] M9) (fun c12 M11 => am_ob M11 r0 5 (am_gr (am_R M11 r0 4) (fun h13 => am_ob M11 h13 1 (am_gr (am_R M11 h13 2) (fun h14 => am_iw M11 h14 2 x1 (am_lt (am_sI M11 h14 x1.toNatClampNeg (am_i 0)) (fun M15 => am_ev 20 (d + 1) 102 [.ref r0, .int x1, .int x2, .int x3, .int x4, .int x5, .int (am_i 0)] [] M15)) none) none) none) none) none)) none) none) none)) none) none) none) none) none) none)
 (am_ev 20 (d + 1) 30 [.ref r0, .int x1, .int x2, .int x3, .int x4, .int (x5 + am_i 1), v6] [] M5))) none) none) none)) none) none) none) none) none) none) none :=
  am_tree (cut := am_cut [30, 102, 141]) 36 rfl
set_option maxHeartbeats 2000000 in
set_option maxRecDepth 100000 in
theorem t20_102 (d : Nat) (M : am_M) (r0 : Nat) (x1 x2 x3 x4 x5 x6 : Int32) :
  am_ev 20 (d + 1) 102 [.ref r0, .int x1, .int x2, .int x3, .int x4, .int x5, .int x6] [] M =
 am_br .ge x6 x2
 (am_br .eq x3 (am_i (-1))
 (am_ev 20 (d + 1) 141 [.ref r0, .int x1, .int x2, .int x3, .int x4, .int x5, .int x6] [] M)
 (am_ob M r0 5 (am_gr (am_R M r0 4) (fun h1 => am_ob M h1 1 (am_gr (am_R M h1 2) (fun h2 => am_ix M h2 2 x1 (am_br .le (am_I M h2 x1.toNatClampNeg) x4
 (am_ev 20 (d + 1) 30 [.ref r0, .int x1, .int x2, .int x3, .int x4, .int (x5 + am_i 1), .int x6] [] M)
 (am_ev 20 (d + 1) 141 [.ref r0, .int x1, .int x2, .int x3, .int x4, .int x5, .int x6] [] M)) none) none) none) none) none))
 (am_ob M r0 5 (am_gr (am_R M r0 4) (fun h3 => am_ob M h3 1 (am_bI (am_cl 73 d [.ref h3] M) (fun c5 M4 => am_ev 20 (d + 1) 102 [.ref r0, .int x1, .int x2, .int x3, .int x4, .int x5, .int (x6 + am_i 1)] [] M4)) none) none) none) :=
  am_tree (cut := am_cut [30, 102, 141]) 16 rfl
set_option maxHeartbeats 2000000 in
set_option maxRecDepth 100000 in
theorem t20_141 (d : Nat) (M : am_M) (r0 : Nat) (x1 x2 x5 : Int32) (v3 v4 v6 : Value) :
  am_ev 20 (d + 1) 141 [.ref r0, .int x1, .int x2, v3, v4, .int x5, v6] [] M =
 am_ob M r0 5 (am_gr (am_R M r0 4) (fun h1 => am_ob M h1 1 (am_gr (am_R M h1 2) (fun h2 => am_ix M h2 2 x1 (am_ev 20 (d + 1) 30 [.ref r0, .int x1, .int x2, .int x5, .int (am_I M h2 x1.toNatClampNeg), .int (x5 + am_i 1), v6] [] M) none) none) none) none) none :=
  am_tree (cut := am_cut [30, 102, 141]) 11 rfl
-- 21: X5_who
set_option maxHeartbeats 2000000 in
set_option maxRecDepth 100000 in
theorem t21 (d : Nat) (M : am_M) (r0 : Nat) (x1 x2 x3 : Int32) :
  am_cl 21 (d + 1) [.ref r0, .int x1, .int x2, .int x3] M =
 am_ob M r0 5 (am_bI (am_cl 40 d [.ref r0, .int (am_i 2), .int x1] M) (fun c2 M1 => am_br .eq c2 (am_i 0)
 (some (some (.int (am_i (-1))), M1))
 (am_ob M1 r0 5 (am_bI (am_cl 40 d [.ref r0, .int (am_i 1), .int x2] M1) (fun c4 M3 => am_br .eq c4 (am_i 0)
 (some (some (.int (am_i (-1))), M3))
 (am_br .lt x3 (am_i 0)
 (some (some (.int (am_i (-1))), M3))
 (am_br .lt x3 (am_i 24)
 (am_ev 21 (d + 1) 39 [.ref r0, .int x1, .int x2, .int x3, .long (am_l 0), .null, .long (am_l 0), .null, .int (am_i 0), .null] [] M3)
 (some (some (.int (am_i (-1))), M3)))))) none))) none :=
  show am_ev 21 (d + 1) 0 [.ref r0, .int x1, .int x2, .int x3, .null, .null, .null, .null, .null, .null] [] M = _ from am_tree (cut := am_cut [39]) 22 rfl
set_option maxHeartbeats 2000000 in
set_option maxRecDepth 100000 in
theorem t21_39 (d : Nat) (M : am_M) (r0 : Nat) (x1 x2 x3 x8 : Int32) (y4 y6 : Int64) (v5 v7 v9 : Value) :
  am_ev 21 (d + 1) 39 [.ref r0, .int x1, .int x2, .int x3, .long y4, v5, .long y6, v7, .int x8, v9] [] M =
 am_ob M r0 5 (am_gr (am_R M r0 3) (fun h1 => am_ob M h1 1 (am_gr (am_R M h1 0) (fun h2 => am_ob M h2 2 (am_gr (am_R M h2 0) (fun h3 => am_ix M h3 2 (am_i 2) (am_br .ge x8 (am_I M h3 (am_i 2).toNatClampNeg)
 (am_br .ne (lg_cmp y4 (am_l 0)) (am_i 0)
 (am_if (y4 = 0) none (some (some (.int ((y6 * (am_l 1000000)) / y4).toInt32), M)))
 (some (some (.int (am_i (-1))), M)))
 (am_ob M r0 5 (am_gr (am_R M r0 3) (fun h4 => am_ob M h4 1 (am_gr (am_R M h4 0) (fun h5 => am_ob M h5 2 (am_bI (am_cl 87 d [.ref h5, .int x8, .int x3] M) (fun c7 M6 => am_br .eq c7 (am_i 0)
 (am_ev 21 (d + 1) 39 [.ref r0, .int x1, .int x2, .int x3, .long y4, v5, .long y6, (am_kl v7), .int (x8 + am_i 1), v9] [] M6)
 (am_ob M6 r0 5 (am_gr (am_R M6 r0 3) (fun h8 => am_ob M6 h8 1 (am_gr (am_R M6 h8 0) (fun h9 => am_ob M6 h9 2 (am_bI (am_cl 88 d [.ref h9, .int x8, .int x2] M6) (fun c11 M10 => am_br .ne x8 x1
 (am_ev 21 (d + 1) 39 [.ref r0, .int x1, .int x2, .int x3, .long (y4 + (c11 + (am_i 1)).toInt64), .null, .long (y6 + (am_l 0)), .null, .int (x8 + am_i 1), .int (c11 + (am_i 1))] [] M10)
 (am_ev 21 (d + 1) 39 [.ref r0, .int x1, .int x2, .int x3, .long (y4 + (c11 + (am_i 1)).toInt64), .null, .long (y6 + (c11 + (am_i 1)).toInt64), .null, .int (x8 + am_i 1), .int (c11 + (am_i 1))] [] M10))) none) none) none) none) none))) none) none) none) none) none)) none) none) none) none) none) none) none :=
  am_tree (cut := am_cut [39]) 41 rfl
-- 22: X5_sofa
set_option maxHeartbeats 2000000 in
set_option maxRecDepth 100000 in
theorem t22 (d : Nat) (M : am_M) (r0 : Nat) (x1 x2 : Int32) :
  am_cl 22 (d + 1) [.ref r0, .int x1, .int x2] M =
 am_br .lt x1 (am_i 1)
 (some (some (.int (am_i (-1))), M))
 (am_ob M r0 5 (am_gr (am_R M r0 3) (fun h1 => am_ob M h1 1 (am_gr (am_R M h1 0) (fun h2 => am_ob M h2 2 (am_gr (am_R M h2 0) (fun h3 => am_ix M h3 2 (am_i 2) (am_br .ge x1 ((am_i 1) <<< ((am_I M h3 (am_i 2).toNatClampNeg) &&& 31))
 (some (some (.int (am_i (-1))), M))
 (am_br .lt x2 (am_i 0)
 (some (some (.int (am_i (-1))), M))
 (am_br .le x2 (am_i 2)
 (am_br .ne x2 (am_i 2)
 (am_ev 22 (d + 1) 52 [.ref r0, .int x1, .int x2, .int (am_i (-1)), .int (am_i 0), .int (am_i 0), .null] [] M)
 (am_ob M r0 5 (am_bV (am_cl 48 d [.ref r0, .int x1] M) (fun M4 => am_ev 22 (d + 1) 52 [.ref r0, .int x1, .int x2, .int (am_i (-1)), .int (am_i 0), .int (am_i 0), .null] [] M4)) none))
 (some (some (.int (am_i (-1))), M))))) none) none) none) none) none) none) none) :=
  show am_ev 22 (d + 1) 0 [.ref r0, .int x1, .int x2, .null, .null, .null, .null] [] M = _ from am_tree (cut := am_cut [52, 101]) 31 rfl
set_option maxHeartbeats 2000000 in
set_option maxRecDepth 100000 in
theorem t22_52 (d : Nat) (M : am_M) (r0 : Nat) (x1 x2 x3 x4 x5 : Int32) (v6 : Value) :
  am_ev 22 (d + 1) 52 [.ref r0, .int x1, .int x2, .int x3, .int x4, .int x5, v6] [] M =
 am_ob M r0 5 (am_gr (am_R M r0 3) (fun h1 => am_ob M h1 1 (am_gr (am_R M h1 0) (fun h2 => am_ob M h2 2 (am_gr (am_R M h2 0) (fun h3 => am_ix M h3 2 (am_i 1) (am_br .ge x5 (am_I M h3 (am_i 1).toNatClampNeg)
 (some (some (.int x3), M))
 (am_br .ne x2 (am_i 2)
 (am_br .ne x2 (am_i 1)
 (am_ob M r0 5 (am_bI (am_cl 47 d [.ref r0, .int x1, .int x5, .int (am_i 0)] M) (fun c5 M4 => am_ev 22 (d + 1) 101 [.ref r0, .int x1, .int x2, .int x3, .int x4, .int x5, v6] [.int c5] M4)) none)
 (am_ob M r0 5 (am_bI (am_cl 47 d [.ref r0, .int x1, .int x5, .int (am_i 1)] M) (fun c7 M6 => am_ev 22 (d + 1) 101 [.ref r0, .int x1, .int x2, .int x3, .int x4, .int x5, v6] [.int c7] M6)) none))
 (am_ob M r0 5 (am_gr (am_R M r0 13) (fun h8 => am_ix M h8 2 x5 (am_ev 22 (d + 1) 101 [.ref r0, .int x1, .int x2, .int x3, .int x4, .int x5, v6] [.int (am_I M h8 x5.toNatClampNeg)] M) none) none) none))) none) none) none) none) none) none) none :=
  am_tree (cut := am_cut [52, 101]) 21 rfl
set_option maxHeartbeats 2000000 in
set_option maxRecDepth 100000 in
theorem t22_101 (d : Nat) (M : am_M) (r0 : Nat) (x1 x2 x3 x4 x5 sx0 : Int32) (v6 : Value) :
  am_ev 22 (d + 1) 101 [.ref r0, .int x1, .int x2, .int x3, .int x4, .int x5, v6] [.int sx0] M =
 am_br .eq x3 (am_i (-1))
 (am_ev 22 (d + 1) 52 [.ref r0, .int x1, .int x2, .int x5, .int sx0, .int (x5 + am_i 1), .int sx0] [] M)
 (am_br .le sx0 x4
 (am_ev 22 (d + 1) 52 [.ref r0, .int x1, .int x2, .int x3, .int x4, .int (x5 + am_i 1), .int sx0] [] M)
 (am_ev 22 (d + 1) 52 [.ref r0, .int x1, .int x2, .int x5, .int sx0, .int (x5 + am_i 1), .int sx0] [] M)) :=
  am_tree (cut := am_cut [52, 101]) 14 rfl
-- 23: X5_share
set_option maxHeartbeats 2000000 in
set_option maxRecDepth 100000 in
theorem t23 (d : Nat) (M : am_M) (r0 : Nat) (x1 : Int32) :
  am_cl 23 (d + 1) [.ref r0, .int x1] M =
 am_ob M r0 5 (am_bI (am_cl 42 d [.ref r0] M) (fun c2 M1 => am_ob M1 r0 5 (am_bI (am_cl 40 d [.ref r0, .int (am_i 2), .int x1] M1) (fun c4 M3 => am_br .eq c4 (am_i 0)
 (some (some (.int (am_i (-1))), M3))
 (am_br .ne c2 (am_i 0)
 (am_ob M3 r0 5 (am_gr (am_R M3 r0 3) (fun h5 => am_ob M3 h5 1 (am_gr (am_R M3 h5 0) (fun h6 => am_ob M3 h6 2 (am_ev 23 (d + 1) 40 [.ref r0, .int x1, .int c2, .int (am_I M3 h6 9), .int (am_I M3 h6 9), .int (am_i 0), .int (am_i 0)] [] M3) none) none) none) none) none)
 (some (some (.int (am_i (-1))), M3))))) none)) none :=
  show am_ev 23 (d + 1) 0 [.ref r0, .int x1, .null, .null, .null, .null, .null] [] M = _ from am_tree (cut := am_cut [40]) 22 rfl
set_option maxHeartbeats 2000000 in
set_option maxRecDepth 100000 in
theorem t23_40 (d : Nat) (M : am_M) (r0 : Nat) (x1 x2 x3 x4 x5 x6 : Int32) :
  am_ev 23 (d + 1) 40 [.ref r0, .int x1, .int x2, .int x3, .int x4, .int x5, .int x6] [] M =
 am_ob M r0 5 (am_gr (am_R M r0 3) (fun h1 => am_ob M h1 1 (am_gr (am_R M h1 0) (fun h2 => am_ob M h2 2 (am_gr (am_R M h2 0) (fun h3 => am_ix M h3 2 (am_i 2) (am_br .ge x6 (am_I M h3 (am_i 2).toNatClampNeg)
 (am_ob M r0 5 (am_gr (am_R M r0 3) (fun h4 => am_ob M h4 1 (am_gr (am_R M h4 1) (fun h5 => am_ob M h5 0 (am_gr (am_R M h5 4) (fun h6 => am_ix M h6 2 x1 (am_if (x2 = 0) none (am_br .ne x1 x5
 (some (some (.int ((x3 * (am_I M h6 x1.toNatClampNeg)) / x2)), M))
 (some (some (.int (((x3 * (am_I M h6 x1.toNatClampNeg)) / x2) + x4)), M)))) none) none) none) none) none) none) none)
 (am_ob M r0 5 (am_gr (am_R M r0 3) (fun h7 => am_ob M h7 1 (am_gr (am_R M h7 1) (fun h8 => am_ob M h8 0 (am_gr (am_R M h8 4) (fun h9 => am_ix M h9 2 x6 (am_if (x2 = 0) none (am_lt (x4 - ((x3 * (am_I M h9 x6.toNatClampNeg)) / x2)) (fun u10 => am_ob M r0 5 (am_gr (am_R M r0 3) (fun h11 => am_ob M h11 1 (am_gr (am_R M h11 1) (fun h12 => am_ob M h12 0 (am_gr (am_R M h12 4) (fun h13 => am_ix M h13 2 x6 (am_ob M r0 5 (am_gr (am_R M r0 3) (fun h14 => am_ob M h14 1 (am_gr (am_R M h14 1) (fun h15 => am_ob M h15 0 (am_gr (am_R M h15 4) (fun h16 => am_ix M h16 2 x5 (am_br .le (am_I M h13 x6.toNatClampNeg) (am_I M h16 x5.toNatClampNeg)
 (am_ev 23 (d + 1) 40 [.ref r0, .int x1, .int x2, .int x3, .int u10, .int x5, .int (x6 + am_i 1)] [] M)
 (am_ev 23 (d + 1) 40 [.ref r0, .int x1, .int x2, .int x3, .int u10, .int x6, .int (x6 + am_i 1)] [] M)) none) none) none) none) none) none) none) none) none) none) none) none) none) none))) none) none) none) none) none) none) none)) none) none) none) none) none) none) none :=
  am_tree (cut := am_cut [40]) 39 rfl
-- 24: X5_tell
set_option maxHeartbeats 2000000 in
set_option maxRecDepth 100000 in
theorem t24 (d : Nat) (M : am_M) (r0 : Nat) :
  am_cl 24 (d + 1) [.ref r0] M =
 am_ob M r0 5 (am_bI (am_cl 39 d [.ref r0] M) (fun c2 M1 => am_if ((am_i 3) = 0) none (am_br .lt (c2 / (am_i 3)) (am_i 1)
 (am_ob M1 r0 5 (am_bI (am_cl 37 d [.ref r0, .int (am_i 1)] M1) (fun c4 M3 => some (some (.int c4), M3))) none)
 (am_br .gt (c2 / (am_i 3)) (am_i 16)
 (am_ob M1 r0 5 (am_bI (am_cl 37 d [.ref r0, .int (am_i 1)] M1) (fun c6 M5 => some (some (.int c6), M5))) none)
 (am_br .eq ((c2 / (am_i 3)) * (am_i 3)) c2
 (am_ev 24 (d + 1) 35 [.ref r0, .int c2, .int (c2 / (am_i 3)), .int (am_i 0)] [] M1)
 (am_ob M1 r0 5 (am_bI (am_cl 37 d [.ref r0, .int (am_i 1)] M1) (fun c8 M7 => some (some (.int c8), M7))) none)))))) none :=
  show am_ev 24 (d + 1) 0 [.ref r0, .null, .null, .null] [] M = _ from am_tree (cut := am_cut [35]) 23 rfl
set_option maxHeartbeats 2000000 in
set_option maxRecDepth 100000 in
theorem t24_35 (d : Nat) (M : am_M) (r0 : Nat) (x1 x2 x3 : Int32) :
  am_ev 24 (d + 1) 35 [.ref r0, .int x1, .int x2, .int x3] [] M =
 am_br .ge x3 x1
 (am_ob M r0 5 (am_gr (am_R M r0 1) (fun h1 => am_ob M r0 5 (am_gr (am_R M r0 8) (fun h2 => am_ac M h1 (am_i 0) h2 (am_i 0) x1 0 (am_lt (am_cp M h1 (am_i 0).toNatClampNeg h2 (am_i 0).toNatClampNeg x1.toNatClampNeg) (fun M3 => am_ob M3 r0 5 (am_lt (am_sI M3 r0 9 x2) (fun M4 => some (some (.int x2), M4))) none)) none) none) none) none) none)
 (am_ob M r0 5 (am_gr (am_R M r0 1) (fun h5 => am_ix M h5 2 x3 (am_br .ge (am_I M h5 x3.toNatClampNeg) (am_i 24)
 (am_ob M r0 5 (am_bI (am_cl 37 d [.ref r0, .int (am_i 1)] M) (fun c7 M6 => some (some (.int c7), M6))) none)
 (am_ob M r0 5 (am_gr (am_R M r0 1) (fun h8 => am_ix M h8 2 (x3 + (am_i 1)) (am_ob M r0 5 (am_bI (am_cl 40 d [.ref r0, .int (am_i 1), .int (am_I M h8 (x3 + (am_i 1)).toNatClampNeg)] M) (fun c10 M9 => am_br .eq c10 (am_i 0)
 (am_ob M9 r0 5 (am_bI (am_cl 37 d [.ref r0, .int (am_i 1)] M9) (fun c12 M11 => some (some (.int c12), M11))) none)
 (am_ob M9 r0 5 (am_gr (am_R M9 r0 1) (fun h13 => am_ix M9 h13 2 (x3 + (am_i 2)) (am_br .le (am_I M9 h13 (x3 + (am_i 2)).toNatClampNeg) (am_i 1)
 (am_ev 24 (d + 1) 35 [.ref r0, .int x1, .int x2, .int (x3 + am_i 3)] [] M9)
 (am_ob M9 r0 5 (am_bI (am_cl 37 d [.ref r0, .int (am_i 1)] M9) (fun c15 M14 => some (some (.int c15), M14))) none)) none) none) none))) none) none) none) none)) none) none) none) :=
  am_tree (cut := am_cut [35]) 32 rfl
-- 25: X5_pressed
set_option maxHeartbeats 2000000 in
set_option maxRecDepth 100000 in
theorem t25 (d : Nat) (M : am_M) (r0 : Nat) (x1 : Int32) :
  am_cl 25 (d + 1) [.ref r0, .int x1] M =
 am_ob M r0 5 (am_bI (am_cl 49 d [.ref r0] M) (fun c2 M1 => am_br .lt x1 (am_i 0)
 (some (some (.int (am_i (-1))), M1))
 (am_br .gt x1 (am_i 2)
 (some (some (.int (am_i (-1))), M1))
 (am_ob M1 r0 5 (am_bI (am_cl 41 d [.ref r0, .int c2, .int (am_i 0), .int (am_i 24)] M1) (fun c4 M3 => am_br .ne c4 (am_i 0)
 (am_ob M3 r0 5 (am_gr (am_R M3 r0 3) (fun h5 => am_ob M3 h5 1 (am_gr (am_R M3 h5 0) (fun h6 => am_ob M3 h6 2 (am_gr (am_R M3 h6 0) (fun h7 => am_ix M3 h7 2 (am_i 2) (am_lt ((am_i 1) <<< ((am_I M3 h7 (am_i 2).toNatClampNeg) &&& 31)) (fun u8 => am_ev 25 (d + 1) 56 [.ref r0, .int x1, .int c2, .int u8, .int (am_i 0), .int (u8 - (am_i 1)), .int (am_i 0), .int (am_i 0)] [] M3)) none) none) none) none) none) none) none)
 (some (some (.int (am_i (-1))), M3)))) none)))) none :=
  show am_ev 25 (d + 1) 0 [.ref r0, .int x1, .null, .null, .null, .null, .null, .null] [] M = _ from am_tree (cut := am_cut [56]) 34 rfl
set_option maxHeartbeats 2000000 in
set_option maxRecDepth 100000 in
theorem t25_56 (d : Nat) (M : am_M) (r0 : Nat) (x1 x2 x3 x4 x5 x6 x7 : Int32) :
  am_ev 25 (d + 1) 56 [.ref r0, .int x1, .int x2, .int x3, .int x4, .int x5, .int x6, .int x7] [] M =
 am_br .ge x7 x3
 (am_br .ne x1 (am_i 0)
 (am_br .ne x1 (am_i 2)
 (am_br .ne x4 (am_i 0)
 (some (some (.int x5), M))
 (some (some (.int (am_i 0)), M)))
 (some (some (.int x6), M)))
 (some (some (.int x4), M)))
 (am_ob M r0 5 (am_bI (am_cl 50 d [.ref r0, .int x7, .int x2] M) (fun c2 M1 => am_br .eq c2 (am_i 0)
 (am_ev 25 (d + 1) 56 [.ref r0, .int x1, .int x2, .int x3, .int x4, .int x5, .int x6, .int (x7 + am_i 1)] [] M1)
 (am_ev 25 (d + 1) 56 [.ref r0, .int x1, .int x2, .int x3, .int (x4 + am_i 1), .int (x5 &&& x7), .int (x6 ||| x7), .int (x7 + am_i 1)] [] M1))) none) :=
  am_tree (cut := am_cut [56]) 20 rfl
-- 26: X5_press
set_option maxHeartbeats 2000000 in
set_option maxRecDepth 100000 in
theorem t26 (d : Nat) (M : am_M) (r0 : Nat) (x1 x2 : Int32) :
  am_cl 26 (d + 1) [.ref r0, .int x1, .int x2] M =
 am_ob M r0 5 (am_bI (am_cl 40 d [.ref r0, .int (am_i 2), .int x1] M) (fun c2 M1 => am_br .eq c2 (am_i 0)
 (am_ob M1 r0 5 (am_bI (am_cl 37 d [.ref r0, .int (am_i 2)] M1) (fun c4 M3 => am_tr (am_i 0) (some (some (.int (am_i 0)), M3)) none)) none)
 (am_br .lt x2 (am_i 0)
 (am_ob M1 r0 5 (am_bI (am_cl 37 d [.ref r0, .int (am_i 2)] M1) (fun c6 M5 => am_tr (am_i 0) (some (some (.int (am_i 0)), M5)) none)) none)
 (am_br .gt x2 (am_i 1)
 (am_ob M1 r0 5 (am_bI (am_cl 37 d [.ref r0, .int (am_i 2)] M1) (fun c8 M7 => am_tr (am_i 0) (some (some (.int (am_i 0)), M7)) none)) none)
 (am_ob M1 r0 5 (am_gr (am_R M1 r0 3) (fun h9 => am_ob M1 h9 1 (am_gr (am_R M1 h9 1) (fun h10 => am_ob M1 h10 0 (am_br .ne (((am_I M1 h10 1) >>> (x1 &&& 31)) &&& (am_i 1)) x2
 (am_ob M1 r0 5 (am_bV (am_cl 43 d [.ref r0] M1) (fun M11 => am_ob M11 r0 5 (am_gr (am_R M11 r0 3) (fun h12 => am_ob M11 h12 1 (am_gr (am_R M11 h12 1) (fun h13 => am_ob M11 h13 0 (am_ob M11 h13 0 (am_lt (am_sI M11 h13 1 ((am_I M11 h13 1) ^^^ ((am_i 1) <<< (x1 &&& 31)))) (fun M14 => am_tr (am_i 1) (some (some (.int (am_i 1)), M14)) none)) none) none) none) none) none) none)) none)
 (am_ob M1 r0 5 (am_bI (am_cl 37 d [.ref r0, .int (am_i 2)] M1) (fun c16 M15 => am_tr (am_i 0) (some (some (.int (am_i 0)), M15)) none)) none)) none) none) none) none) none))))) none :=
  show am_ev 26 (d + 1) 0 [.ref r0, .int x1, .int x2] [] M = _ from am_tree (cut := am_cut []) 35 rfl
-- 27: X5_show
set_option maxHeartbeats 2000000 in
set_option maxRecDepth 100000 in
theorem t27 (d : Nat) (M : am_M) (r0 : Nat) (x1 x2 : Int32) :
  am_cl 27 (d + 1) [.ref r0, .int x1, .int x2] M =
 am_ob M r0 5 (am_bI (am_cl 40 d [.ref r0, .int (am_i 2), .int x1] M) (fun c2 M1 => am_br .eq c2 (am_i 0)
 (am_ob M1 r0 5 (am_bI (am_cl 37 d [.ref r0, .int (am_i 2)] M1) (fun c4 M3 => some (some (.long (am_l (-1000000000000000))), M3))) none)
 (am_ob M1 r0 5 (am_bI (am_cl 40 d [.ref r0, .int (am_i 1), .int x2] M1) (fun c6 M5 => am_br .eq c6 (am_i 0)
 (am_ob M5 r0 5 (am_bI (am_cl 37 d [.ref r0, .int (am_i 2)] M5) (fun c8 M7 => some (some (.long (am_l (-1000000000000000))), M7))) none)
 (am_ob M5 r0 5 (am_gr (am_R M5 r0 3) (fun h9 => am_ob M5 h9 1 (am_bI (am_cl 75 d [.ref h9, .int x1, .int x2] M5) (fun c11 M10 => am_br .ne c11 (am_i 0)
 (am_ob M10 r0 5 (am_bV (am_cl 43 d [.ref r0] M10) (fun M12 => am_ob M12 r0 5 (am_gr (am_R M12 r0 3) (fun h13 => am_ob M12 h13 1 (am_bI (am_cl 76 d [.ref h13, .int x1, .int x2] M12) (fun c15 M14 => some (some (.long c15.toInt64), M14))) none) none) none)) none)
 (am_ob M10 r0 5 (am_bI (am_cl 37 d [.ref r0, .int (am_i 2)] M10) (fun c17 M16 => some (some (.long (am_l (-1000000000000000))), M16))) none))) none) none) none))) none))) none :=
  show am_ev 27 (d + 1) 0 [.ref r0, .int x1, .int x2] [] M = _ from am_tree (cut := am_cut []) 26 rfl
-- 28: X5_hours
set_option maxHeartbeats 2000000 in
set_option maxRecDepth 100000 in
theorem t28 (d : Nat) (M : am_M) (r0 : Nat) (x1 : Int32) :
  am_cl 28 (d + 1) [.ref r0, .int x1] M =
 am_ob M r0 5 (am_bI (am_cl 41 d [.ref r0, .int x1, .int (am_i 1), .int (am_i 100)] M) (fun c2 M1 => am_br .ne c2 (am_i 0)
 (am_ob M1 r0 5 (am_bV (am_cl 43 d [.ref r0] M1) (fun M3 => am_ev 28 (d + 1) 25 [.ref r0, .int x1, .int (am_i 0), .int (am_i 0)] [] M3)) none)
 (am_ob M1 r0 5 (am_bI (am_cl 37 d [.ref r0, .int (am_i 3)] M1) (fun c5 M4 => some (some (.int c5), M4))) none))) none :=
  show am_ev 28 (d + 1) 0 [.ref r0, .int x1, .null, .null] [] M = _ from am_tree (cut := am_cut [25]) 13 rfl
set_option maxHeartbeats 2000000 in
set_option maxRecDepth 100000 in
theorem t28_25 (d : Nat) (M : am_M) (r0 : Nat) (x1 x2 x3 : Int32) :
  am_ev 28 (d + 1) 25 [.ref r0, .int x1, .int x2, .int x3] [] M =
 am_br .ge x3 x1
 (some (some (.int x2), M))
 (am_ob M r0 5 (am_gr (am_R M r0 3) (fun h1 => am_ob M h1 1 (am_bI (am_cl 73 d [.ref h1] M) (fun c3 M2 => am_ev 28 (d + 1) 25 [.ref r0, .int x1, .int (x2 + c3), .int (x3 + am_i 1)] [] M2)) none) none) none) :=
  am_tree (cut := am_cut [25]) 12 rfl
-- 29: X5_chance
set_option maxHeartbeats 2000000 in
set_option maxRecDepth 100000 in
theorem t29 (d : Nat) (M : am_M) (r0 : Nat) (x1 : Int32) :
  am_cl 29 (d + 1) [.ref r0, .int x1] M =
 am_ob M r0 5 (am_bI (am_cl 41 d [.ref r0, .int x1, .int (am_i 1), .int (am_i 100)] M) (fun c2 M1 => am_br .ne c2 (am_i 0)
 (am_ob M1 r0 5 (am_bV (am_cl 43 d [.ref r0] M1) (fun M3 => am_ev 29 (d + 1) 25 [.ref r0, .int x1, .int (am_i 0), .int (am_i 0)] [] M3)) none)
 (am_ob M1 r0 5 (am_bI (am_cl 37 d [.ref r0, .int (am_i 3)] M1) (fun c5 M4 => some (some (.int c5), M4))) none))) none :=
  show am_ev 29 (d + 1) 0 [.ref r0, .int x1, .null, .null] [] M = _ from am_tree (cut := am_cut [25]) 13 rfl
set_option maxHeartbeats 2000000 in
set_option maxRecDepth 100000 in
theorem t29_25 (d : Nat) (M : am_M) (r0 : Nat) (x1 x2 x3 : Int32) :
  am_ev 29 (d + 1) 25 [.ref r0, .int x1, .int x2, .int x3] [] M =
 am_br .ge x3 x1
 (some (some (.int x2), M))
 (am_ob M r0 5 (am_bI (am_cl 51 d [.ref r0] M) (fun c2 M1 => am_br .eq c2 (am_i 0)
 (am_ob M1 r0 5 (am_gr (am_R M1 r0 3) (fun h3 => am_ob M1 h3 1 (am_bI (am_cl 73 d [.ref h3] M1) (fun c5 M4 => am_ev 29 (d + 1) 25 [.ref r0, .int x1, .int x2, .int (x3 + am_i 1)] [] M4)) none) none) none)
 (am_ob M1 r0 5 (am_gr (am_R M1 r0 3) (fun h6 => am_ob M1 h6 1 (am_bI (am_cl 73 d [.ref h6] M1) (fun c8 M7 => am_ev 29 (d + 1) 25 [.ref r0, .int x1, .int (x2 + am_i 1), .int (x3 + am_i 1)] [] M7)) none) none) none))) none) :=
  am_tree (cut := am_cut [25]) 14 rfl
-- 30: X5_undo
set_option maxHeartbeats 2000000 in
set_option maxRecDepth 100000 in
theorem t30 (d : Nat) (M : am_M) (r0 : Nat) :
  am_cl 30 (d + 1) [.ref r0] M =
 am_ob M r0 5 (am_br .ne (am_I M r0 7) (am_i 0)
 (am_ob M r0 5 (am_ob M r0 5 (am_lt (am_sI M r0 7 ((am_I M r0 7) - (am_i 1))) (fun M1 => am_ob M1 r0 5 (am_gr (am_R M1 r0 3) (fun h2 => am_ob M1 h2 1 (am_gr (am_R M1 h2 1) (fun h3 => am_ob M1 r0 5 (am_gr (am_R M1 r0 5) (fun h4 => am_ob M1 r0 5 (am_ob M1 r0 5 (am_if ((am_i 20) = 0) none (am_lt ((am_I M1 r0 6) + (am_I M1 r0 7)) (fun u5 => am_iq M1 h4 (u5 - u5 / (am_i 20) * (am_i 20)) (am_gr (am_R M1 h4 (u5 - u5 / (am_i 20) * (am_i 20)).toNatClampNeg) (fun h6 => am_ob M1 h3 0 (am_bV (am_cl 66 d [.ref h3, .ref h6] M1) (fun M7 => am_tr (am_i 1) (some (some (.int (am_i 1)), M7)) none)) none) none) none))) none) none) none) none) none) none) none) none)) none) none)
 (am_ob M r0 5 (am_bI (am_cl 37 d [.ref r0, .int (am_i 4)] M) (fun c9 M8 => am_tr (am_i 0) (some (some (.int (am_i 0)), M8)) none)) none)) none :=
  show am_ev 30 (d + 1) 0 [.ref r0] [] M = _ from am_tree (cut := am_cut []) 26 rfl
-- 31: X5_seed
set_option maxHeartbeats 2000000 in
set_option maxRecDepth 100000 in
theorem t31 (d : Nat) (M : am_M) (r0 : Nat) (x1 : Int32) :
  am_cl 31 (d + 1) [.ref r0, .int x1] M =
 am_br .ge x1 (am_i 0)
 (am_ob M r0 5 (am_lt (am_sI M r0 15 x1) (fun M1 => am_tr (am_i 1) (some (some (.int (am_i 1)), M1)) none)) none)
 (am_ob M r0 5 (am_bI (am_cl 37 d [.ref r0, .int (am_i 5)] M) (fun c3 M2 => am_tr (am_i 0) (some (some (.int (am_i 0)), M2)) none)) none) :=
  show am_ev 31 (d + 1) 0 [.ref r0, .int x1] [] M = _ from am_tree (cut := am_cut []) 9 rfl
-- 32: X5_ask
set_option maxHeartbeats 2000000 in
set_option maxRecDepth 100000 in
theorem t32 (d : Nat) (M : am_M) (r0 : Nat) (x1 : Int32) :
  am_cl 32 (d + 1) [.ref r0, .int x1] M =
 am_ob M r0 5 (am_bI (am_cl 39 d [.ref r0] M) (fun c2 M1 => am_ob M1 r0 5 (am_bI (am_cl 40 d [.ref r0, .int (am_i 2), .int x1] M1) (fun c4 M3 => am_br .eq c4 (am_i 0)
 (some (some (.long (am_l (-1000000000000000))), M3))
 (am_ob M3 r0 5 (am_gr (am_R M3 r0 0) (fun h5 => am_ob M3 h5 4 (am_bI (am_cl 97 d [.ref h5, .int c2] M3) (fun c7 M6 => am_br .ne c7 (am_i 0)
 (am_ob M6 r0 5 (am_gr (am_R M6 r0 0) (fun h8 => am_ob M6 h8 4 (am_si 29 (am_I M6 h8 3) (am_ob M6 r0 5 (am_bL (am_cl 53 d [.ref r0, .int x1, .int (am_i 1)] M6) (fun c10 M9 => some (some (.long c10), M9))) none)
 (am_si 30 (am_I M6 h8 3) (am_ob M6 r0 5 (am_bL (am_cl 53 d [.ref r0, .int x1, .int (am_i 0)] M6) (fun c12 M11 => some (some (.long c12), M11))) none)
 (am_si 31 (am_I M6 h8 3) (am_ob M6 r0 5 (am_bL (am_cl 54 d [.ref r0, .int x1] M6) (fun c14 M13 => some (some (.long c14), M13))) none)
 (am_si 32 (am_I M6 h8 3) (am_ob M6 r0 5 (am_bL (am_cl 54 d [.ref r0, .int x1] M6) (fun c16 M15 => some (some (.long c16), M15))) none)
 (am_si 33 (am_I M6 h8 3) (am_ob M6 r0 5 (am_bL (am_cl 55 d [.ref r0, .int x1, .int (am_i 1)] M6) (fun c18 M17 => some (some (.long c18), M17))) none)
 (am_ob M6 r0 5 (am_bL (am_cl 55 d [.ref r0, .int x1, .int (am_i 0)] M6) (fun c20 M19 => some (some (.long c20), M19))) none)))))) none) none) none)
 (some (some (.long (am_l (-1000000000000000))), M6)))) none) none) none))) none)) none :=
  show am_ev 32 (d + 1) 0 [.ref r0, .int x1, .null] [] M = _ from am_tree (cut := am_cut []) 23 rfl
-- 33: X5_image
set_option maxHeartbeats 2000000 in
set_option maxRecDepth 100000 in
theorem t33 (d : Nat) (M : am_M) (r0 : Nat) :
  am_cl 33 (d + 1) [.ref r0] M =
 am_ob M r0 5 (am_gr (am_R M r0 3) (fun h1 => am_ob M h1 1 (am_gr (am_R M h1 1) (fun h2 => am_ob M r0 5 (am_gr (am_R M r0 3) (fun h3 => am_ob M h3 1 (am_gr (am_R M h3 0) (fun h4 => am_ob M h4 2 (am_gr (am_R M h4 0) (fun h5 => am_ix M h5 2 (am_i 2) (am_ob M r0 5 (am_lt (am_sI M r0 11 (am_i 0)) (fun M6 => am_ob M6 h2 0 (am_if ((am_i 24) = 0) none (am_ob M6 r0 5 (am_bV (am_cl 56 d [.ref r0, .int ((am_I M6 h2 0) / (am_i 24))] M6) (fun M7 => am_ob M7 h2 0 (am_if ((am_i 24) = 0) none (am_ob M7 r0 5 (am_bV (am_cl 57 d [.ref r0, .int ((am_I M7 h2 0) - (am_I M7 h2 0) / (am_i 24) * (am_i 24))] M7) (fun M8 => am_ev 33 (d + 1) 50 [.ref r0, .ref h2, .int (am_I M h5 (am_i 2).toNatClampNeg), .int (am_i 0), .null] [] M8)) none)) none)) none)) none)) none) none) none) none) none) none) none) none) none) none) none) none :=
  show am_ev 33 (d + 1) 0 [.ref r0, .null, .null, .null, .null] [] M = _ from am_tree (cut := am_cut [50, 58, 100, 147]) 29 rfl
set_option maxHeartbeats 2000000 in
set_option maxRecDepth 100000 in
theorem t33_50 (d : Nat) (M : am_M) (r0 r1 : Nat) (x2 x3 : Int32) (v4 : Value) :
  am_ev 33 (d + 1) 50 [.ref r0, .ref r1, .int x2, .int x3, v4] [] M =
 am_br .gt x3 x2
 (am_ev 33 (d + 1) 147 [.ref r0, .ref r1, .int x2, .int (am_i 0), v4] [] M)
 (am_ev 33 (d + 1) 58 [.ref r0, .ref r1, .int x2, .int x3, .int (am_i 0)] [] M) :=
  am_tree (cut := am_cut [50, 58, 100, 147]) 6 rfl
set_option maxHeartbeats 2000000 in
set_option maxRecDepth 100000 in
theorem t33_58 (d : Nat) (M : am_M) (r0 r1 : Nat) (x2 x3 x4 : Int32) :
  am_ev 33 (d + 1) 58 [.ref r0, .ref r1, .int x2, .int x3, .int x4] [] M =
 am_ob M r0 5 (am_gr (am_R M r0 3) (fun h1 => am_ob M h1 1 (am_gr (am_R M h1 0) (fun h2 => am_ob M h2 2 (am_gr (am_R M h2 0) (fun h3 => am_ix M h3 2 (am_i 0) (am_br .ge x4 (am_I M h3 (am_i 0).toNatClampNeg)
 (am_ev 33 (d + 1) 100 [.ref r0, .ref r1, .int x2, .int x3, .int (am_i 0)] [] M)
 (am_ob M r1 0 (am_gr (am_R M r1 2) (fun h4 => am_ix M h4 2 ((x3 * (am_i 6)) + x4) (am_ob M r0 5 (am_bV (am_cl 56 d [.ref r0, .int (am_I M h4 ((x3 * (am_i 6)) + x4).toNatClampNeg)] M) (fun M5 => am_ev 33 (d + 1) 58 [.ref r0, .ref r1, .int x2, .int x3, .int (x4 + am_i 1)] [] M5)) none) none) none) none)) none) none) none) none) none) none) none :=
  am_tree (cut := am_cut [50, 58, 100, 147]) 21 rfl
set_option maxHeartbeats 2000000 in
set_option maxRecDepth 100000 in
theorem t33_100 (d : Nat) (M : am_M) (r0 r1 : Nat) (x2 x3 x4 : Int32) :
  am_ev 33 (d + 1) 100 [.ref r0, .ref r1, .int x2, .int x3, .int x4] [] M =
 am_ob M r0 5 (am_gr (am_R M r0 3) (fun h1 => am_ob M h1 1 (am_gr (am_R M h1 0) (fun h2 => am_ob M h2 2 (am_gr (am_R M h2 0) (fun h3 => am_ix M h3 2 (am_i 1) (am_br .ge x4 (am_I M h3 (am_i 1).toNatClampNeg)
 (am_ev 33 (d + 1) 50 [.ref r0, .ref r1, .int x2, .int (x3 + am_i 1), .int x4] [] M)
 (am_ob M r1 0 (am_gr (am_R M r1 3) (fun h4 => am_ix M h4 2 ((x3 * (am_i 8)) + x4) (am_ob M r0 5 (am_bV (am_cl 57 d [.ref r0, .int (am_I M h4 ((x3 * (am_i 8)) + x4).toNatClampNeg)] M) (fun M5 => am_ev 33 (d + 1) 100 [.ref r0, .ref r1, .int x2, .int x3, .int (x4 + am_i 1)] [] M5)) none) none) none) none)) none) none) none) none) none) none) none :=
  am_tree (cut := am_cut [50, 58, 100, 147]) 21 rfl
set_option maxHeartbeats 2000000 in
set_option maxRecDepth 100000 in
theorem t33_147 (d : Nat) (M : am_M) (r0 r1 : Nat) (x2 x3 : Int32) (v4 : Value) :
  am_ev 33 (d + 1) 147 [.ref r0, .ref r1, .int x2, .int x3, v4] [] M =
 am_br .ge x3 x2
 (am_ob M r0 5 (am_gr (am_R M r0 10) (fun h1 => am_ob M r0 5 (am_ob M r0 5 (am_bI (am_cl 58 d [.ref r0, .ref h1, .int (am_I M r0 11)] M) (fun c3 M2 => am_ob M2 r0 5 (am_bV (am_cl 57 d [.ref r0, .int c3] M2) (fun M4 => am_ob M4 r0 5 (some (some (.int (am_I M4 r0 11)), M4)) none)) none)) none) none) none) none)
 (am_ob M r1 0 (am_ob M r0 5 (am_bV (am_cl 57 d [.ref r0, .int (((am_I M r1 1) >>> (x3 &&& 31)) &&& (am_i 1))] M) (fun M5 => am_ob M5 r1 0 (am_gr (am_R M5 r1 4) (fun h6 => am_ix M5 h6 2 x3 (am_ob M5 r0 5 (am_bV (am_cl 56 d [.ref r0, .int (am_I M5 h6 x3.toNatClampNeg)] M5) (fun M7 => am_ev 33 (d + 1) 147 [.ref r0, .ref r1, .int x2, .int (x3 + am_i 1), v4] [] M7)) none) none) none) none)) none) none) :=
  am_tree (cut := am_cut [50, 58, 100, 147]) 20 rfl
-- 34: X5_octet
set_option maxHeartbeats 2000000 in
set_option maxRecDepth 100000 in
theorem t34 (d : Nat) (M : am_M) (r0 : Nat) (x1 : Int32) :
  am_cl 34 d [.ref r0, .int x1] M =
 am_br .lt x1 (am_i 0)
 (some (some (.int (am_i (-1))), M))
 (am_ob M r0 5 (am_br .lt x1 (am_I M r0 11)
 (am_ob M r0 5 (am_gr (am_R M r0 10) (fun h1 => am_ix M h1 2 x1 (some (some (.int (am_I M h1 x1.toNatClampNeg)), M)) none) none) none)
 (some (some (.int (am_i (-1))), M))) none) :=
  show am_ev 34 d 0 [.ref r0, .int x1] [] M = _ from am_tree (cut := am_cut []) 12 rfl
-- 35: X5_on
set_option maxHeartbeats 2000000 in
set_option maxRecDepth 100000 in
theorem t35 (d : Nat) (M : am_M) (r0 : Nat) :
  am_cl 35 (d + 1) [.ref r0] M =
 am_ob M r0 5 (am_bI (am_cl 39 d [.ref r0] M) (fun c2 M1 => am_ob M1 r0 5 (am_bI (am_cl 59 d [.ref r0] M1) (fun c4 M3 => am_br .ne c2 c4
 (am_ob M3 r0 5 (am_bI (am_cl 37 d [.ref r0, .int (am_i 5)] M3) (fun c6 M5 => am_tr (am_i 0) (some (some (.int (am_i 0)), M5)) none)) none)
 (am_ob M3 r0 5 (am_gr (am_R M3 r0 1) (fun h7 => am_ob M3 r0 5 (am_bI (am_cl 58 d [.ref r0, .ref h7, .int (c2 - (am_i 1))] M3) (fun c9 M8 => am_ob M8 r0 5 (am_bI (am_cl 60 d [.ref r0, .int (c2 - (am_i 1))] M8) (fun c11 M10 => am_br .ne c9 c11
 (am_ob M10 r0 5 (am_bI (am_cl 37 d [.ref r0, .int (am_i 5)] M10) (fun c13 M12 => am_tr (am_i 0) (some (some (.int (am_i 0)), M12)) none)) none)
 (am_ob M10 r0 5 (am_gr (am_R M10 r0 4) (fun h14 => am_ob M10 h14 1 (am_gr (am_R M10 h14 1) (fun h15 => am_ob M10 r0 5 (am_bI (am_cl 62 d [.ref r0, .ref h15] M10) (fun c17 M16 => am_br .eq c17 (am_i 0)
 (am_ob M16 r0 5 (am_bI (am_cl 37 d [.ref r0, .int (am_i 5)] M16) (fun c19 M18 => am_tr (am_i 0) (some (some (.int (am_i 0)), M18)) none)) none)
 (am_ob M16 r0 5 (am_gr (am_R M16 r0 4) (fun h20 => am_ob M16 h20 1 (am_gr (am_R M16 h20 1) (fun h21 => am_ob M16 r0 5 (am_bI (am_cl 63 d [.ref r0, .ref h21, .int (c2 - (am_i 1))] M16) (fun c23 M22 => am_br .ne c23 (am_i 0)
 (am_ob M22 r0 5 (am_gr (am_R M22 r0 3) (fun h24 => am_ob M22 h24 1 (am_gr (am_R M22 h24 1) (fun h25 => am_ob M22 r0 5 (am_gr (am_R M22 r0 4) (fun h26 => am_ob M22 h26 1 (am_gr (am_R M22 h26 1) (fun h27 => am_ob M22 h25 0 (am_bV (am_cl 66 d [.ref h25, .ref h27] M22) (fun M28 => am_ob M28 r0 5 (am_bV (am_cl 44 d [.ref r0] M28) (fun M29 => am_tr (am_i 1) (some (some (.int (am_i 1)), M29)) none)) none)) none) none) none) none) none) none) none) none) none)
 (am_ob M22 r0 5 (am_bI (am_cl 37 d [.ref r0, .int (am_i 5)] M22) (fun c31 M30 => am_tr (am_i 0) (some (some (.int (am_i 0)), M30)) none)) none))) none) none) none) none) none))) none) none) none) none) none))) none)) none) none) none))) none)) none :=
  show am_ev 35 (d + 1) 0 [.ref r0, .null] [] M = _ from am_tree (cut := am_cut []) 47 rfl
-- 36: X5_status
set_option maxHeartbeats 2000000 in
set_option maxRecDepth 100000 in
theorem t36 (d : Nat) (M : am_M) (r0 : Nat) (x1 : Int32) :
  am_cl 36 d [.ref r0, .int x1] M =
 am_br .lt x1 (am_i 0)
 (some (some (.int (am_i (-1))), M))
 (am_ob M r0 5 (am_gr (am_R M r0 14) (fun h1 => am_if (2 ≤ (am_K M h1).1 ∧ (am_K M h1).1 ≤ 6) (am_br .lt x1 (nI (am_K M h1).2)
 (am_ob M r0 5 (am_gr (am_R M r0 14) (fun h2 => am_ix M h2 2 x1 (some (some (.int (am_I M h2 x1.toNatClampNeg)), M)) none) none) none)
 (some (some (.int (am_i (-1))), M))) none) none) none) :=
  show am_ev 36 d 0 [.ref r0, .int x1] [] M = _ from am_tree (cut := am_cut []) 13 rfl
-- 37: X5_refuse
set_option maxHeartbeats 2000000 in
set_option maxRecDepth 100000 in
theorem t37 (d : Nat) (M : am_M) (r0 : Nat) (x1 : Int32) :
  am_cl 37 d [.ref r0, .int x1] M =
 am_ob M r0 5 (am_gr (am_R M r0 14) (fun h1 => am_ix M h1 2 x1 (am_iw M h1 2 x1 (am_lt (am_sI M h1 x1.toNatClampNeg ((am_I M h1 x1.toNatClampNeg) + (am_i 1))) (fun M2 => some (some (.int (am_i (-1))), M2))) none) none) none) none :=
  show am_ev 37 d 0 [.ref r0, .int x1] [] M = _ from am_tree (cut := am_cut []) 11 rfl
-- 38: X5_feedNumber
set_option maxHeartbeats 2000000 in
set_option maxRecDepth 100000 in
theorem t38 (d : Nat) (M : am_M) (r0 : Nat) (x1 : Int32) :
  am_cl 38 d [.ref r0, .int x1] M =
 am_ev 38 d 3 [.ref r0, .int x1, .int (am_i 24)] [] M :=
  show am_ev 38 d 0 [.ref r0, .int x1, .null] [] M = _ from am_tree (cut := am_cut [3]) 3 rfl
set_option maxHeartbeats 2000000 in
set_option maxRecDepth 100000 in
theorem t38_3 (d : Nat) (M : am_M) (r0 : Nat) (x1 x2 : Int32) :
  am_ev 38 d 3 [.ref r0, .int x1, .int x2] [] M =
 am_br .lt x2 (am_i 0)
 (some (none, M))
 (am_ob M r0 5 (am_br .ge (am_I M r0 2) (am_i 1600)
 (am_ev 38 d 3 [.ref r0, .int x1, .int (x2 + am_i (-8))] [] M)
 (am_ob M r0 5 (am_gr (am_R M r0 1) (fun h1 => am_ob M r0 5 (am_iw M h1 2 (am_I M r0 2) (am_lt (am_sI M h1 (am_I M r0 2).toNatClampNeg ((x1 >>> (x2 &&& 31)) &&& (am_i 255))) (fun M2 => am_ob M2 r0 5 (am_ob M2 r0 5 (am_lt (am_sI M2 r0 2 ((am_I M2 r0 2) + (am_i 1))) (fun M3 => am_ev 38 d 3 [.ref r0, .int x1, .int (x2 + am_i (-8))] [] M3)) none) none)) none) none) none) none)) none) :=
  am_tree (cut := am_cut [3]) 25 rfl
-- 39: X5_takeTape
set_option maxHeartbeats 2000000 in
set_option maxRecDepth 100000 in
theorem t39 (d : Nat) (M : am_M) (r0 : Nat) :
  am_cl 39 d [.ref r0] M =
 am_ob M r0 5 (am_ob M r0 5 (am_lt (am_sI M r0 2 (am_i 0)) (fun M1 => some (some (.int (am_I M r0 2)), M1))) none) none :=
  show am_ev 39 d 0 [.ref r0, .null] [] M = _ from am_tree (cut := am_cut []) 9 rfl
-- 40: X5_isOne
set_option maxHeartbeats 2000000 in
set_option maxRecDepth 100000 in
theorem t40 (d : Nat) (M : am_M) (r0 : Nat) (x1 x2 : Int32) :
  am_cl 40 d [.ref r0, .int x1, .int x2] M =
 am_br .lt x2 (am_i 0)
 (am_tr (am_i 0) (some (some (.int (am_i 0)), M)) none)
 (am_ob M r0 5 (am_gr (am_R M r0 3) (fun h1 => am_ob M h1 1 (am_gr (am_R M h1 0) (fun h2 => am_ob M h2 2 (am_gr (am_R M h2 0) (fun h3 => am_ix M h3 2 x1 (am_br .ge x2 (am_I M h3 x1.toNatClampNeg)
 (am_tr (am_i 0) (some (some (.int (am_i 0)), M)) none)
 (am_tr (am_i 1) (some (some (.int (am_i 1)), M)) none)) none) none) none) none) none) none) none) :=
  show am_ev 40 d 0 [.ref r0, .int x1, .int x2] [] M = _ from am_tree (cut := am_cut []) 14 rfl
-- 41: X5_canPass
set_option maxHeartbeats 2000000 in
set_option maxRecDepth 100000 in
theorem t41 (d : Nat) (M : am_M) (r0 : Nat) (x1 x2 x3 : Int32) :
  am_cl 41 d [.ref r0, .int x1, .int x2, .int x3] M =
 am_br .lt x1 x2
 (am_tr (am_i 0) (some (some (.int (am_i 0)), M)) none)
 (am_br .gt x1 x3
 (am_tr (am_i 0) (some (some (.int (am_i 0)), M)) none)
 (am_ob M r0 5 (am_gr (am_R M r0 3) (fun h1 => am_ob M h1 1 (am_gr (am_R M h1 1) (fun h2 => am_ob M h2 0 (am_br .gt x1 ((am_i 23999) - (am_I M h2 0))
 (am_tr (am_i 0) (some (some (.int (am_i 0)), M)) none)
 (am_tr (am_i 1) (some (some (.int (am_i 1)), M)) none)) none) none) none) none) none)) :=
  show am_ev 41 d 0 [.ref r0, .int x1, .int x2, .int x3] [] M = _ from am_tree (cut := am_cut []) 18 rfl
-- 42: X5_sawTogether
set_option maxHeartbeats 2000000 in
set_option maxRecDepth 100000 in
theorem t42 (d : Nat) (M : am_M) (r0 : Nat) :
  am_cl 42 d [.ref r0] M =
 am_ev 42 d 4 [.ref r0, .int (am_i 0), .int (am_i 0)] [] M :=
  show am_ev 42 d 0 [.ref r0, .null, .null] [] M = _ from am_tree (cut := am_cut [4]) 5 rfl
set_option maxHeartbeats 2000000 in
set_option maxRecDepth 100000 in
theorem t42_4 (d : Nat) (M : am_M) (r0 : Nat) (x1 x2 : Int32) :
  am_ev 42 d 4 [.ref r0, .int x1, .int x2] [] M =
 am_ob M r0 5 (am_gr (am_R M r0 3) (fun h1 => am_ob M h1 1 (am_gr (am_R M h1 0) (fun h2 => am_ob M h2 2 (am_gr (am_R M h2 0) (fun h3 => am_ix M h3 2 (am_i 2) (am_br .ge x2 (am_I M h3 (am_i 2).toNatClampNeg)
 (some (some (.int x1), M))
 (am_ob M r0 5 (am_gr (am_R M r0 3) (fun h4 => am_ob M h4 1 (am_gr (am_R M h4 1) (fun h5 => am_ob M h5 0 (am_gr (am_R M h5 4) (fun h6 => am_ix M h6 2 x2 (am_ev 42 d 4 [.ref r0, .int (x1 + (am_I M h6 x2.toNatClampNeg)), .int (x2 + am_i 1)] [] M) none) none) none) none) none) none) none)) none) none) none) none) none) none) none :=
  am_tree (cut := am_cut [4]) 20 rfl
-- 43: X5_rememberAct
set_option maxHeartbeats 2000000 in
set_option maxRecDepth 100000 in
theorem t43 (d : Nat) (M : am_M) (r0 : Nat) :
  am_cl 43 (d + 1) [.ref r0] M =
 am_ob M r0 5 (am_br .ne (am_I M r0 7) (am_i 20)
 (am_ev 43 (d + 1) 32 [.ref r0] [] M)
 (am_ob M r0 5 (am_if ((am_i 20) = 0) none (am_lt ((am_I M r0 6) + (am_i 1)) (fun u1 => am_ob M r0 5 (am_lt (am_sI M r0 6 (u1 - u1 / (am_i 20) * (am_i 20))) (fun M2 => am_ob M2 r0 5 (am_ob M2 r0 5 (am_lt (am_sI M2 r0 7 ((am_I M2 r0 7) - (am_i 1))) (fun M3 => am_ev 43 (d + 1) 32 [.ref r0] [] M3)) none) none)) none))) none)) none :=
  show am_ev 43 (d + 1) 0 [.ref r0] [] M = _ from am_tree (cut := am_cut [32]) 19 rfl
set_option maxHeartbeats 2000000 in
set_option maxRecDepth 100000 in
theorem t43_32 (d : Nat) (M : am_M) (r0 : Nat) :
  am_ev 43 (d + 1) 32 [.ref r0] [] M =
 am_ob M r0 5 (am_gr (am_R M r0 5) (fun h1 => am_ob M r0 5 (am_ob M r0 5 (am_if ((am_i 20) = 0) none (am_lt ((am_I M r0 6) + (am_I M r0 7)) (fun u2 => am_iq M h1 (u2 - u2 / (am_i 20) * (am_i 20)) (am_gr (am_R M h1 (u2 - u2 / (am_i 20) * (am_i 20)).toNatClampNeg) (fun h3 => am_ob M r0 5 (am_gr (am_R M r0 3) (fun h4 => am_ob M h4 1 (am_gr (am_R M h4 1) (fun h5 => am_ob M h3 0 (am_bV (am_cl 66 d [.ref h3, .ref h5] M) (fun M6 => am_ob M6 r0 5 (am_ob M6 r0 5 (am_lt (am_sI M6 r0 7 ((am_I M6 r0 7) + (am_i 1))) (fun M7 => some (none, M7))) none) none)) none) none) none) none) none) none) none))) none) none) none) none :=
  am_tree (cut := am_cut [32]) 22 rfl
-- 44: X5_forgetActs
set_option maxHeartbeats 2000000 in
set_option maxRecDepth 100000 in
theorem t44 (d : Nat) (M : am_M) (r0 : Nat) :
  am_cl 44 d [.ref r0] M =
 am_ob M r0 5 (am_lt (am_sI M r0 7 (am_i 0)) (fun M1 => some (none, M1))) none :=
  show am_ev 44 d 0 [.ref r0] [] M = _ from am_tree (cut := am_cut []) 5 rfl
-- 45: X5_lookAhead
set_option maxHeartbeats 2000000 in
set_option maxRecDepth 100000 in
theorem t45 (d : Nat) (M : am_M) (r0 : Nat) (x1 x2 : Int32) :
  am_cl 45 (d + 1) [.ref r0, .int x1, .int x2] M =
 am_ob M r0 5 (am_gr (am_R M r0 4) (fun h1 => am_ob M r0 5 (am_gr (am_R M r0 3) (fun h2 => am_ob M h1 1 (am_bV (am_cl 72 d [.ref h1, .ref h2, .int x1] M) (fun M3 => am_ev 45 (d + 1) 14 [.ref r0, .int x1, .int x2, .int (am_i 0)] [] M3)) none) none) none) none) none :=
  show am_ev 45 (d + 1) 0 [.ref r0, .int x1, .int x2, .null] [] M = _ from am_tree (cut := am_cut [14]) 9 rfl
set_option maxHeartbeats 2000000 in
set_option maxRecDepth 100000 in
theorem t45_14 (d : Nat) (M : am_M) (r0 : Nat) (v1 : Value) (x2 x3 : Int32) :
  am_ev 45 (d + 1) 14 [.ref r0, v1, .int x2, .int x3] [] M =
 am_br .ge x3 x2
 (some (none, M))
 (am_ob M r0 5 (am_gr (am_R M r0 4) (fun h1 => am_ob M h1 1 (am_bI (am_cl 73 d [.ref h1] M) (fun c3 M2 => am_ev 45 (d + 1) 14 [.ref r0, v1, .int x2, .int (x3 + am_i 1)] [] M2)) none) none) none) :=
  am_tree (cut := am_cut [14]) 10 rfl
-- 46: X5_isAtRest
set_option maxHeartbeats 2000000 in
set_option maxRecDepth 100000 in
theorem t46 (d : Nat) (M : am_M) (r0 : Nat) (x1 x2 : Int32) :
  am_cl 46 d [.ref r0, .int x1, .int x2] M =
 am_ev 46 d 2 [.ref r0, .int x1, .int x2, .int (am_i 0), .null] [] M :=
  show am_ev 46 d 0 [.ref r0, .int x1, .int x2, .null, .null] [] M = _ from am_tree (cut := am_cut [2]) 3 rfl
set_option maxHeartbeats 2000000 in
set_option maxRecDepth 100000 in
theorem t46_2 (d : Nat) (M : am_M) (r0 : Nat) (x1 x2 x3 : Int32) (v4 : Value) :
  am_ev 46 d 2 [.ref r0, .int x1, .int x2, .int x3, v4] [] M =
 am_br .ge x3 x2
 (am_tr (am_i 1) (some (some (.int (am_i 1)), M)) none)
 (am_ob M r0 5 (am_gr (am_R M r0 12) (fun h1 => am_ix M h1 2 (((x1 ^^^ ((am_i 1) <<< (x3 &&& 31))) * (am_i 5)) + x3) (am_ob M r0 5 (am_gr (am_R M r0 12) (fun h2 => am_ix M h2 2 ((x1 * (am_i 5)) + x3) (am_br .le (am_I M h1 (((x1 ^^^ ((am_i 1) <<< (x3 &&& 31))) * (am_i 5)) + x3).toNatClampNeg) (am_I M h2 ((x1 * (am_i 5)) + x3).toNatClampNeg)
 (am_ev 46 d 2 [.ref r0, .int x1, .int x2, .int (x3 + am_i 1), .int (x1 ^^^ ((am_i 1) <<< (x3 &&& 31)))] [] M)
 (am_tr (am_i 0) (some (some (.int (am_i 0)), M)) none)) none) none) none) none) none) none) :=
  am_tree (cut := am_cut [2]) 29 rfl
-- 47: X5_sofaWorth
set_option maxHeartbeats 2000000 in
set_option maxRecDepth 100000 in
theorem t47 (d : Nat) (M : am_M) (r0 : Nat) (x1 x2 x3 : Int32) :
  am_cl 47 (d + 1) [.ref r0, .int x1, .int x2, .int x3] M =
 am_ev 47 (d + 1) 9 [.ref r0, .int x1, .int x2, .int x3, .int (am_i 0), .int (am_i (-1)), .int (am_i 0), .null] [] M :=
  show am_ev 47 (d + 1) 0 [.ref r0, .int x1, .int x2, .int x3, .null, .null, .null, .null] [] M = _ from am_tree (cut := am_cut [9]) 7 rfl
set_option maxHeartbeats 2000000 in
set_option maxRecDepth 100000 in
theorem t47_9 (d : Nat) (M : am_M) (r0 : Nat) (x1 x2 x3 x4 x5 x6 : Int32) (v7 : Value) :
  am_ev 47 (d + 1) 9 [.ref r0, .int x1, .int x2, .int x3, .int x4, .int x5, .int x6, v7] [] M =
 am_ob M r0 5 (am_gr (am_R M r0 3) (fun h1 => am_ob M h1 1 (am_gr (am_R M h1 0) (fun h2 => am_ob M h2 2 (am_gr (am_R M h2 0) (fun h3 => am_ix M h3 2 (am_i 2) (am_br .ge x6 (am_I M h3 (am_i 2).toNatClampNeg)
 (am_br .eq x3 (am_i 0)
 (some (some (.int x4), M))
 (some (some (.int x5), M)))
 (am_br .ne ((x1 >>> (x6 &&& 31)) &&& (am_i 1)) (am_i 1)
 (am_ev 47 (d + 1) 9 [.ref r0, .int x1, .int x2, .int x3, .int x4, .int x5, .int (x6 + am_i 1), v7] [] M)
 (am_ob M r0 5 (am_gr (am_R M r0 3) (fun h4 => am_ob M h4 1 (am_gr (am_R M h4 0) (fun h5 => am_ob M h5 2 (am_bI (am_cl 88 d [.ref h5, .int x6, .int x2] M) (fun c7 M6 => am_br .ne x5 (am_i (-1))
 (am_bI (am_cl 276 d [.int x5, .int c7] M6) (fun c9 M8 => am_ev 47 (d + 1) 9 [.ref r0, .int x1, .int x2, .int x3, .int (x4 + c7), .int c9, .int (x6 + am_i 1), .int c7] [] M8))
 (am_ev 47 (d + 1) 9 [.ref r0, .int x1, .int x2, .int x3, .int (x4 + c7), .int c7, .int (x6 + am_i 1), .int c7] [] M6))) none) none) none) none) none))) none) none) none) none) none) none) none :=
  am_tree (cut := am_cut [9]) 36 rfl
-- 48: X5_countVotes
set_option maxHeartbeats 2000000 in
set_option maxRecDepth 100000 in
theorem t48 (d : Nat) (M : am_M) (r0 : Nat) (x1 : Int32) :
  am_cl 48 (d + 1) [.ref r0, .int x1] M =
 am_ev 48 (d + 1) 2 [.ref r0, .int x1, .int (am_i 0), .null] [] M :=
  show am_ev 48 (d + 1) 0 [.ref r0, .int x1, .null, .null] [] M = _ from am_tree (cut := am_cut [2, 23, 63]) 3 rfl
set_option maxHeartbeats 2000000 in
set_option maxRecDepth 100000 in
theorem t48_2 (d : Nat) (M : am_M) (r0 : Nat) (x1 x2 : Int32) (v3 : Value) :
  am_ev 48 (d + 1) 2 [.ref r0, .int x1, .int x2, v3] [] M =
 am_br .ge x2 (am_i 8)
 (am_ev 48 (d + 1) 23 [.ref r0, .int x1, .int (am_i 0), v3] [] M)
 (am_ob M r0 5 (am_gr (am_R M r0 13) (fun h1 => am_iw M h1 2 x2 (am_lt (am_sI M h1 x2.toNatClampNeg (am_i 0)) (fun M2 => am_ev 48 (d + 1) 2 [.ref r0, .int x1, .int (x2 + am_i 1), v3] [] M2)) none) none) none) :=
  am_tree (cut := am_cut [2, 23, 63]) 11 rfl
set_option maxHeartbeats 2000000 in
set_option maxRecDepth 100000 in
theorem t48_23 (d : Nat) (M : am_M) (r0 : Nat) (x1 x2 : Int32) (v3 : Value) :
  am_ev 48 (d + 1) 23 [.ref r0, .int x1, .int x2, v3] [] M =
 am_ob M r0 5 (am_gr (am_R M r0 3) (fun h1 => am_ob M h1 1 (am_gr (am_R M h1 0) (fun h2 => am_ob M h2 2 (am_gr (am_R M h2 0) (fun h3 => am_ix M h3 2 (am_i 2) (am_br .ge x2 (am_I M h3 (am_i 2).toNatClampNeg)
 (some (none, M))
 (am_br .ne ((x1 >>> (x2 &&& 31)) &&& (am_i 1)) (am_i 1)
 (am_ev 48 (d + 1) 63 [.ref r0, .int x1, .int x2, v3] [.int (am_i (-1))] M)
 (am_ob M r0 5 (am_gr (am_R M r0 3) (fun h4 => am_ob M h4 1 (am_gr (am_R M h4 0) (fun h5 => am_ob M h5 2 (am_bI (am_cl 89 d [.ref h5, .int x2] M) (fun c7 M6 => am_ev 48 (d + 1) 63 [.ref r0, .int x1, .int x2, v3] [.int c7] M6)) none) none) none) none) none))) none) none) none) none) none) none) none :=
  am_tree (cut := am_cut [2, 23, 63]) 22 rfl
set_option maxHeartbeats 2000000 in
set_option maxRecDepth 100000 in
theorem t48_63 (d : Nat) (M : am_M) (r0 : Nat) (x1 x2 sx0 : Int32) (v3 : Value) :
  am_ev 48 (d + 1) 63 [.ref r0, .int x1, .int x2, v3] [.int sx0] M =
 am_br .eq sx0 (am_i (-1))
 (am_ev 48 (d + 1) 23 [.ref r0, .int x1, .int (x2 + am_i 1), .int sx0] [] M)
 (am_ob M r0 5 (am_gr (am_R M r0 13) (fun h1 => am_ix M h1 2 sx0 (am_iw M h1 2 sx0 (am_lt (am_sI M h1 sx0.toNatClampNeg ((am_I M h1 sx0.toNatClampNeg) + (am_i 1))) (fun M2 => am_ev 48 (d + 1) 23 [.ref r0, .int x1, .int (x2 + am_i 1), .int sx0] [] M2)) none) none) none) none) :=
  am_tree (cut := am_cut [2, 23, 63]) 15 rfl
-- 49: X5_toldHours
set_option maxHeartbeats 2000000 in
set_option maxRecDepth 100000 in
theorem t49 (d : Nat) (M : am_M) (r0 : Nat) :
  am_cl 49 (d + 1) [.ref r0] M =
 am_ev 49 (d + 1) 4 [.ref r0, .int (am_i 0), .int (am_i 0)] [] M :=
  show am_ev 49 (d + 1) 0 [.ref r0, .null, .null] [] M = _ from am_tree (cut := am_cut [4]) 5 rfl
set_option maxHeartbeats 2000000 in
set_option maxRecDepth 100000 in
theorem t49_4 (d : Nat) (M : am_M) (r0 : Nat) (x1 x2 : Int32) :
  am_ev 49 (d + 1) 4 [.ref r0, .int x1, .int x2] [] M =
 am_ob M r0 5 (am_br .ge x2 (am_I M r0 9)
 (some (some (.int x1), M))
 (am_ob M r0 5 (am_gr (am_R M r0 8) (fun h1 => am_ix M h1 2 ((am_i 3) * x2) (am_bI (am_cl 274 d [.int x1, .int ((am_I M h1 ((am_i 3) * x2).toNatClampNeg) + (am_i 1))] M) (fun c3 M2 => am_ev 49 (d + 1) 4 [.ref r0, .int c3, .int (x2 + am_i 1)] [] M2)) none) none) none)) none :=
  am_tree (cut := am_cut [4]) 18 rfl
-- 50: X5_isAsTold
set_option maxHeartbeats 2000000 in
set_option maxRecDepth 100000 in
theorem t50 (d : Nat) (M : am_M) (r0 : Nat) (x1 x2 : Int32) :
  am_cl 50 (d + 1) [.ref r0, .int x1, .int x2] M =
 am_ob M r0 5 (am_gr (am_R M r0 4) (fun h1 => am_ob M r0 5 (am_gr (am_R M r0 3) (fun h2 => am_ob M h1 1 (am_bV (am_cl 72 d [.ref h1, .ref h2, .int x1] M) (fun M3 => am_ev 50 (d + 1) 14 [.ref r0, .int x1, .int x2, .int (am_i 0), .null, .null] [] M3)) none) none) none) none) none :=
  show am_ev 50 (d + 1) 0 [.ref r0, .int x1, .int x2, .null, .null, .null] [] M = _ from am_tree (cut := am_cut [14, 30, 57]) 9 rfl
set_option maxHeartbeats 2000000 in
set_option maxRecDepth 100000 in
theorem t50_14 (d : Nat) (M : am_M) (r0 : Nat) (v1 v4 v5 : Value) (x2 x3 : Int32) :
  am_ev 50 (d + 1) 14 [.ref r0, v1, .int x2, .int x3, v4, v5] [] M =
 am_br .ge x3 x2
 (am_tr (am_i 1) (some (some (.int (am_i 1)), M)) none)
 (am_ob M r0 5 (am_gr (am_R M r0 4) (fun h1 => am_ob M h1 1 (am_bI (am_cl 73 d [.ref h1] M) (fun c3 M2 => am_ev 50 (d + 1) 30 [.ref r0, v1, .int x2, .int x3, .int (am_i 0), v5] [] M2)) none) none) none) :=
  am_tree (cut := am_cut [14, 30, 57]) 10 rfl
set_option maxHeartbeats 2000000 in
set_option maxRecDepth 100000 in
theorem t50_30 (d : Nat) (M : am_M) (r0 : Nat) (v1 v5 : Value) (x2 x3 x4 : Int32) :
  am_ev 50 (d + 1) 30 [.ref r0, v1, .int x2, .int x3, .int x4, v5] [] M =
 am_ob M r0 5 (am_br .ge x4 (am_I M r0 9)
 (am_ev 50 (d + 1) 14 [.ref r0, v1, .int x2, .int (x3 + am_i 1), .int x4, v5] [] M)
 (am_ob M r0 5 (am_gr (am_R M r0 8) (fun h1 => am_ix M h1 2 ((am_i 3) * x4) (am_br .ne (am_I M h1 ((am_i 3) * x4).toNatClampNeg) x3
 (am_ev 50 (d + 1) 57 [.ref r0, v1, .int x2, .int x3, .int x4, v5] [.int (am_i 0)] M)
 (am_ev 50 (d + 1) 57 [.ref r0, v1, .int x2, .int x3, .int x4, v5] [.int (am_i 1)] M)) none) none) none)) none :=
  am_tree (cut := am_cut [14, 30, 57]) 15 rfl
set_option maxHeartbeats 2000000 in
set_option maxRecDepth 100000 in
theorem t50_57 (d : Nat) (M : am_M) (r0 : Nat) (v1 v5 : Value) (x2 x3 x4 sx0 : Int32) :
  am_ev 50 (d + 1) 57 [.ref r0, v1, .int x2, .int x3, .int x4, v5] [.int sx0] M =
 am_br .eq sx0 (am_i 0)
 (am_ev 50 (d + 1) 30 [.ref r0, v1, .int x2, .int x3, .int (x4 + am_i 1), .int sx0] [] M)
 (am_ob M r0 5 (am_gr (am_R M r0 4) (fun h1 => am_ob M h1 1 (am_ob M r0 5 (am_gr (am_R M r0 8) (fun h2 => am_ix M h2 2 (((am_i 3) * x4) + (am_i 1)) (am_ob M r0 5 (am_gr (am_R M r0 8) (fun h3 => am_ix M h3 2 (((am_i 3) * x4) + (am_i 2)) (am_br .eq (((am_I M h1 4) >>> ((am_I M h2 (((am_i 3) * x4) + (am_i 1)).toNatClampNeg) &&& 31)) &&& (am_i 1)) (am_I M h3 (((am_i 3) * x4) + (am_i 2)).toNatClampNeg)
 (am_ev 50 (d + 1) 30 [.ref r0, v1, .int x2, .int x3, .int (x4 + am_i 1), .int sx0] [] M)
 (am_tr (am_i 0) (some (some (.int (am_i 0)), M)) none)) none) none) none) none) none) none) none) none) none) :=
  am_tree (cut := am_cut [14, 30, 57]) 29 rfl
-- 51: X5_strangerSees
set_option maxHeartbeats 2000000 in
set_option maxRecDepth 100000 in
theorem t51 (d : Nat) (M : am_M) (r0 : Nat) :
  am_cl 51 (d + 1) [.ref r0] M =
 am_ob M r0 5 (am_gr (am_R M r0 3) (fun h1 => am_ob M h1 1 (am_gr (am_R M h1 0) (fun h2 => am_ob M h2 2 (am_gr (am_R M h2 0) (fun h3 => am_ix M h3 2 (am_i 1) (am_ob M r0 5 (am_bI (am_cl 52 d [.ref r0, .int (am_i 100)] M) (fun c5 M4 => am_ob M4 r0 5 (am_gr (am_R M4 r0 3) (fun h6 => am_ob M4 h6 1 (am_gr (am_R M4 h6 0) (fun h7 => am_ob M4 h7 2 (am_br .ge c5 (am_I M4 h7 11)
 (am_tr (am_i 0) (some (some (.int (am_i 0)), M4)) none)
 (am_br .ne (am_I M h3 (am_i 1).toNatClampNeg) (am_i 0)
 (am_ob M4 r0 5 (am_bI (am_cl 52 d [.ref r0, .int (am_I M h3 (am_i 1).toNatClampNeg)] M4) (fun c9 M8 => am_ob M8 r0 5 (am_gr (am_R M8 r0 3) (fun h10 => am_ob M8 h10 1 (am_gr (am_R M8 h10 1) (fun h11 => am_ob M8 h11 0 (am_gr (am_R M8 h11 3) (fun h12 => am_ix M8 h12 2 c9 (am_ob M8 r0 5 (am_gr (am_R M8 r0 3) (fun h13 => am_ob M8 h13 1 (am_gr (am_R M8 h13 0) (fun h14 => am_ob M8 h14 2 (am_gr (am_R M8 h14 2) (fun h15 => am_ix M8 h15 2 c9 (am_br .lt (am_I M8 h12 c9.toNatClampNeg) (am_I M8 h15 c9.toNatClampNeg)
 (am_ob M8 r0 5 (am_gr (am_R M8 r0 3) (fun h16 => am_ob M8 h16 1 (am_bV (am_cl 77 d [.ref h16, .int (am_i 0), .int c9, .int (am_i 9)] M8) (fun M17 => am_tr (am_i 1) (some (some (.int (am_i 1)), M17)) none)) none) none) none)
 (am_tr (am_i 0) (some (some (.int (am_i 0)), M8)) none)) none) none) none) none) none) none) none) none) none) none) none) none) none) none)) none)
 (am_tr (am_i 0) (some (some (.int (am_i 0)), M4)) none))) none) none) none) none) none)) none) none) none) none) none) none) none) none :=
  show am_ev 51 (d + 1) 0 [.ref r0, .null, .null] [] M = _ from am_tree (cut := am_cut []) 43 rfl
-- 52: X5_draw
set_option maxHeartbeats 2000000 in
set_option maxRecDepth 100000 in
theorem t52 (d : Nat) (M : am_M) (r0 : Nat) (x1 : Int32) :
  am_cl 52 d [.ref r0, .int x1] M =
 am_ob M r0 5 (am_ob M r0 5 (am_lt (am_sI M r0 15 ((((am_l 1103515245) * (am_I M r0 15).toInt64) + (am_l 12345)) &&& (am_l 2147483647)).toInt32) (fun M1 => am_br .ge x1 (am_i 1)
 (am_ob M1 r0 5 (am_if ((am_i 64) = 0) none (am_if (x1 = 0) none (am_lt ((am_I M1 r0 15) / (am_i 64)) (fun u2 => some (some (.int (u2 - u2 / x1 * x1)), M1))))) none)
 (some (some (.int (am_i 0)), M1)))) none) none :=
  show am_ev 52 d 0 [.ref r0, .int x1] [] M = _ from am_tree (cut := am_cut []) 23 rfl
-- 53: X5_filmThatHolds
set_option maxHeartbeats 2000000 in
set_option maxRecDepth 100000 in
theorem t53 (d : Nat) (M : am_M) (r0 : Nat) (x1 x2 : Int32) :
  am_cl 53 (d + 1) [.ref r0, .int x1, .int x2] M =
 am_ob M r0 5 (am_gr (am_R M r0 3) (fun h1 => am_ob M h1 1 (am_gr (am_R M h1 0) (fun h2 => am_ob M h2 2 (am_gr (am_R M h2 0) (fun h3 => am_ix M h3 2 (am_i 1) (am_ev 53 (d + 1) 16 [.ref r0, .int x1, .int x2, .int (am_I M h3 (am_i 1).toNatClampNeg), .int (am_i 0), .null] [] M) none) none) none) none) none) none) none :=
  show am_ev 53 (d + 1) 0 [.ref r0, .int x1, .int x2, .null, .null, .null] [] M = _ from am_tree (cut := am_cut [16, 37]) 10 rfl
set_option maxHeartbeats 2000000 in
set_option maxRecDepth 100000 in
theorem t53_16 (d : Nat) (M : am_M) (r0 : Nat) (x1 x2 x3 x4 : Int32) (v5 : Value) :
  am_ev 53 (d + 1) 16 [.ref r0, .int x1, .int x2, .int x3, .int x4, v5] [] M =
 am_br .ge x4 x3
 (some (some (.long (am_l (-1))), M))
 (am_br .eq x2 (am_i 0)
 (am_ev 53 (d + 1) 37 [.ref r0, .int x1, .int x2, .int x3, .int x4, v5] [.int ((x3 - (am_i 1)) - x4)] M)
 (am_ev 53 (d + 1) 37 [.ref r0, .int x1, .int x2, .int x3, .int x4, v5] [.int x4] M)) :=
  am_tree (cut := am_cut [16, 37]) 11 rfl
set_option maxHeartbeats 2000000 in
set_option maxRecDepth 100000 in
theorem t53_37 (d : Nat) (M : am_M) (r0 : Nat) (x1 x2 x3 x4 sx0 : Int32) (v5 : Value) :
  am_ev 53 (d + 1) 37 [.ref r0, .int x1, .int x2, .int x3, .int x4, v5] [.int sx0] M =
 am_ob M r0 5 (am_gr (am_R M r0 3) (fun h1 => am_ob M r0 5 (am_gr (am_R M r0 0) (fun h2 => am_ob M h2 4 (am_gr (am_R M h2 4) (fun h3 => am_ob M h1 1 (am_bI (am_cl 78 d [.ref h1, .ref h3, .int x1, .int sx0] M) (fun c5 M4 => am_br .eq c5 (am_i 0)
 (am_ev 53 (d + 1) 16 [.ref r0, .int x1, .int x2, .int x3, .int (x4 + am_i 1), .int sx0] [] M4)
 (some (some (.long sx0.toInt64), M4)))) none) none) none) none) none) none) none :=
  am_tree (cut := am_cut [16, 37]) 14 rfl
-- 54: X5_totalOf
set_option maxHeartbeats 2000000 in
set_option maxRecDepth 100000 in
theorem t54 (d : Nat) (M : am_M) (r0 : Nat) (x1 : Int32) :
  am_cl 54 (d + 1) [.ref r0, .int x1] M =
 am_ev 54 (d + 1) 5 [.ref r0, .int x1, .long (am_l 0), .null, .int (am_i 0)] [] M :=
  show am_ev 54 (d + 1) 0 [.ref r0, .int x1, .null, .null, .null] [] M = _ from am_tree (cut := am_cut [5]) 5 rfl
set_option maxHeartbeats 2000000 in
set_option maxRecDepth 100000 in
theorem t54_5 (d : Nat) (M : am_M) (r0 : Nat) (x1 x4 : Int32) (y2 : Int64) (v3 : Value) :
  am_ev 54 (d + 1) 5 [.ref r0, .int x1, .long y2, v3, .int x4] [] M =
 am_ob M r0 5 (am_gr (am_R M r0 3) (fun h1 => am_ob M h1 1 (am_gr (am_R M h1 0) (fun h2 => am_ob M h2 2 (am_gr (am_R M h2 0) (fun h3 => am_ix M h3 2 (am_i 1) (am_br .ge x4 (am_I M h3 (am_i 1).toNatClampNeg)
 (some (some (.long y2), M))
 (am_ob M r0 5 (am_gr (am_R M r0 3) (fun h4 => am_ob M r0 5 (am_gr (am_R M r0 0) (fun h5 => am_ob M h5 4 (am_gr (am_R M h5 4) (fun h6 => am_ob M h4 1 (am_bI (am_cl 78 d [.ref h4, .ref h6, .int x1, .int x4] M) (fun c8 M7 => am_ev 54 (d + 1) 5 [.ref r0, .int x1, .long (y2 + c8.toInt64), .null, .int (x4 + am_i 1)] [] M7)) none) none) none) none) none) none) none)) none) none) none) none) none) none) none :=
  am_tree (cut := am_cut [5]) 23 rfl
-- 55: X5_extremeOf
set_option maxHeartbeats 2000000 in
set_option maxRecDepth 100000 in
theorem t55 (d : Nat) (M : am_M) (r0 : Nat) (x1 x2 : Int32) :
  am_cl 55 (d + 1) [.ref r0, .int x1, .int x2] M =
 am_ev 55 (d + 1) 5 [.ref r0, .int x1, .int x2, .int (am_i 0), .int (am_i 0), .null] [] M :=
  show am_ev 55 (d + 1) 0 [.ref r0, .int x1, .int x2, .null, .null, .null] [] M = _ from am_tree (cut := am_cut [5]) 5 rfl
set_option maxHeartbeats 2000000 in
set_option maxRecDepth 100000 in
theorem t55_5 (d : Nat) (M : am_M) (r0 : Nat) (x1 x2 x3 x4 : Int32) (v5 : Value) :
  am_ev 55 (d + 1) 5 [.ref r0, .int x1, .int x2, .int x3, .int x4, v5] [] M =
 am_ob M r0 5 (am_gr (am_R M r0 3) (fun h1 => am_ob M h1 1 (am_gr (am_R M h1 0) (fun h2 => am_ob M h2 2 (am_gr (am_R M h2 0) (fun h3 => am_ix M h3 2 (am_i 1) (am_br .ge x4 (am_I M h3 (am_i 1).toNatClampNeg)
 (some (some (.long x3.toInt64), M))
 (am_ob M r0 5 (am_gr (am_R M r0 3) (fun h4 => am_ob M r0 5 (am_gr (am_R M r0 0) (fun h5 => am_ob M h5 4 (am_gr (am_R M h5 4) (fun h6 => am_ob M h4 1 (am_bI (am_cl 78 d [.ref h4, .ref h6, .int x1, .int x4] M) (fun c8 M7 => am_br .eq x4 (am_i 0)
 (am_ev 55 (d + 1) 5 [.ref r0, .int x1, .int x2, .int c8, .int (x4 + am_i 1), .int c8] [] M7)
 (am_br .eq x2 (am_i 0)
 (am_br .ge c8 x3
 (am_ev 55 (d + 1) 5 [.ref r0, .int x1, .int x2, .int x3, .int (x4 + am_i 1), .int c8] [] M7)
 (am_ev 55 (d + 1) 5 [.ref r0, .int x1, .int x2, .int c8, .int (x4 + am_i 1), .int c8] [] M7))
 (am_br .le c8 x3
 (am_ev 55 (d + 1) 5 [.ref r0, .int x1, .int x2, .int x3, .int (x4 + am_i 1), .int c8] [] M7)
 (am_ev 55 (d + 1) 5 [.ref r0, .int x1, .int x2, .int c8, .int (x4 + am_i 1), .int c8] [] M7))))) none) none) none) none) none) none) none)) none) none) none) none) none) none) none :=
  am_tree (cut := am_cut [5]) 30 rfl
-- 56: X5_putTwo
set_option maxHeartbeats 2000000 in
set_option maxRecDepth 100000 in
theorem t56 (d : Nat) (M : am_M) (r0 : Nat) (x1 : Int32) :
  am_cl 56 (d + 1) [.ref r0, .int x1] M =
 am_ob M r0 5 (am_bV (am_cl 57 d [.ref r0, .int (x1 >>> ((am_i 8) &&& 31))] M) (fun M1 => am_ob M1 r0 5 (am_bV (am_cl 57 d [.ref r0, .int (x1 &&& (am_i 255))] M1) (fun M2 => some (none, M2))) none)) none :=
  show am_ev 56 (d + 1) 0 [.ref r0, .int x1] [] M = _ from am_tree (cut := am_cut []) 12 rfl
-- 57: X5_putByte
set_option maxHeartbeats 2000000 in
set_option maxRecDepth 100000 in
theorem t57 (d : Nat) (M : am_M) (r0 : Nat) (x1 : Int32) :
  am_cl 57 d [.ref r0, .int x1] M =
 am_ob M r0 5 (am_br .ge (am_I M r0 11) (am_i 139)
 (some (none, M))
 (am_ob M r0 5 (am_gr (am_R M r0 10) (fun h1 => am_ob M r0 5 (am_iw M h1 2 (am_I M r0 11) (am_lt (am_sI M h1 (am_I M r0 11).toNatClampNeg x1) (fun M2 => am_ob M2 r0 5 (am_ob M2 r0 5 (am_lt (am_sI M2 r0 11 ((am_I M2 r0 11) + (am_i 1))) (fun M3 => some (none, M3))) none) none)) none) none) none) none)) none :=
  show am_ev 57 d 0 [.ref r0, .int x1] [] M = _ from am_tree (cut := am_cut []) 18 rfl
-- 58: X5_checkByte
set_option maxHeartbeats 2000000 in
set_option maxRecDepth 100000 in
theorem t58 (d : Nat) (M : am_M) (r0 r1 : Nat) (x2 : Int32) :
  am_cl 58 d [.ref r0, .ref r1, .int x2] M =
 am_ev 58 d 6 [.ref r0, .ref r1, .int x2, .int (am_i 53), .int (am_i 0)] [] M :=
  show am_ev 58 d 0 [.ref r0, .ref r1, .int x2, .null, .null] [] M = _ from am_tree (cut := am_cut [6]) 5 rfl
set_option maxHeartbeats 2000000 in
set_option maxRecDepth 100000 in
theorem t58_6 (d : Nat) (M : am_M) (v0 : Value) (r1 : Nat) (x2 x3 x4 : Int32) :
  am_ev 58 d 6 [v0, .ref r1, .int x2, .int x3, .int x4] [] M =
 am_br .ge x4 x2
 (some (some (.int x3), M))
 (am_if (2 ≤ (am_K M r1).1 ∧ (am_K M r1).1 ≤ 6) (am_br .ge x4 (nI (am_K M r1).2)
 (some (some (.int x3), M))
 (am_ix M r1 2 x4 (am_if ((am_i 251) = 0) none (am_lt (((am_i 3) * x3) + (am_I M r1 x4.toNatClampNeg)) (fun u1 => am_ev 58 d 6 [v0, .ref r1, .int x2, .int (u1 - u1 / (am_i 251) * (am_i 251)), .int (x4 + am_i 1)] [] M))) none)) none) :=
  am_tree (cut := am_cut [6]) 20 rfl
-- 59: X5_lengthOfImage
set_option maxHeartbeats 2000000 in
set_option maxRecDepth 100000 in
theorem t59 (d : Nat) (M : am_M) (r0 : Nat) :
  am_cl 59 d [.ref r0] M =
 am_ob M r0 5 (am_gr (am_R M r0 3) (fun h1 => am_ob M h1 1 (am_gr (am_R M h1 0) (fun h2 => am_ob M h2 2 (am_gr (am_R M h2 0) (fun h3 => am_ix M h3 2 (am_i 2) (am_ob M r0 5 (am_gr (am_R M r0 3) (fun h4 => am_ob M h4 1 (am_gr (am_R M h4 0) (fun h5 => am_ob M h5 2 (am_gr (am_R M h5 0) (fun h6 => am_ix M h6 2 (am_i 0) (am_ob M r0 5 (am_gr (am_R M r0 3) (fun h7 => am_ob M h7 1 (am_gr (am_R M h7 0) (fun h8 => am_ob M h8 2 (am_gr (am_R M h8 0) (fun h9 => am_ix M h9 2 (am_i 1) (am_lt (((am_i 2) * (am_I M h6 (am_i 0).toNatClampNeg)) + (am_I M h9 (am_i 1).toNatClampNeg)) (fun u10 => some (some (.int (((am_i 4) + (((am_I M h3 (am_i 2).toNatClampNeg) + (am_i 1)) * u10)) + ((am_i 3) * (am_I M h3 (am_i 2).toNatClampNeg)))), M))) none) none) none) none) none) none) none) none) none) none) none) none) none) none) none) none) none) none) none) none) none :=
  show am_ev 59 d 0 [.ref r0, .null, .null] [] M = _ from am_tree (cut := am_cut []) 36 rfl
-- 60: X5_tapeByte
set_option maxHeartbeats 2000000 in
set_option maxRecDepth 100000 in
theorem t60 (d : Nat) (M : am_M) (r0 : Nat) (x1 : Int32) :
  am_cl 60 d [.ref r0, .int x1] M =
 am_br .lt x1 (am_i 0)
 (some (some (.int (am_i 0)), M))
 (am_br .ge x1 (am_i 1600)
 (some (some (.int (am_i 0)), M))
 (am_ob M r0 5 (am_gr (am_R M r0 1) (fun h1 => am_ix M h1 2 x1 (some (some (.int (am_I M h1 x1.toNatClampNeg)), M)) none) none) none)) :=
  show am_ev 60 d 0 [.ref r0, .int x1] [] M = _ from am_tree (cut := am_cut []) 12 rfl
-- 61: X5_tapeTwo
set_option maxHeartbeats 2000000 in
set_option maxRecDepth 100000 in
theorem t61 (d : Nat) (M : am_M) (r0 : Nat) (x1 : Int32) :
  am_cl 61 (d + 1) [.ref r0, .int x1] M =
 am_ob M r0 5 (am_bI (am_cl 60 d [.ref r0, .int x1] M) (fun c2 M1 => am_ob M1 r0 5 (am_bI (am_cl 60 d [.ref r0, .int (x1 + (am_i 1))] M1) (fun c4 M3 => some (some (.int ((c2 * (am_i 256)) + c4)), M3))) none)) none :=
  show am_ev 61 (d + 1) 0 [.ref r0, .int x1] [] M = _ from am_tree (cut := am_cut []) 13 rfl
-- 62: X5_readProfiles
set_option maxHeartbeats 2000000 in
set_option maxRecDepth 100000 in
theorem t62 (d : Nat) (M : am_M) (r0 r1 : Nat) :
  am_cl 62 (d + 1) [.ref r0, .ref r1] M =
 am_ob M r1 0 (am_bV (am_cl 65 d [.ref r1] M) (fun M1 => am_ob M1 r0 5 (am_bI (am_cl 61 d [.ref r0, .int (am_i 0)] M1) (fun c3 M2 => am_ob M2 r0 5 (am_bI (am_cl 60 d [.ref r0, .int (am_i 2)] M2) (fun c5 M4 => am_br .gt c3 (am_i 999)
 (am_ev 62 (d + 1) 34 [.ref r0, .ref r1, .int c3, .int c5, .null, .null, .null, .null] [.int (am_i 0)] M4)
 (am_br .ge c5 (am_i 24)
 (am_ev 62 (d + 1) 34 [.ref r0, .ref r1, .int c3, .int c5, .null, .null, .null, .null] [.int (am_i 0)] M4)
 (am_ev 62 (d + 1) 34 [.ref r0, .ref r1, .int c3, .int c5, .null, .null, .null, .null] [.int (am_i 1)] M4)))) none)) none)) none :=
  show am_ev 62 (d + 1) 0 [.ref r0, .ref r1, .null, .null, .null, .null, .null, .null] [] M = _ from am_tree (cut := am_cut [34, 61, 81, 153]) 19 rfl
set_option maxHeartbeats 2000000 in
set_option maxRecDepth 100000 in
theorem t62_34 (d : Nat) (M : am_M) (r0 r1 : Nat) (x2 x3 sx0 : Int32) (v4 v5 v6 v7 : Value) :
  am_ev 62 (d + 1) 34 [.ref r0, .ref r1, .int x2, .int x3, v4, v5, v6, v7] [.int sx0] M =
 am_br .eq sx0 (am_i 0)
 (am_ob M r1 0 (am_lt (am_sI M r1 0 (am_i 0)) (fun M1 => am_ev 62 (d + 1) 61 [.ref r0, .ref r1, .int x2, .int x3, .int sx0, .int (am_i 3), .int (am_i 0), v7] [] M1)) none)
 (am_ob M r1 0 (am_lt (am_sI M r1 0 ((x2 * (am_i 24)) + x3)) (fun M2 => am_ev 62 (d + 1) 61 [.ref r0, .ref r1, .int x2, .int x3, .int sx0, .int (am_i 3), .int (am_i 0), v7] [] M2)) none) :=
  am_tree (cut := am_cut [34, 61, 81, 153]) 16 rfl
set_option maxHeartbeats 2000000 in
set_option maxRecDepth 100000 in
theorem t62_61 (d : Nat) (M : am_M) (r0 r1 : Nat) (v2 v3 v7 : Value) (x4 x5 x6 : Int32) :
  am_ev 62 (d + 1) 61 [.ref r0, .ref r1, v2, v3, .int x4, .int x5, .int x6, v7] [] M =
 am_ob M r0 5 (am_gr (am_R M r0 3) (fun h1 => am_ob M h1 1 (am_gr (am_R M h1 0) (fun h2 => am_ob M h2 2 (am_gr (am_R M h2 0) (fun h3 => am_ix M h3 2 (am_i 2) (am_br .gt x6 (am_I M h3 (am_i 2).toNatClampNeg)
 (am_tr x4 (some (some (.int x4), M)) none)
 (am_ev 62 (d + 1) 81 [.ref r0, .ref r1, v2, v3, .int x4, .int x5, .int x6, .int (am_i 0)] [] M)) none) none) none) none) none) none) none :=
  am_tree (cut := am_cut [34, 61, 81, 153]) 11 rfl
set_option maxHeartbeats 2000000 in
set_option maxRecDepth 100000 in
theorem t62_81 (d : Nat) (M : am_M) (r0 r1 : Nat) (v2 v3 : Value) (x4 x5 x6 x7 : Int32) :
  am_ev 62 (d + 1) 81 [.ref r0, .ref r1, v2, v3, .int x4, .int x5, .int x6, .int x7] [] M =
 am_ob M r0 5 (am_gr (am_R M r0 3) (fun h1 => am_ob M h1 1 (am_gr (am_R M h1 0) (fun h2 => am_ob M h2 2 (am_gr (am_R M h2 0) (fun h3 => am_ix M h3 2 (am_i 0) (am_br .ge x7 (am_I M h3 (am_i 0).toNatClampNeg)
 (am_ev 62 (d + 1) 153 [.ref r0, .ref r1, v2, v3, .int x4, .int x5, .int x6, .int (am_i 0)] [] M)
 (am_ob M r1 0 (am_gr (am_R M r1 2) (fun h4 => am_ob M r0 5 (am_bI (am_cl 61 d [.ref r0, .int x5] M) (fun c6 M5 => am_iw M5 h4 2 ((x6 * (am_i 6)) + x7) (am_lt (am_sI M5 h4 ((x6 * (am_i 6)) + x7).toNatClampNeg c6) (fun M7 => am_br .eq x4 (am_i 0)
 (am_ev 62 (d + 1) 81 [.ref r0, .ref r1, v2, (am_kl v3), .int (am_i 0), .int (x5 + am_i 2), .int x6, .int (x7 + am_i 1)] [] M7)
 (am_ob M7 r0 5 (am_bI (am_cl 61 d [.ref r0, .int x5] M7) (fun c9 M8 => am_br .gt c9 (am_i 999)
 (am_ev 62 (d + 1) 81 [.ref r0, .ref r1, v2, (am_kl v3), .int (am_i 0), .int (x5 + am_i 2), .int x6, .int (x7 + am_i 1)] [] M8)
 (am_ev 62 (d + 1) 81 [.ref r0, .ref r1, v2, (am_kl v3), .int (am_i 1), .int (x5 + am_i 2), .int x6, .int (x7 + am_i 1)] [] M8))) none))) none)) none) none) none)) none) none) none) none) none) none) none :=
  am_tree (cut := am_cut [34, 61, 81, 153]) 33 rfl
set_option maxHeartbeats 2000000 in
set_option maxRecDepth 100000 in
theorem t62_153 (d : Nat) (M : am_M) (r0 r1 : Nat) (v2 v3 : Value) (x4 x5 x6 x7 : Int32) :
  am_ev 62 (d + 1) 153 [.ref r0, .ref r1, v2, v3, .int x4, .int x5, .int x6, .int x7] [] M =
 am_ob M r0 5 (am_gr (am_R M r0 3) (fun h1 => am_ob M h1 1 (am_gr (am_R M h1 0) (fun h2 => am_ob M h2 2 (am_gr (am_R M h2 0) (fun h3 => am_ix M h3 2 (am_i 1) (am_br .ge x7 (am_I M h3 (am_i 1).toNatClampNeg)
 (am_ev 62 (d + 1) 61 [.ref r0, .ref r1, v2, v3, .int x4, .int x5, .int (x6 + am_i 1), .int x7] [] M)
 (am_ob M r1 0 (am_gr (am_R M r1 3) (fun h4 => am_ob M r0 5 (am_bI (am_cl 60 d [.ref r0, .int x5] M) (fun c6 M5 => am_iw M5 h4 2 ((x6 * (am_i 8)) + x7) (am_lt (am_sI M5 h4 ((x6 * (am_i 8)) + x7).toNatClampNeg c6) (fun M7 => am_br .eq x4 (am_i 0)
 (am_ev 62 (d + 1) 153 [.ref r0, .ref r1, v2, (am_kl v3), .int (am_i 0), .int (x5 + am_i 1), .int x6, .int (x7 + am_i 1)] [] M7)
 (am_ob M7 r0 5 (am_bI (am_cl 60 d [.ref r0, .int x5] M7) (fun c9 M8 => am_ob M8 r0 5 (am_gr (am_R M8 r0 3) (fun h10 => am_ob M8 h10 1 (am_gr (am_R M8 h10 0) (fun h11 => am_ob M8 h11 2 (am_gr (am_R M8 h11 2) (fun h12 => am_ix M8 h12 2 x7 (am_br .gt c9 (am_I M8 h12 x7.toNatClampNeg)
 (am_ev 62 (d + 1) 153 [.ref r0, .ref r1, v2, (am_kl v3), .int (am_i 0), .int (x5 + am_i 1), .int x6, .int (x7 + am_i 1)] [] M8)
 (am_ev 62 (d + 1) 153 [.ref r0, .ref r1, v2, (am_kl v3), .int (am_i 1), .int (x5 + am_i 1), .int x6, .int (x7 + am_i 1)] [] M8)) none) none) none) none) none) none) none)) none))) none)) none) none) none)) none) none) none) none) none) none) none :=
  am_tree (cut := am_cut [34, 61, 81, 153]) 38 rfl
-- 63: X5_readPeople
set_option maxHeartbeats 2000000 in
set_option maxRecDepth 100000 in
theorem t63 (d : Nat) (M : am_M) (r0 r1 : Nat) (x2 : Int32) :
  am_cl 63 (d + 1) [.ref r0, .ref r1, .int x2] M =
 am_ob M r0 5 (am_gr (am_R M r0 3) (fun h1 => am_ob M h1 1 (am_gr (am_R M h1 0) (fun h2 => am_ob M h2 2 (am_gr (am_R M h2 0) (fun h3 => am_ix M h3 2 (am_i 2) (am_ev 63 (d + 1) 19 [.ref r0, .ref r1, .int x2, .int (am_I M h3 (am_i 2).toNatClampNeg), .int (am_i 1), .int (am_i 0), .null] [] M) none) none) none) none) none) none) none :=
  show am_ev 63 (d + 1) 0 [.ref r0, .ref r1, .int x2, .null, .null, .null, .null] [] M = _ from am_tree (cut := am_cut [19, 69]) 12 rfl
set_option maxHeartbeats 2000000 in
set_option maxRecDepth 100000 in
theorem t63_19 (d : Nat) (M : am_M) (r0 r1 : Nat) (x2 x3 x4 x5 : Int32) (v6 : Value) :
  am_ev 63 (d + 1) 19 [.ref r0, .ref r1, .int x2, .int x3, .int x4, .int x5, v6] [] M =
 am_br .ge x5 x3
 (am_tr x4 (some (some (.int x4), M)) none)
 (am_br .eq x4 (am_i 0)
 (am_ev 63 (d + 1) 69 [.ref r0, .ref r1, .int x2, .int x3, .int x4, .int x5, .int (x2 - ((am_i 3) * (x3 - x5)))] [.int (am_i 0)] M)
 (am_ob M r0 5 (am_bI (am_cl 60 d [.ref r0, .int (x2 - ((am_i 3) * (x3 - x5)))] M) (fun c2 M1 => am_br .gt c2 (am_i 1)
 (am_ev 63 (d + 1) 69 [.ref r0, .ref r1, .int x2, .int x3, .int x4, .int x5, .int (x2 - ((am_i 3) * (x3 - x5)))] [.int (am_i 0)] M1)
 (am_ob M1 r0 5 (am_bI (am_cl 61 d [.ref r0, .int ((x2 - ((am_i 3) * (x3 - x5))) + (am_i 1))] M1) (fun c4 M3 => am_br .gt c4 (am_i 9999)
 (am_ev 63 (d + 1) 69 [.ref r0, .ref r1, .int x2, .int x3, .int x4, .int x5, .int (x2 - ((am_i 3) * (x3 - x5)))] [.int (am_i 0)] M3)
 (am_ev 63 (d + 1) 69 [.ref r0, .ref r1, .int x2, .int x3, .int x4, .int x5, .int (x2 - ((am_i 3) * (x3 - x5)))] [.int (am_i 1)] M3))) none))) none)) :=
  am_tree (cut := am_cut [19, 69]) 28 rfl
set_option maxHeartbeats 2000000 in
set_option maxRecDepth 100000 in
theorem t63_69 (d : Nat) (M : am_M) (r0 r1 : Nat) (x2 x3 x5 x6 sx0 : Int32) (v4 : Value) :
  am_ev 63 (d + 1) 69 [.ref r0, .ref r1, .int x2, .int x3, v4, .int x5, .int x6] [.int sx0] M =
 am_ob M r1 0 (am_ob M r0 5 (am_bI (am_cl 60 d [.ref r0, .int x6] M) (fun c2 M1 => am_ob M1 r1 0 (am_lt (am_sI M1 r1 1 ((am_I M r1 1) ||| (c2 <<< (x5 &&& 31)))) (fun M3 => am_ob M3 r1 0 (am_gr (am_R M3 r1 4) (fun h4 => am_ob M3 r0 5 (am_bI (am_cl 61 d [.ref r0, .int (x6 + (am_i 1))] M3) (fun c6 M5 => am_iw M5 h4 2 x5 (am_lt (am_sI M5 h4 x5.toNatClampNeg c6) (fun M7 => am_ev 63 (d + 1) 19 [.ref r0, .ref r1, .int x2, .int x3, .int sx0, .int (x5 + am_i 1), .int x6] [] M7)) none)) none) none) none)) none)) none) none :=
  am_tree (cut := am_cut [19, 69]) 23 rfl
