/-! Trees: what a method does, printed by a program out of the tables, each proved by running the abstract machine. -/

-- 96: X4_readHouse
set_option maxHeartbeats 2000000 in
set_option maxRecDepth 100000 in
theorem t96 (d : Nat) (M : am_M) (r0 : Nat) (x1 : Int32) :
  am_cl 96 (d + 1) [.ref r0, .int x1] M =
 am_ob M r0 4 (am_gr (am_R M r0 2) (fun h1 => am_ob M h1 2 (am_bV (am_cl 85 d [.ref h1] M) (fun M2 => am_ob M2 r0 4 (am_gr (am_R M2 r0 2) (fun h3 => am_ob M2 h3 2 (am_gr (am_R M2 h3 15) (fun h4 => am_ob M2 r0 4 (am_bV (am_cl 98 d [.ref r0, .int x1, .ref h4] M2) (fun M5 => am_ev 96 (d + 1) 21 [.ref r0, .int x1, .int (am_i 0)] [] M5)) none) none) none) none) none)) none) none) none :=
  show am_ev 96 (d + 1) 0 [.ref r0, .int x1, .null] [] M = _ from am_tree (cut := am_cut [21]) 12 rfl
set_option maxHeartbeats 2000000 in
set_option maxRecDepth 100000 in
theorem t96_21 (d : Nat) (M : am_M) (r0 : Nat) (v1 : Value) (x2 : Int32) :
  am_ev 96 (d + 1) 21 [.ref r0, v1, .int x2] [] M =
 am_ob M r0 4 (am_br .eq (am_I M r0 8) (am_i 0)
 (am_ob M r0 4 (am_br .ne (am_I M r0 0) (am_i 0)
 (some (some (.int (am_i (-1))), M))
 (some (some (.int x2), M))) none)
 (am_ob M r0 4 (am_br .ne (am_I M r0 0) (am_i 0)
 (am_ob M r0 4 (am_br .ne (am_I M r0 0) (am_i 0)
 (some (some (.int (am_i (-1))), M))
 (some (some (.int x2), M))) none)
 (am_br .gt x2 (am_i 80)
 (am_ob M r0 4 (am_br .ne (am_I M r0 0) (am_i 0)
 (some (some (.int (am_i (-1))), M))
 (some (some (.int x2), M))) none)
 (am_br .ne x2 (am_i 80)
 (am_ob M r0 4 (am_bV (am_cl 108 d [.ref r0] M) (fun M1 => am_ob M1 r0 4 (am_bV (am_cl 105 d [.ref r0, .int (am_i 59)] M1) (fun M2 => am_ev 96 (d + 1) 21 [.ref r0, (am_kl v1), .int (x2 + am_i 1)] [] M2)) none)) none)
 (am_ob M r0 4 (am_ob M r0 4 (am_bV (am_cl 99 d [.ref r0, .int (am_i 5), .int (am_I M r0 9)] M) (fun M3 => am_ev 96 (d + 1) 21 [.ref r0, (am_kl v1), .int (x2 + am_i 1)] [] M3)) none) none)))) none)) none :=
  am_tree (cut := am_cut [21]) 21 rfl
-- 97: X4_readQuestion
set_option maxHeartbeats 2000000 in
set_option maxRecDepth 100000 in
theorem t97 (d : Nat) (M : am_M) (r0 : Nat) (x1 : Int32) :
  am_cl 97 (d + 1) [.ref r0, .int x1] M =
 am_ob M r0 4 (am_gr (am_R M r0 4) (fun h1 => am_ob M r0 4 (am_bV (am_cl 98 d [.ref r0, .int x1, .ref h1] M) (fun M2 => am_ob M2 r0 4 (am_br .ne (am_I M2 r0 8) (am_i 1)
 (am_ev 97 (d + 1) 26 [.ref r0, .int x1] [.int (am_i (-1)), .ref r0] M2)
 (am_ob M2 r0 4 (am_ev 97 (d + 1) 26 [.ref r0, .int x1] [.int (am_I M2 r0 12), .ref r0] M2) none)) none)) none) none) none :=
  show am_ev 97 (d + 1) 0 [.ref r0, .int x1] [] M = _ from am_tree (cut := am_cut [26, 47, 77]) 14 rfl
set_option maxHeartbeats 2000000 in
set_option maxRecDepth 100000 in
theorem t97_26 (d : Nat) (M : am_M) (r0 sr0 : Nat) (v1 : Value) (sx1 : Int32) :
  am_ev 97 (d + 1) 26 [.ref r0, v1] [.int sx1, .ref sr0] M =
 am_ob M sr0 4 (am_lt (am_sI M sr0 3 sx1) (fun M1 => am_ob M1 r0 4 (am_br .ge (am_I M1 r0 3) (am_i 29)
 (am_ev 97 (d + 1) 47 [.ref r0, v1] [] M1)
 (am_ob M1 r0 4 (am_ob M1 r0 4 (am_bV (am_cl 99 d [.ref r0, .int (am_i 1), .int (am_I M1 r0 9)] M1) (fun M2 => am_ev 97 (d + 1) 47 [.ref r0, v1] [] M2)) none) none)) none)) none :=
  am_tree (cut := am_cut [26, 47, 77]) 11 rfl
set_option maxHeartbeats 2000000 in
set_option maxRecDepth 100000 in
theorem t97_47 (d : Nat) (M : am_M) (r0 : Nat) (v1 : Value) :
  am_ev 97 (d + 1) 47 [.ref r0, v1] [] M =
 am_ob M r0 4 (am_ob M r0 4 (am_bI (am_cl 115 d [.ref r0, .int (am_I M r0 3), .int (am_i (-1))] M) (fun c2 M1 => am_ob M1 r0 4 (am_br .gt (am_I M1 r0 3) (am_i 31)
 (am_ob M1 r0 4 (am_bV (am_cl 121 d [.ref r0] M1) (fun M3 => am_ev 97 (d + 1) 77 [.ref r0, v1] [] M3)) none)
 (am_ob M1 r0 4 (am_bV (am_cl 118 d [.ref r0] M1) (fun M4 => am_ev 97 (d + 1) 77 [.ref r0, v1] [] M4)) none)) none)) none) none :=
  am_tree (cut := am_cut [26, 47, 77]) 14 rfl
set_option maxHeartbeats 2000000 in
set_option maxRecDepth 100000 in
theorem t97_77 (d : Nat) (M : am_M) (r0 : Nat) (v1 : Value) :
  am_ev 97 (d + 1) 77 [.ref r0, v1] [] M =
 am_ob M r0 4 (am_bV (am_cl 116 d [.ref r0, .int (am_i 20000)] M) (fun M1 => am_ob M1 r0 4 (am_br .eq (am_I M1 r0 8) (am_i 0)
 (am_ob M1 r0 4 (am_br .ne (am_I M1 r0 0) (am_i 0)
 (am_tr (am_i 0) (some (some (.int (am_i 0)), M1)) none)
 (am_tr (am_i 1) (some (some (.int (am_i 1)), M1)) none)) none)
 (am_ob M1 r0 4 (am_ob M1 r0 4 (am_bV (am_cl 99 d [.ref r0, .int (am_i 1), .int (am_I M1 r0 9)] M1) (fun M2 => am_ob M2 r0 4 (am_br .ne (am_I M2 r0 0) (am_i 0)
 (am_tr (am_i 0) (some (some (.int (am_i 0)), M2)) none)
 (am_tr (am_i 1) (some (some (.int (am_i 1)), M2)) none)) none)) none) none)) none)) none :=
  am_tree (cut := am_cut [26, 47, 77]) 18 rfl
-- 98: X4_begin
set_option maxHeartbeats 2000000 in
set_option maxRecDepth 100000 in
theorem t98 (d : Nat) (M : am_M) (r0 r2 : Nat) (x1 : Int32) :
  am_cl 98 (d + 1) [.ref r0, .int x1, .ref r2] M =
 am_ob M r0 4 (am_lt (am_sI M r0 0 (am_i 0)) (fun M1 => am_ob M1 r0 4 (am_lt (am_sI M1 r0 1 (am_i (-1))) (fun M2 => am_ob M2 r0 4 (am_gr (am_R M2 r0 5) (fun h3 => am_if (2 ≤ (am_K M2 h3).1 ∧ (am_K M2 h3).1 ≤ 6) (am_bI (am_cl 276 d [.int x1, .int (nI (am_K M2 h3).2)] M2) (fun c5 M4 => am_ob M4 r0 4 (am_lt (am_sI M4 r0 6 c5) (fun M6 => am_ob M6 r0 4 (am_lt (am_sR M6 r0 14 r2) (fun M7 => am_ob M7 r0 4 (am_lt (am_sI M7 r0 15 (am_i 0)) (fun M8 => am_ob M8 r0 4 (am_lt (am_sI M8 r0 8 (am_i 0)) (fun M9 => am_ob M9 r0 4 (am_lt (am_sI M9 r0 10 (am_i 0)) (fun M10 => am_ob M10 r0 4 (am_bV (am_cl 100 d [.ref r0] M10) (fun M11 => some (none, M11))) none)) none)) none)) none)) none)) none)) none) none) none)) none)) none :=
  show am_ev 98 (d + 1) 0 [.ref r0, .int x1, .ref r2] [] M = _ from am_tree (cut := am_cut []) 29 rfl
-- 99: X4_fail
set_option maxHeartbeats 2000000 in
set_option maxRecDepth 100000 in
theorem t99 (d : Nat) (M : am_M) (r0 : Nat) (x1 x2 : Int32) :
  am_cl 99 d [.ref r0, .int x1, .int x2] M =
 am_ob M r0 4 (am_br .ne (am_I M r0 0) (am_i 0)
 (am_ob M r0 4 (am_lt (am_sI M r0 8 (am_i 4)) (fun M1 => some (none, M1))) none)
 (am_ob M r0 4 (am_lt (am_sI M r0 0 x1) (fun M2 => am_ob M2 r0 4 (am_lt (am_sI M2 r0 1 x2) (fun M3 => am_ob M3 r0 4 (am_lt (am_sI M3 r0 8 (am_i 4)) (fun M4 => some (none, M4))) none)) none)) none)) none :=
  show am_ev 99 d 0 [.ref r0, .int x1, .int x2] [] M = _ from am_tree (cut := am_cut []) 14 rfl
-- 100: X4_next
set_option maxHeartbeats 2000000 in
set_option maxRecDepth 100000 in
theorem t100 (d : Nat) (M : am_M) (r0 : Nat) :
  am_cl 100 (d + 1) [.ref r0] M =
 am_ob M r0 4 (am_br .eq (am_I M r0 0) (am_i 0)
 (am_ob M r0 4 (am_br .eq (am_I M r0 8) (am_i 1)
 (am_ob M r0 4 (am_ob M r0 4 (am_ob M r0 4 (am_lt (am_sI M r0 9 (am_I M r0 10)) (fun M1 => am_ev 100 (d + 1) 41 [.ref r0, .int (am_I M r0 10), .null] [] M1)) none) none) none)
 (am_ob M r0 4 (am_br .ne (am_I M r0 8) (am_i 2)
 (am_ob M r0 4 (am_ob M r0 4 (am_lt (am_sI M r0 9 (am_I M r0 10)) (fun M2 => am_ev 100 (d + 1) 41 [.ref r0, .int (am_i (-1)), .null] [] M2)) none) none)
 (am_ob M r0 4 (am_ob M r0 4 (am_ob M r0 4 (am_lt (am_sI M r0 9 (am_I M r0 10)) (fun M3 => am_ev 100 (d + 1) 41 [.ref r0, .int (am_I M r0 10), .null] [] M3)) none) none) none)) none)) none)
 (some (none, M))) none :=
  show am_ev 100 (d + 1) 0 [.ref r0, .null, .null] [] M = _ from am_tree (cut := am_cut [41, 93, 125, 162, 221, 238, 290, 305]) 20 rfl
set_option maxHeartbeats 2000000 in
set_option maxRecDepth 100000 in
theorem t100_41 (d : Nat) (M : am_M) (r0 : Nat) (x1 : Int32) (v2 : Value) :
  am_ev 100 (d + 1) 41 [.ref r0, .int x1, v2] [] M =
 am_ob M r0 4 (am_ob M r0 4 (am_br .ge (am_I M r0 9) (am_I M r0 6)
 (am_ev 100 (d + 1) 93 [.ref r0, .int x1, v2] [] M)
 (am_ob M r0 4 (am_gr (am_R M r0 5) (fun h1 => am_ob M r0 4 (am_ix M h1 2 (am_I M r0 9) (am_br .eq (am_I M h1 (am_I M r0 9).toNatClampNeg) (am_i 10)
 (am_ob M r0 4 (am_ob M r0 4 (am_lt (am_sI M r0 9 ((am_I M r0 9) + (am_i 1))) (fun M2 => am_ev 100 (d + 1) 41 [.ref r0, .int x1, v2] [] M2)) none) none)
 (am_ob M r0 4 (am_gr (am_R M r0 5) (fun h3 => am_ob M r0 4 (am_ix M h3 2 (am_I M r0 9) (am_br .ne (am_I M h3 (am_I M r0 9).toNatClampNeg) (am_i 32)
 (am_ev 100 (d + 1) 93 [.ref r0, .int x1, v2] [] M)
 (am_ob M r0 4 (am_ob M r0 4 (am_lt (am_sI M r0 9 ((am_I M r0 9) + (am_i 1))) (fun M4 => am_ev 100 (d + 1) 41 [.ref r0, .int x1, v2] [] M4)) none) none)) none) none) none) none)) none) none) none) none)) none) none :=
  am_tree (cut := am_cut [41, 93, 125, 162, 221, 238, 290, 305]) 27 rfl
set_option maxHeartbeats 2000000 in
set_option maxRecDepth 100000 in
theorem t100_93 (d : Nat) (M : am_M) (r0 : Nat) (x1 : Int32) (v2 : Value) :
  am_ev 100 (d + 1) 93 [.ref r0, .int x1, v2] [] M =
 am_ob M r0 4 (am_ob M r0 4 (am_lt (am_sI M r0 10 (am_I M r0 9)) (fun M1 => am_ob M1 r0 4 (am_ob M1 r0 4 (am_br .ge (am_I M1 r0 9) (am_I M1 r0 6)
 (am_ev 100 (d + 1) 125 [.ref r0, .int x1, v2] [.int (am_i 0)] M1)
 (am_ob M1 r0 4 (am_gr (am_R M1 r0 5) (fun h2 => am_ob M1 r0 4 (am_ix M1 h2 2 (am_I M1 r0 9) (am_ev 100 (d + 1) 125 [.ref r0, .int x1, v2] [.int (am_I M1 h2 (am_I M1 r0 9).toNatClampNeg)] M1) none) none) none) none)) none) none)) none) none :=
  am_tree (cut := am_cut [41, 93, 125, 162, 221, 238, 290, 305]) 16 rfl
set_option maxHeartbeats 2000000 in
set_option maxRecDepth 100000 in
theorem t100_125 (d : Nat) (M : am_M) (r0 : Nat) (x1 sx0 : Int32) (v2 : Value) :
  am_ev 100 (d + 1) 125 [.ref r0, .int x1, v2] [.int sx0] M =
 am_ob M r0 4 (am_ob M r0 4 (am_br .lt (am_I M r0 9) (am_I M r0 6)
 (am_br .lt sx0 (am_i 97)
 (am_ev 100 (d + 1) 221 [.ref r0, .int x1, .int sx0] [] M)
 (am_br .gt sx0 (am_i 122)
 (am_ev 100 (d + 1) 221 [.ref r0, .int x1, .int sx0] [] M)
 (am_ob M r0 4 (am_lt (am_sI M r0 8 (am_i 1)) (fun M1 => am_ev 100 (d + 1) 162 [.ref r0, .int x1, .int sx0] [] M1)) none)))
 (am_ob M r0 4 (am_lt (am_sI M r0 8 (am_i 0)) (fun M2 => am_ev 100 (d + 1) 305 [.ref r0, .int x1, .int sx0] [] M2)) none)) none) none :=
  am_tree (cut := am_cut [41, 93, 125, 162, 221, 238, 290, 305]) 16 rfl
set_option maxHeartbeats 2000000 in
set_option maxRecDepth 100000 in
theorem t100_162 (d : Nat) (M : am_M) (r0 : Nat) (x1 : Int32) (v2 : Value) :
  am_ev 100 (d + 1) 162 [.ref r0, .int x1, v2] [] M =
 am_ob M r0 4 (am_ob M r0 4 (am_br .ge (am_I M r0 10) (am_I M r0 6)
 (am_ob M r0 4 (am_bV (am_cl 101 d [.ref r0] M) (fun M1 => am_ev 100 (d + 1) 305 [.ref r0, .int x1, v2] [] M1)) none)
 (am_ob M r0 4 (am_gr (am_R M r0 5) (fun h2 => am_ob M r0 4 (am_ix M h2 2 (am_I M r0 10) (am_br .lt (am_I M h2 (am_I M r0 10).toNatClampNeg) (am_i 97)
 (am_ob M r0 4 (am_bV (am_cl 101 d [.ref r0] M) (fun M3 => am_ev 100 (d + 1) 305 [.ref r0, .int x1, v2] [] M3)) none)
 (am_ob M r0 4 (am_gr (am_R M r0 5) (fun h4 => am_ob M r0 4 (am_ix M h4 2 (am_I M r0 10) (am_br .gt (am_I M h4 (am_I M r0 10).toNatClampNeg) (am_i 122)
 (am_ob M r0 4 (am_bV (am_cl 101 d [.ref r0] M) (fun M5 => am_ev 100 (d + 1) 305 [.ref r0, .int x1, v2] [] M5)) none)
 (am_ob M r0 4 (am_ob M r0 4 (am_lt (am_sI M r0 10 ((am_I M r0 10) + (am_i 1))) (fun M6 => am_ev 100 (d + 1) 162 [.ref r0, .int x1, v2] [] M6)) none) none)) none) none) none) none)) none) none) none) none)) none) none :=
  am_tree (cut := am_cut [41, 93, 125, 162, 221, 238, 290, 305]) 27 rfl
set_option maxHeartbeats 2000000 in
set_option maxRecDepth 100000 in
theorem t100_221 (d : Nat) (M : am_M) (r0 : Nat) (x1 x2 : Int32) :
  am_ev 100 (d + 1) 221 [.ref r0, .int x1, .int x2] [] M =
 am_br .lt x2 (am_i 48)
 (am_ev 100 (d + 1) 290 [.ref r0, .int x1, .int x2] [] M)
 (am_br .gt x2 (am_i 57)
 (am_ev 100 (d + 1) 290 [.ref r0, .int x1, .int x2] [] M)
 (am_ob M r0 4 (am_lt (am_sI M r0 8 (am_i 2)) (fun M1 => am_ev 100 (d + 1) 238 [.ref r0, .int x1, .int x2] [] M1)) none)) :=
  am_tree (cut := am_cut [41, 93, 125, 162, 221, 238, 290, 305]) 10 rfl
set_option maxHeartbeats 2000000 in
set_option maxRecDepth 100000 in
theorem t100_238 (d : Nat) (M : am_M) (r0 : Nat) (x1 : Int32) (v2 : Value) :
  am_ev 100 (d + 1) 238 [.ref r0, .int x1, v2] [] M =
 am_ob M r0 4 (am_ob M r0 4 (am_br .ge (am_I M r0 10) (am_I M r0 6)
 (am_ev 100 (d + 1) 305 [.ref r0, .int x1, v2] [] M)
 (am_ob M r0 4 (am_gr (am_R M r0 5) (fun h1 => am_ob M r0 4 (am_ix M h1 2 (am_I M r0 10) (am_br .lt (am_I M h1 (am_I M r0 10).toNatClampNeg) (am_i 48)
 (am_ev 100 (d + 1) 305 [.ref r0, .int x1, v2] [] M)
 (am_ob M r0 4 (am_gr (am_R M r0 5) (fun h2 => am_ob M r0 4 (am_ix M h2 2 (am_I M r0 10) (am_br .gt (am_I M h2 (am_I M r0 10).toNatClampNeg) (am_i 57)
 (am_ev 100 (d + 1) 305 [.ref r0, .int x1, v2] [] M)
 (am_ob M r0 4 (am_ob M r0 4 (am_lt (am_sI M r0 10 ((am_I M r0 10) + (am_i 1))) (fun M3 => am_ev 100 (d + 1) 238 [.ref r0, .int x1, v2] [] M3)) none) none)) none) none) none) none)) none) none) none) none)) none) none :=
  am_tree (cut := am_cut [41, 93, 125, 162, 221, 238, 290, 305]) 27 rfl
set_option maxHeartbeats 2000000 in
set_option maxRecDepth 100000 in
theorem t100_290 (d : Nat) (M : am_M) (r0 : Nat) (x1 : Int32) (v2 : Value) :
  am_ev 100 (d + 1) 290 [.ref r0, .int x1, v2] [] M =
 am_ob M r0 4 (am_lt (am_sI M r0 8 (am_i 3)) (fun M1 => am_ob M1 r0 4 (am_ob M1 r0 4 (am_lt (am_sI M1 r0 10 ((am_I M1 r0 10) + (am_i 1))) (fun M2 => am_ev 100 (d + 1) 305 [.ref r0, .int x1, v2] [] M2)) none) none)) none :=
  am_tree (cut := am_cut [41, 93, 125, 162, 221, 238, 290, 305]) 10 rfl
set_option maxHeartbeats 2000000 in
set_option maxRecDepth 100000 in
theorem t100_305 (d : Nat) (M : am_M) (r0 : Nat) (x1 : Int32) (v2 : Value) :
  am_ev 100 (d + 1) 305 [.ref r0, .int x1, v2] [] M =
 am_ob M r0 4 (am_br .ne x1 (am_I M r0 9)
 (some (none, M))
 (am_ob M r0 4 (am_br .eq (am_I M r0 8) (am_i 1)
 (am_ob M r0 4 (am_lt (am_sI M r0 8 (am_i 4)) (fun M1 => some (none, M1))) none)
 (am_ob M r0 4 (am_br .ne (am_I M r0 8) (am_i 2)
 (some (none, M))
 (am_ob M r0 4 (am_lt (am_sI M r0 8 (am_i 4)) (fun M2 => some (none, M2))) none)) none)) none)) none :=
  am_tree (cut := am_cut [41, 93, 125, 162, 221, 238, 290, 305]) 17 rfl
-- 101: X4_knowWord
set_option maxHeartbeats 2000000 in
set_option maxRecDepth 100000 in
theorem t101 (d : Nat) (M : am_M) (r0 : Nat) :
  am_cl 101 d [.ref r0] M =
 am_ob M r0 4 (am_lt (am_sL M r0 11 (am_l 0)) (fun M1 => am_ob M1 r0 4 (am_lt (am_sI M1 r0 12 (am_i (-1))) (fun M2 => am_ob M2 r0 4 (am_ev 101 d 15 [.ref r0, .int (am_I M2 r0 9)] [] M2) none)) none)) none :=
  show am_ev 101 d 0 [.ref r0, .null] [] M = _ from am_tree (cut := am_cut [15, 72]) 10 rfl
set_option maxHeartbeats 2000000 in
set_option maxRecDepth 100000 in
theorem t101_15 (d : Nat) (M : am_M) (r0 : Nat) (x1 : Int32) :
  am_ev 101 d 15 [.ref r0, .int x1] [] M =
 am_ob M r0 4 (am_br .ge x1 (am_I M r0 10)
 (am_ev 101 d 72 [.ref r0, .int (am_i 0)] [] M)
 (am_ob M r0 4 (am_br .ge x1 ((am_I M r0 9) + (am_i 7))
 (am_ev 101 d 72 [.ref r0, .int (am_i 0)] [] M)
 (am_ob M r0 4 (am_ob M r0 4 (am_gr (am_R M r0 5) (fun h1 => am_ix M h1 2 x1 (am_ob M r0 4 (am_ob M r0 4 (am_lt (am_sL M r0 11 ((am_L M r0 11) ||| ((((am_I M h1 x1.toNatClampNeg) - (am_i 97)) + (am_i 1)).toInt64 <<< (((am_i 5) * (x1 - (am_I M r0 9))).toInt64 &&& 63)))) (fun M2 => am_ev 101 d 15 [.ref r0, .int (x1 + am_i 1)] [] M2)) none) none) none) none) none) none)) none)) none :=
  am_tree (cut := am_cut [15, 72]) 34 rfl
set_option maxHeartbeats 2000000 in
set_option maxRecDepth 100000 in
theorem t101_72 (d : Nat) (M : am_M) (r0 : Nat) (x1 : Int32) :
  am_ev 101 d 72 [.ref r0, .int x1] [] M =
 am_br .ge x1 (am_i 35)
 (some (none, M))
 (am_ob M r0 4 (am_ob M r0 4 (am_br .gt ((am_I M r0 10) - (am_I M r0 9)) (am_i 7)
 (some (none, M))
 (am_ob M r0 4 (am_gr (am_R M r0 7) (fun h1 => am_ix M h1 3 x1 (am_ob M r0 4 (am_br .ne (lg_cmp (am_L M h1 x1.toNatClampNeg) (am_L M r0 11)) (am_i 0)
 (am_ev 101 d 72 [.ref r0, .int (x1 + am_i 1)] [] M)
 (am_ob M r0 4 (am_lt (am_sI M r0 12 x1) (fun M2 => am_ev 101 d 72 [.ref r0, .int (x1 + am_i 1)] [] M2)) none)) none) none) none) none)) none) none) :=
  am_tree (cut := am_cut [15, 72]) 24 rfl
-- 102: X4_isWord
set_option maxHeartbeats 2000000 in
set_option maxRecDepth 100000 in
theorem t102 (d : Nat) (M : am_M) (r0 : Nat) (x1 : Int32) :
  am_cl 102 d [.ref r0, .int x1] M =
 am_ob M r0 4 (am_br .ne (am_I M r0 8) (am_i 1)
 (am_tr (am_i 0) (some (some (.int (am_i 0)), M)) none)
 (am_ob M r0 4 (am_br .ne (am_I M r0 12) x1
 (am_tr (am_i 0) (some (some (.int (am_i 0)), M)) none)
 (am_tr (am_i 1) (some (some (.int (am_i 1)), M)) none)) none)) none :=
  show am_ev 102 d 0 [.ref r0, .int x1] [] M = _ from am_tree (cut := am_cut []) 12 rfl
-- 103: X4_isSign
set_option maxHeartbeats 2000000 in
set_option maxRecDepth 100000 in
theorem t103 (d : Nat) (M : am_M) (r0 : Nat) (x1 : Int32) :
  am_cl 103 d [.ref r0, .int x1] M =
 am_ob M r0 4 (am_br .ne (am_I M r0 8) (am_i 3)
 (am_tr (am_i 0) (some (some (.int (am_i 0)), M)) none)
 (am_ob M r0 4 (am_ob M r0 4 (am_br .ge (am_I M r0 9) (am_I M r0 6)
 (am_tr (am_i 0) (some (some (.int (am_i 0)), M)) none)
 (am_ob M r0 4 (am_gr (am_R M r0 5) (fun h1 => am_ob M r0 4 (am_ix M h1 2 (am_I M r0 9) (am_br .ne (am_I M h1 (am_I M r0 9).toNatClampNeg) x1
 (am_tr (am_i 0) (some (some (.int (am_i 0)), M)) none)
 (am_tr (am_i 1) (some (some (.int (am_i 1)), M)) none)) none) none) none) none)) none) none)) none :=
  show am_ev 103 d 0 [.ref r0, .int x1] [] M = _ from am_tree (cut := am_cut []) 20 rfl
-- 104: X4_takeWord
set_option maxHeartbeats 2000000 in
set_option maxRecDepth 100000 in
theorem t104 (d : Nat) (M : am_M) (r0 : Nat) (x1 : Int32) :
  am_cl 104 (d + 1) [.ref r0, .int x1] M =
 am_ob M r0 4 (am_bI (am_cl 102 d [.ref r0, .int x1] M) (fun c2 M1 => am_br .eq c2 (am_i 0)
 (am_ob M1 r0 4 (am_ob M1 r0 4 (am_bV (am_cl 99 d [.ref r0, .int (am_i 1), .int (am_I M1 r0 9)] M1) (fun M3 => some (none, M3))) none) none)
 (am_ob M1 r0 4 (am_bV (am_cl 100 d [.ref r0] M1) (fun M4 => some (none, M4))) none))) none :=
  show am_ev 104 (d + 1) 0 [.ref r0, .int x1] [] M = _ from am_tree (cut := am_cut []) 11 rfl
-- 105: X4_takeSign
set_option maxHeartbeats 2000000 in
set_option maxRecDepth 100000 in
theorem t105 (d : Nat) (M : am_M) (r0 : Nat) (x1 : Int32) :
  am_cl 105 (d + 1) [.ref r0, .int x1] M =
 am_ob M r0 4 (am_bI (am_cl 103 d [.ref r0, .int x1] M) (fun c2 M1 => am_br .eq c2 (am_i 0)
 (am_ob M1 r0 4 (am_ob M1 r0 4 (am_bV (am_cl 99 d [.ref r0, .int (am_i 1), .int (am_I M1 r0 9)] M1) (fun M3 => some (none, M3))) none) none)
 (am_ob M1 r0 4 (am_bV (am_cl 100 d [.ref r0] M1) (fun M4 => some (none, M4))) none))) none :=
  show am_ev 105 (d + 1) 0 [.ref r0, .int x1] [] M = _ from am_tree (cut := am_cut []) 11 rfl
-- 106: X4_takeNumber
set_option maxHeartbeats 2000000 in
set_option maxRecDepth 100000 in
theorem t106 (d : Nat) (M : am_M) (r0 : Nat) (x1 x2 : Int32) :
  am_cl 106 (d + 1) [.ref r0, .int x1, .int x2] M =
 am_ob M r0 4 (am_br .eq (am_I M r0 8) (am_i 2)
 (am_ob M r0 4 (am_ob M r0 4 (am_br .le ((am_I M r0 10) - (am_I M r0 9)) (am_i 4)
 (am_ob M r0 4 (am_ev 106 (d + 1) 53 [.ref r0, .int x1, .int x2, .int (am_i 0), .int (am_I M r0 9)] [] M) none)
 (am_ob M r0 4 (am_ob M r0 4 (am_bV (am_cl 99 d [.ref r0, .int (am_i 1), .int ((am_I M r0 9) + (am_i 4))] M) (fun M1 => some (some (.int x1), M1))) none) none)) none) none)
 (am_ob M r0 4 (am_ob M r0 4 (am_bV (am_cl 99 d [.ref r0, .int (am_i 1), .int (am_I M r0 9)] M) (fun M2 => some (some (.int x1), M2))) none) none)) none :=
  show am_ev 106 (d + 1) 0 [.ref r0, .int x1, .int x2, .null, .null] [] M = _ from am_tree (cut := am_cut [53]) 21 rfl
set_option maxHeartbeats 2000000 in
set_option maxRecDepth 100000 in
theorem t106_53 (d : Nat) (M : am_M) (r0 : Nat) (x1 x2 x3 x4 : Int32) :
  am_ev 106 (d + 1) 53 [.ref r0, .int x1, .int x2, .int x3, .int x4] [] M =
 am_ob M r0 4 (am_br .ge x4 (am_I M r0 10)
 (am_br .lt x3 x1
 (am_ob M r0 4 (am_ob M r0 4 (am_bV (am_cl 99 d [.ref r0, .int (am_i 2), .int (am_I M r0 9)] M) (fun M1 => some (some (.int x1), M1))) none) none)
 (am_br .le x3 x2
 (am_ob M r0 4 (am_bV (am_cl 100 d [.ref r0] M) (fun M2 => some (some (.int x3), M2))) none)
 (am_ob M r0 4 (am_ob M r0 4 (am_bV (am_cl 99 d [.ref r0, .int (am_i 2), .int (am_I M r0 9)] M) (fun M3 => some (some (.int x1), M3))) none) none)))
 (am_ob M r0 4 (am_gr (am_R M r0 5) (fun h4 => am_ix M h4 2 x4 (am_lt (((x3 * (am_i 10)) + (am_I M h4 x4.toNatClampNeg)) - (am_i 48)) (fun u5 => am_ev 106 (d + 1) 53 [.ref r0, .int x1, .int x2, .int u5, .int (x4 + am_i 1)] [] M)) none) none) none)) none :=
  am_tree (cut := am_cut [53]) 18 rfl
-- 107: X4_nameHere
set_option maxHeartbeats 2000000 in
set_option maxRecDepth 100000 in
theorem t107 (d : Nat) (M : am_M) (r0 : Nat) :
  am_cl 107 (d + 1) [.ref r0] M =
 am_ob M r0 4 (am_br .ne (am_I M r0 8) (am_i 1)
 (am_ob M r0 4 (am_ob M r0 4 (am_bV (am_cl 99 d [.ref r0, .int (am_i 1), .int (am_I M r0 9)] M) (fun M1 => some (some (.int (am_i 0)), M1))) none) none)
 (am_ob M r0 4 (am_br .lt (am_I M r0 12) (am_i 0)
 (am_ev 107 (d + 1) 35 [.ref r0] [] M)
 (am_ob M r0 4 (am_br .ge (am_I M r0 12) (am_i 29)
 (am_ev 107 (d + 1) 35 [.ref r0] [] M)
 (am_ob M r0 4 (am_ob M r0 4 (am_bV (am_cl 99 d [.ref r0, .int (am_i 1), .int (am_I M r0 9)] M) (fun M2 => some (some (.int (am_i 0)), M2))) none) none)) none)) none)) none :=
  show am_ev 107 (d + 1) 0 [.ref r0] [] M = _ from am_tree (cut := am_cut [35]) 19 rfl
set_option maxHeartbeats 2000000 in
set_option maxRecDepth 100000 in
theorem t107_35 (d : Nat) (M : am_M) (r0 : Nat) :
  am_ev 107 (d + 1) 35 [.ref r0] [] M =
 am_ob M r0 4 (am_ob M r0 4 (am_br .le ((am_I M r0 10) - (am_I M r0 9)) (am_i 6)
 (am_ob M r0 4 (some (some (.int (am_L M r0 11).toInt32), M)) none)
 (am_ob M r0 4 (am_ob M r0 4 (am_bV (am_cl 99 d [.ref r0, .int (am_i 1), .int ((am_I M r0 9) + (am_i 6))] M) (fun M1 => some (some (.int (am_i 0)), M1))) none) none)) none) none :=
  am_tree (cut := am_cut [35]) 17 rfl
-- 108: X4_readStatement
set_option maxHeartbeats 2000000 in
set_option maxRecDepth 100000 in
theorem t108 (d : Nat) (M : am_M) (r0 : Nat) :
  am_cl 108 (d + 1) [.ref r0] M =
 am_ob M r0 4 (am_br .ne (am_I M r0 8) (am_i 1)
 (am_ev 108 (d + 1) 16 [.ref r0, .null] [.int (am_i (-1))] M)
 (am_ob M r0 4 (am_ev 108 (d + 1) 16 [.ref r0, .null] [.int (am_I M r0 12)] M) none)) none :=
  show am_ev 108 (d + 1) 0 [.ref r0, .null] [] M = _ from am_tree (cut := am_cut [16]) 8 rfl
set_option maxHeartbeats 2000000 in
set_option maxRecDepth 100000 in
theorem t108_16 (d : Nat) (M : am_M) (r0 : Nat) (v1 : Value) (sx0 : Int32) :
  am_ev 108 (d + 1) 16 [.ref r0, v1] [.int sx0] M =
 am_si 0 sx0 (am_ob M r0 4 (am_bI (am_cl 109 d [.ref r0, .int (am_i 0), .int (am_i 6)] M) (fun c2 M1 => some (none, M1))) none)
 (am_si 1 sx0 (am_ob M r0 4 (am_bV (am_cl 111 d [.ref r0] M) (fun M3 => some (none, M3))) none)
 (am_si 2 sx0 (am_ob M r0 4 (am_ob M r0 4 (am_bV (am_cl 99 d [.ref r0, .int (am_i 1), .int (am_I M r0 9)] M) (fun M4 => some (none, M4))) none) none)
 (am_si 3 sx0 (am_ob M r0 4 (am_ob M r0 4 (am_bV (am_cl 99 d [.ref r0, .int (am_i 1), .int (am_I M r0 9)] M) (fun M5 => some (none, M5))) none) none)
 (am_si 4 sx0 (am_ob M r0 4 (am_bV (am_cl 112 d [.ref r0] M) (fun M6 => some (none, M6))) none)
 (am_si 5 sx0 (am_ob M r0 4 (am_ob M r0 4 (am_bV (am_cl 99 d [.ref r0, .int (am_i 1), .int (am_I M r0 9)] M) (fun M7 => some (none, M7))) none) none)
 (am_si 6 sx0 (am_ob M r0 4 (am_ob M r0 4 (am_bV (am_cl 99 d [.ref r0, .int (am_i 1), .int (am_I M r0 9)] M) (fun M8 => some (none, M8))) none) none)
 (am_si 7 sx0 (am_ob M r0 4 (am_bV (am_cl 113 d [.ref r0] M) (fun M9 => some (none, M9))) none)
 (am_si 8 sx0 (am_ob M r0 4 (am_bV (am_cl 114 d [.ref r0] M) (fun M10 => some (none, M10))) none)
 (am_si 9 sx0 (am_ob M r0 4 (am_gr (am_R M r0 2) (fun h11 => am_ob M r0 4 (am_gr (am_R M r0 2) (fun h12 => am_ob M h12 2 (am_ob M r0 4 (am_bI (am_cl 115 d [.ref r0, .int sx0, .int (am_I M h12 12)] M) (fun c14 M13 => am_ob M13 h11 2 (am_lt (am_sI M13 h11 12 c14) (fun M15 => am_ob M15 r0 4 (am_bV (am_cl 121 d [.ref r0] M15) (fun M16 => am_ob M16 r0 4 (am_bV (am_cl 116 d [.ref r0, .int (am_i 20000)] M16) (fun M17 => some (none, M17))) none)) none)) none)) none) none) none) none) none) none)
 (am_si 10 sx0 (am_ob M r0 4 (am_gr (am_R M r0 2) (fun h18 => am_ob M r0 4 (am_gr (am_R M r0 2) (fun h19 => am_ob M h19 2 (am_ob M r0 4 (am_bI (am_cl 115 d [.ref r0, .int sx0, .int (am_I M h19 13)] M) (fun c21 M20 => am_ob M20 h18 2 (am_lt (am_sI M20 h18 13 c21) (fun M22 => am_ob M22 r0 4 (am_bV (am_cl 121 d [.ref r0] M22) (fun M23 => am_ob M23 r0 4 (am_bV (am_cl 116 d [.ref r0, .int (am_i 20000)] M23) (fun M24 => some (none, M24))) none)) none)) none)) none) none) none) none) none) none)
 (am_si 11 sx0 (am_ob M r0 4 (am_gr (am_R M r0 2) (fun h25 => am_ob M r0 4 (am_gr (am_R M r0 2) (fun h26 => am_ob M h26 2 (am_ob M r0 4 (am_bI (am_cl 115 d [.ref r0, .int sx0, .int (am_I M h26 14)] M) (fun c28 M27 => am_ob M27 h25 2 (am_lt (am_sI M27 h25 14 c28) (fun M29 => am_ob M29 r0 4 (am_bV (am_cl 118 d [.ref r0] M29) (fun M30 => am_ob M30 r0 4 (am_bV (am_cl 116 d [.ref r0, .int (am_i 20000)] M30) (fun M31 => some (none, M31))) none)) none)) none)) none) none) none) none) none) none)
 (am_si 12 sx0 (am_ob M r0 4 (am_bV (am_cl 100 d [.ref r0] M) (fun M32 => am_ob M32 r0 4 (am_gr (am_R M32 r0 2) (fun h33 => am_ob M32 r0 4 (am_bI (am_cl 106 d [.ref r0, .int (am_i 1), .int (am_i 5)] M32) (fun c35 M34 => am_ob M34 h33 2 (am_lt (am_sI M34 h33 8 c35) (fun M36 => some (none, M36))) none)) none) none) none)) none)
 (am_si 13 sx0 (am_ob M r0 4 (am_bV (am_cl 100 d [.ref r0] M) (fun M37 => am_ob M37 r0 4 (am_gr (am_R M37 r0 2) (fun h38 => am_ob M37 r0 4 (am_bI (am_cl 106 d [.ref r0, .int (am_i 0), .int (am_i 999)] M37) (fun c40 M39 => am_ob M39 h38 2 (am_lt (am_sI M39 h38 9 c40) (fun M41 => some (none, M41))) none)) none) none) none)) none)
 (am_si 14 sx0 (am_ob M r0 4 (am_bV (am_cl 100 d [.ref r0] M) (fun M42 => am_ob M42 r0 4 (am_gr (am_R M42 r0 2) (fun h43 => am_ob M42 r0 4 (am_bI (am_cl 106 d [.ref r0, .int (am_i 0), .int (am_i 99)] M42) (fun c45 M44 => am_ob M44 h43 2 (am_lt (am_sI M44 h43 10 c45) (fun M46 => some (none, M46))) none)) none) none) none)) none)
 (am_si 15 sx0 (am_ob M r0 4 (am_bV (am_cl 100 d [.ref r0] M) (fun M47 => am_ob M47 r0 4 (am_gr (am_R M47 r0 2) (fun h48 => am_ob M47 r0 4 (am_bI (am_cl 106 d [.ref r0, .int (am_i 0), .int (am_i 100)] M47) (fun c50 M49 => am_ob M49 h48 2 (am_lt (am_sI M49 h48 11 c50) (fun M51 => some (none, M51))) none)) none) none) none)) none)
 (am_ob M r0 4 (am_ob M r0 4 (am_bV (am_cl 99 d [.ref r0, .int (am_i 1), .int (am_I M r0 9)] M) (fun M52 => some (none, M52))) none) none)))))))))))))))) :=
  am_tree (cut := am_cut [16]) 20 rfl
-- 109: X4_takeNewName
set_option maxHeartbeats 2000000 in
set_option maxRecDepth 100000 in
theorem t109 (d : Nat) (M : am_M) (r0 : Nat) (x1 x2 : Int32) :
  am_cl 109 (d + 1) [.ref r0, .int x1, .int x2] M =
 am_ob M r0 4 (am_gr (am_R M r0 2) (fun h1 => am_ob M h1 2 (am_gr (am_R M h1 0) (fun h2 => am_ix M h2 2 x1 (am_br .lt (am_I M h2 x1.toNatClampNeg) x2
 (am_ob M r0 4 (am_bV (am_cl 100 d [.ref r0] M) (fun M3 => am_ob M3 r0 4 (am_bI (am_cl 107 d [.ref r0] M3) (fun c5 M4 => am_ev 109 (d + 1) 37 [.ref r0, .int x1, .int x2, .int (am_I M h2 x1.toNatClampNeg), .int c5, .int (am_i 0)] [] M4)) none)) none)
 (am_ob M r0 4 (am_ob M r0 4 (am_bV (am_cl 99 d [.ref r0, .int (am_i 5), .int (am_I M r0 9)] M) (fun M6 => am_ob M6 r0 4 (am_bV (am_cl 100 d [.ref r0] M6) (fun M7 => am_ob M7 r0 4 (am_bI (am_cl 107 d [.ref r0] M7) (fun c9 M8 => am_ev 109 (d + 1) 37 [.ref r0, .int x1, .int x2, .int (am_I M h2 x1.toNatClampNeg), .int c9, .int (am_i 0)] [] M8)) none)) none)) none) none)) none) none) none) none) none :=
  show am_ev 109 (d + 1) 0 [.ref r0, .int x1, .int x2, .null, .null, .null] [] M = _ from am_tree (cut := am_cut [37]) 22 rfl
set_option maxHeartbeats 2000000 in
set_option maxRecDepth 100000 in
theorem t109_37 (d : Nat) (M : am_M) (r0 : Nat) (x1 x3 x4 x5 : Int32) (v2 : Value) :
  am_ev 109 (d + 1) 37 [.ref r0, .int x1, v2, .int x3, .int x4, .int x5] [] M =
 am_br .gt x5 (am_i 2)
 (am_ob M r0 4 (am_bV (am_cl 100 d [.ref r0] M) (fun M1 => am_ob M1 r0 4 (am_br .eq (am_I M1 r0 0) (am_i 0)
 (am_ob M1 r0 4 (am_gr (am_R M1 r0 2) (fun h2 => am_ob M1 h2 2 (am_gr (am_R M1 h2 1) (fun h3 => am_iq M1 h3 x1 (am_gr (am_R M1 h3 x1.toNatClampNeg) (fun h4 => am_iw M1 h4 2 x3 (am_lt (am_sI M1 h4 x3.toNatClampNeg x4) (fun M5 => am_ob M5 r0 4 (am_gr (am_R M5 r0 2) (fun h6 => am_ob M5 h6 2 (am_gr (am_R M5 h6 0) (fun h7 => am_ix M5 h7 2 x1 (am_iw M5 h7 2 x1 (am_lt (am_sI M5 h7 x1.toNatClampNeg ((am_I M5 h7 x1.toNatClampNeg) + (am_i 1))) (fun M8 => some (some (.int x3), M8))) none) none) none) none) none) none)) none) none) none) none) none) none) none)
 (some (some (.int (am_i (-1))), M1))) none)) none)
 (am_ob M r0 4 (am_gr (am_R M r0 2) (fun h9 => am_ob M h9 2 (am_bI (am_cl 86 d [.ref h9, .int x5, .int x4] M) (fun c11 M10 => am_br .eq c11 (am_i (-1))
 (am_ev 109 (d + 1) 37 [.ref r0, .int x1, v2, .int x3, .int x4, .int (x5 + am_i 1)] [] M10)
 (am_ob M10 r0 4 (am_ob M10 r0 4 (am_bV (am_cl 99 d [.ref r0, .int (am_i 3), .int (am_I M10 r0 9)] M10) (fun M12 => am_ev 109 (d + 1) 37 [.ref r0, .int x1, v2, .int x3, .int x4, .int (x5 + am_i 1)] [] M12)) none) none))) none) none) none) :=
  am_tree (cut := am_cut [37]) 28 rfl
-- 110: X4_takeKnownName
set_option maxHeartbeats 2000000 in
set_option maxRecDepth 100000 in
theorem t110 (d : Nat) (M : am_M) (r0 : Nat) (x1 : Int32) :
  am_cl 110 (d + 1) [.ref r0, .int x1] M =
 am_ob M r0 4 (am_gr (am_R M r0 2) (fun h1 => am_ob M r0 4 (am_bI (am_cl 107 d [.ref r0] M) (fun c3 M2 => am_ob M2 h1 2 (am_bI (am_cl 86 d [.ref h1, .int x1, .int c3] M2) (fun c5 M4 => am_br .ne c5 (am_i (-1))
 (am_ev 110 (d + 1) 27 [.ref r0, .int x1, .int c5] [] M4)
 (am_ob M4 r0 4 (am_ob M4 r0 4 (am_bV (am_cl 99 d [.ref r0, .int (am_i 3), .int (am_I M4 r0 9)] M4) (fun M6 => am_ev 110 (d + 1) 27 [.ref r0, .int x1, .int c5] [] M6)) none) none))) none)) none) none) none :=
  show am_ev 110 (d + 1) 0 [.ref r0, .int x1, .null] [] M = _ from am_tree (cut := am_cut [27]) 16 rfl
set_option maxHeartbeats 2000000 in
set_option maxRecDepth 100000 in
theorem t110_27 (d : Nat) (M : am_M) (r0 : Nat) (v1 : Value) (x2 : Int32) :
  am_ev 110 (d + 1) 27 [.ref r0, v1, .int x2] [] M =
 am_ob M r0 4 (am_bV (am_cl 100 d [.ref r0] M) (fun M1 => am_ob M1 r0 4 (am_br .ne (am_I M1 r0 0) (am_i 0)
 (some (some (.int (am_i (-1))), M1))
 (some (some (.int x2), M1))) none)) none :=
  am_tree (cut := am_cut [27]) 9 rfl
-- 111: X4_readFilm
set_option maxHeartbeats 2000000 in
set_option maxRecDepth 100000 in
theorem t111 (d : Nat) (M : am_M) (r0 : Nat) :
  am_cl 111 (d + 1) [.ref r0] M =
 am_ob M r0 4 (am_bI (am_cl 109 d [.ref r0, .int (am_i 1), .int (am_i 8)] M) (fun c2 M1 => am_ob M1 r0 4 (am_bV (am_cl 104 d [.ref r0, .int (am_i 2)] M1) (fun M3 => am_ob M3 r0 4 (am_bI (am_cl 106 d [.ref r0, .int (am_i 1), .int (am_i 9)] M3) (fun c5 M4 => am_ob M4 r0 4 (am_bV (am_cl 104 d [.ref r0, .int (am_i 3)] M4) (fun M6 => am_br .ne c2 (am_i (-1))
 (am_ob M6 r0 4 (am_gr (am_R M6 r0 2) (fun h7 => am_ob M6 h7 2 (am_gr (am_R M6 h7 2) (fun h8 => am_iw M6 h8 2 c2 (am_lt (am_sI M6 h8 c2.toNatClampNeg c5) (fun M9 => am_ev 111 (d + 1) 44 [.ref r0, .int c2, .int c5, .int (am_i 0), .null, .null, .null] [] M9)) none) none) none) none) none)
 (some (none, M6)))) none)) none)) none)) none :=
  show am_ev 111 (d + 1) 0 [.ref r0, .null, .null, .null, .null, .null, .null] [] M = _ from am_tree (cut := am_cut [44, 64, 105]) 28 rfl
set_option maxHeartbeats 2000000 in
set_option maxRecDepth 100000 in
theorem t111_44 (d : Nat) (M : am_M) (r0 : Nat) (x1 x3 : Int32) (v2 v4 v5 v6 : Value) :
  am_ev 111 (d + 1) 44 [.ref r0, .int x1, v2, .int x3, v4, v5, v6] [] M =
 am_ob M r0 4 (am_br .gt x3 (am_I M r0 6)
 (some (none, M))
 (am_br .eq x3 (am_i 0)
 (am_ev 111 (d + 1) 64 [.ref r0, .int x1, v2, .int x3, v4, v5, v6] [] M)
 (am_ob M r0 4 (am_br .ne (am_I M r0 8) (am_i 1)
 (some (none, M))
 (am_ev 111 (d + 1) 64 [.ref r0, .int x1, v2, .int x3, v4, v5, v6] [] M)) none))) none :=
  am_tree (cut := am_cut [44, 64, 105]) 12 rfl
set_option maxHeartbeats 2000000 in
set_option maxRecDepth 100000 in
theorem t111_64 (d : Nat) (M : am_M) (r0 : Nat) (x1 x3 : Int32) (v2 v4 v5 v6 : Value) :
  am_ev 111 (d + 1) 64 [.ref r0, .int x1, v2, .int x3, v4, v5, v6] [] M =
 am_ob M r0 4 (am_ob M r0 4 (am_bI (am_cl 110 d [.ref r0, .int (am_i 0)] M) (fun c2 M1 => am_br .eq c2 (am_i (-1))
 (am_ev 111 (d + 1) 105 [.ref r0, .int x1, v2, .int x3, .int (am_I M r0 9), .int c2, v6] [] M1)
 (am_ob M1 r0 4 (am_gr (am_R M1 r0 2) (fun h3 => am_ob M1 h3 2 (am_gr (am_R M1 h3 3) (fun h4 => am_iq M1 h4 x1 (am_gr (am_R M1 h4 x1.toNatClampNeg) (fun h5 => am_ix M1 h5 2 c2 (am_br .le (am_I M1 h5 c2.toNatClampNeg) (am_i 0)
 (am_ev 111 (d + 1) 105 [.ref r0, .int x1, v2, .int x3, .int (am_I M r0 9), .int c2, v6] [] M1)
 (am_ob M1 r0 4 (am_bV (am_cl 99 d [.ref r0, .int (am_i 3), .int (am_I M r0 9)] M1) (fun M6 => am_ev 111 (d + 1) 105 [.ref r0, .int x1, v2, .int x3, .int (am_I M r0 9), .int c2, v6] [] M6)) none)) none) none) none) none) none) none) none))) none) none :=
  am_tree (cut := am_cut [44, 64, 105]) 23 rfl
set_option maxHeartbeats 2000000 in
set_option maxRecDepth 100000 in
theorem t111_105 (d : Nat) (M : am_M) (r0 : Nat) (x1 x3 x5 : Int32) (v2 v4 v6 : Value) :
  am_ev 111 (d + 1) 105 [.ref r0, .int x1, v2, .int x3, v4, .int x5, v6] [] M =
 am_ob M r0 4 (am_bI (am_cl 106 d [.ref r0, .int (am_i 1), .int (am_i 9)] M) (fun c2 M1 => am_br .eq x5 (am_i (-1))
 (am_ev 111 (d + 1) 44 [.ref r0, .int x1, (am_kl v2), .int (x3 + am_i 1), v4, .int x5, .int c2] [] M1)
 (am_ob M1 r0 4 (am_gr (am_R M1 r0 2) (fun h3 => am_ob M1 h3 2 (am_gr (am_R M1 h3 3) (fun h4 => am_iq M1 h4 x1 (am_gr (am_R M1 h4 x1.toNatClampNeg) (fun h5 => am_iw M1 h5 2 x5 (am_lt (am_sI M1 h5 x5.toNatClampNeg c2) (fun M6 => am_ev 111 (d + 1) 44 [.ref r0, .int x1, (am_kl v2), .int (x3 + am_i 1), v4, .int x5, .int c2] [] M6)) none) none) none) none) none) none) none))) none :=
  am_tree (cut := am_cut [44, 64, 105]) 19 rfl
-- 112: X4_readPerson
set_option maxHeartbeats 2000000 in
set_option maxRecDepth 100000 in
theorem t112 (d : Nat) (M : am_M) (r0 : Nat) :
  am_cl 112 (d + 1) [.ref r0] M =
 am_ob M r0 4 (am_bI (am_cl 109 d [.ref r0, .int (am_i 2), .int (am_i 5)] M) (fun c2 M1 => am_ob M1 r0 4 (am_bV (am_cl 104 d [.ref r0, .int (am_i 5)] M1) (fun M3 => am_ob M3 r0 4 (am_bI (am_cl 106 d [.ref r0, .int (am_i 0), .int (am_i 23)] M3) (fun c5 M4 => am_ob M4 r0 4 (am_bV (am_cl 104 d [.ref r0, .int (am_i 6)] M4) (fun M6 => am_ob M6 r0 4 (am_bI (am_cl 106 d [.ref r0, .int c5, .int (am_i 23)] M6) (fun c8 M7 => am_br .eq c2 (am_i (-1))
 (some (none, M7))
 (am_ob M7 r0 4 (am_gr (am_R M7 r0 2) (fun h9 => am_ob M7 h9 2 (am_gr (am_R M7 h9 4) (fun h10 => am_iw M7 h10 2 c2 (am_lt (am_sI M7 h10 c2.toNatClampNeg c5) (fun M11 => am_ob M11 r0 4 (am_gr (am_R M11 r0 2) (fun h12 => am_ob M11 h12 2 (am_gr (am_R M11 h12 5) (fun h13 => am_iw M11 h13 2 c2 (am_lt (am_sI M11 h13 c2.toNatClampNeg c8) (fun M14 => some (none, M14))) none) none) none) none) none)) none) none) none) none) none))) none)) none)) none)) none)) none :=
  show am_ev 112 (d + 1) 0 [.ref r0, .null, .null, .null] [] M = _ from am_tree (cut := am_cut []) 38 rfl
-- 113: X4_readLikes
set_option maxHeartbeats 2000000 in
set_option maxRecDepth 100000 in
theorem t113 (d : Nat) (M : am_M) (r0 : Nat) :
  am_cl 113 (d + 1) [.ref r0] M =
 am_ob M r0 4 (am_bV (am_cl 100 d [.ref r0] M) (fun M1 => am_ob M1 r0 4 (am_bI (am_cl 110 d [.ref r0, .int (am_i 2)] M1) (fun c3 M2 => am_ob M2 r0 4 (am_bI (am_cl 110 d [.ref r0, .int (am_i 0)] M2) (fun c5 M4 => am_ob M4 r0 4 (am_bI (am_cl 106 d [.ref r0, .int (am_i 0), .int (am_i 9)] M4) (fun c7 M6 => am_br .eq c3 (am_i (-1))
 (some (none, M6))
 (am_br .eq c5 (am_i (-1))
 (some (none, M6))
 (am_ob M6 r0 4 (am_gr (am_R M6 r0 2) (fun h8 => am_ob M6 h8 2 (am_gr (am_R M6 h8 6) (fun h9 => am_iq M6 h9 c3 (am_gr (am_R M6 h9 c3.toNatClampNeg) (fun h10 => am_iw M6 h10 2 c5 (am_lt (am_sI M6 h10 c5.toNatClampNeg c7) (fun M11 => some (none, M11))) none) none) none) none) none) none) none)))) none)) none)) none)) none :=
  show am_ev 113 (d + 1) 0 [.ref r0, .null, .null, .null] [] M = _ from am_tree (cut := am_cut []) 31 rfl
-- 114: X4_readPress
set_option maxHeartbeats 2000000 in
set_option maxRecDepth 100000 in
theorem t114 (d : Nat) (M : am_M) (r0 : Nat) :
  am_cl 114 (d + 1) [.ref r0] M =
 am_ob M r0 4 (am_bV (am_cl 100 d [.ref r0] M) (fun M1 => am_ob M1 r0 4 (am_ob M1 r0 4 (am_bI (am_cl 110 d [.ref r0, .int (am_i 2)] M1) (fun c3 M2 => am_br .eq c3 (am_i (-1))
 (am_ev 114 (d + 1) 41 [.ref r0, .int (am_I M1 r0 9), .int c3] [] M2)
 (am_ob M2 r0 4 (am_gr (am_R M2 r0 2) (fun h4 => am_ob M2 h4 2 (am_br .ne (((am_I M2 h4 7) >>> (c3 &&& 31)) &&& (am_i 1)) (am_i 1)
 (am_ev 114 (d + 1) 41 [.ref r0, .int (am_I M1 r0 9), .int c3] [] M2)
 (am_ob M2 r0 4 (am_bV (am_cl 99 d [.ref r0, .int (am_i 3), .int (am_I M1 r0 9)] M2) (fun M5 => am_ev 114 (d + 1) 41 [.ref r0, .int (am_I M1 r0 9), .int c3] [] M5)) none)) none) none) none))) none) none)) none :=
  show am_ev 114 (d + 1) 0 [.ref r0, .null, .null] [] M = _ from am_tree (cut := am_cut [41]) 26 rfl
set_option maxHeartbeats 2000000 in
set_option maxRecDepth 100000 in
theorem t114_41 (d : Nat) (M : am_M) (r0 : Nat) (v1 : Value) (x2 : Int32) :
  am_ev 114 (d + 1) 41 [.ref r0, v1, .int x2] [] M =
 am_br .eq x2 (am_i (-1))
 (some (none, M))
 (am_ob M r0 4 (am_gr (am_R M r0 2) (fun h1 => am_ob M h1 2 (am_ob M h1 2 (am_lt (am_sI M h1 7 ((am_I M h1 7) ||| ((am_i 1) <<< (x2 &&& 31)))) (fun M2 => some (none, M2))) none) none) none) none) :=
  am_tree (cut := am_cut [41]) 14 rfl
-- 115: X4_beginFormula
set_option maxHeartbeats 2000000 in
set_option maxRecDepth 100000 in
theorem t115 (d : Nat) (M : am_M) (r0 : Nat) (x1 x2 : Int32) :
  am_cl 115 (d + 1) [.ref r0, .int x1, .int x2] M =
 am_br .eq x2 (am_i (-1))
 (am_ev 115 (d + 1) 14 [.ref r0, .int x1, .int x2] [] M)
 (am_ob M r0 4 (am_ob M r0 4 (am_bV (am_cl 99 d [.ref r0, .int (am_i 5), .int (am_I M r0 9)] M) (fun M1 => am_ev 115 (d + 1) 14 [.ref r0, .int x1, .int x2] [] M1)) none) none) :=
  show am_ev 115 (d + 1) 0 [.ref r0, .int x1, .int x2] [] M = _ from am_tree (cut := am_cut [14]) 9 rfl
set_option maxHeartbeats 2000000 in
set_option maxRecDepth 100000 in
theorem t115_14 (d : Nat) (M : am_M) (r0 : Nat) (x1 : Int32) (v2 : Value) :
  am_ev 115 (d + 1) 14 [.ref r0, .int x1, v2] [] M =
 am_ob M r0 4 (am_lt (am_sI M r0 13 x1) (fun M1 => am_ob M1 r0 4 (am_lt (am_sI M1 r0 16 (am_i 0)) (fun M2 => am_ob M2 r0 4 (am_bV (am_cl 100 d [.ref r0] M2) (fun M3 => am_ob M3 r0 4 (some (some (.int (am_I M3 r0 15)), M3)) none)) none)) none)) none :=
  am_tree (cut := am_cut [14]) 12 rfl
-- 116: X4_put
set_option maxHeartbeats 2000000 in
set_option maxRecDepth 100000 in
theorem t116 (d : Nat) (M : am_M) (r0 : Nat) (x1 : Int32) :
  am_cl 116 d [.ref r0, .int x1] M =
 am_ob M r0 4 (am_ob M r0 4 (am_gr (am_R M r0 14) (fun h1 => am_if (2 ≤ (am_K M h1).1 ∧ (am_K M h1).1 ≤ 6) (am_br .ge (am_I M r0 15) (nI (am_K M h1).2)
 (some (none, M))
 (am_ob M r0 4 (am_gr (am_R M r0 14) (fun h2 => am_ob M r0 4 (am_iw M h2 2 (am_I M r0 15) (am_lt (am_sI M h2 (am_I M r0 15).toNatClampNeg x1) (fun M3 => am_ob M3 r0 4 (am_ob M3 r0 4 (am_lt (am_sI M3 r0 15 ((am_I M3 r0 15) + (am_i 1))) (fun M4 => some (none, M4))) none) none)) none) none) none) none)) none) none) none) none :=
  show am_ev 116 d 0 [.ref r0, .int x1] [] M = _ from am_tree (cut := am_cut []) 20 rfl
-- 117: X4_opens
set_option maxHeartbeats 2000000 in
set_option maxRecDepth 100000 in
theorem t117 (d : Nat) (M : am_M) (r0 : Nat) :
  am_cl 117 (d + 1) [.ref r0] M =
 am_ob M r0 4 (am_br .lt (am_I M r0 16) (am_i 6)
 (am_ev 117 (d + 1) 18 [.ref r0] [] M)
 (am_ob M r0 4 (am_ob M r0 4 (am_bV (am_cl 99 d [.ref r0, .int (am_i 4), .int (am_I M r0 9)] M) (fun M1 => am_ev 117 (d + 1) 18 [.ref r0] [] M1)) none) none)) none :=
  show am_ev 117 (d + 1) 0 [.ref r0] [] M = _ from am_tree (cut := am_cut [18]) 10 rfl
set_option maxHeartbeats 2000000 in
set_option maxRecDepth 100000 in
theorem t117_18 (d : Nat) (M : am_M) (r0 : Nat) :
  am_ev 117 (d + 1) 18 [.ref r0] [] M =
 am_ob M r0 4 (am_br .eq (am_I M r0 0) (am_i 0)
 (am_ob M r0 4 (am_ob M r0 4 (am_lt (am_sI M r0 16 ((am_I M r0 16) + (am_i 1))) (fun M1 => am_ob M1 r0 4 (am_bV (am_cl 100 d [.ref r0] M1) (fun M2 => am_tr (am_i 1) (some (some (.int (am_i 1)), M2)) none)) none)) none) none)
 (am_tr (am_i 0) (some (some (.int (am_i 0)), M)) none)) none :=
  am_tree (cut := am_cut [18]) 14 rfl
-- 118: X4_readTest
set_option maxHeartbeats 2000000 in
set_option maxRecDepth 100000 in
theorem t118 (d : Nat) (M : am_M) (r0 : Nat) :
  am_cl 118 (d + 1) [.ref r0] M =
 am_ob M r0 4 (am_bV (am_cl 119 d [.ref r0] M) (fun M1 => am_ev 118 (d + 1) 6 [.ref r0, .int (am_i 0)] [] M1)) none :=
  show am_ev 118 (d + 1) 0 [.ref r0, .null] [] M = _ from am_tree (cut := am_cut [6]) 5 rfl
set_option maxHeartbeats 2000000 in
set_option maxRecDepth 100000 in
theorem t118_6 (d : Nat) (M : am_M) (r0 : Nat) (x1 : Int32) :
  am_ev 118 (d + 1) 6 [.ref r0, .int x1] [] M =
 am_ob M r0 4 (am_br .gt x1 (am_I M r0 6)
 (some (none, M))
 (am_ob M r0 4 (am_bI (am_cl 102 d [.ref r0, .int (am_i 23)] M) (fun c2 M1 => am_br .eq c2 (am_i 0)
 (some (none, M1))
 (am_ob M1 r0 4 (am_bV (am_cl 100 d [.ref r0] M1) (fun M3 => am_ob M3 r0 4 (am_bV (am_cl 119 d [.ref r0] M3) (fun M4 => am_ob M4 r0 4 (am_bV (am_cl 116 d [.ref r0, .int (am_i 20013)] M4) (fun M5 => am_ev 118 (d + 1) 6 [.ref r0, .int (x1 + am_i 1)] [] M5)) none)) none)) none))) none)) none :=
  am_tree (cut := am_cut [6]) 18 rfl
-- 119: X4_readBoth
set_option maxHeartbeats 2000000 in
set_option maxRecDepth 100000 in
theorem t119 (d : Nat) (M : am_M) (r0 : Nat) :
  am_cl 119 (d + 1) [.ref r0] M =
 am_ob M r0 4 (am_bV (am_cl 120 d [.ref r0] M) (fun M1 => am_ev 119 (d + 1) 6 [.ref r0, .int (am_i 0)] [] M1)) none :=
  show am_ev 119 (d + 1) 0 [.ref r0, .null] [] M = _ from am_tree (cut := am_cut [6]) 5 rfl
set_option maxHeartbeats 2000000 in
set_option maxRecDepth 100000 in
theorem t119_6 (d : Nat) (M : am_M) (r0 : Nat) (x1 : Int32) :
  am_ev 119 (d + 1) 6 [.ref r0, .int x1] [] M =
 am_ob M r0 4 (am_br .gt x1 (am_I M r0 6)
 (some (none, M))
 (am_ob M r0 4 (am_bI (am_cl 102 d [.ref r0, .int (am_i 24)] M) (fun c2 M1 => am_br .eq c2 (am_i 0)
 (some (none, M1))
 (am_ob M1 r0 4 (am_bV (am_cl 100 d [.ref r0] M1) (fun M3 => am_ob M3 r0 4 (am_bV (am_cl 120 d [.ref r0] M3) (fun M4 => am_ob M4 r0 4 (am_bV (am_cl 116 d [.ref r0, .int (am_i 20012)] M4) (fun M5 => am_ev 119 (d + 1) 6 [.ref r0, .int (x1 + am_i 1)] [] M5)) none)) none)) none))) none)) none :=
  am_tree (cut := am_cut [6]) 18 rfl
-- 120: X4_readFact
set_option maxHeartbeats 2000000 in
set_option maxRecDepth 100000 in
theorem t120 (d : Nat) (M : am_M) (r0 : Nat) :
  am_cl 120 (d + 1) [.ref r0] M =
 am_ob M r0 4 (am_bI (am_cl 102 d [.ref r0, .int (am_i 25)] M) (fun c2 M1 => am_br .eq c2 (am_i 0)
 (am_ob M1 r0 4 (am_bI (am_cl 103 d [.ref r0, .int (am_i 91)] M1) (fun c4 M3 => am_br .eq c4 (am_i 0)
 (am_ob M3 r0 4 (am_bI (am_cl 102 d [.ref r0, .int (am_i 26)] M3) (fun c6 M5 => am_br .eq c6 (am_i 0)
 (am_ob M5 r0 4 (am_bV (am_cl 121 d [.ref r0] M5) (fun M7 => am_ob M7 r0 4 (am_bI (am_cl 103 d [.ref r0, .int (am_i 60)] M7) (fun c9 M8 => am_br .eq c9 (am_i 0)
 (am_ob M8 r0 4 (am_bI (am_cl 103 d [.ref r0, .int (am_i 62)] M8) (fun c11 M10 => am_br .eq c11 (am_i 0)
 (am_ev 120 (d + 1) 137 [.ref r0, .null] [.int (am_i 20011)] M10)
 (am_ev 120 (d + 1) 137 [.ref r0, .null] [.int (am_i 20010)] M10))) none)
 (am_ev 120 (d + 1) 137 [.ref r0, .null] [.int (am_i 20009)] M8))) none)) none)
 (am_ob M5 r0 4 (am_bV (am_cl 100 d [.ref r0] M5) (fun M12 => am_ob M12 r0 4 (am_bV (am_cl 116 d [.ref r0, .int (am_i 1)] M12) (fun M13 => some (none, M13))) none)) none))) none)
 (am_ob M3 r0 4 (am_bI (am_cl 117 d [.ref r0] M3) (fun c15 M14 => am_br .eq c15 (am_i 0)
 (some (none, M14))
 (am_ob M14 r0 4 (am_bV (am_cl 118 d [.ref r0] M14) (fun M16 => am_ob M16 r0 4 (am_bV (am_cl 105 d [.ref r0, .int (am_i 93)] M16) (fun M17 => am_ob M17 r0 4 (am_ob M17 r0 4 (am_lt (am_sI M17 r0 16 ((am_I M17 r0 16) - (am_i 1))) (fun M18 => some (none, M18))) none) none)) none)) none))) none))) none)
 (am_ob M1 r0 4 (am_bI (am_cl 117 d [.ref r0] M1) (fun c20 M19 => am_br .eq c20 (am_i 0)
 (some (none, M19))
 (am_ob M19 r0 4 (am_bV (am_cl 120 d [.ref r0] M19) (fun M21 => am_ob M21 r0 4 (am_ob M21 r0 4 (am_lt (am_sI M21 r0 16 ((am_I M21 r0 16) - (am_i 1))) (fun M22 => am_ob M22 r0 4 (am_bV (am_cl 116 d [.ref r0, .int (am_i 20001)] M22) (fun M23 => some (none, M23))) none)) none) none)) none))) none))) none :=
  show am_ev 120 (d + 1) 0 [.ref r0, .null] [] M = _ from am_tree (cut := am_cut [137]) 25 rfl
set_option maxHeartbeats 2000000 in
set_option maxRecDepth 100000 in
theorem t120_137 (d : Nat) (M : am_M) (r0 : Nat) (v1 : Value) (sx0 : Int32) :
  am_ev 120 (d + 1) 137 [.ref r0, v1] [.int sx0] M =
 am_br .ne sx0 (am_i 20011)
 (am_ob M r0 4 (am_bV (am_cl 100 d [.ref r0] M) (fun M1 => am_ob M1 r0 4 (am_bV (am_cl 121 d [.ref r0] M1) (fun M2 => am_ob M2 r0 4 (am_bV (am_cl 116 d [.ref r0, .int sx0] M2) (fun M3 => some (none, M3))) none)) none)) none)
 (am_ob M r0 4 (am_bI (am_cl 103 d [.ref r0, .int (am_i 61)] M) (fun c5 M4 => am_br .ne c5 (am_i 0)
 (am_ob M4 r0 4 (am_bV (am_cl 100 d [.ref r0] M4) (fun M6 => am_ob M6 r0 4 (am_bV (am_cl 121 d [.ref r0] M6) (fun M7 => am_ob M7 r0 4 (am_bV (am_cl 116 d [.ref r0, .int sx0] M7) (fun M8 => some (none, M8))) none)) none)) none)
 (am_ob M4 r0 4 (am_ob M4 r0 4 (am_bV (am_cl 99 d [.ref r0, .int (am_i 1), .int (am_I M4 r0 9)] M4) (fun M9 => am_ob M9 r0 4 (am_bV (am_cl 100 d [.ref r0] M9) (fun M10 => am_ob M10 r0 4 (am_bV (am_cl 121 d [.ref r0] M10) (fun M11 => am_ob M11 r0 4 (am_bV (am_cl 116 d [.ref r0, .int sx0] M11) (fun M12 => some (none, M12))) none)) none)) none)) none) none))) none) :=
  am_tree (cut := am_cut [137]) 22 rfl
-- 121: X4_readSum
set_option maxHeartbeats 2000000 in
set_option maxRecDepth 100000 in
theorem t121 (d : Nat) (M : am_M) (r0 : Nat) :
  am_cl 121 (d + 1) [.ref r0] M =
 am_ob M r0 4 (am_bV (am_cl 122 d [.ref r0] M) (fun M1 => am_ev 121 (d + 1) 6 [.ref r0, .int (am_i 0), .null] [] M1)) none :=
  show am_ev 121 (d + 1) 0 [.ref r0, .null, .null] [] M = _ from am_tree (cut := am_cut [6, 50]) 5 rfl
set_option maxHeartbeats 2000000 in
set_option maxRecDepth 100000 in
theorem t121_6 (d : Nat) (M : am_M) (r0 : Nat) (x1 : Int32) (v2 : Value) :
  am_ev 121 (d + 1) 6 [.ref r0, .int x1, v2] [] M =
 am_ob M r0 4 (am_br .gt x1 (am_I M r0 6)
 (some (none, M))
 (am_ob M r0 4 (am_bI (am_cl 103 d [.ref r0, .int (am_i 43)] M) (fun c2 M1 => am_br .ne c2 (am_i 0)
 (am_ob M1 r0 4 (am_bI (am_cl 103 d [.ref r0, .int (am_i 43)] M1) (fun c4 M3 => am_br .eq c4 (am_i 0)
 (am_ev 121 (d + 1) 50 [.ref r0, .int x1, v2] [.int (am_i 20004)] M3)
 (am_ev 121 (d + 1) 50 [.ref r0, .int x1, v2] [.int (am_i 20003)] M3))) none)
 (am_ob M1 r0 4 (am_bI (am_cl 103 d [.ref r0, .int (am_i 45)] M1) (fun c6 M5 => am_br .eq c6 (am_i 0)
 (some (none, M5))
 (am_ob M5 r0 4 (am_bI (am_cl 103 d [.ref r0, .int (am_i 43)] M5) (fun c8 M7 => am_br .eq c8 (am_i 0)
 (am_ev 121 (d + 1) 50 [.ref r0, .int x1, v2] [.int (am_i 20004)] M7)
 (am_ev 121 (d + 1) 50 [.ref r0, .int x1, v2] [.int (am_i 20003)] M7))) none))) none))) none)) none :=
  am_tree (cut := am_cut [6, 50]) 19 rfl
set_option maxHeartbeats 2000000 in
set_option maxRecDepth 100000 in
theorem t121_50 (d : Nat) (M : am_M) (r0 : Nat) (x1 sx0 : Int32) (v2 : Value) :
  am_ev 121 (d + 1) 50 [.ref r0, .int x1, v2] [.int sx0] M =
 am_ob M r0 4 (am_bV (am_cl 100 d [.ref r0] M) (fun M1 => am_ob M1 r0 4 (am_bV (am_cl 122 d [.ref r0] M1) (fun M2 => am_ob M2 r0 4 (am_bV (am_cl 116 d [.ref r0, .int sx0] M2) (fun M3 => am_ev 121 (d + 1) 6 [.ref r0, .int (x1 + am_i 1), .int sx0] [] M3)) none)) none)) none :=
  am_tree (cut := am_cut [6, 50]) 11 rfl
-- 122: X4_readProduct
set_option maxHeartbeats 2000000 in
set_option maxRecDepth 100000 in
theorem t122 (d : Nat) (M : am_M) (r0 : Nat) :
  am_cl 122 (d + 1) [.ref r0] M =
 am_ob M r0 4 (am_bV (am_cl 123 d [.ref r0] M) (fun M1 => am_ev 122 (d + 1) 6 [.ref r0, .int (am_i 0), .null] [] M1)) none :=
  show am_ev 122 (d + 1) 0 [.ref r0, .null, .null] [] M = _ from am_tree (cut := am_cut [6, 50]) 5 rfl
set_option maxHeartbeats 2000000 in
set_option maxRecDepth 100000 in
theorem t122_6 (d : Nat) (M : am_M) (r0 : Nat) (x1 : Int32) (v2 : Value) :
  am_ev 122 (d + 1) 6 [.ref r0, .int x1, v2] [] M =
 am_ob M r0 4 (am_br .gt x1 (am_I M r0 6)
 (some (none, M))
 (am_ob M r0 4 (am_bI (am_cl 103 d [.ref r0, .int (am_i 42)] M) (fun c2 M1 => am_br .ne c2 (am_i 0)
 (am_ob M1 r0 4 (am_bI (am_cl 103 d [.ref r0, .int (am_i 42)] M1) (fun c4 M3 => am_br .eq c4 (am_i 0)
 (am_ev 122 (d + 1) 50 [.ref r0, .int x1, v2] [.int (am_i 20006)] M3)
 (am_ev 122 (d + 1) 50 [.ref r0, .int x1, v2] [.int (am_i 20005)] M3))) none)
 (am_ob M1 r0 4 (am_bI (am_cl 103 d [.ref r0, .int (am_i 47)] M1) (fun c6 M5 => am_br .eq c6 (am_i 0)
 (some (none, M5))
 (am_ob M5 r0 4 (am_bI (am_cl 103 d [.ref r0, .int (am_i 42)] M5) (fun c8 M7 => am_br .eq c8 (am_i 0)
 (am_ev 122 (d + 1) 50 [.ref r0, .int x1, v2] [.int (am_i 20006)] M7)
 (am_ev 122 (d + 1) 50 [.ref r0, .int x1, v2] [.int (am_i 20005)] M7))) none))) none))) none)) none :=
  am_tree (cut := am_cut [6, 50]) 19 rfl
set_option maxHeartbeats 2000000 in
set_option maxRecDepth 100000 in
theorem t122_50 (d : Nat) (M : am_M) (r0 : Nat) (x1 sx0 : Int32) (v2 : Value) :
  am_ev 122 (d + 1) 50 [.ref r0, .int x1, v2] [.int sx0] M =
 am_ob M r0 4 (am_bV (am_cl 100 d [.ref r0] M) (fun M1 => am_ob M1 r0 4 (am_bV (am_cl 123 d [.ref r0] M1) (fun M2 => am_ob M2 r0 4 (am_bV (am_cl 116 d [.ref r0, .int sx0] M2) (fun M3 => am_ev 122 (d + 1) 6 [.ref r0, .int (x1 + am_i 1), .int sx0] [] M3)) none)) none)) none :=
  am_tree (cut := am_cut [6, 50]) 11 rfl
-- 123: X4_readPart
set_option maxHeartbeats 2000000 in
set_option maxRecDepth 100000 in
theorem t123 (d : Nat) (M : am_M) (r0 : Nat) :
  am_cl 123 (d + 1) [.ref r0] M =
 am_ob M r0 4 (am_br .ne (am_I M r0 8) (am_i 2)
 (am_ob M r0 4 (am_bI (am_cl 103 d [.ref r0, .int (am_i 40)] M) (fun c2 M1 => am_br .eq c2 (am_i 0)
 (am_ob M1 r0 4 (am_bI (am_cl 102 d [.ref r0, .int (am_i 27)] M1) (fun c4 M3 => am_br .ne c4 (am_i 0)
 (am_ev 123 (d + 1) 80 [.ref r0] [] M3)
 (am_ob M3 r0 4 (am_bI (am_cl 102 d [.ref r0, .int (am_i 28)] M3) (fun c6 M5 => am_br .eq c6 (am_i 0)
 (am_ob M5 r0 4 (am_bI (am_cl 102 d [.ref r0, .int (am_i 18)] M5) (fun c8 M7 => am_br .eq c8 (am_i 0)
 (am_ev 123 (d + 1) 154 [.ref r0] [] M7)
 (am_ob M7 r0 4 (am_br .lt (am_I M7 r0 13) (am_i 29)
 (am_ev 123 (d + 1) 154 [.ref r0] [] M7)
 (am_ob M7 r0 4 (am_bI (am_cl 117 d [.ref r0] M7) (fun c10 M9 => am_br .eq c10 (am_i 0)
 (some (none, M9))
 (am_ob M9 r0 4 (am_bV (am_cl 123 d [.ref r0] M9) (fun M11 => am_ob M11 r0 4 (am_ob M11 r0 4 (am_lt (am_sI M11 r0 16 ((am_I M11 r0 16) - (am_i 1))) (fun M12 => am_ob M12 r0 4 (am_bV (am_cl 116 d [.ref r0, .int (am_i 20002)] M12) (fun M13 => some (none, M13))) none)) none) none)) none))) none)) none))) none)
 (am_ev 123 (d + 1) 80 [.ref r0] [] M5))) none))) none)
 (am_ob M1 r0 4 (am_bI (am_cl 117 d [.ref r0] M1) (fun c15 M14 => am_br .eq c15 (am_i 0)
 (some (none, M14))
 (am_ob M14 r0 4 (am_bV (am_cl 121 d [.ref r0] M14) (fun M16 => am_ob M16 r0 4 (am_bV (am_cl 105 d [.ref r0, .int (am_i 41)] M16) (fun M17 => am_ob M17 r0 4 (am_ob M17 r0 4 (am_lt (am_sI M17 r0 16 ((am_I M17 r0 16) - (am_i 1))) (fun M18 => some (none, M18))) none) none)) none)) none))) none))) none)
 (am_ob M r0 4 (am_bI (am_cl 106 d [.ref r0, .int (am_i 0), .int (am_i 9999)] M) (fun c20 M19 => am_ob M19 r0 4 (am_bV (am_cl 116 d [.ref r0, .int c20] M19) (fun M21 => some (none, M21))) none)) none)) none :=
  show am_ev 123 (d + 1) 0 [.ref r0] [] M = _ from am_tree (cut := am_cut [80, 154]) 41 rfl
set_option maxHeartbeats 2000000 in
set_option maxRecDepth 100000 in
theorem t123_80 (d : Nat) (M : am_M) (r0 : Nat) :
  am_ev 123 (d + 1) 80 [.ref r0] [] M =
 am_ob M r0 4 (am_bI (am_cl 102 d [.ref r0, .int (am_i 27)] M) (fun c2 M1 => am_br .eq c2 (am_i 0)
 (am_ob M1 r0 4 (am_bV (am_cl 124 d [.ref r0, .int (am_i 20008)] M1) (fun M3 => some (none, M3))) none)
 (am_ob M1 r0 4 (am_bV (am_cl 124 d [.ref r0, .int (am_i 20007)] M1) (fun M4 => some (none, M4))) none))) none :=
  am_tree (cut := am_cut [80, 154]) 11 rfl
set_option maxHeartbeats 2000000 in
set_option maxRecDepth 100000 in
theorem t123_154 (d : Nat) (M : am_M) (r0 : Nat) :
  am_ev 123 (d + 1) 154 [.ref r0] [] M =
 am_ob M r0 4 (am_br .ne (am_I M r0 8) (am_i 1)
 (am_ob M r0 4 (am_ob M r0 4 (am_bV (am_cl 99 d [.ref r0, .int (am_i 1), .int (am_I M r0 9)] M) (fun M1 => some (none, M1))) none) none)
 (am_ob M r0 4 (am_bI (am_cl 125 d [.ref r0] M) (fun c3 M2 => am_br .eq c3 (am_i 0)
 (am_ob M2 r0 4 (am_ob M2 r0 4 (am_bV (am_cl 99 d [.ref r0, .int (am_i 1), .int (am_I M2 r0 9)] M2) (fun M4 => some (none, M4))) none) none)
 (am_ob M2 r0 4 (am_ob M2 r0 4 (am_bV (am_cl 116 d [.ref r0, .int ((am_i 10000) + (am_I M2 r0 12))] M2) (fun M5 => am_ob M5 r0 4 (am_bV (am_cl 100 d [.ref r0] M5) (fun M6 => some (none, M6))) none)) none) none))) none)) none :=
  am_tree (cut := am_cut [80, 154]) 18 rfl
-- 124: X4_readLesserOrGreater
set_option maxHeartbeats 2000000 in
set_option maxRecDepth 100000 in
theorem t124 (d : Nat) (M : am_M) (r0 : Nat) (x1 : Int32) :
  am_cl 124 (d + 1) [.ref r0, .int x1] M =
 am_ob M r0 4 (am_bV (am_cl 100 d [.ref r0] M) (fun M1 => am_ob M1 r0 4 (am_bI (am_cl 103 d [.ref r0, .int (am_i 40)] M1) (fun c3 M2 => am_br .ne c3 (am_i 0)
 (am_ev 124 (d + 1) 22 [.ref r0, .int x1] [] M2)
 (am_ob M2 r0 4 (am_ob M2 r0 4 (am_bV (am_cl 99 d [.ref r0, .int (am_i 1), .int (am_I M2 r0 9)] M2) (fun M4 => am_ev 124 (d + 1) 22 [.ref r0, .int x1] [] M4)) none) none))) none)) none :=
  show am_ev 124 (d + 1) 0 [.ref r0, .int x1] [] M = _ from am_tree (cut := am_cut [22]) 12 rfl
set_option maxHeartbeats 2000000 in
set_option maxRecDepth 100000 in
theorem t124_22 (d : Nat) (M : am_M) (r0 : Nat) (x1 : Int32) :
  am_ev 124 (d + 1) 22 [.ref r0, .int x1] [] M =
 am_ob M r0 4 (am_bI (am_cl 117 d [.ref r0] M) (fun c2 M1 => am_br .eq c2 (am_i 0)
 (some (none, M1))
 (am_ob M1 r0 4 (am_bV (am_cl 121 d [.ref r0] M1) (fun M3 => am_ob M3 r0 4 (am_bV (am_cl 105 d [.ref r0, .int (am_i 44)] M3) (fun M4 => am_ob M4 r0 4 (am_bV (am_cl 121 d [.ref r0] M4) (fun M5 => am_ob M5 r0 4 (am_bV (am_cl 105 d [.ref r0, .int (am_i 41)] M5) (fun M6 => am_ob M6 r0 4 (am_ob M6 r0 4 (am_lt (am_sI M6 r0 16 ((am_I M6 r0 16) - (am_i 1))) (fun M7 => am_ob M7 r0 4 (am_bV (am_cl 116 d [.ref r0, .int x1] M7) (fun M8 => some (none, M8))) none)) none) none)) none)) none)) none)) none))) none :=
  am_tree (cut := am_cut [22]) 24 rfl
-- 125: X4_isFactHere
set_option maxHeartbeats 2000000 in
set_option maxRecDepth 100000 in
theorem t125 (d : Nat) (M : am_M) (r0 : Nat) :
  am_cl 125 d [.ref r0] M =
 am_ob M r0 4 (am_si 2 (am_I M r0 12) (am_ob M r0 4 (am_br .eq (am_I M r0 13) (am_i 11)
 (am_tr (am_i 1) (some (some (.int (am_i 1)), M)) none)
 (am_ob M r0 4 (am_br .lt (am_I M r0 13) (am_i 29)
 (am_tr (am_i 0) (some (some (.int (am_i 0)), M)) none)
 (am_tr (am_i 1) (some (some (.int (am_i 1)), M)) none)) none)) none)
 (am_si 3 (am_I M r0 12) (am_tr (am_i 0) (some (some (.int (am_i 0)), M)) none)
 (am_si 4 (am_I M r0 12) (am_tr (am_i 0) (some (some (.int (am_i 0)), M)) none)
 (am_si 5 (am_I M r0 12) (am_tr (am_i 0) (some (some (.int (am_i 0)), M)) none)
 (am_si 6 (am_I M r0 12) (am_tr (am_i 0) (some (some (.int (am_i 0)), M)) none)
 (am_si 7 (am_I M r0 12) (am_tr (am_i 0) (some (some (.int (am_i 0)), M)) none)
 (am_si 8 (am_I M r0 12) (am_tr (am_i 0) (some (some (.int (am_i 0)), M)) none)
 (am_si 9 (am_I M r0 12) (am_tr (am_i 0) (some (some (.int (am_i 0)), M)) none)
 (am_si 10 (am_I M r0 12) (am_tr (am_i 0) (some (some (.int (am_i 0)), M)) none)
 (am_si 11 (am_I M r0 12) (am_tr (am_i 0) (some (some (.int (am_i 0)), M)) none)
 (am_si 12 (am_I M r0 12) (am_tr (am_i 0) (some (some (.int (am_i 0)), M)) none)
 (am_si 13 (am_I M r0 12) (am_tr (am_i 0) (some (some (.int (am_i 0)), M)) none)
 (am_si 14 (am_I M r0 12) (am_tr (am_i 0) (some (some (.int (am_i 0)), M)) none)
 (am_si 15 (am_I M r0 12) (am_tr (am_i 0) (some (some (.int (am_i 0)), M)) none)
 (am_si 16 (am_I M r0 12) (am_tr (am_i 1) (some (some (.int (am_i 1)), M)) none)
 (am_si 17 (am_I M r0 12) (am_ob M r0 4 (am_br .eq (am_I M r0 13) (am_i 9)
 (am_tr (am_i 1) (some (some (.int (am_i 1)), M)) none)
 (am_ob M r0 4 (am_br .ne (am_I M r0 13) (am_i 10)
 (am_tr (am_i 0) (some (some (.int (am_i 0)), M)) none)
 (am_tr (am_i 1) (some (some (.int (am_i 1)), M)) none)) none)) none)
 (am_si 18 (am_I M r0 12) (am_ob M r0 4 (am_br .ne (am_I M r0 13) (am_i 9)
 (am_tr (am_i 0) (some (some (.int (am_i 0)), M)) none)
 (am_tr (am_i 1) (some (some (.int (am_i 1)), M)) none)) none)
 (am_si 19 (am_I M r0 12) (am_ob M r0 4 (am_br .eq (am_I M r0 13) (am_i 11)
 (am_tr (am_i 1) (some (some (.int (am_i 1)), M)) none)
 (am_ob M r0 4 (am_br .lt (am_I M r0 13) (am_i 29)
 (am_tr (am_i 0) (some (some (.int (am_i 0)), M)) none)
 (am_tr (am_i 1) (some (some (.int (am_i 1)), M)) none)) none)) none)
 (am_si 20 (am_I M r0 12) (am_ob M r0 4 (am_br .eq (am_I M r0 13) (am_i 11)
 (am_tr (am_i 1) (some (some (.int (am_i 1)), M)) none)
 (am_ob M r0 4 (am_br .lt (am_I M r0 13) (am_i 29)
 (am_tr (am_i 0) (some (some (.int (am_i 0)), M)) none)
 (am_tr (am_i 1) (some (some (.int (am_i 1)), M)) none)) none)) none)
 (am_si 21 (am_I M r0 12) (am_ob M r0 4 (am_br .lt (am_I M r0 13) (am_i 29)
 (am_tr (am_i 0) (some (some (.int (am_i 0)), M)) none)
 (am_tr (am_i 1) (some (some (.int (am_i 1)), M)) none)) none)
 (am_si 22 (am_I M r0 12) (am_ob M r0 4 (am_br .lt (am_I M r0 13) (am_i 29)
 (am_tr (am_i 0) (some (some (.int (am_i 0)), M)) none)
 (am_tr (am_i 1) (some (some (.int (am_i 1)), M)) none)) none)
 (am_tr (am_i 0) (some (some (.int (am_i 0)), M)) none)))))))))))))))))))))) none :=
  show am_ev 125 d 0 [.ref r0] [] M = _ from am_tree (cut := am_cut []) 15 rfl
