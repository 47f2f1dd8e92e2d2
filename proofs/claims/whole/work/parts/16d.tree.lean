/-! Trees: what a method does, printed by a program out of the tables, each proved by running the abstract machine. -/

-- 127: X6_isIn
set_option maxHeartbeats 2000000 in
set_option maxRecDepth 100000 in
theorem t127 (d : Nat) (M : am_M) (y0 y2 y4 : Int64) :
  am_cl 127 d [.long y0, .long y2, .long y4] M =
 am_br .lt (lg_cmp y0 y2) (am_i 0)
 (am_tr (am_i 0) (some (some (.int (am_i 0)), M)) none)
 (am_br .gt (lg_cmp y0 y4) (am_i 0)
 (am_tr (am_i 0) (some (some (.int (am_i 0)), M)) none)
 (am_tr (am_i 1) (some (some (.int (am_i 1)), M)) none)) :=
  show am_ev 127 d 0 [.long y0, .null, .long y2, .null, .long y4, .null] [] M = _ from am_tree (cut := am_cut []) 12 rfl
-- 128: X6_feed
set_option maxHeartbeats 2000000 in
set_option maxRecDepth 100000 in
theorem t128 (d : Nat) (M : am_M) (r0 : Nat) (x1 x2 x3 x4 x5 : Int32) :
  am_cl 128 d [.ref r0, .int x1, .int x2, .int x3, .int x4, .int x5] M =
 am_ob M r0 6 (am_br .le ((am_I M r0 1) + (am_i 20)) (am_i 1600)
 (am_ev 128 d 28 [.ref r0, .int x1, .int x2, .int x3, .int x4, .int x5, .int (am_i 0), .null] [] M)
 (am_ob M r0 6 (am_gr (am_R M r0 9) (fun h1 => am_ix M h1 2 (am_i 0) (am_iw M h1 2 (am_i 0) (am_lt (am_sI M h1 (am_i 0).toNatClampNeg ((am_I M h1 (am_i 0).toNatClampNeg) + (am_i 1))) (fun M2 => some (some (.int (am_i (-1))), M2))) none) none) none) none)) none :=
  show am_ev 128 d 0 [.ref r0, .int x1, .int x2, .int x3, .int x4, .int x5, .null, .null] [] M = _ from am_tree (cut := am_cut [28, 81]) 17 rfl
set_option maxHeartbeats 2000000 in
set_option maxRecDepth 100000 in
theorem t128_28 (d : Nat) (M : am_M) (r0 : Nat) (x1 x2 x3 x4 x5 x6 : Int32) (v7 : Value) :
  am_ev 128 d 28 [.ref r0, .int x1, .int x2, .int x3, .int x4, .int x5, .int x6, v7] [] M =
 am_br .ge x6 (am_i 20)
 (am_ob M r0 6 (some (some (.int (am_I M r0 1)), M)) none)
 (am_br .ge x6 (am_i 4)
 (am_br .ge x6 (am_i 8)
 (am_br .ge x6 (am_i 12)
 (am_br .ge x6 (am_i 16)
 (am_ev 128 d 81 [.ref r0, .int x1, .int x2, .int x3, .int x4, .int x5, .int x6, v7] [.int x5] M)
 (am_ev 128 d 81 [.ref r0, .int x1, .int x2, .int x3, .int x4, .int x5, .int x6, v7] [.int x4] M))
 (am_ev 128 d 81 [.ref r0, .int x1, .int x2, .int x3, .int x4, .int x5, .int x6, v7] [.int x3] M))
 (am_ev 128 d 81 [.ref r0, .int x1, .int x2, .int x3, .int x4, .int x5, .int x6, v7] [.int x2] M))
 (am_ev 128 d 81 [.ref r0, .int x1, .int x2, .int x3, .int x4, .int x5, .int x6, v7] [.int x1] M)) :=
  am_tree (cut := am_cut [28, 81]) 18 rfl
set_option maxHeartbeats 2000000 in
set_option maxRecDepth 100000 in
theorem t128_81 (d : Nat) (M : am_M) (r0 : Nat) (x1 x2 x3 x4 x5 x6 sx0 : Int32) (v7 : Value) :
  am_ev 128 d 81 [.ref r0, .int x1, .int x2, .int x3, .int x4, .int x5, .int x6, v7] [.int sx0] M =
 am_ob M r0 6 (am_gr (am_R M r0 0) (fun h1 => am_ob M r0 6 (am_if ((am_i 4) = 0) none (am_iw M h1 2 (am_I M r0 1) (am_lt (am_sI M h1 (am_I M r0 1).toNatClampNeg ((sx0 >>> (((am_i 8) * ((am_i 3) - (x6 - x6 / (am_i 4) * (am_i 4)))) &&& 31)) &&& (am_i 255))) (fun M2 => am_ob M2 r0 6 (am_ob M2 r0 6 (am_lt (am_sI M2 r0 1 ((am_I M2 r0 1) + (am_i 1))) (fun M3 => am_ev 128 d 28 [.ref r0, .int x1, .int x2, .int x3, .int x4, .int x5, .int (x6 + am_i 1), .int sx0] [] M3)) none) none)) none)) none) none) none :=
  am_tree (cut := am_cut [28, 81]) 26 rfl
-- 129: X6_end
set_option maxHeartbeats 2000000 in
set_option maxRecDepth 100000 in
theorem t129 (d : Nat) (M : am_M) (r0 : Nat) (x1 : Int32) :
  am_cl 129 d [.ref r0, .int x1] M =
 am_br .lt x1 (am_i 0)
 (am_ev 129 d 12 [.ref r0, .int x1] [] M)
 (am_ob M r0 6 (am_br .le x1 (am_I M r0 1)
 (am_ob M r0 6 (am_lt (am_sI M r0 1 x1) (fun M1 => am_tr (am_i 1) (some (some (.int (am_i 1)), M1)) none)) none)
 (am_ev 129 d 12 [.ref r0, .int x1] [] M)) none) :=
  show am_ev 129 d 0 [.ref r0, .int x1] [] M = _ from am_tree (cut := am_cut [12]) 12 rfl
set_option maxHeartbeats 2000000 in
set_option maxRecDepth 100000 in
theorem t129_12 (d : Nat) (M : am_M) (r0 : Nat) (v1 : Value) :
  am_ev 129 d 12 [.ref r0, v1] [] M =
 am_ob M r0 6 (am_gr (am_R M r0 9) (fun h1 => am_ix M h1 2 (am_i 0) (am_iw M h1 2 (am_i 0) (am_lt (am_sI M h1 (am_i 0).toNatClampNeg ((am_I M h1 (am_i 0).toNatClampNeg) + (am_i 1))) (fun M2 => am_tr (am_i 0) (some (some (.int (am_i 0)), M2)) none)) none) none) none) none :=
  am_tree (cut := am_cut [12]) 11 rfl
-- 130: X6_fail
set_option maxHeartbeats 2000000 in
set_option maxRecDepth 100000 in
theorem t130 (d : Nat) (M : am_M) (r0 : Nat) (x1 x2 : Int32) :
  am_cl 130 d [.ref r0, .int x1, .int x2] M =
 am_ob M r0 6 (am_br .eq (am_I M r0 5) (am_i 0)
 (am_ob M r0 6 (am_lt (am_sI M r0 5 x1) (fun M1 => am_ob M1 r0 6 (am_lt (am_sI M1 r0 6 x2) (fun M2 => some (none, M2))) none)) none)
 (some (none, M))) none :=
  show am_ev 130 d 0 [.ref r0, .int x1, .int x2] [] M = _ from am_tree (cut := am_cut []) 11 rfl
-- 131: X6_isLetter
set_option maxHeartbeats 2000000 in
set_option maxRecDepth 100000 in
theorem t131 (d : Nat) (M : am_M) (x0 : Int32) :
  am_cl 131 d [.int x0] M =
 am_br .lt x0 (am_i 97)
 (am_tr (am_i 0) (some (some (.int (am_i 0)), M)) none)
 (am_br .gt x0 (am_i 122)
 (am_tr (am_i 0) (some (some (.int (am_i 0)), M)) none)
 (am_tr (am_i 1) (some (some (.int (am_i 1)), M)) none)) :=
  show am_ev 131 d 0 [.int x0] [] M = _ from am_tree (cut := am_cut []) 10 rfl
-- 132: X6_isDigit
set_option maxHeartbeats 2000000 in
set_option maxRecDepth 100000 in
theorem t132 (d : Nat) (M : am_M) (x0 : Int32) :
  am_cl 132 d [.int x0] M =
 am_br .lt x0 (am_i 48)
 (am_tr (am_i 0) (some (some (.int (am_i 0)), M)) none)
 (am_br .gt x0 (am_i 57)
 (am_tr (am_i 0) (some (some (.int (am_i 0)), M)) none)
 (am_tr (am_i 1) (some (some (.int (am_i 1)), M)) none)) :=
  show am_ev 132 d 0 [.int x0] [] M = _ from am_tree (cut := am_cut []) 10 rfl
-- 133: X6_look
set_option maxHeartbeats 2000000 in
set_option maxRecDepth 100000 in
theorem t133 (d : Nat) (M : am_M) (r0 : Nat) :
  am_cl 133 d [.ref r0] M =
 am_ev 133 d 0 [.ref r0] [] M :=
  rfl
set_option maxHeartbeats 2000000 in
set_option maxRecDepth 100000 in
theorem t133_0 (d : Nat) (M : am_M) (r0 : Nat) :
  am_ev 133 d 0 [.ref r0] [] M =
 am_ob M r0 6 (am_ob M r0 6 (am_br .ge (am_I M r0 2) (am_I M r0 3)
 (am_ev 133 d 52 [.ref r0] [] M)
 (am_ob M r0 6 (am_gr (am_R M r0 0) (fun h1 => am_ob M r0 6 (am_ix M h1 2 (am_I M r0 2) (am_br .eq (am_I M h1 (am_I M r0 2).toNatClampNeg) (am_i 10)
 (am_ob M r0 6 (am_ob M r0 6 (am_lt (am_sI M r0 2 ((am_I M r0 2) + (am_i 1))) (fun M2 => am_ev 133 d 0 [.ref r0] [] M2)) none) none)
 (am_ob M r0 6 (am_gr (am_R M r0 0) (fun h3 => am_ob M r0 6 (am_ix M h3 2 (am_I M r0 2) (am_br .ne (am_I M h3 (am_I M r0 2).toNatClampNeg) (am_i 32)
 (am_ev 133 d 52 [.ref r0] [] M)
 (am_ob M r0 6 (am_ob M r0 6 (am_lt (am_sI M r0 2 ((am_I M r0 2) + (am_i 1))) (fun M4 => am_ev 133 d 0 [.ref r0] [] M4)) none) none)) none) none) none) none)) none) none) none) none)) none) none :=
  am_tree (cut := am_cut [0, 52]) 27 rfl
set_option maxHeartbeats 2000000 in
set_option maxRecDepth 100000 in
theorem t133_52 (d : Nat) (M : am_M) (r0 : Nat) :
  am_ev 133 d 52 [.ref r0] [] M =
 am_ob M r0 6 (am_ob M r0 6 (am_br .ge (am_I M r0 2) (am_I M r0 3)
 (some (some (.int (am_i (-1))), M))
 (am_ob M r0 6 (am_gr (am_R M r0 0) (fun h1 => am_ob M r0 6 (am_ix M h1 2 (am_I M r0 2) (some (some (.int (am_I M h1 (am_I M r0 2).toNatClampNeg)), M)) none) none) none) none)) none) none :=
  am_tree (cut := am_cut [0, 52]) 13 rfl
-- 134: X6_isHere
set_option maxHeartbeats 2000000 in
set_option maxRecDepth 100000 in
theorem t134 (d : Nat) (M : am_M) (r0 r1 : Nat) :
  am_cl 134 (d + 1) [.ref r0, .ref r1] M =
 am_ob M r0 6 (am_br .ne (am_I M r0 5) (am_i 0)
 (am_tr (am_i 0) (some (some (.int (am_i 0)), M)) none)
 (am_ob M r0 6 (am_bI (am_cl 133 d [.ref r0] M) (fun c2 M1 => am_bI (am_cl 131 d [.int c2] M1) (fun c4 M3 => am_br .eq c4 (am_i 0)
 (am_tr (am_i 0) (some (some (.int (am_i 0)), M3)) none)
 (am_ob M3 r0 6 (am_ob M3 r0 6 (am_br .ne (am_I M3 r0 2) (am_I M3 r0 4)
 (am_ob M3 r0 6 (am_ev 134 (d + 1) 35 [.ref r0, .ref r1, .int (am_I M3 r0 2), .null] [] M3) none)
 (am_tr (am_i 0) (some (some (.int (am_i 0)), M3)) none)) none) none)))) none)) none :=
  show am_ev 134 (d + 1) 0 [.ref r0, .ref r1, .null, .null] [] M = _ from am_tree (cut := am_cut [35, 61, 76]) 16 rfl
set_option maxHeartbeats 2000000 in
set_option maxRecDepth 100000 in
theorem t134_35 (d : Nat) (M : am_M) (r0 r1 : Nat) (x2 : Int32) (v3 : Value) :
  am_ev 134 (d + 1) 35 [.ref r0, .ref r1, .int x2, v3] [] M =
 am_ob M r0 6 (am_br .ge x2 (am_I M r0 3)
 (am_ev 134 (d + 1) 61 [.ref r0, .ref r1, .int x2, v3] [] M)
 (am_ob M r0 6 (am_gr (am_R M r0 0) (fun h1 => am_ix M h1 2 x2 (am_bI (am_cl 131 d [.int (am_I M h1 x2.toNatClampNeg)] M) (fun c3 M2 => am_br .eq c3 (am_i 0)
 (am_ev 134 (d + 1) 61 [.ref r0, .ref r1, .int x2, v3] [] M2)
 (am_ev 134 (d + 1) 35 [.ref r0, .ref r1, .int (x2 + am_i 1), v3] [] M2))) none) none) none)) none :=
  am_tree (cut := am_cut [35, 61, 76]) 13 rfl
set_option maxHeartbeats 2000000 in
set_option maxRecDepth 100000 in
theorem t134_61 (d : Nat) (M : am_M) (r0 r1 : Nat) (x2 : Int32) (v3 : Value) :
  am_ev 134 (d + 1) 61 [.ref r0, .ref r1, .int x2, v3] [] M =
 am_ob M r0 6 (am_if (2 ≤ (am_K M r1).1 ∧ (am_K M r1).1 ≤ 6) (am_br .eq (x2 - (am_I M r0 2)) (nI (am_K M r1).2)
 (am_ev 134 (d + 1) 76 [.ref r0, .ref r1, .int x2, .int (am_i 0)] [] M)
 (am_tr (am_i 0) (some (some (.int (am_i 0)), M)) none)) none) none :=
  am_tree (cut := am_cut [35, 61, 76]) 10 rfl
set_option maxHeartbeats 2000000 in
set_option maxRecDepth 100000 in
theorem t134_76 (d : Nat) (M : am_M) (r0 r1 : Nat) (v2 : Value) (x3 : Int32) :
  am_ev 134 (d + 1) 76 [.ref r0, .ref r1, v2, .int x3] [] M =
 am_if (2 ≤ (am_K M r1).1 ∧ (am_K M r1).1 ≤ 6) (am_br .ge x3 (nI (am_K M r1).2)
 (am_tr (am_i 1) (some (some (.int (am_i 1)), M)) none)
 (am_ob M r0 6 (am_gr (am_R M r0 0) (fun h1 => am_ob M r0 6 (am_ix M h1 2 ((am_I M r0 2) + x3) (am_ix M r1 4 x3 (am_br .eq (am_I M h1 ((am_I M r0 2) + x3).toNatClampNeg) (am_I M r1 x3.toNatClampNeg)
 (am_ev 134 (d + 1) 76 [.ref r0, .ref r1, (am_kl v2), .int (x3 + am_i 1)] [] M)
 (am_tr (am_i 0) (some (some (.int (am_i 0)), M)) none)) none) none) none) none) none)) none :=
  am_tree (cut := am_cut [35, 61, 76]) 18 rfl
-- 135: X6_takes
set_option maxHeartbeats 2000000 in
set_option maxRecDepth 100000 in
theorem t135 (d : Nat) (M : am_M) (r0 r1 : Nat) :
  am_cl 135 (d + 1) [.ref r0, .ref r1] M =
 am_ob M r0 6 (am_bI (am_cl 134 d [.ref r0, .ref r1] M) (fun c2 M1 => am_br .ne c2 (am_i 0)
 (am_ob M1 r0 6 (am_if (2 ≤ (am_K M1 r1).1 ∧ (am_K M1 r1).1 ≤ 6) (am_ob M1 r0 6 (am_lt (am_sI M1 r0 2 ((am_I M1 r0 2) + (nI (am_K M1 r1).2))) (fun M3 => am_ob M3 r0 6 (am_ob M3 r0 6 (am_lt (am_sI M3 r0 4 (am_I M3 r0 2)) (fun M4 => am_tr (am_i 1) (some (some (.int (am_i 1)), M4)) none)) none) none)) none) none) none)
 (am_tr (am_i 0) (some (some (.int (am_i 0)), M1)) none))) none :=
  show am_ev 135 (d + 1) 0 [.ref r0, .ref r1] [] M = _ from am_tree (cut := am_cut []) 18 rfl
-- 136: X6_asks
set_option maxHeartbeats 2000000 in
set_option maxRecDepth 100000 in
theorem t136 (d : Nat) (M : am_M) (r0 r1 : Nat) :
  am_cl 136 (d + 1) [.ref r0, .ref r1] M =
 am_ob M r0 6 (am_br .ne (am_I M r0 5) (am_i 0)
 (some (none, M))
 (am_ob M r0 6 (am_bI (am_cl 135 d [.ref r0, .ref r1] M) (fun c2 M1 => am_br .ne c2 (am_i 0)
 (some (none, M1))
 (am_ob M1 r0 6 (am_ob M1 r0 6 (am_bV (am_cl 130 d [.ref r0, .int (am_i 1), .int (am_I M1 r0 2)] M1) (fun M3 => some (none, M3))) none) none))) none)) none :=
  show am_ev 136 (d + 1) 0 [.ref r0, .ref r1] [] M = _ from am_tree (cut := am_cut []) 14 rfl
-- 137: X6_takesSign
set_option maxHeartbeats 2000000 in
set_option maxRecDepth 100000 in
theorem t137 (d : Nat) (M : am_M) (r0 : Nat) (x1 : Int32) :
  am_cl 137 (d + 1) [.ref r0, .int x1] M =
 am_ob M r0 6 (am_br .ne (am_I M r0 5) (am_i 0)
 (am_tr (am_i 0) (some (some (.int (am_i 0)), M)) none)
 (am_ob M r0 6 (am_bI (am_cl 133 d [.ref r0] M) (fun c2 M1 => am_br .eq c2 x1
 (am_ob M1 r0 6 (am_ob M1 r0 6 (am_lt (am_sI M1 r0 2 ((am_I M1 r0 2) + (am_i 1))) (fun M3 => am_tr (am_i 1) (some (some (.int (am_i 1)), M3)) none)) none) none)
 (am_tr (am_i 0) (some (some (.int (am_i 0)), M1)) none))) none)) none :=
  show am_ev 137 (d + 1) 0 [.ref r0, .int x1] [] M = _ from am_tree (cut := am_cut []) 16 rfl
-- 138: X6_asksSign
set_option maxHeartbeats 2000000 in
set_option maxRecDepth 100000 in
theorem t138 (d : Nat) (M : am_M) (r0 : Nat) (x1 : Int32) :
  am_cl 138 (d + 1) [.ref r0, .int x1] M =
 am_ob M r0 6 (am_br .ne (am_I M r0 5) (am_i 0)
 (some (none, M))
 (am_ob M r0 6 (am_bI (am_cl 137 d [.ref r0, .int x1] M) (fun c2 M1 => am_br .ne c2 (am_i 0)
 (some (none, M1))
 (am_ob M1 r0 6 (am_ob M1 r0 6 (am_bV (am_cl 130 d [.ref r0, .int (am_i 1), .int (am_I M1 r0 2)] M1) (fun M3 => some (none, M3))) none) none))) none)) none :=
  show am_ev 138 (d + 1) 0 [.ref r0, .int x1] [] M = _ from am_tree (cut := am_cut []) 14 rfl
-- 139: X6_number
set_option maxHeartbeats 2000000 in
set_option maxRecDepth 100000 in
theorem t139 (d : Nat) (M : am_M) (r0 : Nat) (x1 x2 : Int32) :
  am_cl 139 (d + 1) [.ref r0, .int x1, .int x2] M =
 am_ob M r0 6 (am_br .eq (am_I M r0 5) (am_i 0)
 (am_ob M r0 6 (am_bI (am_cl 133 d [.ref r0] M) (fun c2 M1 => am_bI (am_cl 132 d [.int c2] M1) (fun c4 M3 => am_br .eq c4 (am_i 0)
 (am_ob M3 r0 6 (am_ob M3 r0 6 (am_bV (am_cl 130 d [.ref r0, .int (am_i 1), .int (am_I M3 r0 2)] M3) (fun M5 => some (some (.int (am_i 0)), M5))) none) none)
 (am_ob M3 r0 6 (am_ob M3 r0 6 (am_br .ne (am_I M3 r0 2) (am_I M3 r0 4)
 (am_ob M3 r0 6 (am_ev 139 (d + 1) 49 [.ref r0, .int x1, .int x2, .int (am_I M3 r0 2), .int (am_i 0)] [] M3) none)
 (am_ob M3 r0 6 (am_ob M3 r0 6 (am_bV (am_cl 130 d [.ref r0, .int (am_i 1), .int (am_I M3 r0 2)] M3) (fun M6 => some (some (.int (am_i 0)), M6))) none) none)) none) none)))) none)
 (some (some (.int (am_i 0)), M))) none :=
  show am_ev 139 (d + 1) 0 [.ref r0, .int x1, .int x2, .null, .null] [] M = _ from am_tree (cut := am_cut [49, 129]) 20 rfl
set_option maxHeartbeats 2000000 in
set_option maxRecDepth 100000 in
theorem t139_49 (d : Nat) (M : am_M) (r0 : Nat) (x1 x2 x3 x4 : Int32) :
  am_ev 139 (d + 1) 49 [.ref r0, .int x1, .int x2, .int x3, .int x4] [] M =
 am_ob M r0 6 (am_ob M r0 6 (am_br .ge (am_I M r0 2) (am_I M r0 3)
 (am_ev 139 (d + 1) 129 [.ref r0, .int x1, .int x2, .int x3, .int x4] [] M)
 (am_ob M r0 6 (am_gr (am_R M r0 0) (fun h1 => am_ob M r0 6 (am_ix M h1 2 (am_I M r0 2) (am_bI (am_cl 132 d [.int (am_I M h1 (am_I M r0 2).toNatClampNeg)] M) (fun c3 M2 => am_br .eq c3 (am_i 0)
 (am_ev 139 (d + 1) 129 [.ref r0, .int x1, .int x2, .int x3, .int x4] [] M2)
 (am_ob M2 r0 6 (am_br .ne ((am_I M2 r0 2) - x3) (am_i 4)
 (am_ob M2 r0 6 (am_gr (am_R M2 r0 0) (fun h4 => am_ob M2 r0 6 (am_ix M2 h4 2 (am_I M2 r0 2) (am_lt ((((am_i 10) * x4) + (am_I M2 h4 (am_I M2 r0 2).toNatClampNeg)) - (am_i 48)) (fun u5 => am_ob M2 r0 6 (am_ob M2 r0 6 (am_lt (am_sI M2 r0 2 ((am_I M2 r0 2) + (am_i 1))) (fun M6 => am_ev 139 (d + 1) 49 [.ref r0, .int x1, .int x2, .int x3, .int u5] [] M6)) none) none)) none) none) none) none)
 (am_ob M2 r0 6 (am_ob M2 r0 6 (am_bV (am_cl 130 d [.ref r0, .int (am_i 1), .int (am_I M2 r0 2)] M2) (fun M7 => some (some (.int (am_i 0)), M7))) none) none)) none))) none) none) none) none)) none) none :=
  am_tree (cut := am_cut [49, 129]) 38 rfl
set_option maxHeartbeats 2000000 in
set_option maxRecDepth 100000 in
theorem t139_129 (d : Nat) (M : am_M) (r0 : Nat) (x1 x2 x3 x4 : Int32) :
  am_ev 139 (d + 1) 129 [.ref r0, .int x1, .int x2, .int x3, .int x4] [] M =
 am_ob M r0 6 (am_ob M r0 6 (am_lt (am_sI M r0 4 (am_I M r0 2)) (fun M1 => am_bI (am_cl 127 d [.long x4.toInt64, .long x1.toInt64, .long x2.toInt64] M1) (fun c3 M2 => am_br .ne c3 (am_i 0)
 (some (some (.int x4), M2))
 (am_ob M2 r0 6 (am_bV (am_cl 130 d [.ref r0, .int (am_i 2), .int x3] M2) (fun M4 => some (some (.int x4), M4))) none)))) none) none :=
  am_tree (cut := am_cut [49, 129]) 19 rfl
-- 140: X6_isOwnHere
set_option maxHeartbeats 2000000 in
set_option maxRecDepth 100000 in
theorem t140 (d : Nat) (M : am_M) (r0 : Nat) :
  am_cl 140 (d + 1) [.ref r0] M =
 am_ob M r0 6 (am_gr (am_R M r0 10) (fun h1 => am_ob M r0 6 (am_bI (am_cl 134 d [.ref r0, .ref h1] M) (fun c3 M2 => am_br .ne c3 (am_i 0)
 (am_ev 140 (d + 1) 71 [.ref r0, .null] [.int (am_i 1)] M2)
 (am_ob M2 r0 6 (am_gr (am_R M2 r0 11) (fun h4 => am_ob M2 r0 6 (am_bI (am_cl 134 d [.ref r0, .ref h4] M2) (fun c6 M5 => am_br .ne c6 (am_i 0)
 (am_ev 140 (d + 1) 71 [.ref r0, .null] [.int (am_i 1)] M5)
 (am_ob M5 r0 6 (am_gr (am_R M5 r0 12) (fun h7 => am_ob M5 r0 6 (am_bI (am_cl 134 d [.ref r0, .ref h7] M5) (fun c9 M8 => am_br .ne c9 (am_i 0)
 (am_ev 140 (d + 1) 71 [.ref r0, .null] [.int (am_i 1)] M8)
 (am_ob M8 r0 6 (am_gr (am_R M8 r0 13) (fun h10 => am_ob M8 r0 6 (am_bI (am_cl 134 d [.ref r0, .ref h10] M8) (fun c12 M11 => am_br .ne c12 (am_i 0)
 (am_ev 140 (d + 1) 71 [.ref r0, .null] [.int (am_i 1)] M11)
 (am_ob M11 r0 6 (am_gr (am_R M11 r0 14) (fun h13 => am_ob M11 r0 6 (am_bI (am_cl 134 d [.ref r0, .ref h13] M11) (fun c15 M14 => am_br .ne c15 (am_i 0)
 (am_ev 140 (d + 1) 71 [.ref r0, .null] [.int (am_i 1)] M14)
 (am_ob M14 r0 6 (am_gr (am_R M14 r0 15) (fun h16 => am_ob M14 r0 6 (am_bI (am_cl 134 d [.ref r0, .ref h16] M14) (fun c18 M17 => am_br .eq c18 (am_i 0)
 (am_ev 140 (d + 1) 71 [.ref r0, .null] [.int (am_i 0)] M17)
 (am_ev 140 (d + 1) 71 [.ref r0, .null] [.int (am_i 1)] M17))) none) none) none))) none) none) none))) none) none) none))) none) none) none))) none) none) none))) none) none) none :=
  show am_ev 140 (d + 1) 0 [.ref r0, .null] [] M = _ from am_tree (cut := am_cut [71, 147, 223, 299]) 33 rfl
set_option maxHeartbeats 2000000 in
set_option maxRecDepth 100000 in
theorem t140_71 (d : Nat) (M : am_M) (r0 : Nat) (v1 : Value) (sx0 : Int32) :
  am_ev 140 (d + 1) 71 [.ref r0, v1] [.int sx0] M =
 am_br .ne sx0 (am_i 0)
 (am_ev 140 (d + 1) 147 [.ref r0, .int sx0] [.int (am_i 1)] M)
 (am_ob M r0 6 (am_gr (am_R M r0 16) (fun h1 => am_ob M r0 6 (am_bI (am_cl 134 d [.ref r0, .ref h1] M) (fun c3 M2 => am_br .ne c3 (am_i 0)
 (am_ev 140 (d + 1) 147 [.ref r0, .int sx0] [.int (am_i 1)] M2)
 (am_ob M2 r0 6 (am_gr (am_R M2 r0 17) (fun h4 => am_ob M2 r0 6 (am_bI (am_cl 134 d [.ref r0, .ref h4] M2) (fun c6 M5 => am_br .ne c6 (am_i 0)
 (am_ev 140 (d + 1) 147 [.ref r0, .int sx0] [.int (am_i 1)] M5)
 (am_ob M5 r0 6 (am_gr (am_R M5 r0 18) (fun h7 => am_ob M5 r0 6 (am_bI (am_cl 134 d [.ref r0, .ref h7] M5) (fun c9 M8 => am_br .ne c9 (am_i 0)
 (am_ev 140 (d + 1) 147 [.ref r0, .int sx0] [.int (am_i 1)] M8)
 (am_ob M8 r0 6 (am_gr (am_R M8 r0 19) (fun h10 => am_ob M8 r0 6 (am_bI (am_cl 134 d [.ref r0, .ref h10] M8) (fun c12 M11 => am_br .ne c12 (am_i 0)
 (am_ev 140 (d + 1) 147 [.ref r0, .int sx0] [.int (am_i 1)] M11)
 (am_ob M11 r0 6 (am_gr (am_R M11 r0 20) (fun h13 => am_ob M11 r0 6 (am_bI (am_cl 134 d [.ref r0, .ref h13] M11) (fun c15 M14 => am_br .ne c15 (am_i 0)
 (am_ev 140 (d + 1) 147 [.ref r0, .int sx0] [.int (am_i 1)] M14)
 (am_ob M14 r0 6 (am_gr (am_R M14 r0 21) (fun h16 => am_ob M14 r0 6 (am_bI (am_cl 134 d [.ref r0, .ref h16] M14) (fun c18 M17 => am_br .eq c18 (am_i 0)
 (am_ev 140 (d + 1) 147 [.ref r0, .int sx0] [.int (am_i 0)] M17)
 (am_ev 140 (d + 1) 147 [.ref r0, .int sx0] [.int (am_i 1)] M17))) none) none) none))) none) none) none))) none) none) none))) none) none) none))) none) none) none))) none) none) none) :=
  am_tree (cut := am_cut [71, 147, 223, 299]) 36 rfl
set_option maxHeartbeats 2000000 in
set_option maxRecDepth 100000 in
theorem t140_147 (d : Nat) (M : am_M) (r0 : Nat) (v1 : Value) (sx0 : Int32) :
  am_ev 140 (d + 1) 147 [.ref r0, v1] [.int sx0] M =
 am_br .ne sx0 (am_i 0)
 (am_ev 140 (d + 1) 223 [.ref r0, .int sx0] [.int (am_i 1)] M)
 (am_ob M r0 6 (am_gr (am_R M r0 22) (fun h1 => am_ob M r0 6 (am_bI (am_cl 134 d [.ref r0, .ref h1] M) (fun c3 M2 => am_br .ne c3 (am_i 0)
 (am_ev 140 (d + 1) 223 [.ref r0, .int sx0] [.int (am_i 1)] M2)
 (am_ob M2 r0 6 (am_gr (am_R M2 r0 23) (fun h4 => am_ob M2 r0 6 (am_bI (am_cl 134 d [.ref r0, .ref h4] M2) (fun c6 M5 => am_br .ne c6 (am_i 0)
 (am_ev 140 (d + 1) 223 [.ref r0, .int sx0] [.int (am_i 1)] M5)
 (am_ob M5 r0 6 (am_gr (am_R M5 r0 24) (fun h7 => am_ob M5 r0 6 (am_bI (am_cl 134 d [.ref r0, .ref h7] M5) (fun c9 M8 => am_br .ne c9 (am_i 0)
 (am_ev 140 (d + 1) 223 [.ref r0, .int sx0] [.int (am_i 1)] M8)
 (am_ob M8 r0 6 (am_gr (am_R M8 r0 25) (fun h10 => am_ob M8 r0 6 (am_bI (am_cl 134 d [.ref r0, .ref h10] M8) (fun c12 M11 => am_br .ne c12 (am_i 0)
 (am_ev 140 (d + 1) 223 [.ref r0, .int sx0] [.int (am_i 1)] M11)
 (am_ob M11 r0 6 (am_gr (am_R M11 r0 26) (fun h13 => am_ob M11 r0 6 (am_bI (am_cl 134 d [.ref r0, .ref h13] M11) (fun c15 M14 => am_br .ne c15 (am_i 0)
 (am_ev 140 (d + 1) 223 [.ref r0, .int sx0] [.int (am_i 1)] M14)
 (am_ob M14 r0 6 (am_gr (am_R M14 r0 27) (fun h16 => am_ob M14 r0 6 (am_bI (am_cl 134 d [.ref r0, .ref h16] M14) (fun c18 M17 => am_br .eq c18 (am_i 0)
 (am_ev 140 (d + 1) 223 [.ref r0, .int sx0] [.int (am_i 0)] M17)
 (am_ev 140 (d + 1) 223 [.ref r0, .int sx0] [.int (am_i 1)] M17))) none) none) none))) none) none) none))) none) none) none))) none) none) none))) none) none) none))) none) none) none) :=
  am_tree (cut := am_cut [71, 147, 223, 299]) 36 rfl
set_option maxHeartbeats 2000000 in
set_option maxRecDepth 100000 in
theorem t140_223 (d : Nat) (M : am_M) (r0 : Nat) (v1 : Value) (sx0 : Int32) :
  am_ev 140 (d + 1) 223 [.ref r0, v1] [.int sx0] M =
 am_br .ne sx0 (am_i 0)
 (am_ev 140 (d + 1) 299 [.ref r0, .int sx0] [.int (am_i 1)] M)
 (am_ob M r0 6 (am_gr (am_R M r0 28) (fun h1 => am_ob M r0 6 (am_bI (am_cl 134 d [.ref r0, .ref h1] M) (fun c3 M2 => am_br .ne c3 (am_i 0)
 (am_ev 140 (d + 1) 299 [.ref r0, .int sx0] [.int (am_i 1)] M2)
 (am_ob M2 r0 6 (am_gr (am_R M2 r0 29) (fun h4 => am_ob M2 r0 6 (am_bI (am_cl 134 d [.ref r0, .ref h4] M2) (fun c6 M5 => am_br .ne c6 (am_i 0)
 (am_ev 140 (d + 1) 299 [.ref r0, .int sx0] [.int (am_i 1)] M5)
 (am_ob M5 r0 6 (am_gr (am_R M5 r0 30) (fun h7 => am_ob M5 r0 6 (am_bI (am_cl 134 d [.ref r0, .ref h7] M5) (fun c9 M8 => am_br .ne c9 (am_i 0)
 (am_ev 140 (d + 1) 299 [.ref r0, .int sx0] [.int (am_i 1)] M8)
 (am_ob M8 r0 6 (am_gr (am_R M8 r0 31) (fun h10 => am_ob M8 r0 6 (am_bI (am_cl 134 d [.ref r0, .ref h10] M8) (fun c12 M11 => am_br .ne c12 (am_i 0)
 (am_ev 140 (d + 1) 299 [.ref r0, .int sx0] [.int (am_i 1)] M11)
 (am_ob M11 r0 6 (am_gr (am_R M11 r0 32) (fun h13 => am_ob M11 r0 6 (am_bI (am_cl 134 d [.ref r0, .ref h13] M11) (fun c15 M14 => am_br .ne c15 (am_i 0)
 (am_ev 140 (d + 1) 299 [.ref r0, .int sx0] [.int (am_i 1)] M14)
 (am_ob M14 r0 6 (am_gr (am_R M14 r0 33) (fun h16 => am_ob M14 r0 6 (am_bI (am_cl 134 d [.ref r0, .ref h16] M14) (fun c18 M17 => am_br .eq c18 (am_i 0)
 (am_ev 140 (d + 1) 299 [.ref r0, .int sx0] [.int (am_i 0)] M17)
 (am_ev 140 (d + 1) 299 [.ref r0, .int sx0] [.int (am_i 1)] M17))) none) none) none))) none) none) none))) none) none) none))) none) none) none))) none) none) none))) none) none) none) :=
  am_tree (cut := am_cut [71, 147, 223, 299]) 36 rfl
set_option maxHeartbeats 2000000 in
set_option maxRecDepth 100000 in
theorem t140_299 (d : Nat) (M : am_M) (r0 : Nat) (v1 : Value) (sx0 : Int32) :
  am_ev 140 (d + 1) 299 [.ref r0, v1] [.int sx0] M =
 am_br .ne sx0 (am_i 0)
 (am_tr (am_i 1) (some (some (.int (am_i 1)), M)) none)
 (am_ob M r0 6 (am_gr (am_R M r0 34) (fun h1 => am_ob M r0 6 (am_bI (am_cl 134 d [.ref r0, .ref h1] M) (fun c3 M2 => am_br .ne c3 (am_i 0)
 (am_tr (am_i 1) (some (some (.int (am_i 1)), M2)) none)
 (am_ob M2 r0 6 (am_gr (am_R M2 r0 35) (fun h4 => am_ob M2 r0 6 (am_bI (am_cl 134 d [.ref r0, .ref h4] M2) (fun c6 M5 => am_br .ne c6 (am_i 0)
 (am_tr (am_i 1) (some (some (.int (am_i 1)), M5)) none)
 (am_ob M5 r0 6 (am_gr (am_R M5 r0 36) (fun h7 => am_ob M5 r0 6 (am_bI (am_cl 134 d [.ref r0, .ref h7] M5) (fun c9 M8 => am_br .ne c9 (am_i 0)
 (am_tr (am_i 1) (some (some (.int (am_i 1)), M8)) none)
 (am_ob M8 r0 6 (am_gr (am_R M8 r0 37) (fun h10 => am_ob M8 r0 6 (am_bI (am_cl 134 d [.ref r0, .ref h10] M8) (fun c12 M11 => am_br .ne c12 (am_i 0)
 (am_tr (am_i 1) (some (some (.int (am_i 1)), M11)) none)
 (am_ob M11 r0 6 (am_gr (am_R M11 r0 38) (fun h13 => am_ob M11 r0 6 (am_bI (am_cl 134 d [.ref r0, .ref h13] M11) (fun c15 M14 => am_br .eq c15 (am_i 0)
 (am_tr (am_i 0) (some (some (.int (am_i 0)), M14)) none)
 (am_tr (am_i 1) (some (some (.int (am_i 1)), M14)) none))) none) none) none))) none) none) none))) none) none) none))) none) none) none))) none) none) none) :=
  am_tree (cut := am_cut [71, 147, 223, 299]) 34 rfl
-- 141: X6_name
set_option maxHeartbeats 2000000 in
set_option maxRecDepth 100000 in
theorem t141 (d : Nat) (M : am_M) (r0 : Nat) :
  am_cl 141 (d + 1) [.ref r0] M =
 am_ob M r0 6 (am_br .eq (am_I M r0 5) (am_i 0)
 (am_ob M r0 6 (am_bI (am_cl 133 d [.ref r0] M) (fun c2 M1 => am_bI (am_cl 131 d [.int c2] M1) (fun c4 M3 => am_br .eq c4 (am_i 0)
 (am_ob M3 r0 6 (am_ob M3 r0 6 (am_bV (am_cl 130 d [.ref r0, .int (am_i 1), .int (am_I M3 r0 2)] M3) (fun M5 => some (some (.long (am_l 0)), M5))) none) none)
 (am_ob M3 r0 6 (am_ob M3 r0 6 (am_br .eq (am_I M3 r0 2) (am_I M3 r0 4)
 (am_ob M3 r0 6 (am_ob M3 r0 6 (am_bV (am_cl 130 d [.ref r0, .int (am_i 1), .int (am_I M3 r0 2)] M3) (fun M6 => some (some (.long (am_l 0)), M6))) none) none)
 (am_ob M3 r0 6 (am_bI (am_cl 140 d [.ref r0] M3) (fun c8 M7 => am_br .eq c8 (am_i 0)
 (am_ob M7 r0 6 (am_ob M7 r0 6 (am_lt (am_sI M7 r0 39 (am_I M7 r0 2)) (fun M9 => am_ev 141 (d + 1) 58 [.ref r0, .long (am_l 0), .null] [] M9)) none) none)
 (am_ob M7 r0 6 (am_ob M7 r0 6 (am_bV (am_cl 130 d [.ref r0, .int (am_i 1), .int (am_I M7 r0 2)] M7) (fun M10 => some (some (.long (am_l 0)), M10))) none) none))) none)) none) none)))) none)
 (some (some (.long (am_l 0)), M))) none :=
  show am_ev 141 (d + 1) 0 [.ref r0, .null, .null] [] M = _ from am_tree (cut := am_cut [58]) 23 rfl
set_option maxHeartbeats 2000000 in
set_option maxRecDepth 100000 in
theorem t141_58 (d : Nat) (M : am_M) (r0 : Nat) (y1 : Int64) (v2 : Value) :
  am_ev 141 (d + 1) 58 [.ref r0, .long y1, v2] [] M =
 am_ob M r0 6 (am_ob M r0 6 (am_br .ge (am_I M r0 2) (am_I M r0 3)
 (am_ob M r0 6 (am_ob M r0 6 (am_lt (am_sI M r0 4 (am_I M r0 2)) (fun M1 => some (some (.long y1), M1))) none) none)
 (am_ob M r0 6 (am_gr (am_R M r0 0) (fun h2 => am_ob M r0 6 (am_ix M h2 2 (am_I M r0 2) (am_bI (am_cl 131 d [.int (am_I M h2 (am_I M r0 2).toNatClampNeg)] M) (fun c4 M3 => am_br .eq c4 (am_i 0)
 (am_ob M3 r0 6 (am_ob M3 r0 6 (am_lt (am_sI M3 r0 4 (am_I M3 r0 2)) (fun M5 => some (some (.long y1), M5))) none) none)
 (am_ob M3 r0 6 (am_ob M3 r0 6 (am_br .ne ((am_I M3 r0 2) - (am_I M3 r0 39)) (am_i 6)
 (am_ob M3 r0 6 (am_gr (am_R M3 r0 0) (fun h6 => am_ob M3 r0 6 (am_ix M3 h6 2 (am_I M3 r0 2) (am_lt (((((am_l 27) * y1) + (am_I M3 h6 (am_I M3 r0 2).toNatClampNeg).toInt64) - (am_l 97)) + (am_l 1)) (fun u7 => am_ob M3 r0 6 (am_ob M3 r0 6 (am_lt (am_sI M3 r0 2 ((am_I M3 r0 2) + (am_i 1))) (fun M8 => am_ev 141 (d + 1) 58 [.ref r0, .long u7, .null] [] M8)) none) none)) none) none) none) none)
 (am_ob M3 r0 6 (am_ob M3 r0 6 (am_bV (am_cl 130 d [.ref r0, .int (am_i 1), .int (am_I M3 r0 2)] M3) (fun M9 => some (some (.long (am_l 0)), M9))) none) none)) none) none))) none) none) none) none)) none) none :=
  am_tree (cut := am_cut [58]) 42 rfl
-- 142: X6_isAllowed
set_option maxHeartbeats 2000000 in
set_option maxRecDepth 100000 in
theorem t142 (d : Nat) (M : am_M) (r0 : Nat) (x1 : Int32) :
  am_cl 142 (d + 1) [.ref r0, .int x1] M =
 am_ob M r0 6 (am_si 0 (am_I M r0 53) (am_br .ge x1 (am_i 3)
 (am_tr (am_i 0) (some (some (.int (am_i 0)), M)) none)
 (am_tr (am_i 1) (some (some (.int (am_i 1)), M)) none))
 (am_si 1 (am_I M r0 53) (am_br .ge x1 (am_i 2)
 (am_tr (am_i 0) (some (some (.int (am_i 0)), M)) none)
 (am_tr (am_i 1) (some (some (.int (am_i 1)), M)) none))
 (am_si 2 (am_I M r0 53) (am_br .eq x1 (am_i 0)
 (am_tr (am_i 1) (some (some (.int (am_i 1)), M)) none)
 (am_bI (am_cl 127 d [.long x1.toInt64, .long (am_l 3), .long (am_l 5)] M) (fun c2 M1 => am_br .eq c2 (am_i 0)
 (am_tr (am_i 0) (some (some (.int (am_i 0)), M1)) none)
 (am_tr (am_i 1) (some (some (.int (am_i 1)), M1)) none))))
 (am_br .eq x1 (am_i 0)
 (am_tr (am_i 1) (some (some (.int (am_i 1)), M)) none)
 (am_br .le x1 (am_i 2)
 (am_tr (am_i 0) (some (some (.int (am_i 0)), M)) none)
 (am_tr (am_i 1) (some (some (.int (am_i 1)), M)) none)))))) none :=
  show am_ev 142 (d + 1) 0 [.ref r0, .int x1] [] M = _ from am_tree (cut := am_cut []) 15 rfl
-- 143: X6_isFull
set_option maxHeartbeats 2000000 in
set_option maxRecDepth 100000 in
theorem t143 (d : Nat) (M : am_M) (r0 : Nat) (x1 x2 x3 : Int32) :
  am_cl 143 (d + 1) [.ref r0, .int x1, .int x2, .int x3] M =
 am_ob M r0 6 (am_br .ne (am_I M r0 5) (am_i 0)
 (am_ob M r0 6 (am_br .eq (am_I M r0 5) (am_i 0)
 (am_tr (am_i 0) (some (some (.int (am_i 0)), M)) none)
 (am_tr (am_i 1) (some (some (.int (am_i 1)), M)) none)) none)
 (am_ob M r0 6 (am_gr (am_R M r0 40) (fun h1 => am_ix M h1 2 x1 (am_br .ne (am_I M h1 x1.toNatClampNeg) x2
 (am_ob M r0 6 (am_br .eq (am_I M r0 5) (am_i 0)
 (am_tr (am_i 0) (some (some (.int (am_i 0)), M)) none)
 (am_tr (am_i 1) (some (some (.int (am_i 1)), M)) none)) none)
 (am_ob M r0 6 (am_bV (am_cl 130 d [.ref r0, .int (am_i 5), .int x3] M) (fun M2 => am_ob M2 r0 6 (am_br .eq (am_I M2 r0 5) (am_i 0)
 (am_tr (am_i 0) (some (some (.int (am_i 0)), M2)) none)
 (am_tr (am_i 1) (some (some (.int (am_i 1)), M2)) none)) none)) none)) none) none) none)) none :=
  show am_ev 143 (d + 1) 0 [.ref r0, .int x1, .int x2, .int x3] [] M = _ from am_tree (cut := am_cut []) 20 rfl
-- 144: X6_nameOf
set_option maxHeartbeats 2000000 in
set_option maxRecDepth 100000 in
theorem t144 (d : Nat) (M : am_M) (r0 : Nat) (x1 : Int32) (y2 : Int64) :
  am_cl 144 d [.ref r0, .int x1, .long y2] M =
 am_ev 144 d 3 [.ref r0, .int x1, .long y2, .null, .int (am_i 0)] [] M :=
  show am_ev 144 d 0 [.ref r0, .int x1, .long y2, .null, .null] [] M = _ from am_tree (cut := am_cut [3]) 3 rfl
set_option maxHeartbeats 2000000 in
set_option maxRecDepth 100000 in
theorem t144_3 (d : Nat) (M : am_M) (r0 : Nat) (x1 x4 : Int32) (y2 : Int64) (v3 : Value) :
  am_ev 144 d 3 [.ref r0, .int x1, .long y2, v3, .int x4] [] M =
 am_ob M r0 6 (am_gr (am_R M r0 40) (fun h1 => am_ix M h1 2 x1 (am_br .ge x4 (am_I M h1 x1.toNatClampNeg)
 (some (some (.int (am_i (-1))), M))
 (am_ob M r0 6 (am_gr (am_R M r0 41) (fun h2 => am_ix M h2 3 (((am_i 8) * x1) + x4) (am_br .ne (lg_cmp (am_L M h2 (((am_i 8) * x1) + x4).toNatClampNeg) y2) (am_i 0)
 (am_ev 144 d 3 [.ref r0, .int x1, .long y2, (am_kl v3), .int (x4 + am_i 1)] [] M)
 (some (some (.int x4), M))) none) none) none)) none) none) none :=
  am_tree (cut := am_cut [3]) 20 rfl
-- 145: X6_newName
set_option maxHeartbeats 2000000 in
set_option maxRecDepth 100000 in
theorem t145 (d : Nat) (M : am_M) (r0 : Nat) :
  am_cl 145 (d + 1) [.ref r0] M =
 am_ob M r0 6 (am_bL (am_cl 141 d [.ref r0] M) (fun c2 M1 => am_ev 145 (d + 1) 7 [.ref r0, .long c2, .null, .int (am_i 0)] [] M1)) none :=
  show am_ev 145 (d + 1) 0 [.ref r0, .null, .null, .null] [] M = _ from am_tree (cut := am_cut [7]) 6 rfl
set_option maxHeartbeats 2000000 in
set_option maxRecDepth 100000 in
theorem t145_7 (d : Nat) (M : am_M) (r0 : Nat) (y1 : Int64) (v2 : Value) (x3 : Int32) :
  am_ev 145 (d + 1) 7 [.ref r0, .long y1, v2, .int x3] [] M =
 am_br .ge x3 (am_i 3)
 (some (some (.long y1), M))
 (am_ob M r0 6 (am_br .ne (am_I M r0 5) (am_i 0)
 (am_ev 145 (d + 1) 7 [.ref r0, .long y1, (am_kl v2), .int (x3 + am_i 1)] [] M)
 (am_ob M r0 6 (am_bI (am_cl 144 d [.ref r0, .int x3, .long y1] M) (fun c2 M1 => am_br .eq c2 (am_i (-1))
 (am_ev 145 (d + 1) 7 [.ref r0, .long y1, (am_kl v2), .int (x3 + am_i 1)] [] M1)
 (am_ob M1 r0 6 (am_ob M1 r0 6 (am_bV (am_cl 130 d [.ref r0, .int (am_i 3), .int (am_I M1 r0 39)] M1) (fun M3 => am_ev 145 (d + 1) 7 [.ref r0, .long y1, (am_kl v2), .int (x3 + am_i 1)] [] M3)) none) none))) none)) none) :=
  am_tree (cut := am_cut [7]) 20 rfl
-- 146: X6_oneOf
set_option maxHeartbeats 2000000 in
set_option maxRecDepth 100000 in
theorem t146 (d : Nat) (M : am_M) (r0 : Nat) (x1 : Int32) :
  am_cl 146 (d + 1) [.ref r0, .int x1] M =
 am_ob M r0 6 (am_bL (am_cl 141 d [.ref r0] M) (fun c2 M1 => am_ob M1 r0 6 (am_bI (am_cl 144 d [.ref r0, .int x1, .long c2] M1) (fun c4 M3 => am_ob M3 r0 6 (am_br .ne (am_I M3 r0 5) (am_i 0)
 (am_ob M3 r0 6 (am_br .ne (am_I M3 r0 5) (am_i 0)
 (some (some (.int (am_i 0)), M3))
 (some (some (.int c4), M3))) none)
 (am_br .ne c4 (am_i (-1))
 (am_ob M3 r0 6 (am_br .ne (am_I M3 r0 5) (am_i 0)
 (some (some (.int (am_i 0)), M3))
 (some (some (.int c4), M3))) none)
 (am_ob M3 r0 6 (am_ob M3 r0 6 (am_bV (am_cl 130 d [.ref r0, .int (am_i 3), .int (am_I M3 r0 39)] M3) (fun M5 => am_ob M5 r0 6 (am_br .ne (am_I M5 r0 5) (am_i 0)
 (some (some (.int (am_i 0)), M5))
 (some (some (.int c4), M5))) none)) none) none))) none)) none)) none :=
  show am_ev 146 (d + 1) 0 [.ref r0, .int x1, .null, .null, .null] [] M = _ from am_tree (cut := am_cut []) 26 rfl
-- 147: X6_adds
set_option maxHeartbeats 2000000 in
set_option maxRecDepth 100000 in
theorem t147 (d : Nat) (M : am_M) (r0 : Nat) (x1 : Int32) (y2 : Int64) :
  am_cl 147 d [.ref r0, .int x1, .long y2] M =
 am_ob M r0 6 (am_gr (am_R M r0 41) (fun h1 => am_ob M r0 6 (am_gr (am_R M r0 40) (fun h2 => am_ix M h2 2 x1 (am_iw M h1 3 (((am_i 8) * x1) + (am_I M h2 x1.toNatClampNeg)) (am_lt (am_sL M h1 (((am_i 8) * x1) + (am_I M h2 x1.toNatClampNeg)).toNatClampNeg y2) (fun M3 => am_ob M3 r0 6 (am_gr (am_R M3 r0 40) (fun h4 => am_ix M3 h4 2 x1 (am_iw M3 h4 2 x1 (am_lt (am_sI M3 h4 x1.toNatClampNeg ((am_I M3 h4 x1.toNatClampNeg) + (am_i 1))) (fun M5 => some (none, M5))) none) none) none) none)) none) none) none) none) none) none :=
  show am_ev 147 d 0 [.ref r0, .int x1, .long y2, .null] [] M = _ from am_tree (cut := am_cut []) 22 rfl
-- 148: X6_kindTold
set_option maxHeartbeats 2000000 in
set_option maxRecDepth 100000 in
theorem t148 (d : Nat) (M : am_M) (r0 : Nat) (x1 : Int32) :
  am_cl 148 (d + 1) [.ref r0, .int x1] M =
 am_ob M r0 6 (am_bI (am_cl 143 d [.ref r0, .int (am_i 0), .int (am_i 6), .int x1] M) (fun c2 M1 => am_br .eq c2 (am_i 0)
 (am_ob M1 r0 6 (am_bL (am_cl 145 d [.ref r0] M1) (fun c4 M3 => am_ob M3 r0 6 (am_br .ne (am_I M3 r0 5) (am_i 0)
 (some (none, M3))
 (am_ob M3 r0 6 (am_bV (am_cl 147 d [.ref r0, .int (am_i 0), .long c4] M3) (fun M5 => some (none, M5))) none)) none)) none)
 (some (none, M1)))) none :=
  show am_ev 148 (d + 1) 0 [.ref r0, .int x1, .null, .null] [] M = _ from am_tree (cut := am_cut []) 18 rfl
-- 149: X6_filmTold
set_option maxHeartbeats 2000000 in
set_option maxRecDepth 100000 in
theorem t149 (d : Nat) (M : am_M) (r0 : Nat) (x1 : Int32) :
  am_cl 149 (d + 1) [.ref r0, .int x1] M =
 am_ob M r0 6 (am_bI (am_cl 143 d [.ref r0, .int (am_i 1), .int (am_i 8), .int x1] M) (fun c2 M1 => am_br .eq c2 (am_i 0)
 (am_ob M1 r0 6 (am_bL (am_cl 145 d [.ref r0] M1) (fun c4 M3 => am_ob M3 r0 6 (am_gr (am_R M3 r0 12) (fun h5 => am_ob M3 r0 6 (am_bV (am_cl 136 d [.ref r0, .ref h5] M3) (fun M6 => am_ob M6 r0 6 (am_bI (am_cl 139 d [.ref r0, .int (am_i 1), .int (am_i 9)] M6) (fun c8 M7 => am_ob M7 r0 6 (am_gr (am_R M7 r0 13) (fun h9 => am_ob M7 r0 6 (am_bV (am_cl 136 d [.ref r0, .ref h9] M7) (fun M10 => am_ob M10 r0 6 (am_gr (am_R M10 r0 40) (fun h11 => am_ix M10 h11 2 (am_i 1) (am_ev 149 (d + 1) 53 [.ref r0, .int x1, .long c4, .null, .int c8, .int (am_I M10 h11 (am_i 1).toNatClampNeg), .int (am_i 0), .null, .null] [] M10) none) none) none)) none) none) none)) none)) none) none) none)) none)
 (some (none, M1)))) none :=
  show am_ev 149 (d + 1) 0 [.ref r0, .int x1, .null, .null, .null, .null, .null, .null, .null] [] M = _ from am_tree (cut := am_cut [53, 83, 134, 177]) 30 rfl
set_option maxHeartbeats 2000000 in
set_option maxRecDepth 100000 in
theorem t149_53 (d : Nat) (M : am_M) (r0 : Nat) (v1 v3 v7 v8 : Value) (y2 : Int64) (x4 x5 x6 : Int32) :
  am_ev 149 (d + 1) 53 [.ref r0, v1, .long y2, v3, .int x4, .int x5, .int x6, v7, v8] [] M =
 am_br .ge x6 (am_i 6)
 (am_ev 149 (d + 1) 83 [.ref r0, v1, .long y2, v3, .int x4, .int x5, .int (am_i 1), v7, v8] [] M)
 (am_ob M r0 6 (am_gr (am_R M r0 43) (fun h1 => am_iw M h1 2 (((am_i 6) * x5) + x6) (am_lt (am_sI M h1 (((am_i 6) * x5) + x6).toNatClampNeg (am_i 0)) (fun M2 => am_ev 149 (d + 1) 53 [.ref r0, v1, .long y2, v3, .int x4, .int x5, .int (x6 + am_i 1), v7, v8] [] M2)) none) none) none) :=
  am_tree (cut := am_cut [53, 83, 134, 177]) 15 rfl
set_option maxHeartbeats 2000000 in
set_option maxRecDepth 100000 in
theorem t149_83 (d : Nat) (M : am_M) (r0 : Nat) (v1 v3 v7 v8 : Value) (y2 : Int64) (x4 x5 x6 : Int32) :
  am_ev 149 (d + 1) 83 [.ref r0, v1, .long y2, v3, .int x4, .int x5, .int x6, v7, v8] [] M =
 am_ob M r0 6 (am_br .ne (am_I M r0 5) (am_i 0)
 (am_ev 149 (d + 1) 177 [.ref r0, v1, .long y2, v3, .int x4, .int x5, .int x6, v7, v8] [] M)
 (am_br .eq x6 (am_i 0)
 (am_ev 149 (d + 1) 177 [.ref r0, v1, .long y2, v3, .int x4, .int x5, .int x6, v7, v8] [] M)
 (am_ob M r0 6 (am_bI (am_cl 146 d [.ref r0, .int (am_i 0)] M) (fun c2 M1 => am_ob M1 r0 6 (am_br .ne (am_I M1 r0 5) (am_i 0)
 (am_ev 149 (d + 1) 134 [.ref r0, v1, .long y2, v3, .int x4, .int x5, .int x6, .int c2, v8] [] M1)
 (am_ob M1 r0 6 (am_gr (am_R M1 r0 43) (fun h3 => am_ix M1 h3 2 (((am_i 6) * x5) + c2) (am_br .le (am_I M1 h3 (((am_i 6) * x5) + c2).toNatClampNeg) (am_i 0)
 (am_ev 149 (d + 1) 134 [.ref r0, v1, .long y2, v3, .int x4, .int x5, .int x6, .int c2, v8] [] M1)
 (am_ob M1 r0 6 (am_ob M1 r0 6 (am_bV (am_cl 130 d [.ref r0, .int (am_i 3), .int (am_I M1 r0 39)] M1) (fun M4 => am_ev 149 (d + 1) 134 [.ref r0, v1, .long y2, v3, .int x4, .int x5, .int x6, .int c2, v8] [] M4)) none) none)) none) none) none)) none)) none))) none :=
  am_tree (cut := am_cut [53, 83, 134, 177]) 27 rfl
set_option maxHeartbeats 2000000 in
set_option maxRecDepth 100000 in
theorem t149_134 (d : Nat) (M : am_M) (r0 : Nat) (v1 v3 v6 v8 : Value) (y2 : Int64) (x4 x5 x7 : Int32) :
  am_ev 149 (d + 1) 134 [.ref r0, v1, .long y2, v3, .int x4, .int x5, v6, .int x7, v8] [] M =
 am_ob M r0 6 (am_bI (am_cl 139 d [.ref r0, .int (am_i 1), .int (am_i 9)] M) (fun c2 M1 => am_ob M1 r0 6 (am_br .ne (am_I M1 r0 5) (am_i 0)
 (am_ob M1 r0 6 (am_bI (am_cl 133 d [.ref r0] M1) (fun c4 M3 => am_bI (am_cl 131 d [.int c4] M3) (fun c6 M5 => am_ev 149 (d + 1) 83 [.ref r0, v1, .long y2, v3, .int x4, .int x5, .int c6, .int x7, .int c2] [] M5))) none)
 (am_ob M1 r0 6 (am_gr (am_R M1 r0 43) (fun h7 => am_iw M1 h7 2 (((am_i 6) * x5) + x7) (am_lt (am_sI M1 h7 (((am_i 6) * x5) + x7).toNatClampNeg c2) (fun M8 => am_ob M8 r0 6 (am_bI (am_cl 133 d [.ref r0] M8) (fun c10 M9 => am_bI (am_cl 131 d [.int c10] M9) (fun c12 M11 => am_ev 149 (d + 1) 83 [.ref r0, v1, .long y2, v3, .int x4, .int x5, .int c12, .int x7, .int c2] [] M11))) none)) none) none) none)) none)) none :=
  am_tree (cut := am_cut [53, 83, 134, 177]) 23 rfl
set_option maxHeartbeats 2000000 in
set_option maxRecDepth 100000 in
theorem t149_177 (d : Nat) (M : am_M) (r0 : Nat) (v1 v3 v6 v7 v8 : Value) (y2 : Int64) (x4 x5 : Int32) :
  am_ev 149 (d + 1) 177 [.ref r0, v1, .long y2, v3, .int x4, .int x5, v6, v7, v8] [] M =
 am_ob M r0 6 (am_br .eq (am_I M r0 5) (am_i 0)
 (am_ob M r0 6 (am_gr (am_R M r0 42) (fun h1 => am_iw M h1 2 x5 (am_lt (am_sI M h1 x5.toNatClampNeg x4) (fun M2 => am_ob M2 r0 6 (am_bV (am_cl 147 d [.ref r0, .int (am_i 1), .long y2] M2) (fun M3 => some (none, M3))) none)) none) none) none)
 (some (none, M))) none :=
  am_tree (cut := am_cut [53, 83, 134, 177]) 14 rfl
-- 150: X6_personTold
set_option maxHeartbeats 2000000 in
set_option maxRecDepth 100000 in
theorem t150 (d : Nat) (M : am_M) (r0 : Nat) (x1 : Int32) :
  am_cl 150 (d + 1) [.ref r0, .int x1] M =
 am_ob M r0 6 (am_bI (am_cl 143 d [.ref r0, .int (am_i 2), .int (am_i 5), .int x1] M) (fun c2 M1 => am_br .eq c2 (am_i 0)
 (am_ob M1 r0 6 (am_bL (am_cl 145 d [.ref r0] M1) (fun c4 M3 => am_ob M3 r0 6 (am_gr (am_R M3 r0 15) (fun h5 => am_ob M3 r0 6 (am_bV (am_cl 136 d [.ref r0, .ref h5] M3) (fun M6 => am_ob M6 r0 6 (am_bI (am_cl 139 d [.ref r0, .int (am_i 0), .int (am_i 23)] M6) (fun c8 M7 => am_ob M7 r0 6 (am_gr (am_R M7 r0 16) (fun h9 => am_ob M7 r0 6 (am_bV (am_cl 136 d [.ref r0, .ref h9] M7) (fun M10 => am_ob M10 r0 6 (am_bI (am_cl 139 d [.ref r0, .int c8, .int (am_i 23)] M10) (fun c12 M11 => am_ob M11 r0 6 (am_br .eq (am_I M11 r0 5) (am_i 0)
 (am_ob M11 r0 6 (am_gr (am_R M11 r0 44) (fun h13 => am_ob M11 r0 6 (am_gr (am_R M11 r0 40) (fun h14 => am_ix M11 h14 2 (am_i 2) (am_iw M11 h13 2 ((am_i 2) * (am_I M11 h14 (am_i 2).toNatClampNeg)) (am_lt (am_sI M11 h13 ((am_i 2) * (am_I M11 h14 (am_i 2).toNatClampNeg)).toNatClampNeg c8) (fun M15 => am_ob M15 r0 6 (am_gr (am_R M15 r0 44) (fun h16 => am_ob M15 r0 6 (am_gr (am_R M15 r0 40) (fun h17 => am_ix M15 h17 2 (am_i 2) (am_iw M15 h16 2 (((am_i 2) * (am_I M15 h17 (am_i 2).toNatClampNeg)) + (am_i 1)) (am_lt (am_sI M15 h16 (((am_i 2) * (am_I M15 h17 (am_i 2).toNatClampNeg)) + (am_i 1)).toNatClampNeg c12) (fun M18 => am_ob M18 r0 6 (am_bV (am_cl 147 d [.ref r0, .int (am_i 2), .long c4] M18) (fun M19 => some (none, M19))) none)) none) none) none) none) none) none)) none) none) none) none) none) none)
 (some (none, M11))) none)) none)) none) none) none)) none)) none) none) none)) none)
 (some (none, M1)))) none :=
  show am_ev 150 (d + 1) 0 [.ref r0, .int x1, .null, .null, .null, .null] [] M = _ from am_tree (cut := am_cut []) 58 rfl
-- 151: X6_likesTold
set_option maxHeartbeats 2000000 in
set_option maxRecDepth 100000 in
theorem t151 (d : Nat) (M : am_M) (r0 : Nat) :
  am_cl 151 (d + 1) [.ref r0] M =
 am_ob M r0 6 (am_bI (am_cl 146 d [.ref r0, .int (am_i 2)] M) (fun c2 M1 => am_ob M1 r0 6 (am_bI (am_cl 146 d [.ref r0, .int (am_i 0)] M1) (fun c4 M3 => am_ob M3 r0 6 (am_bI (am_cl 139 d [.ref r0, .int (am_i 0), .int (am_i 9)] M3) (fun c6 M5 => am_ob M5 r0 6 (am_br .ne (am_I M5 r0 5) (am_i 0)
 (some (none, M5))
 (am_ob M5 r0 6 (am_gr (am_R M5 r0 45) (fun h7 => am_iw M5 h7 2 (((am_i 6) * c2) + c4) (am_lt (am_sI M5 h7 (((am_i 6) * c2) + c4).toNatClampNeg c6) (fun M8 => some (none, M8))) none) none) none)) none)) none)) none)) none :=
  show am_ev 151 (d + 1) 0 [.ref r0, .null, .null, .null] [] M = _ from am_tree (cut := am_cut []) 27 rfl
-- 152: X6_pressTold
set_option maxHeartbeats 2000000 in
set_option maxRecDepth 100000 in
theorem t152 (d : Nat) (M : am_M) (r0 : Nat) :
  am_cl 152 (d + 1) [.ref r0] M =
 am_ob M r0 6 (am_bI (am_cl 146 d [.ref r0, .int (am_i 2)] M) (fun c2 M1 => am_ob M1 r0 6 (am_br .ne (am_I M1 r0 5) (am_i 0)
 (am_ev 152 (d + 1) 34 [.ref r0, .int c2] [] M1)
 (am_ob M1 r0 6 (am_br .ne (((am_I M1 r0 46) >>> (c2 &&& 31)) &&& (am_i 1)) (am_i 1)
 (am_ev 152 (d + 1) 34 [.ref r0, .int c2] [] M1)
 (am_ob M1 r0 6 (am_ob M1 r0 6 (am_bV (am_cl 130 d [.ref r0, .int (am_i 3), .int (am_I M1 r0 39)] M1) (fun M3 => am_ev 152 (d + 1) 34 [.ref r0, .int c2] [] M3)) none) none)) none)) none)) none :=
  show am_ev 152 (d + 1) 0 [.ref r0, .null] [] M = _ from am_tree (cut := am_cut [34]) 21 rfl
set_option maxHeartbeats 2000000 in
set_option maxRecDepth 100000 in
theorem t152_34 (d : Nat) (M : am_M) (r0 : Nat) (x1 : Int32) :
  am_ev 152 (d + 1) 34 [.ref r0, .int x1] [] M =
 am_ob M r0 6 (am_br .ne (am_I M r0 5) (am_i 0)
 (some (none, M))
 (am_ob M r0 6 (am_ob M r0 6 (am_lt (am_sI M r0 46 ((am_I M r0 46) ||| ((am_i 1) <<< (x1 &&& 31)))) (fun M1 => some (none, M1))) none) none)) none :=
  am_tree (cut := am_cut [34]) 13 rfl
-- 153: X6_codesTold
set_option maxHeartbeats 2000000 in
set_option maxRecDepth 100000 in
theorem t153 (d : Nat) (M : am_M) (r0 : Nat) (x1 x2 : Int32) :
  am_cl 153 (d + 1) [.ref r0, .int x1, .int x2] M =
 am_ob M r0 6 (am_br .ne (am_I M r0 5) (am_i 0)
 (am_ev 153 (d + 1) 23 [.ref r0, .int x1, .int x2, .null] [] M)
 (am_ob M r0 6 (am_gr (am_R M r0 48) (fun h1 => am_ix M h1 2 x1 (am_br .eq (am_I M h1 x1.toNatClampNeg) (am_i (-1))
 (am_ev 153 (d + 1) 23 [.ref r0, .int x1, .int x2, .null] [] M)
 (am_ob M r0 6 (am_bV (am_cl 130 d [.ref r0, .int (am_i 5), .int x2] M) (fun M2 => am_ev 153 (d + 1) 23 [.ref r0, .int x1, .int x2, .null] [] M2)) none)) none) none) none)) none :=
  show am_ev 153 (d + 1) 0 [.ref r0, .int x1, .int x2, .null] [] M = _ from am_tree (cut := am_cut [23, 72, 92]) 14 rfl
set_option maxHeartbeats 2000000 in
set_option maxRecDepth 100000 in
theorem t153_23 (d : Nat) (M : am_M) (r0 : Nat) (x1 : Int32) (v2 v3 : Value) :
  am_ev 153 (d + 1) 23 [.ref r0, .int x1, v2, v3] [] M =
 am_ob M r0 6 (am_br .eq (am_I M r0 5) (am_i 0)
 (am_ob M r0 6 (am_lt (am_sI M r0 53 x1) (fun M1 => am_ob M1 r0 6 (am_lt (am_sI M1 r0 92 (am_i 0)) (fun M2 => am_ob M2 r0 6 (am_lt (am_sI M2 r0 94 (am_i 0)) (fun M3 => am_ob M3 r0 6 (am_lt (am_sI M3 r0 95 (am_i 0)) (fun M4 => am_ob M4 r0 6 (am_lt (am_sI M4 r0 96 (am_i 0)) (fun M5 => am_br .ne x1 (am_i 2)
 (am_ob M5 r0 6 (am_bV (am_cl 245 d [.ref r0] M5) (fun M6 => am_ev 153 (d + 1) 72 [.ref r0, .int x1, v2, v3] [] M6)) none)
 (am_ob M5 r0 6 (am_bV (am_cl 249 d [.ref r0] M5) (fun M7 => am_ev 153 (d + 1) 72 [.ref r0, .int x1, v2, v3] [] M7)) none))) none)) none)) none)) none)) none)
 (some (none, M))) none :=
  am_tree (cut := am_cut [23, 72, 92]) 25 rfl
set_option maxHeartbeats 2000000 in
set_option maxRecDepth 100000 in
theorem t153_72 (d : Nat) (M : am_M) (r0 : Nat) (x1 : Int32) (v2 v3 : Value) :
  am_ev 153 (d + 1) 72 [.ref r0, .int x1, v2, v3] [] M =
 am_ob M r0 6 (am_br .eq (am_I M r0 5) (am_i 0)
 (am_ob M r0 6 (am_gr (am_R M r0 48) (fun h1 => am_ob M r0 6 (am_iw M h1 2 x1 (am_lt (am_sI M h1 x1.toNatClampNeg (am_I M r0 51)) (fun M2 => am_ev 153 (d + 1) 92 [.ref r0, .int x1, (am_kl v2), .int (am_i 0)] [] M2)) none) none) none) none)
 (some (none, M))) none :=
  am_tree (cut := am_cut [23, 72, 92]) 12 rfl
set_option maxHeartbeats 2000000 in
set_option maxRecDepth 100000 in
theorem t153_92 (d : Nat) (M : am_M) (r0 : Nat) (x1 x3 : Int32) (v2 : Value) :
  am_ev 153 (d + 1) 92 [.ref r0, .int x1, v2, .int x3] [] M =
 am_ob M r0 6 (am_br .ge x3 (am_I M r0 92)
 (am_ob M r0 6 (am_gr (am_R M r0 49) (fun h1 => am_ob M r0 6 (am_iw M h1 2 x1 (am_lt (am_sI M h1 x1.toNatClampNeg (am_I M r0 51)) (fun M2 => some (none, M2))) none) none) none) none)
 (am_ob M r0 6 (am_gr (am_R M r0 50) (fun h3 => am_ob M r0 6 (am_ob M r0 6 (am_gr (am_R M r0 91) (fun h4 => am_ix M h4 2 x3 (am_iw M h3 2 (am_I M r0 51) (am_lt (am_sI M h3 (am_I M r0 51).toNatClampNeg (am_I M h4 x3.toNatClampNeg)) (fun M5 => am_ob M5 r0 6 (am_ob M5 r0 6 (am_lt (am_sI M5 r0 51 ((am_I M5 r0 51) + (am_i 1))) (fun M6 => am_ev 153 (d + 1) 92 [.ref r0, .int x1, (am_kl v2), .int (x3 + am_i 1)] [] M6)) none) none)) none) none) none) none) none) none) none)) none :=
  am_tree (cut := am_cut [23, 72, 92]) 22 rfl
-- 154: X6_statementTold
set_option maxHeartbeats 2000000 in
set_option maxRecDepth 100000 in
theorem t154 (d : Nat) (M : am_M) (r0 : Nat) :
  am_cl 154 (d + 1) [.ref r0] M =
 am_ob M r0 6 (am_ob M r0 6 (am_br .ne (am_I M r0 52) (am_i 80)
 (am_ob M r0 6 (am_gr (am_R M r0 10) (fun h1 => am_ob M r0 6 (am_bI (am_cl 135 d [.ref r0, .ref h1] M) (fun c3 M2 => am_br .eq c3 (am_i 0)
 (am_ob M2 r0 6 (am_gr (am_R M2 r0 11) (fun h4 => am_ob M2 r0 6 (am_bI (am_cl 135 d [.ref r0, .ref h4] M2) (fun c6 M5 => am_br .eq c6 (am_i 0)
 (am_ob M5 r0 6 (am_gr (am_R M5 r0 14) (fun h7 => am_ob M5 r0 6 (am_bI (am_cl 135 d [.ref r0, .ref h7] M5) (fun c9 M8 => am_br .eq c9 (am_i 0)
 (am_ob M8 r0 6 (am_gr (am_R M8 r0 17) (fun h10 => am_ob M8 r0 6 (am_bI (am_cl 135 d [.ref r0, .ref h10] M8) (fun c12 M11 => am_br .eq c12 (am_i 0)
 (am_ob M11 r0 6 (am_gr (am_R M11 r0 18) (fun h13 => am_ob M11 r0 6 (am_bI (am_cl 135 d [.ref r0, .ref h13] M11) (fun c15 M14 => am_br .eq c15 (am_i 0)
 (am_ob M14 r0 6 (am_gr (am_R M14 r0 19) (fun h16 => am_ob M14 r0 6 (am_bI (am_cl 135 d [.ref r0, .ref h16] M14) (fun c18 M17 => am_br .eq c18 (am_i 0)
 (am_ob M17 r0 6 (am_gr (am_R M17 r0 20) (fun h19 => am_ob M17 r0 6 (am_bI (am_cl 135 d [.ref r0, .ref h19] M17) (fun c21 M20 => am_br .eq c21 (am_i 0)
 (am_ob M20 r0 6 (am_gr (am_R M20 r0 21) (fun h22 => am_ob M20 r0 6 (am_bI (am_cl 135 d [.ref r0, .ref h22] M20) (fun c24 M23 => am_br .eq c24 (am_i 0)
 (am_ob M23 r0 6 (am_gr (am_R M23 r0 22) (fun h25 => am_ob M23 r0 6 (am_bI (am_cl 135 d [.ref r0, .ref h25] M23) (fun c27 M26 => am_br .eq c27 (am_i 0)
 (am_ob M26 r0 6 (am_gr (am_R M26 r0 23) (fun h28 => am_ob M26 r0 6 (am_bI (am_cl 135 d [.ref r0, .ref h28] M26) (fun c30 M29 => am_br .eq c30 (am_i 0)
 (am_ob M29 r0 6 (am_gr (am_R M29 r0 24) (fun h31 => am_ob M29 r0 6 (am_bI (am_cl 135 d [.ref r0, .ref h31] M29) (fun c33 M32 => am_br .eq c33 (am_i 0)
 (am_ob M32 r0 6 (am_gr (am_R M32 r0 25) (fun h34 => am_ob M32 r0 6 (am_bV (am_cl 136 d [.ref r0, .ref h34] M32) (fun M35 => am_ob M35 r0 6 (am_gr (am_R M35 r0 47) (fun h36 => am_ob M35 r0 6 (am_bI (am_cl 139 d [.ref r0, .int (am_i 0), .int (am_i 100)] M35) (fun c38 M37 => am_iw M37 h36 2 (am_i 3) (am_lt (am_sI M37 h36 (am_i 3).toNatClampNeg c38) (fun M39 => am_ev 154 (d + 1) 276 [.ref r0, .int (am_I M r0 2)] [] M39)) none)) none) none) none)) none) none) none)
 (am_ob M32 r0 6 (am_gr (am_R M32 r0 47) (fun h40 => am_ob M32 r0 6 (am_bI (am_cl 139 d [.ref r0, .int (am_i 0), .int (am_i 99)] M32) (fun c42 M41 => am_iw M41 h40 2 (am_i 2) (am_lt (am_sI M41 h40 (am_i 2).toNatClampNeg c42) (fun M43 => am_ev 154 (d + 1) 276 [.ref r0, .int (am_I M r0 2)] [] M43)) none)) none) none) none))) none) none) none)
 (am_ob M29 r0 6 (am_gr (am_R M29 r0 47) (fun h44 => am_ob M29 r0 6 (am_bI (am_cl 139 d [.ref r0, .int (am_i 0), .int (am_i 999)] M29) (fun c46 M45 => am_iw M45 h44 2 (am_i 1) (am_lt (am_sI M45 h44 (am_i 1).toNatClampNeg c46) (fun M47 => am_ev 154 (d + 1) 276 [.ref r0, .int (am_I M r0 2)] [] M47)) none)) none) none) none))) none) none) none)
 (am_ob M26 r0 6 (am_gr (am_R M26 r0 47) (fun h48 => am_ob M26 r0 6 (am_bI (am_cl 139 d [.ref r0, .int (am_i 1), .int (am_i 5)] M26) (fun c50 M49 => am_iw M49 h48 2 (am_i 0) (am_lt (am_sI M49 h48 (am_i 0).toNatClampNeg c50) (fun M51 => am_ev 154 (d + 1) 276 [.ref r0, .int (am_I M r0 2)] [] M51)) none)) none) none) none))) none) none) none)
 (am_ob M23 r0 6 (am_bV (am_cl 153 d [.ref r0, .int (am_i 2), .int (am_I M r0 2)] M23) (fun M52 => am_ev 154 (d + 1) 276 [.ref r0, .int (am_I M r0 2)] [] M52)) none))) none) none) none)
 (am_ob M20 r0 6 (am_bV (am_cl 153 d [.ref r0, .int (am_i 1), .int (am_I M r0 2)] M20) (fun M53 => am_ev 154 (d + 1) 276 [.ref r0, .int (am_I M r0 2)] [] M53)) none))) none) none) none)
 (am_ob M17 r0 6 (am_bV (am_cl 153 d [.ref r0, .int (am_i 0), .int (am_I M r0 2)] M17) (fun M54 => am_ev 154 (d + 1) 276 [.ref r0, .int (am_I M r0 2)] [] M54)) none))) none) none) none)
 (am_ob M14 r0 6 (am_bV (am_cl 152 d [.ref r0] M14) (fun M55 => am_ev 154 (d + 1) 276 [.ref r0, .int (am_I M r0 2)] [] M55)) none))) none) none) none)
 (am_ob M11 r0 6 (am_bV (am_cl 151 d [.ref r0] M11) (fun M56 => am_ev 154 (d + 1) 276 [.ref r0, .int (am_I M r0 2)] [] M56)) none))) none) none) none)
 (am_ob M8 r0 6 (am_bV (am_cl 150 d [.ref r0, .int (am_I M r0 2)] M8) (fun M57 => am_ev 154 (d + 1) 276 [.ref r0, .int (am_I M r0 2)] [] M57)) none))) none) none) none)
 (am_ob M5 r0 6 (am_bV (am_cl 149 d [.ref r0, .int (am_I M r0 2)] M5) (fun M58 => am_ev 154 (d + 1) 276 [.ref r0, .int (am_I M r0 2)] [] M58)) none))) none) none) none)
 (am_ob M2 r0 6 (am_bV (am_cl 148 d [.ref r0, .int (am_I M r0 2)] M2) (fun M59 => am_ev 154 (d + 1) 276 [.ref r0, .int (am_I M r0 2)] [] M59)) none))) none) none) none)
 (am_ob M r0 6 (am_bV (am_cl 130 d [.ref r0, .int (am_i 5), .int (am_I M r0 2)] M) (fun M60 => some (none, M60))) none)) none) none :=
  show am_ev 154 (d + 1) 0 [.ref r0, .null] [] M = _ from am_tree (cut := am_cut [276]) 75 rfl
set_option maxHeartbeats 2000000 in
set_option maxRecDepth 100000 in
theorem t154_276 (d : Nat) (M : am_M) (r0 : Nat) (v1 : Value) :
  am_ev 154 (d + 1) 276 [.ref r0, v1] [] M =
 am_ob M r0 6 (am_bV (am_cl 138 d [.ref r0, .int (am_i 59)] M) (fun M1 => am_ob M1 r0 6 (am_ob M1 r0 6 (am_lt (am_sI M1 r0 52 ((am_I M1 r0 52) + (am_i 1))) (fun M2 => some (none, M2))) none) none)) none :=
  am_tree (cut := am_cut [276]) 11 rfl
-- 155: X6_house
set_option maxHeartbeats 2000000 in
set_option maxRecDepth 100000 in
theorem t155 (d : Nat) (M : am_M) (r0 : Nat) :
  am_cl 155 (d + 1) [.ref r0] M =
 am_ob M r0 6 (am_ob M r0 6 (am_lt (am_sI M r0 3 (am_I M r0 1)) (fun M1 => am_ob M1 r0 6 (am_lt (am_sI M1 r0 1 (am_i 0)) (fun M2 => am_ob M2 r0 6 (am_lt (am_sI M2 r0 2 (am_i 0)) (fun M3 => am_ob M3 r0 6 (am_lt (am_sI M3 r0 4 (am_i (-1))) (fun M4 => am_ob M4 r0 6 (am_lt (am_sI M4 r0 5 (am_i 0)) (fun M5 => am_ob M5 r0 6 (am_lt (am_sI M5 r0 6 (am_i (-1))) (fun M6 => am_ob M6 r0 6 (am_lt (am_sI M6 r0 52 (am_i 0)) (fun M7 => am_ob M7 r0 6 (am_lt (am_sI M7 r0 51 (am_i 0)) (fun M8 => am_ob M8 r0 6 (am_lt (am_sI M8 r0 46 (am_i 0)) (fun M9 => am_ev 155 (d + 1) 50 [.ref r0, .int (am_i 0)] [] M9)) none)) none)) none)) none)) none)) none)) none)) none)) none) none :=
  show am_ev 155 (d + 1) 0 [.ref r0, .null] [] M = _ from am_tree (cut := am_cut [50, 77, 124, 146]) 31 rfl
set_option maxHeartbeats 2000000 in
set_option maxRecDepth 100000 in
theorem t155_50 (d : Nat) (M : am_M) (r0 : Nat) (x1 : Int32) :
  am_ev 155 (d + 1) 50 [.ref r0, .int x1] [] M =
 am_br .ge x1 (am_i 3)
 (am_ev 155 (d + 1) 77 [.ref r0, .int (am_i 0)] [] M)
 (am_ob M r0 6 (am_gr (am_R M r0 40) (fun h1 => am_iw M h1 2 x1 (am_lt (am_sI M h1 x1.toNatClampNeg (am_i 0)) (fun M2 => am_ob M2 r0 6 (am_gr (am_R M2 r0 48) (fun h3 => am_iw M2 h3 2 x1 (am_lt (am_sI M2 h3 x1.toNatClampNeg (am_i (-1))) (fun M4 => am_ev 155 (d + 1) 50 [.ref r0, .int (x1 + am_i 1)] [] M4)) none) none) none)) none) none) none) :=
  am_tree (cut := am_cut [50, 77, 124, 146]) 16 rfl
set_option maxHeartbeats 2000000 in
set_option maxRecDepth 100000 in
theorem t155_77 (d : Nat) (M : am_M) (r0 : Nat) (x1 : Int32) :
  am_ev 155 (d + 1) 77 [.ref r0, .int x1] [] M =
 am_br .ge x1 (am_i 30)
 (am_ob M r0 6 (am_gr (am_R M r0 47) (fun h1 => am_iw M h1 2 (am_i 0) (am_lt (am_sI M h1 (am_i 0).toNatClampNeg (am_i 5)) (fun M2 => am_ob M2 r0 6 (am_gr (am_R M2 r0 47) (fun h3 => am_iw M2 h3 2 (am_i 1) (am_lt (am_sI M2 h3 (am_i 1).toNatClampNeg (am_i 0)) (fun M4 => am_ob M4 r0 6 (am_gr (am_R M4 r0 47) (fun h5 => am_iw M4 h5 2 (am_i 2) (am_lt (am_sI M4 h5 (am_i 2).toNatClampNeg (am_i 0)) (fun M6 => am_ob M6 r0 6 (am_gr (am_R M6 r0 47) (fun h7 => am_iw M6 h7 2 (am_i 3) (am_lt (am_sI M6 h7 (am_i 3).toNatClampNeg (am_i 0)) (fun M8 => am_ev 155 (d + 1) 124 [.ref r0, .int x1] [] M8)) none) none) none)) none) none) none)) none) none) none)) none) none) none)
 (am_ob M r0 6 (am_gr (am_R M r0 45) (fun h9 => am_iw M h9 2 x1 (am_lt (am_sI M h9 x1.toNatClampNeg (am_i 0)) (fun M10 => am_ev 155 (d + 1) 77 [.ref r0, .int (x1 + am_i 1)] [] M10)) none) none) none) :=
  am_tree (cut := am_cut [50, 77, 124, 146]) 24 rfl
set_option maxHeartbeats 2000000 in
set_option maxRecDepth 100000 in
theorem t155_124 (d : Nat) (M : am_M) (r0 : Nat) (v1 : Value) :
  am_ev 155 (d + 1) 124 [.ref r0, v1] [] M =
 am_ob M r0 6 (am_br .ne (am_I M r0 5) (am_i 0)
 (am_ev 155 (d + 1) 146 [.ref r0, v1] [] M)
 (am_ob M r0 6 (am_bI (am_cl 133 d [.ref r0] M) (fun c2 M1 => am_br .eq c2 (am_i (-1))
 (am_ev 155 (d + 1) 146 [.ref r0, v1] [] M1)
 (am_ob M1 r0 6 (am_bV (am_cl 154 d [.ref r0] M1) (fun M3 => am_ev 155 (d + 1) 124 [.ref r0, v1] [] M3)) none))) none)) none :=
  am_tree (cut := am_cut [50, 77, 124, 146]) 11 rfl
set_option maxHeartbeats 2000000 in
set_option maxRecDepth 100000 in
theorem t155_146 (d : Nat) (M : am_M) (r0 : Nat) (v1 : Value) :
  am_ev 155 (d + 1) 146 [.ref r0, v1] [] M =
 am_ob M r0 6 (am_ob M r0 6 (am_lt (am_sI M r0 7 (am_I M r0 5)) (fun M1 => am_ob M1 r0 6 (am_ob M1 r0 6 (am_lt (am_sI M1 r0 8 (am_I M1 r0 6)) (fun M2 => am_ob M2 r0 6 (am_br .eq (am_I M2 r0 5) (am_i 0)
 (am_ob M2 r0 6 (am_bV (am_cl 156 d [.ref r0] M2) (fun M3 => am_ob M3 r0 6 (some (some (.int (am_I M3 r0 52)), M3)) none)) none)
 (am_ob M2 r0 6 (am_gr (am_R M2 r0 9) (fun h4 => am_ix M2 h4 2 (am_i 1) (am_iw M2 h4 2 (am_i 1) (am_lt (am_sI M2 h4 (am_i 1).toNatClampNeg ((am_I M2 h4 (am_i 1).toNatClampNeg) + (am_i 1))) (fun M5 => some (some (.int (am_i (-1))), M5))) none) none) none) none)) none)) none) none)) none) none :=
  am_tree (cut := am_cut [50, 77, 124, 146]) 22 rfl
-- 156: X6_stands
set_option maxHeartbeats 2000000 in
set_option maxRecDepth 100000 in
theorem t156 (d : Nat) (M : am_M) (r0 : Nat) :
  am_cl 156 (d + 1) [.ref r0] M =
 am_ev 156 (d + 1) 2 [.ref r0, .int (am_i 0)] [] M :=
  show am_ev 156 (d + 1) 0 [.ref r0, .null] [] M = _ from am_tree (cut := am_cut [2, 57, 86, 115, 144, 173, 202, 229, 261]) 3 rfl
set_option maxHeartbeats 2000000 in
set_option maxRecDepth 100000 in
theorem t156_2 (d : Nat) (M : am_M) (r0 : Nat) (x1 : Int32) :
  am_ev 156 (d + 1) 2 [.ref r0, .int x1] [] M =
 am_br .ge x1 (am_i 3)
 (am_ev 156 (d + 1) 57 [.ref r0, .int (am_i 0)] [] M)
 (am_ob M r0 6 (am_gr (am_R M r0 40) (fun h1 => am_ob M r0 6 (am_gr (am_R M r0 40) (fun h2 => am_ix M h2 2 x1 (am_iw M h1 2 ((am_i 3) + x1) (am_lt (am_sI M h1 ((am_i 3) + x1).toNatClampNeg (am_I M h2 x1.toNatClampNeg)) (fun M3 => am_ob M3 r0 6 (am_gr (am_R M3 r0 48) (fun h4 => am_ob M3 r0 6 (am_gr (am_R M3 r0 48) (fun h5 => am_ix M3 h5 2 x1 (am_iw M3 h4 2 ((am_i 3) + x1) (am_lt (am_sI M3 h4 ((am_i 3) + x1).toNatClampNeg (am_I M3 h5 x1.toNatClampNeg)) (fun M6 => am_ob M6 r0 6 (am_gr (am_R M6 r0 49) (fun h7 => am_ob M6 r0 6 (am_gr (am_R M6 r0 49) (fun h8 => am_ix M6 h8 2 x1 (am_iw M6 h7 2 ((am_i 3) + x1) (am_lt (am_sI M6 h7 ((am_i 3) + x1).toNatClampNeg (am_I M6 h8 x1.toNatClampNeg)) (fun M9 => am_ev 156 (d + 1) 2 [.ref r0, .int (x1 + am_i 1)] [] M9)) none) none) none) none) none) none)) none) none) none) none) none) none)) none) none) none) none) none) none) :=
  am_tree (cut := am_cut [2, 57, 86, 115, 144, 173, 202, 229, 261]) 36 rfl
set_option maxHeartbeats 2000000 in
set_option maxRecDepth 100000 in
theorem t156_57 (d : Nat) (M : am_M) (r0 : Nat) (x1 : Int32) :
  am_ev 156 (d + 1) 57 [.ref r0, .int x1] [] M =
 am_br .ge x1 (am_i 24)
 (am_ev 156 (d + 1) 86 [.ref r0, .int (am_i 0)] [] M)
 (am_ob M r0 6 (am_gr (am_R M r0 41) (fun h1 => am_ob M r0 6 (am_gr (am_R M r0 41) (fun h2 => am_ix M h2 3 x1 (am_iw M h1 3 ((am_i 24) + x1) (am_lt (am_sL M h1 ((am_i 24) + x1).toNatClampNeg (am_L M h2 x1.toNatClampNeg)) (fun M3 => am_ev 156 (d + 1) 57 [.ref r0, .int (x1 + am_i 1)] [] M3)) none) none) none) none) none) none) :=
  am_tree (cut := am_cut [2, 57, 86, 115, 144, 173, 202, 229, 261]) 16 rfl
set_option maxHeartbeats 2000000 in
set_option maxRecDepth 100000 in
theorem t156_86 (d : Nat) (M : am_M) (r0 : Nat) (x1 : Int32) :
  am_ev 156 (d + 1) 86 [.ref r0, .int x1] [] M =
 am_br .ge x1 (am_i 8)
 (am_ev 156 (d + 1) 115 [.ref r0, .int (am_i 0)] [] M)
 (am_ob M r0 6 (am_gr (am_R M r0 42) (fun h1 => am_ob M r0 6 (am_gr (am_R M r0 42) (fun h2 => am_ix M h2 2 x1 (am_iw M h1 2 ((am_i 8) + x1) (am_lt (am_sI M h1 ((am_i 8) + x1).toNatClampNeg (am_I M h2 x1.toNatClampNeg)) (fun M3 => am_ev 156 (d + 1) 86 [.ref r0, .int (x1 + am_i 1)] [] M3)) none) none) none) none) none) none) :=
  am_tree (cut := am_cut [2, 57, 86, 115, 144, 173, 202, 229, 261]) 16 rfl
set_option maxHeartbeats 2000000 in
set_option maxRecDepth 100000 in
theorem t156_115 (d : Nat) (M : am_M) (r0 : Nat) (x1 : Int32) :
  am_ev 156 (d + 1) 115 [.ref r0, .int x1] [] M =
 am_br .ge x1 (am_i 48)
 (am_ev 156 (d + 1) 144 [.ref r0, .int (am_i 0)] [] M)
 (am_ob M r0 6 (am_gr (am_R M r0 43) (fun h1 => am_ob M r0 6 (am_gr (am_R M r0 43) (fun h2 => am_ix M h2 2 x1 (am_iw M h1 2 ((am_i 48) + x1) (am_lt (am_sI M h1 ((am_i 48) + x1).toNatClampNeg (am_I M h2 x1.toNatClampNeg)) (fun M3 => am_ev 156 (d + 1) 115 [.ref r0, .int (x1 + am_i 1)] [] M3)) none) none) none) none) none) none) :=
  am_tree (cut := am_cut [2, 57, 86, 115, 144, 173, 202, 229, 261]) 16 rfl
set_option maxHeartbeats 2000000 in
set_option maxRecDepth 100000 in
theorem t156_144 (d : Nat) (M : am_M) (r0 : Nat) (x1 : Int32) :
  am_ev 156 (d + 1) 144 [.ref r0, .int x1] [] M =
 am_br .ge x1 (am_i 10)
 (am_ev 156 (d + 1) 173 [.ref r0, .int (am_i 0)] [] M)
 (am_ob M r0 6 (am_gr (am_R M r0 44) (fun h1 => am_ob M r0 6 (am_gr (am_R M r0 44) (fun h2 => am_ix M h2 2 x1 (am_iw M h1 2 ((am_i 10) + x1) (am_lt (am_sI M h1 ((am_i 10) + x1).toNatClampNeg (am_I M h2 x1.toNatClampNeg)) (fun M3 => am_ev 156 (d + 1) 144 [.ref r0, .int (x1 + am_i 1)] [] M3)) none) none) none) none) none) none) :=
  am_tree (cut := am_cut [2, 57, 86, 115, 144, 173, 202, 229, 261]) 16 rfl
set_option maxHeartbeats 2000000 in
set_option maxRecDepth 100000 in
theorem t156_173 (d : Nat) (M : am_M) (r0 : Nat) (x1 : Int32) :
  am_ev 156 (d + 1) 173 [.ref r0, .int x1] [] M =
 am_br .ge x1 (am_i 30)
 (am_ev 156 (d + 1) 202 [.ref r0, .int (am_i 0)] [] M)
 (am_ob M r0 6 (am_gr (am_R M r0 45) (fun h1 => am_ob M r0 6 (am_gr (am_R M r0 45) (fun h2 => am_ix M h2 2 x1 (am_iw M h1 2 ((am_i 30) + x1) (am_lt (am_sI M h1 ((am_i 30) + x1).toNatClampNeg (am_I M h2 x1.toNatClampNeg)) (fun M3 => am_ev 156 (d + 1) 173 [.ref r0, .int (x1 + am_i 1)] [] M3)) none) none) none) none) none) none) :=
  am_tree (cut := am_cut [2, 57, 86, 115, 144, 173, 202, 229, 261]) 16 rfl
set_option maxHeartbeats 2000000 in
set_option maxRecDepth 100000 in
theorem t156_202 (d : Nat) (M : am_M) (r0 : Nat) (x1 : Int32) :
  am_ev 156 (d + 1) 202 [.ref r0, .int x1] [] M =
 am_br .ge x1 (am_i 4)
 (am_ev 156 (d + 1) 229 [.ref r0, .int (am_i 0)] [] M)
 (am_ob M r0 6 (am_gr (am_R M r0 47) (fun h1 => am_ob M r0 6 (am_gr (am_R M r0 47) (fun h2 => am_ix M h2 2 x1 (am_iw M h1 2 ((am_i 4) + x1) (am_lt (am_sI M h1 ((am_i 4) + x1).toNatClampNeg (am_I M h2 x1.toNatClampNeg)) (fun M3 => am_ev 156 (d + 1) 202 [.ref r0, .int (x1 + am_i 1)] [] M3)) none) none) none) none) none) none) :=
  am_tree (cut := am_cut [2, 57, 86, 115, 144, 173, 202, 229, 261]) 16 rfl
set_option maxHeartbeats 2000000 in
set_option maxRecDepth 100000 in
theorem t156_229 (d : Nat) (M : am_M) (r0 : Nat) (x1 : Int32) :
  am_ev 156 (d + 1) 229 [.ref r0, .int x1] [] M =
 am_ob M r0 6 (am_br .ge x1 (am_I M r0 51)
 (am_ev 156 (d + 1) 261 [.ref r0, .int (am_i 0)] [] M)
 (am_ob M r0 6 (am_gr (am_R M r0 50) (fun h1 => am_ob M r0 6 (am_gr (am_R M r0 50) (fun h2 => am_ix M h2 2 x1 (am_iw M h1 2 ((am_i 1600) + x1) (am_lt (am_sI M h1 ((am_i 1600) + x1).toNatClampNeg (am_I M h2 x1.toNatClampNeg)) (fun M3 => am_ev 156 (d + 1) 229 [.ref r0, .int (x1 + am_i 1)] [] M3)) none) none) none) none) none) none)) none :=
  am_tree (cut := am_cut [2, 57, 86, 115, 144, 173, 202, 229, 261]) 17 rfl
set_option maxHeartbeats 2000000 in
set_option maxRecDepth 100000 in
theorem t156_261 (d : Nat) (M : am_M) (r0 : Nat) (x1 : Int32) :
  am_ev 156 (d + 1) 261 [.ref r0, .int x1] [] M =
 am_br .ge x1 (am_i 257)
 (am_ob M r0 6 (am_ob M r0 6 (am_bV (am_cl 168 d [.ref r0, .int (am_I M r0 46)] M) (fun M1 => am_ob M1 r0 6 (am_lt (am_sI M1 r0 68 (am_i 0)) (fun M2 => am_ob M2 r0 6 (am_lt (am_sI M2 r0 65 (am_i 0)) (fun M3 => some (none, M3))) none)) none)) none) none)
 (am_ob M r0 6 (am_gr (am_R M r0 54) (fun h4 => am_iw M h4 2 x1 (am_lt (am_sI M h4 x1.toNatClampNeg (am_i 0)) (fun M5 => am_ev 156 (d + 1) 261 [.ref r0, .int (x1 + am_i 1)] [] M5)) none) none) none) :=
  am_tree (cut := am_cut [2, 57, 86, 115, 144, 173, 202, 229, 261]) 15 rfl
-- 157: X6_fault
set_option maxHeartbeats 2000000 in
set_option maxRecDepth 100000 in
theorem t157 (d : Nat) (M : am_M) (r0 : Nat) (x1 : Int32) :
  am_cl 157 d [.ref r0, .int x1] M =
 am_br .ne x1 (am_i 0)
 (am_br .ne x1 (am_i 1)
 (some (some (.int (am_i (-1))), M))
 (am_ob M r0 6 (some (some (.int (am_I M r0 8)), M)) none))
 (am_ob M r0 6 (some (some (.int (am_I M r0 7)), M)) none) :=
  show am_ev 157 d 0 [.ref r0, .int x1] [] M = _ from am_tree (cut := am_cut []) 10 rfl
-- 158: X6_kindMany
set_option maxHeartbeats 2000000 in
set_option maxRecDepth 100000 in
theorem t158 (d : Nat) (M : am_M) (r0 : Nat) :
  am_cl 158 d [.ref r0] M =
 am_ob M r0 6 (am_gr (am_R M r0 40) (fun h1 => am_ix M h1 2 (am_i 3) (some (some (.int (am_I M h1 (am_i 3).toNatClampNeg)), M)) none) none) none :=
  show am_ev 158 d 0 [.ref r0] [] M = _ from am_tree (cut := am_cut []) 6 rfl
-- 159: X6_filmMany
set_option maxHeartbeats 2000000 in
set_option maxRecDepth 100000 in
theorem t159 (d : Nat) (M : am_M) (r0 : Nat) :
  am_cl 159 d [.ref r0] M =
 am_ob M r0 6 (am_gr (am_R M r0 40) (fun h1 => am_ix M h1 2 (am_i 4) (some (some (.int (am_I M h1 (am_i 4).toNatClampNeg)), M)) none) none) none :=
  show am_ev 159 d 0 [.ref r0] [] M = _ from am_tree (cut := am_cut []) 6 rfl
-- 160: X6_personMany
set_option maxHeartbeats 2000000 in
set_option maxRecDepth 100000 in
theorem t160 (d : Nat) (M : am_M) (r0 : Nat) :
  am_cl 160 d [.ref r0] M =
 am_ob M r0 6 (am_gr (am_R M r0 40) (fun h1 => am_ix M h1 2 (am_i 5) (some (some (.int (am_I M h1 (am_i 5).toNatClampNeg)), M)) none) none) none :=
  show am_ev 160 d 0 [.ref r0] [] M = _ from am_tree (cut := am_cut []) 6 rfl
-- 161: X6_isKind
set_option maxHeartbeats 2000000 in
set_option maxRecDepth 100000 in
theorem t161 (d : Nat) (M : am_M) (r0 : Nat) (x1 : Int32) :
  am_cl 161 (d + 1) [.ref r0, .int x1] M =
 am_ob M r0 6 (am_bI (am_cl 158 d [.ref r0] M) (fun c2 M1 => am_bI (am_cl 127 d [.long x1.toInt64, .long (am_l 0), .long (c2 - (am_i 1)).toInt64] M1) (fun c4 M3 => am_tr c4 (some (some (.int c4), M3)) none))) none :=
  show am_ev 161 (d + 1) 0 [.ref r0, .int x1] [] M = _ from am_tree (cut := am_cut []) 11 rfl
-- 162: X6_isFilm
set_option maxHeartbeats 2000000 in
set_option maxRecDepth 100000 in
theorem t162 (d : Nat) (M : am_M) (r0 : Nat) (x1 : Int32) :
  am_cl 162 (d + 1) [.ref r0, .int x1] M =
 am_ob M r0 6 (am_bI (am_cl 159 d [.ref r0] M) (fun c2 M1 => am_bI (am_cl 127 d [.long x1.toInt64, .long (am_l 0), .long (c2 - (am_i 1)).toInt64] M1) (fun c4 M3 => am_tr c4 (some (some (.int c4), M3)) none))) none :=
  show am_ev 162 (d + 1) 0 [.ref r0, .int x1] [] M = _ from am_tree (cut := am_cut []) 11 rfl
-- 163: X6_isPerson
set_option maxHeartbeats 2000000 in
set_option maxRecDepth 100000 in
theorem t163 (d : Nat) (M : am_M) (r0 : Nat) (x1 : Int32) :
  am_cl 163 (d + 1) [.ref r0, .int x1] M =
 am_ob M r0 6 (am_bI (am_cl 160 d [.ref r0] M) (fun c2 M1 => am_bI (am_cl 127 d [.long x1.toInt64, .long (am_l 0), .long (c2 - (am_i 1)).toInt64] M1) (fun c4 M3 => am_tr c4 (some (some (.int c4), M3)) none))) none :=
  show am_ev 163 (d + 1) 0 [.ref r0, .int x1] [] M = _ from am_tree (cut := am_cut []) 11 rfl
-- 164: X6_partsOf
set_option maxHeartbeats 2000000 in
set_option maxRecDepth 100000 in
theorem t164 (d : Nat) (M : am_M) (r0 : Nat) (x1 : Int32) :
  am_cl 164 d [.ref r0, .int x1] M =
 am_ob M r0 6 (am_gr (am_R M r0 42) (fun h1 => am_ix M h1 2 ((am_i 8) + x1) (some (some (.int (am_I M h1 ((am_i 8) + x1).toNatClampNeg)), M)) none) none) none :=
  show am_ev 164 d 0 [.ref r0, .int x1] [] M = _ from am_tree (cut := am_cut []) 8 rfl
-- 165: X6_weightOf
set_option maxHeartbeats 2000000 in
set_option maxRecDepth 100000 in
theorem t165 (d : Nat) (M : am_M) (r0 : Nat) (x1 x2 : Int32) :
  am_cl 165 d [.ref r0, .int x1, .int x2] M =
 am_ob M r0 6 (am_gr (am_R M r0 43) (fun h1 => am_ix M h1 2 (((am_i 48) + ((am_i 6) * x1)) + x2) (some (some (.int (am_I M h1 (((am_i 48) + ((am_i 6) * x1)) + x2).toNatClampNeg)), M)) none) none) none :=
  show am_ev 165 d 0 [.ref r0, .int x1, .int x2] [] M = _ from am_tree (cut := am_cut []) 12 rfl
-- 166: X6_likesOf
set_option maxHeartbeats 2000000 in
set_option maxRecDepth 100000 in
theorem t166 (d : Nat) (M : am_M) (r0 : Nat) (x1 x2 : Int32) :
  am_cl 166 d [.ref r0, .int x1, .int x2] M =
 am_ob M r0 6 (am_gr (am_R M r0 45) (fun h1 => am_ix M h1 2 (((am_i 30) + ((am_i 6) * x1)) + x2) (some (some (.int (am_I M h1 (((am_i 30) + ((am_i 6) * x1)) + x2).toNatClampNeg)), M)) none) none) none :=
  show am_ev 166 d 0 [.ref r0, .int x1, .int x2] [] M = _ from am_tree (cut := am_cut []) 12 rfl
-- 167: X6_doesPress
set_option maxHeartbeats 2000000 in
set_option maxRecDepth 100000 in
theorem t167 (d : Nat) (M : am_M) (r0 : Nat) (x1 : Int32) :
  am_cl 167 d [.ref r0, .int x1] M =
 am_ob M r0 6 (am_gr (am_R M r0 54) (fun h1 => am_ix M h1 2 ((am_i 86) + ((am_i 2) * x1)) (am_br .ne (am_I M h1 ((am_i 86) + ((am_i 2) * x1)).toNatClampNeg) (am_i 1)
 (am_tr (am_i 0) (some (some (.int (am_i 0)), M)) none)
 (am_tr (am_i 1) (some (some (.int (am_i 1)), M)) none)) none) none) none :=
  show am_ev 167 d 0 [.ref r0, .int x1] [] M = _ from am_tree (cut := am_cut []) 14 rfl
-- 168: X6_pressAll
set_option maxHeartbeats 2000000 in
set_option maxRecDepth 100000 in
theorem t168 (d : Nat) (M : am_M) (r0 : Nat) (x1 : Int32) :
  am_cl 168 (d + 1) [.ref r0, .int x1] M =
 am_ev 168 (d + 1) 2 [.ref r0, .int x1, .int (am_i 0)] [] M :=
  show am_ev 168 (d + 1) 0 [.ref r0, .int x1, .null] [] M = _ from am_tree (cut := am_cut [2]) 3 rfl
set_option maxHeartbeats 2000000 in
set_option maxRecDepth 100000 in
theorem t168_2 (d : Nat) (M : am_M) (r0 : Nat) (x1 x2 : Int32) :
  am_ev 168 (d + 1) 2 [.ref r0, .int x1, .int x2] [] M =
 am_ob M r0 6 (am_bI (am_cl 160 d [.ref r0] M) (fun c2 M1 => am_br .ge x2 c2
 (some (none, M1))
 (am_ob M1 r0 6 (am_gr (am_R M1 r0 54) (fun h3 => am_iw M1 h3 2 ((am_i 86) + ((am_i 2) * x2)) (am_lt (am_sI M1 h3 ((am_i 86) + ((am_i 2) * x2)).toNatClampNeg ((x1 >>> (x2 &&& 31)) &&& (am_i 1))) (fun M4 => am_ev 168 (d + 1) 2 [.ref r0, .int x1, .int (x2 + am_i 1)] [] M4)) none) none) none))) none :=
  am_tree (cut := am_cut [2]) 20 rfl
-- 169: X6_pressers
set_option maxHeartbeats 2000000 in
set_option maxRecDepth 100000 in
theorem t169 (d : Nat) (M : am_M) (r0 : Nat) :
  am_cl 169 (d + 1) [.ref r0] M =
 am_ev 169 (d + 1) 4 [.ref r0, .int (am_i 0), .int (am_i 0)] [] M :=
  show am_ev 169 (d + 1) 0 [.ref r0, .null, .null] [] M = _ from am_tree (cut := am_cut [4]) 5 rfl
set_option maxHeartbeats 2000000 in
set_option maxRecDepth 100000 in
theorem t169_4 (d : Nat) (M : am_M) (r0 : Nat) (x1 x2 : Int32) :
  am_ev 169 (d + 1) 4 [.ref r0, .int x1, .int x2] [] M =
 am_ob M r0 6 (am_bI (am_cl 160 d [.ref r0] M) (fun c2 M1 => am_br .ge x2 c2
 (some (some (.int x1), M1))
 (am_ob M1 r0 6 (am_bI (am_cl 167 d [.ref r0, .int x2] M1) (fun c4 M3 => am_br .eq c4 (am_i 0)
 (am_ev 169 (d + 1) 4 [.ref r0, .int x1, .int (x2 + am_i 1)] [] M3)
 (am_ev 169 (d + 1) 4 [.ref r0, .int (x1 ||| ((am_i 1) <<< (x2 &&& 31))), .int (x2 + am_i 1)] [] M3))) none))) none :=
  am_tree (cut := am_cut [4]) 17 rfl
-- 170: X6_profileOf
set_option maxHeartbeats 2000000 in
set_option maxRecDepth 100000 in
theorem t170 (d : Nat) (M : am_M) (r0 : Nat) (x1 : Int32) :
  am_cl 170 (d + 1) [.ref r0, .int x1] M =
 am_ob M r0 6 (am_bI (am_cl 167 d [.ref r0, .int x1] M) (fun c2 M1 => am_br .eq c2 (am_i 0)
 (some (some (.int (am_i 0)), M1))
 (some (some (.int ((am_i 1) + x1)), M1)))) none :=
  show am_ev 170 (d + 1) 0 [.ref r0, .int x1] [] M = _ from am_tree (cut := am_cut []) 10 rfl
-- 171: X6_tasteAt
set_option maxHeartbeats 2000000 in
set_option maxRecDepth 100000 in
theorem t171 (d : Nat) (M : am_M) (r0 : Nat) (x1 x2 : Int32) :
  am_cl 171 d [.ref r0, .int x1, .int x2] M =
 some (some (.int (((am_i 2) + ((am_i 14) * x1)) + x2)), M) :=
  show am_ev 171 d 0 [.ref r0, .int x1, .int x2] [] M = _ from am_tree (cut := am_cut []) 9 rfl
-- 172: X6_seenAt
set_option maxHeartbeats 2000000 in
set_option maxRecDepth 100000 in
theorem t172 (d : Nat) (M : am_M) (r0 : Nat) (x1 x2 : Int32) :
  am_cl 172 d [.ref r0, .int x1, .int x2] M =
 some (some (.int ((((am_i 2) + ((am_i 14) * x1)) + (am_i 6)) + x2)), M) :=
  show am_ev 172 d 0 [.ref r0, .int x1, .int x2] [] M = _ from am_tree (cut := am_cut []) 11 rfl
-- 173: X6_seenBy
set_option maxHeartbeats 2000000 in
set_option maxRecDepth 100000 in
theorem t173 (d : Nat) (M : am_M) (r0 : Nat) (x1 x2 : Int32) :
  am_cl 173 (d + 1) [.ref r0, .int x1, .int x2] M =
 am_ob M r0 6 (am_gr (am_R M r0 54) (fun h1 => am_ob M r0 6 (am_bI (am_cl 172 d [.ref r0, .int x1, .int x2] M) (fun c3 M2 => am_ix M2 h1 2 c3 (some (some (.int (am_I M2 h1 c3.toNatClampNeg)), M2)) none)) none) none) none :=
  show am_ev 173 (d + 1) 0 [.ref r0, .int x1, .int x2] [] M = _ from am_tree (cut := am_cut []) 9 rfl
-- 174: X6_scoreOf
set_option maxHeartbeats 2000000 in
set_option maxRecDepth 100000 in
theorem t174 (d : Nat) (M : am_M) (r0 : Nat) (x1 x2 : Int32) :
  am_cl 174 (d + 1) [.ref r0, .int x1, .int x2] M =
 am_ev 174 (d + 1) 5 [.ref r0, .int x1, .int x2, .int (am_i 1), .int (am_i 0)] [] M :=
  show am_ev 174 (d + 1) 0 [.ref r0, .int x1, .int x2, .null, .null] [] M = _ from am_tree (cut := am_cut [5]) 5 rfl
set_option maxHeartbeats 2000000 in
set_option maxRecDepth 100000 in
theorem t174_5 (d : Nat) (M : am_M) (r0 : Nat) (x1 x2 x3 x4 : Int32) :
  am_ev 174 (d + 1) 5 [.ref r0, .int x1, .int x2, .int x3, .int x4] [] M =
 am_ob M r0 6 (am_bI (am_cl 158 d [.ref r0] M) (fun c2 M1 => am_br .ge x4 c2
 (some (some (.int x3), M1))
 (am_ob M1 r0 6 (am_bI (am_cl 165 d [.ref r0, .int x2, .int x4] M1) (fun c4 M3 => am_ob M3 r0 6 (am_gr (am_R M3 r0 54) (fun h5 => am_ob M3 r0 6 (am_bI (am_cl 171 d [.ref r0, .int x1, .int x4] M3) (fun c7 M6 => am_ix M6 h5 2 c7 (am_ev 174 (d + 1) 5 [.ref r0, .int x1, .int x2, .int (x3 + (c4 * (am_I M6 h5 c7.toNatClampNeg))), .int (x4 + am_i 1)] [] M6) none)) none) none) none)) none))) none :=
  am_tree (cut := am_cut [5]) 22 rfl
-- 175: X6_worthOf
set_option maxHeartbeats 2000000 in
set_option maxRecDepth 100000 in
theorem t175 (d : Nat) (M : am_M) (r0 : Nat) (x1 x2 : Int32) :
  am_cl 175 (d + 1) [.ref r0, .int x1, .int x2] M =
 am_ev 175 (d + 1) 5 [.ref r0, .int x1, .int x2, .int (am_i 0), .int (am_i 0)] [] M :=
  show am_ev 175 (d + 1) 0 [.ref r0, .int x1, .int x2, .null, .null] [] M = _ from am_tree (cut := am_cut [5]) 5 rfl
set_option maxHeartbeats 2000000 in
set_option maxRecDepth 100000 in
theorem t175_5 (d : Nat) (M : am_M) (r0 : Nat) (x1 x2 x3 x4 : Int32) :
  am_ev 175 (d + 1) 5 [.ref r0, .int x1, .int x2, .int x3, .int x4] [] M =
 am_ob M r0 6 (am_bI (am_cl 158 d [.ref r0] M) (fun c2 M1 => am_br .ge x4 c2
 (some (some (.int x3), M1))
 (am_ob M1 r0 6 (am_bI (am_cl 165 d [.ref r0, .int x2, .int x4] M1) (fun c4 M3 => am_ob M3 r0 6 (am_bI (am_cl 166 d [.ref r0, .int x1, .int x4] M3) (fun c6 M5 => am_ev 175 (d + 1) 5 [.ref r0, .int x1, .int x2, .int (x3 + (c4 * c6)), .int (x4 + am_i 1)] [] M5)) none)) none))) none :=
  am_tree (cut := am_cut [5]) 19 rfl
-- 176: X6_cut
set_option maxHeartbeats 2000000 in
set_option maxRecDepth 100000 in
theorem t176 (d : Nat) (M : am_M) (y0 : Int64) :
  am_cl 176 d [.long y0] M =
 am_br .ge (lg_cmp y0 (am_l 0)) (am_i 0)
 (am_br .le (lg_cmp y0 (am_l 999)) (am_i 0)
 (some (some (.int y0.toInt32), M))
 (some (some (.int (am_i 999)), M)))
 (some (some (.int (am_i 0)), M)) :=
  show am_ev 176 d 0 [.long y0, .null] [] M = _ from am_tree (cut := am_cut []) 12 rfl
-- 177: X6_codesTell
set_option maxHeartbeats 2000000 in
set_option maxRecDepth 100000 in
theorem t177 (d : Nat) (M : am_M) (r0 : Nat) (x1 x2 : Int32) :
  am_cl 177 (d + 1) [.ref r0, .int x1, .int x2] M =
 am_ob M r0 6 (am_lt (am_sI M r0 53 x1) (fun M1 => am_ob M1 r0 6 (am_lt (am_sI M1 r0 98 (am_i 0)) (fun M2 => am_ob M2 r0 6 (am_gr (am_R M2 r0 48) (fun h3 => am_ix M2 h3 2 ((am_i 3) + x1) (am_ev 177 (d + 1) 19 [.ref r0, .int x1, .int x2, .int (am_I M2 h3 ((am_i 3) + x1).toNatClampNeg), .null] [] M2) none) none) none)) none)) none :=
  show am_ev 177 (d + 1) 0 [.ref r0, .int x1, .int x2, .null, .null] [] M = _ from am_tree (cut := am_cut [19]) 14 rfl
set_option maxHeartbeats 2000000 in
set_option maxRecDepth 100000 in
theorem t177_19 (d : Nat) (M : am_M) (r0 : Nat) (x1 x2 x3 : Int32) (v4 : Value) :
  am_ev 177 (d + 1) 19 [.ref r0, .int x1, .int x2, .int x3, v4] [] M =
 am_ob M r0 6 (am_gr (am_R M r0 49) (fun h1 => am_ix M h1 2 ((am_i 3) + x1) (am_br .ge x3 (am_I M h1 ((am_i 3) + x1).toNatClampNeg)
 (am_ob M r0 6 (am_gr (am_R M r0 97) (fun h2 => am_ix M h2 3 (am_i 0) (some (some (.long (am_L M h2 (am_i 0).toNatClampNeg)), M)) none) none) none)
 (am_ob M r0 6 (am_gr (am_R M r0 50) (fun h3 => am_ix M h3 2 ((am_i 1600) + x3) (am_br .lt (am_I M h3 ((am_i 1600) + x3).toNatClampNeg) (am_i 1000)
 (am_br .lt (am_I M h3 ((am_i 1600) + x3).toNatClampNeg) (am_i 40)
 (am_br .ne (am_I M h3 ((am_i 1600) + x3).toNatClampNeg) (am_i 13)
 (am_br .ne (am_I M h3 ((am_i 1600) + x3).toNatClampNeg) (am_i 12)
 (am_ob M r0 6 (am_bV (am_cl 254 d [.ref r0, .int (am_I M h3 ((am_i 1600) + x3).toNatClampNeg)] M) (fun M4 => am_ev 177 (d + 1) 19 [.ref r0, .int x1, .int x2, .int (x3 + am_i 1), .int (am_I M h3 ((am_i 1600) + x3).toNatClampNeg)] [] M4)) none)
 (am_ob M r0 6 (am_gr (am_R M r0 97) (fun h5 => am_ob M r0 6 (am_ob M r0 6 (am_gr (am_R M r0 97) (fun h6 => am_ob M r0 6 (am_ix M h6 3 ((am_I M r0 98) - (am_i 1)) (am_iw M h5 3 ((am_I M r0 98) - (am_i 1)) (am_lt (am_sL M h5 ((am_I M r0 98) - (am_i 1)).toNatClampNeg ((am_l 1) - (am_L M h6 ((am_I M r0 98) - (am_i 1)).toNatClampNeg))) (fun M7 => am_ev 177 (d + 1) 19 [.ref r0, .int x1, .int x2, .int (x3 + am_i 1), .int (am_I M h3 ((am_i 1600) + x3).toNatClampNeg)] [] M7)) none) none) none) none) none) none) none) none))
 (am_ob M r0 6 (am_bV (am_cl 253 d [.ref r0, .long (am_l 1)] M) (fun M8 => am_ev 177 (d + 1) 19 [.ref r0, .int x1, .int x2, .int (x3 + am_i 1), .int (am_I M h3 ((am_i 1600) + x3).toNatClampNeg)] [] M8)) none))
 (am_ob M r0 6 (am_bL (am_cl 255 d [.ref r0, .int ((am_I M h3 ((am_i 1600) + x3).toNatClampNeg) - (am_i 40)), .int x2] M) (fun c10 M9 => am_ob M9 r0 6 (am_bV (am_cl 253 d [.ref r0, .long c10] M9) (fun M11 => am_ev 177 (d + 1) 19 [.ref r0, .int x1, .int x2, .int (x3 + am_i 1), .int (am_I M h3 ((am_i 1600) + x3).toNatClampNeg)] [] M11)) none)) none))
 (am_ob M r0 6 (am_bV (am_cl 253 d [.ref r0, .long ((am_I M h3 ((am_i 1600) + x3).toNatClampNeg) - (am_i 1000)).toInt64] M) (fun M12 => am_ev 177 (d + 1) 19 [.ref r0, .int x1, .int x2, .int (x3 + am_i 1), .int (am_I M h3 ((am_i 1600) + x3).toNatClampNeg)] [] M12)) none)) none) none) none)) none) none) none :=
  am_tree (cut := am_cut [19]) 47 rfl
-- 178: X6_may
set_option maxHeartbeats 2000000 in
set_option maxRecDepth 100000 in
theorem t178 (d : Nat) (M : am_M) (r0 : Nat) (x1 x2 : Int32) :
  am_cl 178 (d + 1) [.ref r0, .int x1, .int x2] M =
 am_ob M r0 6 (am_bI (am_cl 173 d [.ref r0, .int x1, .int x2] M) (fun c2 M1 => am_ob M1 r0 6 (am_bI (am_cl 164 d [.ref r0, .int x2] M1) (fun c4 M3 => am_br .ne c2 c4
 (am_ob M3 r0 6 (am_lt (am_sI M3 r0 57 x1) (fun M5 => am_ob M5 r0 6 (am_gr (am_R M5 r0 48) (fun h6 => am_ix M5 h6 2 (am_i 5) (am_br .eq (am_I M5 h6 (am_i 5).toNatClampNeg) (am_i (-1))
 (am_tr (am_i 1) (some (some (.int (am_i 1)), M5)) none)
 (am_ob M5 r0 6 (am_bL (am_cl 177 d [.ref r0, .int (am_i 2), .int x2] M5) (fun c8 M7 => am_br .ne (lg_cmp c8 (am_l 1)) (am_i 0)
 (am_tr (am_i 0) (some (some (.int (am_i 0)), M7)) none)
 (am_tr (am_i 1) (some (some (.int (am_i 1)), M7)) none))) none)) none) none) none)) none)
 (am_tr (am_i 0) (some (some (.int (am_i 0)), M3)) none))) none)) none :=
  show am_ev 178 (d + 1) 0 [.ref r0, .int x1, .int x2] [] M = _ from am_tree (cut := am_cut []) 28 rfl
-- 179: X6_suggestedTo
set_option maxHeartbeats 2000000 in
set_option maxRecDepth 100000 in
theorem t179 (d : Nat) (M : am_M) (r0 : Nat) (x1 : Int32) :
  am_cl 179 (d + 1) [.ref r0, .int x1] M =
 am_ob M r0 6 (am_bI (am_cl 170 d [.ref r0, .int x1] M) (fun c2 M1 => am_ev 179 (d + 1) 11 [.ref r0, .int x1, .int c2, .int (am_i (-1)), .int (am_i 0)] [] M1)) none :=
  show am_ev 179 (d + 1) 0 [.ref r0, .int x1, .null, .null, .null] [] M = _ from am_tree (cut := am_cut [11]) 9 rfl
set_option maxHeartbeats 2000000 in
set_option maxRecDepth 100000 in
theorem t179_11 (d : Nat) (M : am_M) (r0 : Nat) (v1 : Value) (x2 x3 x4 : Int32) :
  am_ev 179 (d + 1) 11 [.ref r0, v1, .int x2, .int x3, .int x4] [] M =
 am_ob M r0 6 (am_bI (am_cl 159 d [.ref r0] M) (fun c2 M1 => am_br .ge x4 c2
 (some (some (.int x3), M1))
 (am_ob M1 r0 6 (am_bI (am_cl 178 d [.ref r0, .int x2, .int x4] M1) (fun c4 M3 => am_br .eq c4 (am_i 0)
 (am_ev 179 (d + 1) 11 [.ref r0, v1, .int x2, .int x3, .int (x4 + am_i 1)] [] M3)
 (am_br .eq x3 (am_i (-1))
 (am_ev 179 (d + 1) 11 [.ref r0, v1, .int x2, .int x4, .int (x4 + am_i 1)] [] M3)
 (am_ob M3 r0 6 (am_bI (am_cl 174 d [.ref r0, .int x2, .int x4] M3) (fun c6 M5 => am_ob M5 r0 6 (am_bI (am_cl 174 d [.ref r0, .int x2, .int x3] M5) (fun c8 M7 => am_br .le c6 c8
 (am_ev 179 (d + 1) 11 [.ref r0, v1, .int x2, .int x3, .int (x4 + am_i 1)] [] M7)
 (am_ev 179 (d + 1) 11 [.ref r0, v1, .int x2, .int x4, .int (x4 + am_i 1)] [] M7))) none)) none)))) none))) none :=
  am_tree (cut := am_cut [11]) 26 rfl
-- 180: X6_partSeen
set_option maxHeartbeats 2000000 in
set_option maxRecDepth 100000 in
theorem t180 (d : Nat) (M : am_M) (r0 : Nat) (x1 x2 : Int32) :
  am_cl 180 (d + 1) [.ref r0, .int x1, .int x2] M =
 am_ob M r0 6 (am_gr (am_R M r0 54) (fun h1 => am_ob M r0 6 (am_bI (am_cl 172 d [.ref r0, .int x1, .int x2] M) (fun c3 M2 => am_ix M2 h1 2 c3 (am_iw M2 h1 2 c3 (am_lt (am_sI M2 h1 c3.toNatClampNeg ((am_I M2 h1 c3.toNatClampNeg) + (am_i 1))) (fun M4 => am_ev 180 (d + 1) 17 [.ref r0, .int x1, .int x2, .int (am_i 0), .null, .null] [] M4)) none) none)) none) none) none :=
  show am_ev 180 (d + 1) 0 [.ref r0, .int x1, .int x2, .null, .null, .null] [] M = _ from am_tree (cut := am_cut [17, 86]) 14 rfl
set_option maxHeartbeats 2000000 in
set_option maxRecDepth 100000 in
theorem t180_17 (d : Nat) (M : am_M) (r0 : Nat) (x1 x2 x3 : Int32) (v4 v5 : Value) :
  am_ev 180 (d + 1) 17 [.ref r0, .int x1, .int x2, .int x3, v4, v5] [] M =
 am_ob M r0 6 (am_bI (am_cl 158 d [.ref r0] M) (fun c2 M1 => am_br .ge x3 c2
 (some (none, M1))
 (am_ob M1 r0 6 (am_bI (am_cl 165 d [.ref r0, .int x2, .int x3] M1) (fun c4 M3 => am_br .ne c4 (am_i 0)
 (am_ob M3 r0 6 (am_gr (am_R M3 r0 54) (fun h5 => am_ob M3 r0 6 (am_bI (am_cl 171 d [.ref r0, .int x1, .int x3] M3) (fun c7 M6 => am_ix M6 h5 2 c7 (am_ob M6 r0 6 (am_lt (am_sI M6 r0 58 (am_I M6 h5 c7.toNatClampNeg)) (fun M8 => am_ob M8 r0 6 (am_bI (am_cl 165 d [.ref r0, .int x2, .int x3] M8) (fun c10 M9 => am_ob M9 r0 6 (am_lt (am_sI M9 r0 59 c10) (fun M11 => am_ob M11 r0 6 (am_gr (am_R M11 r0 48) (fun h12 => am_ix M11 h12 2 (am_i 3) (am_br .ne (am_I M11 h12 (am_i 3).toNatClampNeg) (am_i (-1))
 (am_ob M11 r0 6 (am_bL (am_cl 177 d [.ref r0, .int (am_i 0), .int x2] M11) (fun c14 M13 => am_ev 180 (d + 1) 86 [.ref r0, .int x1, .int x2, .int x3, v4, v5] [.long c14] M13)) none)
 (am_ob M11 r0 6 (am_ev 180 (d + 1) 86 [.ref r0, .int x1, .int x2, .int x3, v4, v5] [.long (am_I M11 r0 59).toInt64] M11) none)) none) none) none)) none)) none)) none) none)) none) none) none)
 (am_ev 180 (d + 1) 17 [.ref r0, .int x1, .int x2, .int (x3 + am_i 1), v4, v5] [] M3))) none))) none :=
  am_tree (cut := am_cut [17, 86]) 35 rfl
set_option maxHeartbeats 2000000 in
set_option maxRecDepth 100000 in
theorem t180_86 (d : Nat) (M : am_M) (r0 : Nat) (x1 x2 x3 : Int32) (v4 v5 : Value) (sy0 : Int64) :
  am_ev 180 (d + 1) 86 [.ref r0, .int x1, .int x2, .int x3, v4, v5] [.long sy0] M =
 am_br .le (lg_cmp sy0 (am_l 0)) (am_i 0)
 (am_ev 180 (d + 1) 17 [.ref r0, .int x1, .int x2, .int (x3 + am_i 1), .long sy0, .null] [] M)
 (am_ob M r0 6 (am_gr (am_R M r0 54) (fun h1 => am_ob M r0 6 (am_bI (am_cl 171 d [.ref r0, .int x1, .int x3] M) (fun c3 M2 => am_ob M2 r0 6 (am_bI (am_cl 176 d [.long ((am_I M2 r0 58).toInt64 + sy0)] M2) (fun c5 M4 => am_iw M4 h1 2 c3 (am_lt (am_sI M4 h1 c3.toNatClampNeg c5) (fun M6 => am_ev 180 (d + 1) 17 [.ref r0, .int x1, .int x2, .int (x3 + am_i 1), .long sy0, .null] [] M6)) none)) none)) none) none) none) :=
  am_tree (cut := am_cut [17, 86]) 21 rfl
-- 181: X6_isKept
set_option maxHeartbeats 2000000 in
set_option maxRecDepth 100000 in
theorem t181 (d : Nat) (M : am_M) (r0 : Nat) (x1 x2 : Int32) :
  am_cl 181 d [.ref r0, .int x1, .int x2] M =
 am_ob M r0 6 (am_br .eq (am_I M r0 60) (am_i 0)
 (am_ob M r0 6 (am_gr (am_R M r0 54) (fun h1 => am_ix M h1 2 (am_i 96) (am_br .ne (am_I M h1 (am_i 96).toNatClampNeg) (am_i 40)
 (am_ob M r0 6 (am_gr (am_R M r0 54) (fun h2 => am_ix M h2 2 (am_i 96) (am_iw M h2 2 (am_i 96) (am_lt (am_sI M h2 (am_i 96).toNatClampNeg ((am_I M h2 (am_i 96).toNatClampNeg) + (am_i 1))) (fun M3 => am_ev 181 d 64 [.ref r0, .int x1, .int x2, .null] [] M3)) none) none) none) none)
 (am_ev 181 d 23 [.ref r0, .int x1, .int x2, .int (am_i 97)] [] M)) none) none) none)
 (some (none, M))) none :=
  show am_ev 181 d 0 [.ref r0, .int x1, .int x2, .null] [] M = _ from am_tree (cut := am_cut [23, 64]) 18 rfl
set_option maxHeartbeats 2000000 in
set_option maxRecDepth 100000 in
theorem t181_23 (d : Nat) (M : am_M) (r0 : Nat) (x1 x2 x3 : Int32) :
  am_ev 181 d 23 [.ref r0, .int x1, .int x2, .int x3] [] M =
 am_br .ge x3 (am_i 253)
 (am_ev 181 d 64 [.ref r0, .int x1, .int x2, .int x3] [] M)
 (am_ob M r0 6 (am_gr (am_R M r0 54) (fun h1 => am_ob M r0 6 (am_gr (am_R M r0 54) (fun h2 => am_ix M h2 2 (x3 + (am_i 4)) (am_iw M h1 2 x3 (am_lt (am_sI M h1 x3.toNatClampNeg (am_I M h2 (x3 + (am_i 4)).toNatClampNeg)) (fun M3 => am_ev 181 d 23 [.ref r0, .int x1, .int x2, .int (x3 + am_i 1)] [] M3)) none) none) none) none) none) none) :=
  am_tree (cut := am_cut [23, 64]) 16 rfl
set_option maxHeartbeats 2000000 in
set_option maxRecDepth 100000 in
theorem t181_64 (d : Nat) (M : am_M) (r0 : Nat) (x1 x2 : Int32) (v3 : Value) :
  am_ev 181 d 64 [.ref r0, .int x1, .int x2, v3] [] M =
 am_ob M r0 6 (am_gr (am_R M r0 54) (fun h1 => am_ix M h1 2 (am_i 96) (am_lt (((am_i 97) + ((am_i 4) * (am_I M h1 (am_i 96).toNatClampNeg))) - (am_i 4)) (fun u2 => am_ob M r0 6 (am_gr (am_R M r0 54) (fun h3 => am_ob M r0 6 (am_gr (am_R M r0 54) (fun h4 => am_ix M h4 2 (am_i 0) (am_iw M h3 2 u2 (am_lt (am_sI M h3 u2.toNatClampNeg (am_I M h4 (am_i 0).toNatClampNeg)) (fun M5 => am_ob M5 r0 6 (am_gr (am_R M5 r0 54) (fun h6 => am_ob M5 r0 6 (am_gr (am_R M5 r0 54) (fun h7 => am_ix M5 h7 2 (am_i 1) (am_iw M5 h6 2 (u2 + (am_i 1)) (am_lt (am_sI M5 h6 (u2 + (am_i 1)).toNatClampNeg (am_I M5 h7 (am_i 1).toNatClampNeg)) (fun M8 => am_ob M8 r0 6 (am_gr (am_R M8 r0 54) (fun h9 => am_iw M8 h9 2 (u2 + (am_i 2)) (am_lt (am_sI M8 h9 (u2 + (am_i 2)).toNatClampNeg x1) (fun M10 => am_ob M10 r0 6 (am_gr (am_R M10 r0 54) (fun h11 => am_iw M10 h11 2 (u2 + (am_i 3)) (am_lt (am_sI M10 h11 (u2 + (am_i 3)).toNatClampNeg x2) (fun M12 => some (none, M12))) none) none) none)) none) none) none)) none) none) none) none) none) none)) none) none) none) none) none) none)) none) none) none :=
  am_tree (cut := am_cut [23, 64]) 45 rfl
-- 182: X6_hasSeen
set_option maxHeartbeats 2000000 in
set_option maxRecDepth 100000 in
theorem t182 (d : Nat) (M : am_M) (r0 : Nat) (x1 : Int32) :
  am_cl 182 d [.ref r0, .int x1] M =
 am_ob M r0 6 (am_gr (am_R M r0 54) (fun h1 => am_ix M h1 2 (((am_i 86) + ((am_i 2) * x1)) + (am_i 1)) (am_br .ge (am_I M h1 (((am_i 86) + ((am_i 2) * x1)) + (am_i 1)).toNatClampNeg) (am_i 9999)
 (some (none, M))
 (am_ob M r0 6 (am_gr (am_R M r0 54) (fun h2 => am_ix M h2 2 (((am_i 86) + ((am_i 2) * x1)) + (am_i 1)) (am_iw M h2 2 (((am_i 86) + ((am_i 2) * x1)) + (am_i 1)) (am_lt (am_sI M h2 (((am_i 86) + ((am_i 2) * x1)) + (am_i 1)).toNatClampNeg ((am_I M h2 (((am_i 86) + ((am_i 2) * x1)) + (am_i 1)).toNatClampNeg) + (am_i 1))) (fun M3 => some (none, M3))) none) none) none) none)) none) none) none :=
  show am_ev 182 d 0 [.ref r0, .int x1] [] M = _ from am_tree (cut := am_cut []) 28 rfl
-- 183: X6_pleasedBy
set_option maxHeartbeats 2000000 in
set_option maxRecDepth 100000 in
theorem t183 (d : Nat) (M : am_M) (r0 : Nat) (x1 x2 : Int32) :
  am_cl 183 (d + 1) [.ref r0, .int x1, .int x2] M =
 am_ob M r0 6 (am_bI (am_cl 175 d [.ref r0, .int x1, .int x2] M) (fun c2 M1 => am_ob M1 r0 6 (am_bI (am_cl 167 d [.ref r0, .int x1] M1) (fun c4 M3 => am_br .eq c4 (am_i 0)
 (some (some (.int (c2 - (am_i 0))), M3))
 (am_ob M3 r0 6 (am_gr (am_R M3 r0 47) (fun h5 => am_ix M3 h5 2 (am_i 6) (some (some (.int (c2 - (am_I M3 h5 (am_i 6).toNatClampNeg))), M3)) none) none) none))) none)) none :=
  show am_ev 183 (d + 1) 0 [.ref r0, .int x1, .int x2] [] M = _ from am_tree (cut := am_cut []) 16 rfl
-- 184: X6_fade
set_option maxHeartbeats 2000000 in
set_option maxRecDepth 100000 in
theorem t184 (d : Nat) (M : am_M) (r0 : Nat) :
  am_cl 184 (d + 1) [.ref r0] M =
 am_ob M r0 6 (am_gr (am_R M r0 48) (fun h1 => am_ix M h1 2 (am_i 4) (am_br .ne (am_I M h1 (am_i 4).toNatClampNeg) (am_i (-1))
 (am_ev 184 (d + 1) 13 [.ref r0, .int (am_i 0), .null] [] M)
 (some (none, M))) none) none) none :=
  show am_ev 184 (d + 1) 0 [.ref r0, .null, .null] [] M = _ from am_tree (cut := am_cut [13, 23]) 9 rfl
set_option maxHeartbeats 2000000 in
set_option maxRecDepth 100000 in
theorem t184_13 (d : Nat) (M : am_M) (r0 : Nat) (x1 : Int32) (v2 : Value) :
  am_ev 184 (d + 1) 13 [.ref r0, .int x1, v2] [] M =
 am_ob M r0 6 (am_bI (am_cl 160 d [.ref r0] M) (fun c2 M1 => am_br .gt x1 c2
 (some (none, M1))
 (am_ev 184 (d + 1) 23 [.ref r0, .int x1, .int (am_i 0)] [] M1))) none :=
  am_tree (cut := am_cut [13, 23]) 7 rfl
set_option maxHeartbeats 2000000 in
set_option maxRecDepth 100000 in
theorem t184_23 (d : Nat) (M : am_M) (r0 : Nat) (x1 x2 : Int32) :
  am_ev 184 (d + 1) 23 [.ref r0, .int x1, .int x2] [] M =
 am_ob M r0 6 (am_bI (am_cl 158 d [.ref r0] M) (fun c2 M1 => am_br .ge x2 c2
 (am_ev 184 (d + 1) 13 [.ref r0, .int (x1 + am_i 1), .int x2] [] M1)
 (am_ob M1 r0 6 (am_gr (am_R M1 r0 54) (fun h3 => am_ob M1 r0 6 (am_bI (am_cl 171 d [.ref r0, .int x1, .int x2] M1) (fun c5 M4 => am_ix M4 h3 2 c5 (am_ob M4 r0 6 (am_lt (am_sI M4 r0 58 (am_I M4 h3 c5.toNatClampNeg)) (fun M6 => am_ob M6 r0 6 (am_gr (am_R M6 r0 54) (fun h7 => am_ob M6 r0 6 (am_bI (am_cl 171 d [.ref r0, .int x1, .int x2] M6) (fun c9 M8 => am_ob M8 r0 6 (am_bL (am_cl 177 d [.ref r0, .int (am_i 1), .int (am_i 0)] M8) (fun c11 M10 => am_bI (am_cl 176 d [.long c11] M10) (fun c13 M12 => am_iw M12 h7 2 c9 (am_lt (am_sI M12 h7 c9.toNatClampNeg c13) (fun M14 => am_ev 184 (d + 1) 23 [.ref r0, .int x1, .int (x2 + am_i 1)] [] M14)) none))) none)) none) none) none)) none) none)) none) none) none))) none :=
  am_tree (cut := am_cut [13, 23]) 28 rfl
-- 185: X6_isFree
set_option maxHeartbeats 2000000 in
set_option maxRecDepth 100000 in
theorem t185 (d : Nat) (M : am_M) (r0 : Nat) (x1 x2 : Int32) :
  am_cl 185 (d + 1) [.ref r0, .int x1, .int x2] M =
 am_ob M r0 6 (am_gr (am_R M r0 44) (fun h1 => am_ix M h1 2 ((am_i 10) + ((am_i 2) * x1)) (am_ob M r0 6 (am_gr (am_R M r0 44) (fun h2 => am_ix M h2 2 ((am_i 11) + ((am_i 2) * x1)) (am_bI (am_cl 127 d [.long x2.toInt64, .long (am_I M h1 ((am_i 10) + ((am_i 2) * x1)).toNatClampNeg).toInt64, .long (am_I M h2 ((am_i 11) + ((am_i 2) * x1)).toNatClampNeg).toInt64] M) (fun c4 M3 => am_tr c4 (some (some (.int c4), M3)) none)) none) none) none) none) none) none :=
  show am_ev 185 (d + 1) 0 [.ref r0, .int x1, .int x2] [] M = _ from am_tree (cut := am_cut []) 23 rfl
-- 186: X6_hourGoes
set_option maxHeartbeats 2000000 in
set_option maxRecDepth 100000 in
theorem t186 (d : Nat) (M : am_M) (r0 : Nat) :
  am_cl 186 (d + 1) [.ref r0] M =
 am_ev 186 (d + 1) 4 [.ref r0, .int (am_i 0), .int (am_i 0), .null] [] M :=
  show am_ev 186 (d + 1) 0 [.ref r0, .null, .null, .null] [] M = _ from am_tree (cut := am_cut [4, 42]) 5 rfl
set_option maxHeartbeats 2000000 in
set_option maxRecDepth 100000 in
theorem t186_4 (d : Nat) (M : am_M) (r0 : Nat) (x1 x2 : Int32) (v3 : Value) :
  am_ev 186 (d + 1) 4 [.ref r0, .int x1, .int x2, v3] [] M =
 am_ob M r0 6 (am_bI (am_cl 160 d [.ref r0] M) (fun c2 M1 => am_br .ge x2 c2
 (am_ob M1 r0 6 (am_bV (am_cl 184 d [.ref r0] M1) (fun M3 => am_ob M3 r0 6 (am_gr (am_R M3 r0 54) (fun h4 => am_ix M3 h4 2 (am_i 1) (am_iw M3 h4 2 (am_i 1) (am_lt (am_sI M3 h4 (am_i 1).toNatClampNeg ((am_I M3 h4 (am_i 1).toNatClampNeg) + (am_i 1))) (fun M5 => am_ob M5 r0 6 (am_gr (am_R M5 r0 54) (fun h6 => am_ix M5 h6 2 (am_i 1) (am_br .ne (am_I M5 h6 (am_i 1).toNatClampNeg) (am_i 24)
 (some (some (.int x1), M5))
 (am_ob M5 r0 6 (am_gr (am_R M5 r0 54) (fun h7 => am_iw M5 h7 2 (am_i 1) (am_lt (am_sI M5 h7 (am_i 1).toNatClampNeg (am_i 0)) (fun M8 => am_ob M8 r0 6 (am_gr (am_R M8 r0 54) (fun h9 => am_ix M8 h9 2 (am_i 0) (am_iw M8 h9 2 (am_i 0) (am_lt (am_sI M8 h9 (am_i 0).toNatClampNeg ((am_I M8 h9 (am_i 0).toNatClampNeg) + (am_i 1))) (fun M10 => some (some (.int x1), M10))) none) none) none) none)) none) none) none)) none) none) none)) none) none) none) none)) none)
 (am_ob M1 r0 6 (am_gr (am_R M1 r0 61) (fun h11 => am_iw M1 h11 2 x2 (am_lt (am_sI M1 h11 x2.toNatClampNeg (am_i (-1))) (fun M12 => am_ob M12 r0 6 (am_gr (am_R M12 r0 54) (fun h13 => am_ix M12 h13 2 (am_i 1) (am_ob M12 r0 6 (am_bI (am_cl 185 d [.ref r0, .int x2, .int (am_I M12 h13 (am_i 1).toNatClampNeg)] M12) (fun c15 M14 => am_br .eq c15 (am_i 0)
 (am_ev 186 (d + 1) 42 [.ref r0, .int x1, .int x2, v3] [.int (am_i (-1))] M14)
 (am_ob M14 r0 6 (am_bI (am_cl 179 d [.ref r0, .int x2] M14) (fun c17 M16 => am_ev 186 (d + 1) 42 [.ref r0, .int x1, .int x2, v3] [.int c17] M16)) none))) none) none) none) none)) none) none) none))) none :=
  am_tree (cut := am_cut [4, 42]) 36 rfl
set_option maxHeartbeats 2000000 in
set_option maxRecDepth 100000 in
theorem t186_42 (d : Nat) (M : am_M) (r0 : Nat) (x1 x2 sx0 : Int32) (v3 : Value) :
  am_ev 186 (d + 1) 42 [.ref r0, .int x1, .int x2, v3] [.int sx0] M =
 am_br .ne sx0 (am_i (-1))
 (am_ob M r0 6 (am_gr (am_R M r0 47) (fun h1 => am_ix M h1 2 (am_i 4) (am_br .ne x1 (am_I M h1 (am_i 4).toNatClampNeg)
 (am_ob M r0 6 (am_gr (am_R M r0 61) (fun h2 => am_iw M h2 2 x2 (am_lt (am_sI M h2 x2.toNatClampNeg sx0) (fun M3 => am_ob M3 r0 6 (am_gr (am_R M3 r0 62) (fun h4 => am_ix M3 h4 3 x2 (am_ob M3 r0 6 (am_bI (am_cl 183 d [.ref r0, .int x2, .int sx0] M3) (fun c6 M5 => am_iw M5 h4 3 x2 (am_lt (am_sL M5 h4 x2.toNatClampNeg ((am_L M3 h4 x2.toNatClampNeg) + c6.toInt64)) (fun M7 => am_ob M7 r0 6 (am_bI (am_cl 170 d [.ref r0, .int x2] M7) (fun c9 M8 => am_ob M8 r0 6 (am_bV (am_cl 180 d [.ref r0, .int c9, .int sx0] M8) (fun M10 => am_ob M10 r0 6 (am_bV (am_cl 182 d [.ref r0, .int x2] M10) (fun M11 => am_ob M11 r0 6 (am_bV (am_cl 181 d [.ref r0, .int x2, .int sx0] M11) (fun M12 => am_ev 186 (d + 1) 4 [.ref r0, .int (x1 + am_i 1), .int (x2 + am_i 1), .int sx0] [] M12)) none)) none)) none)) none)) none)) none) none) none) none)) none) none) none)
 (am_ob M r0 6 (am_gr (am_R M r0 63) (fun h13 => am_ix M h13 2 x2 (am_iw M h13 2 x2 (am_lt (am_sI M h13 x2.toNatClampNeg ((am_I M h13 x2.toNatClampNeg) + (am_i 1))) (fun M14 => am_ev 186 (d + 1) 4 [.ref r0, .int x1, .int (x2 + am_i 1), .int sx0] [] M14)) none) none) none) none)) none) none) none)
 (am_ev 186 (d + 1) 4 [.ref r0, .int x1, .int (x2 + am_i 1), .int sx0] [] M) :=
  am_tree (cut := am_cut [4, 42]) 44 rfl
-- 187: X6_hoursGo
set_option maxHeartbeats 2000000 in
set_option maxRecDepth 100000 in
theorem t187 (d : Nat) (M : am_M) (r0 : Nat) (x1 : Int32) :
  am_cl 187 (d + 1) [.ref r0, .int x1] M =
 am_ev 187 (d + 1) 4 [.ref r0, .int x1, .int (am_i 0), .int (am_i 0)] [] M :=
  show am_ev 187 (d + 1) 0 [.ref r0, .int x1, .null, .null] [] M = _ from am_tree (cut := am_cut [4, 31]) 5 rfl
set_option maxHeartbeats 2000000 in
set_option maxRecDepth 100000 in
theorem t187_4 (d : Nat) (M : am_M) (r0 : Nat) (x1 x2 x3 : Int32) :
  am_ev 187 (d + 1) 4 [.ref r0, .int x1, .int x2, .int x3] [] M =
 am_br .ge x3 (am_i 5)
 (am_ev 187 (d + 1) 31 [.ref r0, .int x1, .int x2, .int (am_i 0)] [] M)
 (am_ob M r0 6 (am_gr (am_R M r0 62) (fun h1 => am_iw M h1 3 x3 (am_lt (am_sL M h1 x3.toNatClampNeg (am_l 0)) (fun M2 => am_ob M2 r0 6 (am_gr (am_R M2 r0 63) (fun h3 => am_iw M2 h3 2 x3 (am_lt (am_sI M2 h3 x3.toNatClampNeg (am_i 0)) (fun M4 => am_ev 187 (d + 1) 4 [.ref r0, .int x1, .int x2, .int (x3 + am_i 1)] [] M4)) none) none) none)) none) none) none) :=
  am_tree (cut := am_cut [4, 31]) 16 rfl
set_option maxHeartbeats 2000000 in
set_option maxRecDepth 100000 in
theorem t187_31 (d : Nat) (M : am_M) (r0 : Nat) (x1 x2 x3 : Int32) :
  am_ev 187 (d + 1) 31 [.ref r0, .int x1, .int x2, .int x3] [] M =
 am_br .ge x3 x1
 (some (some (.int x2), M))
 (am_ob M r0 6 (am_bI (am_cl 186 d [.ref r0] M) (fun c2 M1 => am_ev 187 (d + 1) 31 [.ref r0, .int x1, .int (x2 + c2), .int (x3 + am_i 1)] [] M1)) none) :=
  am_tree (cut := am_cut [4, 31]) 11 rfl
-- 188: X6_putsAside
set_option maxHeartbeats 2000000 in
set_option maxRecDepth 100000 in
theorem t188 (d : Nat) (M : am_M) (r0 : Nat) :
  am_cl 188 d [.ref r0] M =
 am_ob M r0 6 (am_tr (am_i 1) (am_lt (am_sI M r0 60 (am_i 1)) (fun M1 => am_ev 188 d 7 [.ref r0, .int (am_i 0)] [] M1)) none) none :=
  show am_ev 188 d 0 [.ref r0, .null] [] M = _ from am_tree (cut := am_cut [7]) 6 rfl
set_option maxHeartbeats 2000000 in
set_option maxRecDepth 100000 in
theorem t188_7 (d : Nat) (M : am_M) (r0 : Nat) (x1 : Int32) :
  am_ev 188 d 7 [.ref r0, .int x1] [] M =
 am_br .ge x1 (am_i 96)
 (some (none, M))
 (am_ob M r0 6 (am_gr (am_R M r0 55) (fun h1 => am_ob M r0 6 (am_gr (am_R M r0 54) (fun h2 => am_ix M h2 2 x1 (am_iw M h1 2 x1 (am_lt (am_sI M h1 x1.toNatClampNeg (am_I M h2 x1.toNatClampNeg)) (fun M3 => am_ev 188 d 7 [.ref r0, .int (x1 + am_i 1)] [] M3)) none) none) none) none) none) none) :=
  am_tree (cut := am_cut [7]) 14 rfl
-- 189: X6_triesAnew
set_option maxHeartbeats 2000000 in
set_option maxRecDepth 100000 in
theorem t189 (d : Nat) (M : am_M) (r0 : Nat) :
  am_cl 189 d [.ref r0] M =
 am_ev 189 d 2 [.ref r0, .int (am_i 0)] [] M :=
  show am_ev 189 d 0 [.ref r0, .null] [] M = _ from am_tree (cut := am_cut [2]) 3 rfl
set_option maxHeartbeats 2000000 in
set_option maxRecDepth 100000 in
theorem t189_2 (d : Nat) (M : am_M) (r0 : Nat) (x1 : Int32) :
  am_ev 189 d 2 [.ref r0, .int x1] [] M =
 am_br .ge x1 (am_i 96)
 (some (none, M))
 (am_ob M r0 6 (am_gr (am_R M r0 54) (fun h1 => am_ob M r0 6 (am_gr (am_R M r0 55) (fun h2 => am_ix M h2 2 x1 (am_iw M h1 2 x1 (am_lt (am_sI M h1 x1.toNatClampNeg (am_I M h2 x1.toNatClampNeg)) (fun M3 => am_ev 189 d 2 [.ref r0, .int (x1 + am_i 1)] [] M3)) none) none) none) none) none) none) :=
  am_tree (cut := am_cut [2]) 14 rfl
-- 190: X6_takesBack
set_option maxHeartbeats 2000000 in
set_option maxRecDepth 100000 in
theorem t190 (d : Nat) (M : am_M) (r0 : Nat) :
  am_cl 190 (d + 1) [.ref r0] M =
 am_ob M r0 6 (am_bV (am_cl 189 d [.ref r0] M) (fun M1 => am_ob M1 r0 6 (am_tr (am_i 0) (am_lt (am_sI M1 r0 60 (am_i 0)) (fun M2 => some (none, M2))) none) none)) none :=
  show am_ev 190 (d + 1) 0 [.ref r0] [] M = _ from am_tree (cut := am_cut []) 7 rfl
-- 191: X6_isAhead
set_option maxHeartbeats 2000000 in
set_option maxRecDepth 100000 in
theorem t191 (d : Nat) (M : am_M) (r0 : Nat) (x1 x2 x3 : Int32) :
  am_cl 191 (d + 1) [.ref r0, .int x1, .int x2, .int x3] M =
 am_bI (am_cl 127 d [.long x1.toInt64, .long x2.toInt64, .long x3.toInt64] M) (fun c2 M1 => am_br .eq c2 (am_i 0)
 (am_tr (am_i 0) (some (some (.int (am_i 0)), M1)) none)
 (am_ob M1 r0 6 (am_gr (am_R M1 r0 54) (fun h3 => am_ix M1 h3 2 (am_i 0) (am_ob M1 r0 6 (am_gr (am_R M1 r0 54) (fun h4 => am_ix M1 h4 2 (am_i 1) (am_br .gt ((((am_i 24) * (am_I M1 h3 (am_i 0).toNatClampNeg)) + (am_I M1 h4 (am_i 1).toNatClampNeg)) + x1) (am_i 23999)
 (am_tr (am_i 0) (some (some (.int (am_i 0)), M1)) none)
 (am_tr (am_i 1) (some (some (.int (am_i 1)), M1)) none)) none) none) none) none) none) none)) :=
  show am_ev 191 (d + 1) 0 [.ref r0, .int x1, .int x2, .int x3] [] M = _ from am_tree (cut := am_cut []) 27 rfl
-- 192: X6_bits
set_option maxHeartbeats 2000000 in
set_option maxRecDepth 100000 in
theorem t192 (d : Nat) (M : am_M) (x0 : Int32) :
  am_cl 192 d [.int x0] M =
 am_ev 192 d 4 [.int x0, .int (am_i 0), .int x0] [] M :=
  show am_ev 192 d 0 [.int x0, .null, .null] [] M = _ from am_tree (cut := am_cut [4]) 5 rfl
set_option maxHeartbeats 2000000 in
set_option maxRecDepth 100000 in
theorem t192_4 (d : Nat) (M : am_M) (v0 : Value) (x1 x2 : Int32) :
  am_ev 192 d 4 [v0, .int x1, .int x2] [] M =
 am_br .eq x2 (am_i 0)
 (some (some (.int x1), M))
 (am_ev 192 d 4 [(am_kl v0), .int (x1 + am_i 1), .int (x2 &&& (x2 - (am_i 1)))] [] M) :=
  am_tree (cut := am_cut [4]) 11 rfl
-- 193: X6_hoursOf
set_option maxHeartbeats 2000000 in
set_option maxRecDepth 100000 in
theorem t193 (d : Nat) (M : am_M) (r0 : Nat) (x1 : Int32) :
  am_cl 193 d [.ref r0, .int x1] M =
 am_ob M r0 6 (am_gr (am_R M r0 54) (fun h1 => am_ix M h1 2 (((am_i 86) + ((am_i 2) * x1)) + (am_i 1)) (some (some (.int (am_I M h1 (((am_i 86) + ((am_i 2) * x1)) + (am_i 1)).toNatClampNeg)), M)) none) none) none :=
  show am_ev 193 d 0 [.ref r0, .int x1] [] M = _ from am_tree (cut := am_cut []) 12 rfl
-- 194: X6_hoursAll
set_option maxHeartbeats 2000000 in
set_option maxRecDepth 100000 in
theorem t194 (d : Nat) (M : am_M) (r0 : Nat) :
  am_cl 194 (d + 1) [.ref r0] M =
 am_ev 194 (d + 1) 4 [.ref r0, .int (am_i 0), .int (am_i 0)] [] M :=
  show am_ev 194 (d + 1) 0 [.ref r0, .null, .null] [] M = _ from am_tree (cut := am_cut [4]) 5 rfl
set_option maxHeartbeats 2000000 in
set_option maxRecDepth 100000 in
theorem t194_4 (d : Nat) (M : am_M) (r0 : Nat) (x1 x2 : Int32) :
  am_ev 194 (d + 1) 4 [.ref r0, .int x1, .int x2] [] M =
 am_ob M r0 6 (am_bI (am_cl 160 d [.ref r0] M) (fun c2 M1 => am_br .ge x2 c2
 (some (some (.int x1), M1))
 (am_ob M1 r0 6 (am_bI (am_cl 193 d [.ref r0, .int x2] M1) (fun c4 M3 => am_ev 194 (d + 1) 4 [.ref r0, .int (x1 + c4), .int (x2 + am_i 1)] [] M3)) none))) none :=
  am_tree (cut := am_cut [4]) 13 rfl
-- 195: X6_has
set_option maxHeartbeats 2000000 in
set_option maxRecDepth 100000 in
theorem t195 (d : Nat) (M : am_M) (r0 : Nat) (x1 : Int32) :
  am_cl 195 (d + 1) [.ref r0, .int x1] M =
 am_si 0 x1 (am_ob M r0 6 (am_gr (am_R M r0 40) (fun h1 => am_ix M h1 2 ((am_i 3) + x1) (some (some (.int (am_I M h1 ((am_i 3) + x1).toNatClampNeg)), M)) none) none) none)
 (am_si 1 x1 (am_ob M r0 6 (am_gr (am_R M r0 40) (fun h2 => am_ix M h2 2 ((am_i 3) + x1) (some (some (.int (am_I M h2 ((am_i 3) + x1).toNatClampNeg)), M)) none) none) none)
 (am_si 2 x1 (am_ob M r0 6 (am_gr (am_R M r0 40) (fun h3 => am_ix M h3 2 ((am_i 3) + x1) (some (some (.int (am_I M h3 ((am_i 3) + x1).toNatClampNeg)), M)) none) none) none)
 (am_si 3 x1 (am_ob M r0 6 (am_gr (am_R M r0 47) (fun h4 => am_ix M h4 2 (am_i 4) (some (some (.int (am_I M h4 (am_i 4).toNatClampNeg)), M)) none) none) none)
 (am_si 4 x1 (am_ob M r0 6 (am_gr (am_R M r0 54) (fun h5 => am_ix M h5 2 (x1 - (am_i 4)) (some (some (.int (am_I M h5 (x1 - (am_i 4)).toNatClampNeg)), M)) none) none) none)
 (am_si 5 x1 (am_ob M r0 6 (am_gr (am_R M r0 54) (fun h6 => am_ix M h6 2 (x1 - (am_i 4)) (some (some (.int (am_I M h6 (x1 - (am_i 4)).toNatClampNeg)), M)) none) none) none)
 (am_si 6 x1 (am_ob M r0 6 (am_bI (am_cl 169 d [.ref r0] M) (fun c8 M7 => am_bI (am_cl 192 d [.int c8] M7) (fun c10 M9 => some (some (.int c10), M9)))) none)
 (am_si 7 x1 (am_ob M r0 6 (am_bI (am_cl 194 d [.ref r0] M) (fun c12 M11 => some (some (.int c12), M11))) none)
 (am_si 8 x1 (am_ob M r0 6 (am_gr (am_R M r0 54) (fun h13 => am_ix M h13 2 (am_i 96) (some (some (.int (am_I M h13 (am_i 96).toNatClampNeg)), M)) none) none) none)
 (am_si 9 x1 (am_ob M r0 6 (some (some (.int (am_I M r0 65)), M)) none)
 (am_si 10 x1 (am_ob M r0 6 (some (some (.int (am_I M r0 68)), M)) none)
 (some (some (.int (am_i (-1))), M)))))))))))) :=
  show am_ev 195 (d + 1) 0 [.ref r0, .int x1] [] M = _ from am_tree (cut := am_cut []) 10 rfl
