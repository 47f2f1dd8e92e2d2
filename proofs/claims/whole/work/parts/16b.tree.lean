/-! Trees: what a method does, printed by a program out of the tables, each proved by running the abstract machine. -/

-- 64: X0_init
set_option maxHeartbeats 2000000 in
set_option maxRecDepth 100000 in
theorem t64 (d : Nat) (M : am_M) (r0 : Nat) :
  am_cl 64 (d + 1) [.ref r0] M =
 am_ob M r0 0 (am_lt (am_sI M r0 0 (am_i 0)) (fun M1 => am_ob M1 r0 0 (am_lt (am_sI M1 r0 1 (am_i 0)) (fun M2 => am_if ((am_i 36) < 0 ∨ 65536 < (am_i 36).toNatClampNeg) none (am_lt (am_nw M2 (2, (am_i 36).toNatClampNeg) (am_i 36).toNatClampNeg) (fun M3 => am_ob M3 r0 0 (am_lt (am_sR M3 r0 2 (am_n M2)) (fun M4 => am_if ((am_i 48) < 0 ∨ 65536 < (am_i 48).toNatClampNeg) none (am_lt (am_nw M4 (2, (am_i 48).toNatClampNeg) (am_i 48).toNatClampNeg) (fun M5 => am_ob M5 r0 0 (am_lt (am_sR M5 r0 3 (am_n M4)) (fun M6 => am_if ((am_i 5) < 0 ∨ 65536 < (am_i 5).toNatClampNeg) none (am_lt (am_nw M6 (2, (am_i 5).toNatClampNeg) (am_i 5).toNatClampNeg) (fun M7 => am_ob M7 r0 0 (am_lt (am_sR M7 r0 4 (am_n M6)) (fun M8 => am_if ((am_i 40) < 0 ∨ 65536 < (am_i 40).toNatClampNeg) none (am_lt (am_nw M8 (2, (am_i 40).toNatClampNeg) (am_i 40).toNatClampNeg) (fun M9 => am_ob M9 r0 0 (am_lt (am_sR M9 r0 5 (am_n M8)) (fun M10 => am_ob M10 r0 0 (am_lt (am_sI M10 r0 6 (am_i 0)) (fun M11 => some (none, M11))) none)) none)))) none)))) none)))) none)))) none)) none :=
  show am_ev 64 (d + 1) 0 [.ref r0] [] M = _ from am_tree (cut := am_cut []) 29 rfl
-- 65: X0_clear
set_option maxHeartbeats 2000000 in
set_option maxRecDepth 100000 in
theorem t65 (d : Nat) (M : am_M) (r0 : Nat) :
  am_cl 65 d [.ref r0] M =
 am_ob M r0 0 (am_lt (am_sI M r0 0 (am_i 0)) (fun M1 => am_ob M1 r0 0 (am_lt (am_sI M1 r0 1 (am_i 0)) (fun M2 => am_ev 65 d 12 [.ref r0, .int (am_i 0)] [] M2)) none)) none :=
  show am_ev 65 d 0 [.ref r0, .null] [] M = _ from am_tree (cut := am_cut [12, 36, 60]) 9 rfl
set_option maxHeartbeats 2000000 in
set_option maxRecDepth 100000 in
theorem t65_12 (d : Nat) (M : am_M) (r0 : Nat) (x1 : Int32) :
  am_ev 65 d 12 [.ref r0, .int x1] [] M =
 am_ob M r0 0 (am_gr (am_R M r0 2) (fun h1 => am_if (2 ≤ (am_K M h1).1 ∧ (am_K M h1).1 ≤ 6) (am_br .ge x1 (nI (am_K M h1).2)
 (am_ev 65 d 36 [.ref r0, .int (am_i 0)] [] M)
 (am_ob M r0 0 (am_gr (am_R M r0 2) (fun h2 => am_iw M h2 2 x1 (am_lt (am_sI M h2 x1.toNatClampNeg (am_i 0)) (fun M3 => am_ev 65 d 12 [.ref r0, .int (x1 + am_i 1)] [] M3)) none) none) none)) none) none) none :=
  am_tree (cut := am_cut [12, 36, 60]) 13 rfl
set_option maxHeartbeats 2000000 in
set_option maxRecDepth 100000 in
theorem t65_36 (d : Nat) (M : am_M) (r0 : Nat) (x1 : Int32) :
  am_ev 65 d 36 [.ref r0, .int x1] [] M =
 am_ob M r0 0 (am_gr (am_R M r0 3) (fun h1 => am_if (2 ≤ (am_K M h1).1 ∧ (am_K M h1).1 ≤ 6) (am_br .ge x1 (nI (am_K M h1).2)
 (am_ev 65 d 60 [.ref r0, .int (am_i 0)] [] M)
 (am_ob M r0 0 (am_gr (am_R M r0 3) (fun h2 => am_iw M h2 2 x1 (am_lt (am_sI M h2 x1.toNatClampNeg (am_i 0)) (fun M3 => am_ev 65 d 36 [.ref r0, .int (x1 + am_i 1)] [] M3)) none) none) none)) none) none) none :=
  am_tree (cut := am_cut [12, 36, 60]) 13 rfl
set_option maxHeartbeats 2000000 in
set_option maxRecDepth 100000 in
theorem t65_60 (d : Nat) (M : am_M) (r0 : Nat) (x1 : Int32) :
  am_ev 65 d 60 [.ref r0, .int x1] [] M =
 am_br .ge x1 (am_i 5)
 (am_ob M r0 0 (am_lt (am_sI M r0 6 (am_i 0)) (fun M1 => some (none, M1))) none)
 (am_ob M r0 0 (am_gr (am_R M r0 4) (fun h2 => am_iw M h2 2 x1 (am_lt (am_sI M h2 x1.toNatClampNeg (am_i 0)) (fun M3 => am_ev 65 d 60 [.ref r0, .int (x1 + am_i 1)] [] M3)) none) none) none) :=
  am_tree (cut := am_cut [12, 36, 60]) 11 rfl
-- 66: X0_copyFrom
set_option maxHeartbeats 2000000 in
set_option maxRecDepth 100000 in
theorem t66 (d : Nat) (M : am_M) (r0 r1 : Nat) :
  am_cl 66 (d + 1) [.ref r0, .ref r1] M =
 am_ob M r1 0 (am_ob M r0 0 (am_lt (am_sI M r0 0 (am_I M r1 0)) (fun M1 => am_ob M1 r1 0 (am_ob M1 r0 0 (am_lt (am_sI M1 r0 1 (am_I M1 r1 1)) (fun M2 => am_ob M2 r1 0 (am_gr (am_R M2 r1 2) (fun h3 => am_ob M2 r0 0 (am_gr (am_R M2 r0 2) (fun h4 => am_ob M2 r0 0 (am_gr (am_R M2 r0 2) (fun h5 => am_if (2 ≤ (am_K M2 h5).1 ∧ (am_K M2 h5).1 ≤ 6) (am_ac M2 h3 (am_i 0) h4 (am_i 0) (nI (am_K M2 h5).2) 0 (am_lt (am_cp M2 h3 (am_i 0).toNatClampNeg h4 (am_i 0).toNatClampNeg (nI (am_K M2 h5).2).toNatClampNeg) (fun M6 => am_ob M6 r1 0 (am_gr (am_R M6 r1 3) (fun h7 => am_ob M6 r0 0 (am_gr (am_R M6 r0 3) (fun h8 => am_ob M6 r0 0 (am_gr (am_R M6 r0 3) (fun h9 => am_if (2 ≤ (am_K M6 h9).1 ∧ (am_K M6 h9).1 ≤ 6) (am_ac M6 h7 (am_i 0) h8 (am_i 0) (nI (am_K M6 h9).2) 0 (am_lt (am_cp M6 h7 (am_i 0).toNatClampNeg h8 (am_i 0).toNatClampNeg (nI (am_K M6 h9).2).toNatClampNeg) (fun M10 => am_ob M10 r1 0 (am_gr (am_R M10 r1 4) (fun h11 => am_ob M10 r0 0 (am_gr (am_R M10 r0 4) (fun h12 => am_ac M10 h11 (am_i 0) h12 (am_i 0) (am_i 5) 0 (am_lt (am_cp M10 h11 (am_i 0).toNatClampNeg h12 (am_i 0).toNatClampNeg (am_i 5).toNatClampNeg) (fun M13 => am_ob M13 r1 0 (am_gr (am_R M13 r1 5) (fun h14 => am_ob M13 r0 0 (am_gr (am_R M13 r0 5) (fun h15 => am_ac M13 h14 (am_i 0) h15 (am_i 0) (am_i 40) 0 (am_lt (am_cp M13 h14 (am_i 0).toNatClampNeg h15 (am_i 0).toNatClampNeg (am_i 40).toNatClampNeg) (fun M16 => am_ob M16 r1 0 (am_ob M16 r0 0 (am_lt (am_sI M16 r0 6 (am_I M16 r1 6)) (fun M17 => some (none, M17))) none) none)) none) none) none) none) none)) none) none) none) none) none)) none) none) none) none) none) none) none) none)) none) none) none) none) none) none) none) none)) none) none)) none) none :=
  show am_ev 66 (d + 1) 0 [.ref r0, .ref r1] [] M = _ from am_tree (cut := am_cut []) 50 rfl
-- 67: X0_profileOf
set_option maxHeartbeats 2000000 in
set_option maxRecDepth 100000 in
theorem t67 (d : Nat) (M : am_M) (r0 : Nat) (x1 : Int32) :
  am_cl 67 d [.ref r0, .int x1] M =
 am_ob M r0 0 (am_br .ne (((am_I M r0 1) >>> (x1 &&& 31)) &&& (am_i 1)) (am_i 1)
 (some (some (.int (am_i 0)), M))
 (some (some (.int (x1 + (am_i 1))), M))) none :=
  show am_ev 67 d 0 [.ref r0, .int x1] [] M = _ from am_tree (cut := am_cut []) 14 rfl
-- 68: X0_keptCount
set_option maxHeartbeats 2000000 in
set_option maxRecDepth 100000 in
theorem t68 (d : Nat) (M : am_M) (r0 : Nat) :
  am_cl 68 (d + 1) [.ref r0] M =
 am_ob M r0 0 (am_bI (am_cl 276 d [.int (am_I M r0 6), .int (am_i 40)] M) (fun c2 M1 => some (some (.int c2), M1))) none :=
  show am_ev 68 (d + 1) 0 [.ref r0] [] M = _ from am_tree (cut := am_cut []) 6 rfl
-- 69: X0_keptRow
set_option maxHeartbeats 2000000 in
set_option maxRecDepth 100000 in
theorem t69 (d : Nat) (M : am_M) (r0 : Nat) (x1 : Int32) :
  am_cl 69 (d + 1) [.ref r0, .int x1] M =
 am_ob M r0 0 (am_gr (am_R M r0 5) (fun h1 => am_ob M r0 0 (am_ob M r0 0 (am_bI (am_cl 68 d [.ref r0] M) (fun c3 M2 => am_if ((am_i 40) = 0) none (am_lt (((am_I M r0 6) - c3) + x1) (fun u4 => am_ix M2 h1 2 (u4 - u4 / (am_i 40) * (am_i 40)) (some (some (.int (am_I M2 h1 (u4 - u4 / (am_i 40) * (am_i 40)).toNatClampNeg)), M2)) none)))) none) none) none) none :=
  show am_ev 69 (d + 1) 0 [.ref r0, .int x1] [] M = _ from am_tree (cut := am_cut []) 14 rfl
-- 70: X0_keep
set_option maxHeartbeats 2000000 in
set_option maxRecDepth 100000 in
theorem t70 (d : Nat) (M : am_M) (r0 : Nat) (x1 x2 : Int32) :
  am_cl 70 d [.ref r0, .int x1, .int x2] M =
 am_ob M r0 0 (am_gr (am_R M r0 5) (fun h1 => am_ob M r0 0 (am_if ((am_i 40) = 0) none (am_ob M r0 0 (am_iw M h1 2 ((am_I M r0 6) - (am_I M r0 6) / (am_i 40) * (am_i 40)) (am_lt (am_sI M h1 ((am_I M r0 6) - (am_I M r0 6) / (am_i 40) * (am_i 40)).toNatClampNeg (((((am_I M r0 0) * (am_i 16)) + x1) * (am_i 8)) + x2)) (fun M2 => am_ob M2 r0 0 (am_ob M2 r0 0 (am_lt (am_sI M2 r0 6 ((am_I M2 r0 6) + (am_i 1))) (fun M3 => some (none, M3))) none) none)) none) none)) none) none) none :=
  show am_ev 70 d 0 [.ref r0, .int x1, .int x2] [] M = _ from am_tree (cut := am_cut []) 25 rfl
-- 71: X1_init
set_option maxHeartbeats 2000000 in
set_option maxRecDepth 100000 in
theorem t71 (d : Nat) (M : am_M) (r0 r1 : Nat) :
  am_cl 71 (d + 1) [.ref r0, .ref r1] M =
 am_lt (am_nw M (1, 0) 7) (fun M1 => am_bV (am_cl 64 d [.ref (am_n M)] M1) (fun M2 => am_ob M2 r0 1 (am_lt (am_sR M2 r0 1 (am_n M)) (fun M3 => am_if ((am_i 5) < 0 ∨ 65536 < (am_i 5).toNatClampNeg) none (am_lt (am_nw M3 (2, (am_i 5).toNatClampNeg) (am_i 5).toNatClampNeg) (fun M4 => am_ob M4 r0 1 (am_lt (am_sR M4 r0 2 (am_n M3)) (fun M5 => am_if ((am_i 5) < 0 ∨ 65536 < (am_i 5).toNatClampNeg) none (am_lt (am_nw M5 (2, (am_i 5).toNatClampNeg) (am_i 5).toNatClampNeg) (fun M6 => am_ob M6 r0 1 (am_lt (am_sR M6 r0 3 (am_n M5)) (fun M7 => am_ob M7 r0 1 (am_lt (am_sI M7 r0 4 (am_i 0)) (fun M8 => am_lt (am_nw M8 (1, 3) 3) (fun M9 => am_bV (am_cl 90 d [.ref (am_n M8)] M9) (fun M10 => am_ob M10 r0 1 (am_lt (am_sR M10 r0 5 (am_n M8)) (fun M11 => am_ob M11 r0 1 (am_lt (am_sR M11 r0 0 r1) (fun M12 => some (none, M12))) none)) none)))) none)) none)))) none)))) none)) :=
  show am_ev 71 (d + 1) 0 [.ref r0, .ref r1] [] M = _ from am_tree (cut := am_cut []) 28 rfl
-- 72: X1_begin
set_option maxHeartbeats 2000000 in
set_option maxRecDepth 100000 in
theorem t72 (d : Nat) (M : am_M) (r0 r1 : Nat) (x2 : Int32) :
  am_cl 72 (d + 1) [.ref r0, .ref r1, .int x2] M =
 am_ob M r1 1 (am_gr (am_R M r1 0) (fun h1 => am_ob M r0 1 (am_lt (am_sR M r0 0 h1) (fun M2 => am_ob M2 r0 1 (am_gr (am_R M2 r0 1) (fun h3 => am_ob M2 r1 1 (am_gr (am_R M2 r1 1) (fun h4 => am_ob M2 h3 0 (am_bV (am_cl 66 d [.ref h3, .ref h4] M2) (fun M5 => am_ob M5 r0 1 (am_gr (am_R M5 r0 1) (fun h6 => am_ob M5 h6 0 (am_lt (am_sI M5 h6 1 x2) (fun M7 => am_ev 72 (d + 1) 29 [.ref r0, .ref r1, .int x2, .int (am_i 0)] [] M7)) none) none) none)) none) none) none) none) none)) none) none) none :=
  show am_ev 72 (d + 1) 0 [.ref r0, .ref r1, .int x2, .null] [] M = _ from am_tree (cut := am_cut [29]) 16 rfl
set_option maxHeartbeats 2000000 in
set_option maxRecDepth 100000 in
theorem t72_29 (d : Nat) (M : am_M) (r0 : Nat) (v1 v2 : Value) (x3 : Int32) :
  am_ev 72 (d + 1) 29 [.ref r0, v1, v2, .int x3] [] M =
 am_br .ge x3 (am_i 5)
 (some (none, M))
 (am_ob M r0 1 (am_gr (am_R M r0 2) (fun h1 => am_iw M h1 2 x3 (am_lt (am_sI M h1 x3.toNatClampNeg (am_i 0)) (fun M2 => am_ob M2 r0 1 (am_gr (am_R M2 r0 3) (fun h3 => am_iw M2 h3 2 x3 (am_lt (am_sI M2 h3 x3.toNatClampNeg (am_i 0)) (fun M4 => am_ev 72 (d + 1) 29 [.ref r0, v1, (am_kl v2), .int (x3 + am_i 1)] [] M4)) none) none) none)) none) none) none) :=
  am_tree (cut := am_cut [29]) 16 rfl
-- 73: X1_passHour
set_option maxHeartbeats 2000000 in
set_option maxRecDepth 100000 in
theorem t73 (d : Nat) (M : am_M) (r0 : Nat) :
  am_cl 73 (d + 1) [.ref r0] M =
 am_ob M r0 1 (am_lt (am_sI M r0 4 (am_i 0)) (fun M1 => am_ob M1 r0 1 (am_gr (am_R M1 r0 1) (fun h2 => am_ob M1 h2 0 (am_if ((am_i 24) = 0) none (am_lt ((am_I M1 h2 0) - (am_I M1 h2 0) / (am_i 24) * (am_i 24)) (fun u3 => am_ev 73 (d + 1) 20 [.ref r0, .int (am_i 0), .int u3, .int (am_i 0), .null] [] M1))) none) none) none)) none :=
  show am_ev 73 (d + 1) 0 [.ref r0, .null, .null, .null, .null] [] M = _ from am_tree (cut := am_cut [20, 54, 86, 138]) 14 rfl
set_option maxHeartbeats 2000000 in
set_option maxRecDepth 100000 in
theorem t73_20 (d : Nat) (M : am_M) (r0 : Nat) (x1 x2 x3 : Int32) (v4 : Value) :
  am_ev 73 (d + 1) 20 [.ref r0, .int x1, .int x2, .int x3, v4] [] M =
 am_ob M r0 1 (am_gr (am_R M r0 0) (fun h1 => am_ob M h1 2 (am_gr (am_R M h1 0) (fun h2 => am_ix M h2 2 (am_i 2) (am_br .ge x3 (am_I M h2 (am_i 2).toNatClampNeg)
 (am_ob M r0 1 (am_gr (am_R M r0 0) (fun h3 => am_ob M h3 2 (am_br .eq (am_I M h3 13) (am_i (-1))
 (am_ev 73 (d + 1) 138 [.ref r0, .int x1, .int x2, .int x3, v4] [] M)
 (am_ob M r0 1 (am_bV (am_cl 82 d [.ref r0, .int x2] M) (fun M4 => am_ev 73 (d + 1) 138 [.ref r0, .int x1, .int x2, .int x3, v4] [] M4)) none)) none) none) none)
 (am_ob M r0 1 (am_gr (am_R M r0 0) (fun h5 => am_ob M h5 2 (am_bI (am_cl 87 d [.ref h5, .int x3, .int x2] M) (fun c7 M6 => am_br .eq c7 (am_i 0)
 (am_ev 73 (d + 1) 54 [.ref r0, .int x1, .int x2, .int x3, v4] [.int (am_i (-1))] M6)
 (am_ob M6 r0 1 (am_bI (am_cl 74 d [.ref r0, .int x3] M6) (fun c9 M8 => am_ev 73 (d + 1) 54 [.ref r0, .int x1, .int x2, .int x3, v4] [.int c9] M8)) none))) none) none) none)) none) none) none) none) none :=
  am_tree (cut := am_cut [20, 54, 86, 138]) 18 rfl
set_option maxHeartbeats 2000000 in
set_option maxRecDepth 100000 in
theorem t73_54 (d : Nat) (M : am_M) (r0 : Nat) (x1 x2 x3 sx0 : Int32) (v4 : Value) :
  am_ev 73 (d + 1) 54 [.ref r0, .int x1, .int x2, .int x3, v4] [.int sx0] M =
 am_br .eq sx0 (am_i (-1))
 (am_ev 73 (d + 1) 86 [.ref r0, .int x1, .int x2, .int x3, .int sx0] [] M)
 (am_ob M r0 1 (am_gr (am_R M r0 0) (fun h1 => am_ob M h1 2 (am_br .lt x1 (am_I M h1 8)
 (am_ev 73 (d + 1) 86 [.ref r0, .int x1, .int x2, .int x3, .int sx0] [] M)
 (am_ob M r0 1 (am_gr (am_R M r0 3) (fun h2 => am_ix M h2 2 x3 (am_iw M h2 2 x3 (am_lt (am_sI M h2 x3.toNatClampNeg ((am_I M h2 x3.toNatClampNeg) + (am_i 1))) (fun M3 => am_ev 73 (d + 1) 20 [.ref r0, .int x1, .int x2, .int (x3 + am_i 1), .int sx0] [] M3)) none) none) none) none)) none) none) none) :=
  am_tree (cut := am_cut [20, 54, 86, 138]) 21 rfl
set_option maxHeartbeats 2000000 in
set_option maxRecDepth 100000 in
theorem t73_86 (d : Nat) (M : am_M) (r0 : Nat) (x1 x2 x3 x4 : Int32) :
  am_ev 73 (d + 1) 86 [.ref r0, .int x1, .int x2, .int x3, .int x4] [] M =
 am_br .eq x4 (am_i (-1))
 (am_ev 73 (d + 1) 20 [.ref r0, .int x1, .int x2, .int (x3 + am_i 1), .int x4] [] M)
 (am_ob M r0 1 (am_bI (am_cl 76 d [.ref r0, .int x3, .int x4] M) (fun c2 M1 => am_ob M1 r0 1 (am_ob M1 r0 1 (am_lt (am_sI M1 r0 4 ((am_I M1 r0 4) ||| ((am_i 1) <<< (x4 &&& 31)))) (fun M3 => am_ev 73 (d + 1) 20 [.ref r0, .int (x1 + am_i 1), .int x2, .int (x3 + am_i 1), .int x4] [] M3)) none) none)) none) :=
  am_tree (cut := am_cut [20, 54, 86, 138]) 20 rfl
set_option maxHeartbeats 2000000 in
set_option maxRecDepth 100000 in
theorem t73_138 (d : Nat) (M : am_M) (r0 : Nat) (x1 : Int32) (v2 v3 v4 : Value) :
  am_ev 73 (d + 1) 138 [.ref r0, .int x1, v2, v3, v4] [] M =
 am_ob M r0 1 (am_gr (am_R M r0 1) (fun h1 => am_ob M h1 0 (am_ob M h1 0 (am_lt (am_sI M h1 0 ((am_I M h1 0) + (am_i 1))) (fun M2 => some (some (.int x1), M2))) none) none) none) none :=
  am_tree (cut := am_cut [20, 54, 86, 138]) 10 rfl
-- 74: X1_suggested
set_option maxHeartbeats 2000000 in
set_option maxRecDepth 100000 in
theorem t74 (d : Nat) (M : am_M) (r0 : Nat) (x1 : Int32) :
  am_cl 74 (d + 1) [.ref r0, .int x1] M =
 am_ob M r0 1 (am_gr (am_R M r0 1) (fun h1 => am_ob M h1 0 (am_bI (am_cl 67 d [.ref h1, .int x1] M) (fun c3 M2 => am_ev 74 (d + 1) 17 [.ref r0, .int x1, .int c3, .int (am_i (-1)), .int (am_i 0), .int (am_i 0), .null] [] M2)) none) none) none :=
  show am_ev 74 (d + 1) 0 [.ref r0, .int x1, .null, .null, .null, .null, .null] [] M = _ from am_tree (cut := am_cut [17]) 12 rfl
set_option maxHeartbeats 2000000 in
set_option maxRecDepth 100000 in
theorem t74_17 (d : Nat) (M : am_M) (r0 : Nat) (v1 v6 : Value) (x2 x3 x4 x5 : Int32) :
  am_ev 74 (d + 1) 17 [.ref r0, v1, .int x2, .int x3, .int x4, .int x5, v6] [] M =
 am_ob M r0 1 (am_gr (am_R M r0 0) (fun h1 => am_ob M h1 2 (am_gr (am_R M h1 0) (fun h2 => am_ix M h2 2 (am_i 1) (am_br .ge x5 (am_I M h2 (am_i 1).toNatClampNeg)
 (some (some (.int x3), M))
 (am_ob M r0 1 (am_gr (am_R M r0 1) (fun h3 => am_ob M h3 0 (am_gr (am_R M h3 3) (fun h4 => am_ix M h4 2 ((x2 * (am_i 8)) + x5) (am_ob M r0 1 (am_gr (am_R M r0 0) (fun h5 => am_ob M h5 2 (am_gr (am_R M h5 2) (fun h6 => am_ix M h6 2 x5 (am_br .ge (am_I M h4 ((x2 * (am_i 8)) + x5).toNatClampNeg) (am_I M h6 x5.toNatClampNeg)
 (am_ev 74 (d + 1) 17 [.ref r0, v1, .int x2, .int x3, .int x4, .int (x5 + am_i 1), v6] [] M)
 (am_ob M r0 1 (am_bI (am_cl 79 d [.ref r0, .int x2, .int x5] M) (fun c8 M7 => am_br .le c8 x4
 (am_ev 74 (d + 1) 17 [.ref r0, v1, .int x2, .int x3, .int x4, .int (x5 + am_i 1), .int c8] [] M7)
 (am_ob M7 r0 1 (am_bI (am_cl 81 d [.ref r0, .int x2, .int x5, .int c8] M7) (fun c10 M9 => am_br .eq c10 (am_i 0)
 (am_ev 74 (d + 1) 17 [.ref r0, v1, .int x2, .int x3, .int x4, .int (x5 + am_i 1), .int c8] [] M9)
 (am_ev 74 (d + 1) 17 [.ref r0, v1, .int x2, .int x5, .int c8, .int (x5 + am_i 1), .int c8] [] M9))) none))) none)) none) none) none) none) none) none) none) none) none) none)) none) none) none) none) none :=
  am_tree (cut := am_cut [17]) 43 rfl
-- 75: X1_hasPartFor
set_option maxHeartbeats 2000000 in
set_option maxRecDepth 100000 in
theorem t75 (d : Nat) (M : am_M) (r0 : Nat) (x1 x2 : Int32) :
  am_cl 75 (d + 1) [.ref r0, .int x1, .int x2] M =
 am_ob M r0 1 (am_gr (am_R M r0 1) (fun h1 => am_ob M h1 0 (am_gr (am_R M h1 3) (fun h2 => am_ob M r0 1 (am_gr (am_R M r0 1) (fun h3 => am_ob M h3 0 (am_bI (am_cl 67 d [.ref h3, .int x1] M) (fun c5 M4 => am_ix M4 h2 2 ((c5 * (am_i 8)) + x2) (am_ob M4 r0 1 (am_gr (am_R M4 r0 0) (fun h6 => am_ob M4 h6 2 (am_gr (am_R M4 h6 2) (fun h7 => am_ix M4 h7 2 x2 (am_br .ge (am_I M4 h2 ((c5 * (am_i 8)) + x2).toNatClampNeg) (am_I M4 h7 x2.toNatClampNeg)
 (am_tr (am_i 0) (some (some (.int (am_i 0)), M4)) none)
 (am_tr (am_i 1) (some (some (.int (am_i 1)), M4)) none)) none) none) none) none) none) none)) none) none) none) none) none) none) none :=
  show am_ev 75 (d + 1) 0 [.ref r0, .int x1, .int x2] [] M = _ from am_tree (cut := am_cut []) 22 rfl
-- 76: X1_watch
set_option maxHeartbeats 2000000 in
set_option maxRecDepth 100000 in
theorem t76 (d : Nat) (M : am_M) (r0 : Nat) (x1 x2 : Int32) :
  am_cl 76 (d + 1) [.ref r0, .int x1, .int x2] M =
 am_ob M r0 1 (am_gr (am_R M r0 1) (fun h1 => am_ob M h1 0 (am_bI (am_cl 67 d [.ref h1, .int x1] M) (fun c3 M2 => am_ob M2 r0 1 (am_bV (am_cl 77 d [.ref r0, .int c3, .int x2, .int x1] M2) (fun M4 => am_ob M4 r0 1 (am_gr (am_R M4 r0 1) (fun h5 => am_ob M4 h5 0 (am_gr (am_R M4 h5 4) (fun h6 => am_ob M4 r0 1 (am_gr (am_R M4 r0 1) (fun h7 => am_ob M4 h7 0 (am_gr (am_R M4 h7 4) (fun h8 => am_ix M4 h8 2 x1 (am_bI (am_cl 276 d [.int ((am_I M4 h8 x1.toNatClampNeg) + (am_i 1)), .int (am_i 9999)] M4) (fun c10 M9 => am_iw M9 h6 2 x1 (am_lt (am_sI M9 h6 x1.toNatClampNeg c10) (fun M11 => am_ob M11 r0 1 (am_gr (am_R M11 r0 0) (fun h12 => am_ob M11 h12 2 (am_bI (am_cl 88 d [.ref h12, .int x1, .int x2] M11) (fun c14 M13 => am_br .ne c3 (am_i 0)
 (am_ob M13 r0 1 (am_gr (am_R M13 r0 0) (fun h15 => am_ob M13 h15 2 (am_ev 76 (d + 1) 66 [.ref r0, .int x1, .int x2, .int c3, .null] [.int (am_I M13 h15 10), .int c14] M13) none) none) none)
 (am_ev 76 (d + 1) 66 [.ref r0, .int x1, .int x2, .int c3, .null] [.int (am_i 0), .int c14] M13))) none) none) none)) none)) none) none) none) none) none) none) none) none) none)) none)) none) none) none :=
  show am_ev 76 (d + 1) 0 [.ref r0, .int x1, .int x2, .null, .null] [] M = _ from am_tree (cut := am_cut [66]) 35 rfl
set_option maxHeartbeats 2000000 in
set_option maxRecDepth 100000 in
theorem t76_66 (d : Nat) (M : am_M) (r0 : Nat) (x1 sx0 sx1 : Int32) (v2 v3 v4 : Value) :
  am_ev 76 (d + 1) 66 [.ref r0, .int x1, v2, v3, v4] [.int sx1, .int sx0] M =
 am_ob M r0 1 (am_gr (am_R M r0 2) (fun h1 => am_ix M h1 2 x1 (am_iw M h1 2 x1 (am_lt (am_sI M h1 x1.toNatClampNeg ((am_I M h1 x1.toNatClampNeg) + (sx0 - sx1))) (fun M2 => some (some (.int (sx0 - sx1)), M2))) none) none) none) none :=
  am_tree (cut := am_cut [66]) 13 rfl
-- 77: X1_seePart
set_option maxHeartbeats 2000000 in
set_option maxRecDepth 100000 in
theorem t77 (d : Nat) (M : am_M) (r0 : Nat) (x1 x2 x3 : Int32) :
  am_cl 77 (d + 1) [.ref r0, .int x1, .int x2, .int x3] M =
 am_ob M r0 1 (am_gr (am_R M r0 1) (fun h1 => am_ob M h1 0 (am_gr (am_R M h1 3) (fun h2 => am_ix M h2 2 ((x1 * (am_i 8)) + x2) (am_iw M h2 2 ((x1 * (am_i 8)) + x2) (am_lt (am_sI M h2 ((x1 * (am_i 8)) + x2).toNatClampNeg ((am_I M h2 ((x1 * (am_i 8)) + x2).toNatClampNeg) + (am_i 1))) (fun M3 => am_ev 77 (d + 1) 21 [.ref r0, .int x1, .int x2, .int x3, .int (am_i 0), .null, .null] [] M3)) none) none) none) none) none) none :=
  show am_ev 77 (d + 1) 0 [.ref r0, .int x1, .int x2, .int x3, .null, .null, .null] [] M = _ from am_tree (cut := am_cut [21, 153]) 16 rfl
set_option maxHeartbeats 2000000 in
set_option maxRecDepth 100000 in
theorem t77_21 (d : Nat) (M : am_M) (r0 : Nat) (x1 x2 x3 x4 : Int32) (v5 v6 : Value) :
  am_ev 77 (d + 1) 21 [.ref r0, .int x1, .int x2, .int x3, .int x4, v5, v6] [] M =
 am_ob M r0 1 (am_gr (am_R M r0 0) (fun h1 => am_ob M h1 2 (am_gr (am_R M h1 0) (fun h2 => am_ix M h2 2 (am_i 0) (am_br .ge x4 (am_I M h2 (am_i 0).toNatClampNeg)
 (am_ob M r0 1 (am_gr (am_R M r0 1) (fun h3 => am_ob M h3 0 (am_bV (am_cl 70 d [.ref h3, .int x3, .int x2] M) (fun M4 => some (none, M4))) none) none) none)
 (am_ob M r0 1 (am_gr (am_R M r0 0) (fun h5 => am_ob M h5 2 (am_gr (am_R M h5 3) (fun h6 => am_iq M h6 x2 (am_gr (am_R M h6 x2.toNatClampNeg) (fun h7 => am_ix M h7 2 x4 (am_br .le (am_I M h7 x4.toNatClampNeg) (am_i 0)
 (am_ev 77 (d + 1) 21 [.ref r0, .int x1, .int x2, .int x3, .int (x4 + am_i 1), .int (am_I M h7 x4.toNatClampNeg), v6] [] M)
 (am_ob M r0 1 (am_gr (am_R M r0 0) (fun h8 => am_ob M h8 2 (am_br .eq (am_I M h8 12) (am_i (-1))
 (am_ev 77 (d + 1) 153 [.ref r0, .int x1, .int x2, .int x3, .int x4, .int (am_I M h7 x4.toNatClampNeg), .int ((x1 * (am_i 6)) + x4)] [] M)
 (am_ob M r0 1 (am_gr (am_R M r0 5) (fun h9 => am_ob M h9 3 (am_gr (am_R M h9 1) (fun h10 => am_ob M r0 1 (am_gr (am_R M r0 1) (fun h11 => am_ob M h11 0 (am_if ((am_i 24) = 0) none (am_iw M h10 2 (am_i 16) (am_lt (am_sI M h10 (am_i 16).toNatClampNeg ((am_I M h11 0) - (am_I M h11 0) / (am_i 24) * (am_i 24))) (fun M12 => am_ob M12 r0 1 (am_gr (am_R M12 r0 5) (fun h13 => am_ob M12 h13 3 (am_gr (am_R M12 h13 1) (fun h14 => am_ob M12 r0 1 (am_gr (am_R M12 r0 1) (fun h15 => am_ob M12 h15 0 (am_gr (am_R M12 h15 2) (fun h16 => am_ix M12 h16 2 ((x1 * (am_i 6)) + x4) (am_iw M12 h14 2 (am_i 17) (am_lt (am_sI M12 h14 (am_i 17).toNatClampNeg (am_I M12 h16 ((x1 * (am_i 6)) + x4).toNatClampNeg)) (fun M17 => am_ob M17 r0 1 (am_gr (am_R M17 r0 5) (fun h18 => am_ob M17 h18 3 (am_gr (am_R M17 h18 1) (fun h19 => am_iw M17 h19 2 (am_i 18) (am_lt (am_sI M17 h19 (am_i 18).toNatClampNeg (am_I M h7 x4.toNatClampNeg)) (fun M20 => am_ob M20 r0 1 (am_gr (am_R M20 r0 5) (fun h21 => am_ob M20 r0 1 (am_gr (am_R M20 r0 0) (fun h22 => am_ob M20 h22 2 (am_gr (am_R M20 h22 15) (fun h23 => am_ob M20 r0 1 (am_gr (am_R M20 r0 0) (fun h24 => am_ob M20 h24 2 (am_ob M20 h21 3 (am_bI (am_cl 91 d [.ref h21, .ref h23, .int (am_I M20 h24 12)] M20) (fun c26 M25 => am_ob M25 r0 1 (am_bI (am_cl 83 d [.ref r0, .int c26] M25) (fun c28 M27 => am_ev 77 (d + 1) 153 [.ref r0, .int x1, .int x2, .int x3, .int x4, .int c28, .int ((x1 * (am_i 6)) + x4)] [] M27)) none)) none) none) none) none) none) none) none) none) none) none)) none) none) none) none) none)) none) none) none) none) none) none) none) none) none) none)) none)) none) none) none) none) none) none) none)) none) none) none)) none) none) none) none) none) none) none)) none) none) none) none) none :=
  am_tree (cut := am_cut [21, 153]) 67 rfl
set_option maxHeartbeats 2000000 in
set_option maxRecDepth 100000 in
theorem t77_153 (d : Nat) (M : am_M) (r0 : Nat) (x1 x2 x3 x4 x5 x6 : Int32) :
  am_ev 77 (d + 1) 153 [.ref r0, .int x1, .int x2, .int x3, .int x4, .int x5, .int x6] [] M =
 am_ob M r0 1 (am_gr (am_R M r0 1) (fun h1 => am_ob M h1 0 (am_gr (am_R M h1 2) (fun h2 => am_ob M r0 1 (am_gr (am_R M r0 1) (fun h3 => am_ob M h3 0 (am_gr (am_R M h3 2) (fun h4 => am_ix M h4 2 x6 (am_ob M r0 1 (am_bI (am_cl 83 d [.ref r0, .int ((am_I M h4 x6.toNatClampNeg) + x5)] M) (fun c6 M5 => am_iw M5 h2 2 x6 (am_lt (am_sI M5 h2 x6.toNatClampNeg c6) (fun M7 => am_ev 77 (d + 1) 21 [.ref r0, .int x1, .int x2, .int x3, .int (x4 + am_i 1), .int x5, .int x6] [] M7)) none)) none) none) none) none) none) none) none) none) none) none :=
  am_tree (cut := am_cut [21, 153]) 17 rfl
-- 78: X1_valueFor
set_option maxHeartbeats 2000000 in
set_option maxRecDepth 100000 in
theorem t78 (d : Nat) (M : am_M) (r0 r1 : Nat) (x2 x3 : Int32) :
  am_cl 78 (d + 1) [.ref r0, .ref r1, .int x2, .int x3] M =
 am_ob M r0 1 (am_gr (am_R M r0 1) (fun h1 => am_ob M h1 0 (am_bI (am_cl 67 d [.ref h1, .int x2] M) (fun c3 M2 => am_ob M2 r0 1 (am_bI (am_cl 79 d [.ref r0, .int c3, .int x3] M2) (fun c5 M4 => am_ob M4 r0 1 (am_bV (am_cl 80 d [.ref r0, .int c3, .int x3, .int c5] M4) (fun M6 => am_ob M6 r0 1 (am_gr (am_R M6 r0 5) (fun h7 => am_ob M6 h7 3 (am_gr (am_R M6 h7 1) (fun h8 => am_ob M6 r0 1 (am_gr (am_R M6 r0 0) (fun h9 => am_ob M6 h9 2 (am_bI (am_cl 88 d [.ref h9, .int x2, .int x3] M6) (fun c11 M10 => am_iw M10 h8 2 (am_i 21) (am_lt (am_sI M10 h8 (am_i 21).toNatClampNeg c11) (fun M12 => am_ob M12 r0 1 (am_gr (am_R M12 r0 5) (fun h13 => am_ob M12 h13 3 (am_gr (am_R M12 h13 1) (fun h14 => am_iw M12 h14 2 (am_i 22) (am_lt (am_sI M12 h14 (am_i 22).toNatClampNeg x3) (fun M15 => am_ev 78 (d + 1) 57 [.ref r0, .ref r1, .int x2, .int x3, .int c3, .int (am_i 0)] [] M15)) none) none) none) none) none)) none)) none) none) none) none) none) none) none)) none)) none)) none) none) none :=
  show am_ev 78 (d + 1) 0 [.ref r0, .ref r1, .int x2, .int x3, .null, .null] [] M = _ from am_tree (cut := am_cut [57]) 32 rfl
set_option maxHeartbeats 2000000 in
set_option maxRecDepth 100000 in
theorem t78_57 (d : Nat) (M : am_M) (r0 r1 : Nat) (v2 v4 : Value) (x3 x5 : Int32) :
  am_ev 78 (d + 1) 57 [.ref r0, .ref r1, v2, .int x3, v4, .int x5] [] M =
 am_br .ge x5 (am_i 6)
 (am_ob M r0 1 (am_gr (am_R M r0 5) (fun h1 => am_ob M h1 3 (am_bI (am_cl 91 d [.ref h1, .ref r1, .int (am_i 0)] M) (fun c3 M2 => some (some (.int c3), M2))) none) none) none)
 (am_ob M r0 1 (am_gr (am_R M r0 5) (fun h4 => am_ob M h4 3 (am_gr (am_R M h4 2) (fun h5 => am_ob M r0 1 (am_gr (am_R M r0 0) (fun h6 => am_ob M h6 2 (am_gr (am_R M h6 3) (fun h7 => am_iq M h7 x3 (am_gr (am_R M h7 x3.toNatClampNeg) (fun h8 => am_ix M h8 2 x5 (am_iw M h5 2 x5 (am_lt (am_sI M h5 x5.toNatClampNeg (am_I M h8 x5.toNatClampNeg)) (fun M9 => am_ev 78 (d + 1) 57 [.ref r0, .ref r1, v2, .int x3, (am_kl v4), .int (x5 + am_i 1)] [] M9)) none) none) none) none) none) none) none) none) none) none) none) none) :=
  am_tree (cut := am_cut [57]) 18 rfl
-- 79: X1_scoreOf
set_option maxHeartbeats 2000000 in
set_option maxRecDepth 100000 in
theorem t79 (d : Nat) (M : am_M) (r0 : Nat) (x1 x2 : Int32) :
  am_cl 79 d [.ref r0, .int x1, .int x2] M =
 am_ev 79 d 5 [.ref r0, .int x1, .int x2, .int (am_i 1), .int (am_i 0)] [] M :=
  show am_ev 79 d 0 [.ref r0, .int x1, .int x2, .null, .null] [] M = _ from am_tree (cut := am_cut [5]) 5 rfl
set_option maxHeartbeats 2000000 in
set_option maxRecDepth 100000 in
theorem t79_5 (d : Nat) (M : am_M) (r0 : Nat) (x1 x2 x3 x4 : Int32) :
  am_ev 79 d 5 [.ref r0, .int x1, .int x2, .int x3, .int x4] [] M =
 am_ob M r0 1 (am_gr (am_R M r0 0) (fun h1 => am_ob M h1 2 (am_gr (am_R M h1 0) (fun h2 => am_ix M h2 2 (am_i 0) (am_br .ge x4 (am_I M h2 (am_i 0).toNatClampNeg)
 (some (some (.int x3), M))
 (am_ob M r0 1 (am_gr (am_R M r0 0) (fun h3 => am_ob M h3 2 (am_gr (am_R M h3 3) (fun h4 => am_iq M h4 x2 (am_gr (am_R M h4 x2.toNatClampNeg) (fun h5 => am_ix M h5 2 x4 (am_ob M r0 1 (am_gr (am_R M r0 1) (fun h6 => am_ob M h6 0 (am_gr (am_R M h6 2) (fun h7 => am_ix M h7 2 ((x1 * (am_i 6)) + x4) (am_lt (x3 + ((am_I M h5 x4.toNatClampNeg) * (am_I M h7 ((x1 * (am_i 6)) + x4).toNatClampNeg))) (fun u8 => am_ev 79 d 5 [.ref r0, .int x1, .int x2, .int u8, .int (x4 + am_i 1)] [] M)) none) none) none) none) none) none) none) none) none) none) none) none)) none) none) none) none) none :=
  am_tree (cut := am_cut [5]) 30 rfl
-- 80: X1_setFilmFacts
set_option maxHeartbeats 2000000 in
set_option maxRecDepth 100000 in
theorem t80 (d : Nat) (M : am_M) (r0 : Nat) (x1 x2 x3 : Int32) :
  am_cl 80 d [.ref r0, .int x1, .int x2, .int x3] M =
 am_ob M r0 1 (am_gr (am_R M r0 5) (fun h1 => am_ob M h1 3 (am_gr (am_R M h1 1) (fun h2 => am_ob M r0 1 (am_gr (am_R M r0 1) (fun h3 => am_ob M h3 0 (am_if ((am_i 24) = 0) none (am_iw M h2 2 (am_i 16) (am_lt (am_sI M h2 (am_i 16).toNatClampNeg ((am_I M h3 0) - (am_I M h3 0) / (am_i 24) * (am_i 24))) (fun M4 => am_ob M4 r0 1 (am_gr (am_R M4 r0 5) (fun h5 => am_ob M4 h5 3 (am_gr (am_R M4 h5 1) (fun h6 => am_ob M4 r0 1 (am_gr (am_R M4 r0 0) (fun h7 => am_ob M4 h7 2 (am_gr (am_R M4 h7 2) (fun h8 => am_ix M4 h8 2 x2 (am_iw M4 h6 2 (am_i 2) (am_lt (am_sI M4 h6 (am_i 2).toNatClampNeg (am_I M4 h8 x2.toNatClampNeg)) (fun M9 => am_ob M9 r0 1 (am_gr (am_R M9 r0 5) (fun h10 => am_ob M9 h10 3 (am_gr (am_R M9 h10 1) (fun h11 => am_ob M9 r0 1 (am_gr (am_R M9 r0 1) (fun h12 => am_ob M9 h12 0 (am_gr (am_R M9 h12 3) (fun h13 => am_ix M9 h13 2 ((x1 * (am_i 8)) + x2) (am_iw M9 h11 2 (am_i 19) (am_lt (am_sI M9 h11 (am_i 19).toNatClampNeg (am_I M9 h13 ((x1 * (am_i 8)) + x2).toNatClampNeg)) (fun M14 => am_ob M14 r0 1 (am_gr (am_R M14 r0 5) (fun h15 => am_ob M14 h15 3 (am_gr (am_R M14 h15 1) (fun h16 => am_iw M14 h16 2 (am_i 20) (am_lt (am_sI M14 h16 (am_i 20).toNatClampNeg x3) (fun M17 => some (none, M17))) none) none) none) none) none)) none) none) none) none) none) none) none) none) none) none)) none) none) none) none) none) none) none) none) none) none)) none)) none) none) none) none) none) none) none :=
  show am_ev 80 d 0 [.ref r0, .int x1, .int x2, .int x3] [] M = _ from am_tree (cut := am_cut []) 42 rfl
-- 81: X1_mayBe
set_option maxHeartbeats 2000000 in
set_option maxRecDepth 100000 in
theorem t81 (d : Nat) (M : am_M) (r0 : Nat) (x1 x2 x3 : Int32) :
  am_cl 81 (d + 1) [.ref r0, .int x1, .int x2, .int x3] M =
 am_ob M r0 1 (am_gr (am_R M r0 0) (fun h1 => am_ob M h1 2 (am_br .ne (am_I M h1 14) (am_i (-1))
 (am_ob M r0 1 (am_bV (am_cl 80 d [.ref r0, .int x1, .int x2, .int x3] M) (fun M2 => am_ob M2 r0 1 (am_gr (am_R M2 r0 5) (fun h3 => am_ob M2 r0 1 (am_gr (am_R M2 r0 0) (fun h4 => am_ob M2 h4 2 (am_gr (am_R M2 h4 15) (fun h5 => am_ob M2 r0 1 (am_gr (am_R M2 r0 0) (fun h6 => am_ob M2 h6 2 (am_ob M2 h3 3 (am_bI (am_cl 91 d [.ref h3, .ref h5, .int (am_I M2 h6 14)] M2) (fun c8 M7 => am_br .eq c8 (am_i 0)
 (am_tr (am_i 0) (some (some (.int (am_i 0)), M7)) none)
 (am_tr (am_i 1) (some (some (.int (am_i 1)), M7)) none))) none) none) none) none) none) none) none) none) none) none)) none)
 (am_tr (am_i 1) (some (some (.int (am_i 1)), M)) none)) none) none) none :=
  show am_ev 81 (d + 1) 0 [.ref r0, .int x1, .int x2, .int x3] [] M = _ from am_tree (cut := am_cut []) 24 rfl
-- 82: X1_fadeAll
set_option maxHeartbeats 2000000 in
set_option maxRecDepth 100000 in
theorem t82 (d : Nat) (M : am_M) (r0 : Nat) (x1 : Int32) :
  am_cl 82 (d + 1) [.ref r0, .int x1] M =
 am_ob M r0 1 (am_gr (am_R M r0 5) (fun h1 => am_ob M h1 3 (am_gr (am_R M h1 1) (fun h2 => am_iw M h2 2 (am_i 16) (am_lt (am_sI M h2 (am_i 16).toNatClampNeg x1) (fun M3 => am_ev 82 (d + 1) 13 [.ref r0, .int x1, .int (am_i 0), .null, .null] [] M3)) none) none) none) none) none :=
  show am_ev 82 (d + 1) 0 [.ref r0, .int x1, .null, .null, .null] [] M = _ from am_tree (cut := am_cut [13, 28]) 9 rfl
set_option maxHeartbeats 2000000 in
set_option maxRecDepth 100000 in
theorem t82_13 (d : Nat) (M : am_M) (r0 : Nat) (v1 v3 v4 : Value) (x2 : Int32) :
  am_ev 82 (d + 1) 13 [.ref r0, v1, .int x2, v3, v4] [] M =
 am_ob M r0 1 (am_gr (am_R M r0 0) (fun h1 => am_ob M h1 2 (am_gr (am_R M h1 0) (fun h2 => am_ix M h2 2 (am_i 2) (am_br .gt x2 (am_I M h2 (am_i 2).toNatClampNeg)
 (some (none, M))
 (am_ev 82 (d + 1) 28 [.ref r0, v1, .int x2, .int (am_i 0), v4] [] M)) none) none) none) none) none :=
  am_tree (cut := am_cut [13, 28]) 10 rfl
set_option maxHeartbeats 2000000 in
set_option maxRecDepth 100000 in
theorem t82_28 (d : Nat) (M : am_M) (r0 : Nat) (v1 v4 : Value) (x2 x3 : Int32) :
  am_ev 82 (d + 1) 28 [.ref r0, v1, .int x2, .int x3, v4] [] M =
 am_ob M r0 1 (am_gr (am_R M r0 0) (fun h1 => am_ob M h1 2 (am_gr (am_R M h1 0) (fun h2 => am_ix M h2 2 (am_i 0) (am_br .ge x3 (am_I M h2 (am_i 0).toNatClampNeg)
 (am_ev 82 (d + 1) 13 [.ref r0, (am_kl v1), .int (x2 + am_i 1), .int x3, v4] [] M)
 (am_ob M r0 1 (am_gr (am_R M r0 5) (fun h3 => am_ob M h3 3 (am_gr (am_R M h3 1) (fun h4 => am_ob M r0 1 (am_gr (am_R M r0 1) (fun h5 => am_ob M h5 0 (am_gr (am_R M h5 2) (fun h6 => am_ix M h6 2 ((x2 * (am_i 6)) + x3) (am_iw M h4 2 (am_i 17) (am_lt (am_sI M h4 (am_i 17).toNatClampNeg (am_I M h6 ((x2 * (am_i 6)) + x3).toNatClampNeg)) (fun M7 => am_ob M7 r0 1 (am_gr (am_R M7 r0 1) (fun h8 => am_ob M7 h8 0 (am_gr (am_R M7 h8 2) (fun h9 => am_ob M7 r0 1 (am_gr (am_R M7 r0 5) (fun h10 => am_ob M7 r0 1 (am_gr (am_R M7 r0 0) (fun h11 => am_ob M7 h11 2 (am_gr (am_R M7 h11 15) (fun h12 => am_ob M7 r0 1 (am_gr (am_R M7 r0 0) (fun h13 => am_ob M7 h13 2 (am_ob M7 h10 3 (am_bI (am_cl 91 d [.ref h10, .ref h12, .int (am_I M7 h13 13)] M7) (fun c15 M14 => am_ob M14 r0 1 (am_bI (am_cl 83 d [.ref r0, .int c15] M14) (fun c17 M16 => am_iw M16 h9 2 ((x2 * (am_i 6)) + x3) (am_lt (am_sI M16 h9 ((x2 * (am_i 6)) + x3).toNatClampNeg c17) (fun M18 => am_ev 82 (d + 1) 28 [.ref r0, v1, .int x2, .int (x3 + am_i 1), .int ((x2 * (am_i 6)) + x3)] [] M18)) none)) none)) none) none) none) none) none) none) none) none) none) none) none) none) none) none)) none) none) none) none) none) none) none) none) none) none)) none) none) none) none) none :=
  am_tree (cut := am_cut [13, 28]) 42 rfl
-- 83: X1_heldTaste
set_option maxHeartbeats 2000000 in
set_option maxRecDepth 100000 in
theorem t83 (d : Nat) (M : am_M) (r0 : Nat) (x1 : Int32) :
  am_cl 83 (d + 1) [.ref r0, .int x1] M =
 am_bI (am_cl 276 d [.int (am_i 999), .int x1] M) (fun c2 M1 => am_bI (am_cl 274 d [.int (am_i 0), .int c2] M1) (fun c4 M3 => some (some (.int c4), M3))) :=
  show am_ev 83 (d + 1) 0 [.ref r0, .int x1] [] M = _ from am_tree (cut := am_cut []) 7 rfl
-- 84: X2_init
set_option maxHeartbeats 2000000 in
set_option maxRecDepth 100000 in
theorem t84 (d : Nat) (M : am_M) (r0 : Nat) :
  am_cl 84 (d + 1) [.ref r0] M =
 am_if ((am_i 3) < 0 ∨ 65536 < (am_i 3).toNatClampNeg) none (am_lt (am_nw M (2, (am_i 3).toNatClampNeg) (am_i 3).toNatClampNeg) (fun M1 => am_ob M1 r0 2 (am_lt (am_sR M1 r0 0 (am_n M)) (fun M2 => am_if ((am_i 3) < 0 ∨ 65536 < (am_i 3).toNatClampNeg ∨ (am_i 8) < 0 ∨ 65536 < (am_i 8).toNatClampNeg) none (am_lt (am_nm M2 (am_i 3).toNatClampNeg (am_i 8).toNatClampNeg) (fun M3 => am_ob M3 r0 2 (am_lt (am_sR M3 r0 1 (am_n M2)) (fun M4 => am_if ((am_i 8) < 0 ∨ 65536 < (am_i 8).toNatClampNeg) none (am_lt (am_nw M4 (2, (am_i 8).toNatClampNeg) (am_i 8).toNatClampNeg) (fun M5 => am_ob M5 r0 2 (am_lt (am_sR M5 r0 2 (am_n M4)) (fun M6 => am_if ((am_i 8) < 0 ∨ 65536 < (am_i 8).toNatClampNeg ∨ (am_i 6) < 0 ∨ 65536 < (am_i 6).toNatClampNeg) none (am_lt (am_nm M6 (am_i 8).toNatClampNeg (am_i 6).toNatClampNeg) (fun M7 => am_ob M7 r0 2 (am_lt (am_sR M7 r0 3 (am_n M6)) (fun M8 => am_if ((am_i 5) < 0 ∨ 65536 < (am_i 5).toNatClampNeg) none (am_lt (am_nw M8 (2, (am_i 5).toNatClampNeg) (am_i 5).toNatClampNeg) (fun M9 => am_ob M9 r0 2 (am_lt (am_sR M9 r0 4 (am_n M8)) (fun M10 => am_if ((am_i 5) < 0 ∨ 65536 < (am_i 5).toNatClampNeg) none (am_lt (am_nw M10 (2, (am_i 5).toNatClampNeg) (am_i 5).toNatClampNeg) (fun M11 => am_ob M11 r0 2 (am_lt (am_sR M11 r0 5 (am_n M10)) (fun M12 => am_if ((am_i 5) < 0 ∨ 65536 < (am_i 5).toNatClampNeg ∨ (am_i 6) < 0 ∨ 65536 < (am_i 6).toNatClampNeg) none (am_lt (am_nm M12 (am_i 5).toNatClampNeg (am_i 6).toNatClampNeg) (fun M13 => am_ob M13 r0 2 (am_lt (am_sR M13 r0 6 (am_n M12)) (fun M14 => am_ob M14 r0 2 (am_lt (am_sI M14 r0 7 (am_i 0)) (fun M15 => am_ob M15 r0 2 (am_lt (am_sI M15 r0 8 (am_i 5)) (fun M16 => am_ob M16 r0 2 (am_lt (am_sI M16 r0 9 (am_i 0)) (fun M17 => am_ob M17 r0 2 (am_lt (am_sI M17 r0 10 (am_i 0)) (fun M18 => am_ob M18 r0 2 (am_lt (am_sI M18 r0 11 (am_i 0)) (fun M19 => am_ob M19 r0 2 (am_lt (am_sI M19 r0 12 (am_i (-1))) (fun M20 => am_ob M20 r0 2 (am_lt (am_sI M20 r0 13 (am_i (-1))) (fun M21 => am_ob M21 r0 2 (am_lt (am_sI M21 r0 14 (am_i (-1))) (fun M22 => am_if ((am_i 1600) < 0 ∨ 65536 < (am_i 1600).toNatClampNeg) none (am_lt (am_nw M22 (2, (am_i 1600).toNatClampNeg) (am_i 1600).toNatClampNeg) (fun M23 => am_ob M23 r0 2 (am_lt (am_sR M23 r0 15 (am_n M22)) (fun M24 => some (none, M24))) none)))) none)) none)) none)) none)) none)) none)) none)) none)) none)))) none)))) none)))) none)))) none)))) none)))) none)) :=
  show am_ev 84 (d + 1) 0 [.ref r0] [] M = _ from am_tree (cut := am_cut []) 63 rfl
-- 85: X2_clear
set_option maxHeartbeats 2000000 in
set_option maxRecDepth 100000 in
theorem t85 (d : Nat) (M : am_M) (r0 : Nat) :
  am_cl 85 d [.ref r0] M =
 am_ev 85 d 2 [.ref r0, .int (am_i 0), .null] [] M :=
  show am_ev 85 d 0 [.ref r0, .null, .null] [] M = _ from am_tree (cut := am_cut [2, 22, 30, 53]) 3 rfl
set_option maxHeartbeats 2000000 in
set_option maxRecDepth 100000 in
theorem t85_2 (d : Nat) (M : am_M) (r0 : Nat) (x1 : Int32) (v2 : Value) :
  am_ev 85 d 2 [.ref r0, .int x1, v2] [] M =
 am_br .gt x1 (am_i 2)
 (am_ev 85 d 22 [.ref r0, .int (am_i 0), v2] [] M)
 (am_ob M r0 2 (am_gr (am_R M r0 0) (fun h1 => am_iw M h1 2 x1 (am_lt (am_sI M h1 x1.toNatClampNeg (am_i 0)) (fun M2 => am_ev 85 d 2 [.ref r0, .int (x1 + am_i 1), v2] [] M2)) none) none) none) :=
  am_tree (cut := am_cut [2, 22, 30, 53]) 11 rfl
set_option maxHeartbeats 2000000 in
set_option maxRecDepth 100000 in
theorem t85_22 (d : Nat) (M : am_M) (r0 : Nat) (x1 : Int32) (v2 : Value) :
  am_ev 85 d 22 [.ref r0, .int x1, v2] [] M =
 am_br .ge x1 (am_i 6)
 (am_ob M r0 2 (am_lt (am_sI M r0 7 (am_i 0)) (fun M1 => am_ob M1 r0 2 (am_lt (am_sI M1 r0 8 (am_i 5)) (fun M2 => am_ob M2 r0 2 (am_lt (am_sI M2 r0 9 (am_i 0)) (fun M3 => am_ob M3 r0 2 (am_lt (am_sI M3 r0 10 (am_i 0)) (fun M4 => am_ob M4 r0 2 (am_lt (am_sI M4 r0 11 (am_i 0)) (fun M5 => am_ob M5 r0 2 (am_lt (am_sI M5 r0 12 (am_i (-1))) (fun M6 => am_ob M6 r0 2 (am_lt (am_sI M6 r0 13 (am_i (-1))) (fun M7 => am_ob M7 r0 2 (am_lt (am_sI M7 r0 14 (am_i (-1))) (fun M8 => some (none, M8))) none)) none)) none)) none)) none)) none)) none)) none)
 (am_ev 85 d 30 [.ref r0, .int x1, .int (am_i 0)] [] M) :=
  am_tree (cut := am_cut [2, 22, 30, 53]) 29 rfl
set_option maxHeartbeats 2000000 in
set_option maxRecDepth 100000 in
theorem t85_30 (d : Nat) (M : am_M) (r0 : Nat) (x1 x2 : Int32) :
  am_ev 85 d 30 [.ref r0, .int x1, .int x2] [] M =
 am_br .ge x2 (am_i 8)
 (am_ev 85 d 53 [.ref r0, .int x1, .int (am_i 0)] [] M)
 (am_ob M r0 2 (am_gr (am_R M r0 3) (fun h1 => am_iq M h1 x2 (am_gr (am_R M h1 x2.toNatClampNeg) (fun h2 => am_iw M h2 2 x1 (am_lt (am_sI M h2 x1.toNatClampNeg (am_i 0)) (fun M3 => am_ev 85 d 30 [.ref r0, .int x1, .int (x2 + am_i 1)] [] M3)) none) none) none) none) none) :=
  am_tree (cut := am_cut [2, 22, 30, 53]) 13 rfl
set_option maxHeartbeats 2000000 in
set_option maxRecDepth 100000 in
theorem t85_53 (d : Nat) (M : am_M) (r0 : Nat) (x1 x2 : Int32) :
  am_ev 85 d 53 [.ref r0, .int x1, .int x2] [] M =
 am_br .ge x2 (am_i 5)
 (am_ev 85 d 22 [.ref r0, .int (x1 + am_i 1), .int x2] [] M)
 (am_ob M r0 2 (am_gr (am_R M r0 6) (fun h1 => am_iq M h1 x2 (am_gr (am_R M h1 x2.toNatClampNeg) (fun h2 => am_iw M h2 2 x1 (am_lt (am_sI M h2 x1.toNatClampNeg (am_i 0)) (fun M3 => am_ev 85 d 53 [.ref r0, .int x1, .int (x2 + am_i 1)] [] M3)) none) none) none) none) none) :=
  am_tree (cut := am_cut [2, 22, 30, 53]) 13 rfl
-- 86: X2_find
set_option maxHeartbeats 2000000 in
set_option maxRecDepth 100000 in
theorem t86 (d : Nat) (M : am_M) (r0 : Nat) (x1 x2 : Int32) :
  am_cl 86 d [.ref r0, .int x1, .int x2] M =
 am_ev 86 d 2 [.ref r0, .int x1, .int x2, .int (am_i 0)] [] M :=
  show am_ev 86 d 0 [.ref r0, .int x1, .int x2, .null] [] M = _ from am_tree (cut := am_cut [2]) 3 rfl
set_option maxHeartbeats 2000000 in
set_option maxRecDepth 100000 in
theorem t86_2 (d : Nat) (M : am_M) (r0 : Nat) (x1 x2 x3 : Int32) :
  am_ev 86 d 2 [.ref r0, .int x1, .int x2, .int x3] [] M =
 am_ob M r0 2 (am_gr (am_R M r0 0) (fun h1 => am_ix M h1 2 x1 (am_br .ge x3 (am_I M h1 x1.toNatClampNeg)
 (some (some (.int (am_i (-1))), M))
 (am_ob M r0 2 (am_gr (am_R M r0 1) (fun h2 => am_iq M h2 x1 (am_gr (am_R M h2 x1.toNatClampNeg) (fun h3 => am_ix M h3 2 x3 (am_br .ne (am_I M h3 x3.toNatClampNeg) x2
 (am_ev 86 d 2 [.ref r0, .int x1, .int x2, .int (x3 + am_i 1)] [] M)
 (some (some (.int x3), M))) none) none) none) none) none)) none) none) none :=
  am_tree (cut := am_cut [2]) 17 rfl
-- 87: X2_isFree
set_option maxHeartbeats 2000000 in
set_option maxRecDepth 100000 in
theorem t87 (d : Nat) (M : am_M) (r0 : Nat) (x1 x2 : Int32) :
  am_cl 87 d [.ref r0, .int x1, .int x2] M =
 am_ob M r0 2 (am_gr (am_R M r0 4) (fun h1 => am_ix M h1 2 x1 (am_br .lt x2 (am_I M h1 x1.toNatClampNeg)
 (am_tr (am_i 0) (some (some (.int (am_i 0)), M)) none)
 (am_ob M r0 2 (am_gr (am_R M r0 5) (fun h2 => am_ix M h2 2 x1 (am_br .gt x2 (am_I M h2 x1.toNatClampNeg)
 (am_tr (am_i 0) (some (some (.int (am_i 0)), M)) none)
 (am_tr (am_i 1) (some (some (.int (am_i 1)), M)) none)) none) none) none)) none) none) none :=
  show am_ev 87 d 0 [.ref r0, .int x1, .int x2] [] M = _ from am_tree (cut := am_cut []) 16 rfl
-- 88: X2_worthOf
set_option maxHeartbeats 2000000 in
set_option maxRecDepth 100000 in
theorem t88 (d : Nat) (M : am_M) (r0 : Nat) (x1 x2 : Int32) :
  am_cl 88 d [.ref r0, .int x1, .int x2] M =
 am_ev 88 d 5 [.ref r0, .int x1, .int x2, .int (am_i 0), .int (am_i 0)] [] M :=
  show am_ev 88 d 0 [.ref r0, .int x1, .int x2, .null, .null] [] M = _ from am_tree (cut := am_cut [5]) 5 rfl
set_option maxHeartbeats 2000000 in
set_option maxRecDepth 100000 in
theorem t88_5 (d : Nat) (M : am_M) (r0 : Nat) (x1 x2 x3 x4 : Int32) :
  am_ev 88 d 5 [.ref r0, .int x1, .int x2, .int x3, .int x4] [] M =
 am_ob M r0 2 (am_gr (am_R M r0 0) (fun h1 => am_ix M h1 2 (am_i 0) (am_br .ge x4 (am_I M h1 (am_i 0).toNatClampNeg)
 (some (some (.int x3), M))
 (am_ob M r0 2 (am_gr (am_R M r0 3) (fun h2 => am_iq M h2 x2 (am_gr (am_R M h2 x2.toNatClampNeg) (fun h3 => am_ix M h3 2 x4 (am_ob M r0 2 (am_gr (am_R M r0 6) (fun h4 => am_iq M h4 x1 (am_gr (am_R M h4 x1.toNatClampNeg) (fun h5 => am_ix M h5 2 x4 (am_lt (x3 + ((am_I M h3 x4.toNatClampNeg) * (am_I M h5 x4.toNatClampNeg))) (fun u6 => am_ev 88 d 5 [.ref r0, .int x1, .int x2, .int u6, .int (x4 + am_i 1)] [] M)) none) none) none) none) none) none) none) none) none) none)) none) none) none :=
  am_tree (cut := am_cut [5]) 25 rfl
-- 89: X2_filmOfMostWorth
set_option maxHeartbeats 2000000 in
set_option maxRecDepth 100000 in
theorem t89 (d : Nat) (M : am_M) (r0 : Nat) (x1 : Int32) :
  am_cl 89 (d + 1) [.ref r0, .int x1] M =
 am_ev 89 (d + 1) 7 [.ref r0, .int x1, .int (am_i (-1)), .int (am_i 0), .int (am_i 0), .null] [] M :=
  show am_ev 89 (d + 1) 0 [.ref r0, .int x1, .null, .null, .null, .null] [] M = _ from am_tree (cut := am_cut [7]) 7 rfl
set_option maxHeartbeats 2000000 in
set_option maxRecDepth 100000 in
theorem t89_7 (d : Nat) (M : am_M) (r0 : Nat) (x1 x2 x3 x4 : Int32) (v5 : Value) :
  am_ev 89 (d + 1) 7 [.ref r0, .int x1, .int x2, .int x3, .int x4, v5] [] M =
 am_ob M r0 2 (am_gr (am_R M r0 0) (fun h1 => am_ix M h1 2 (am_i 1) (am_br .ge x4 (am_I M h1 (am_i 1).toNatClampNeg)
 (some (some (.int x2), M))
 (am_ob M r0 2 (am_bI (am_cl 88 d [.ref r0, .int x1, .int x4] M) (fun c3 M2 => am_br .eq x2 (am_i (-1))
 (am_ev 89 (d + 1) 7 [.ref r0, .int x1, .int x4, .int c3, .int (x4 + am_i 1), .int c3] [] M2)
 (am_br .le c3 x3
 (am_ev 89 (d + 1) 7 [.ref r0, .int x1, .int x2, .int x3, .int (x4 + am_i 1), .int c3] [] M2)
 (am_ev 89 (d + 1) 7 [.ref r0, .int x1, .int x4, .int c3, .int (x4 + am_i 1), .int c3] [] M2)))) none)) none) none) none :=
  am_tree (cut := am_cut [7]) 24 rfl
-- 90: X3_init
set_option maxHeartbeats 2000000 in
set_option maxRecDepth 100000 in
theorem t90 (d : Nat) (M : am_M) (r0 : Nat) :
  am_cl 90 (d + 1) [.ref r0] M =
 am_if ((am_i 64) < 0 ∨ 65536 < (am_i 64).toNatClampNeg) none (am_lt (am_nw M (2, (am_i 64).toNatClampNeg) (am_i 64).toNatClampNeg) (fun M1 => am_ob M1 r0 3 (am_lt (am_sR M1 r0 0 (am_n M)) (fun M2 => am_if ((am_i 29) < 0 ∨ 65536 < (am_i 29).toNatClampNeg) none (am_lt (am_nw M2 (2, (am_i 29).toNatClampNeg) (am_i 29).toNatClampNeg) (fun M3 => am_ob M3 r0 3 (am_lt (am_sR M3 r0 1 (am_n M2)) (fun M4 => am_if ((am_i 6) < 0 ∨ 65536 < (am_i 6).toNatClampNeg) none (am_lt (am_nw M4 (2, (am_i 6).toNatClampNeg) (am_i 6).toNatClampNeg) (fun M5 => am_ob M5 r0 3 (am_lt (am_sR M5 r0 2 (am_n M4)) (fun M6 => some (none, M6))) none)))) none)))) none)) :=
  show am_ev 90 (d + 1) 0 [.ref r0] [] M = _ from am_tree (cut := am_cut []) 16 rfl
-- 91: X3_value
set_option maxHeartbeats 2000000 in
set_option maxRecDepth 100000 in
theorem t91 (d : Nat) (M : am_M) (r0 r1 : Nat) (x2 : Int32) :
  am_cl 91 (d + 1) [.ref r0, .ref r1, .int x2] M =
 am_bI (am_cl 274 d [.int x2, .int (am_i 0)] M) (fun c2 M1 => am_ev 91 (d + 1) 9 [.ref r0, .ref r1, .int x2, .int (am_i 0), .int c2, .null] [] M1) :=
  show am_ev 91 (d + 1) 0 [.ref r0, .ref r1, .int x2, .null, .null, .null] [] M = _ from am_tree (cut := am_cut [9, 83]) 7 rfl
set_option maxHeartbeats 2000000 in
set_option maxRecDepth 100000 in
theorem t91_9 (d : Nat) (M : am_M) (r0 r1 : Nat) (v2 v5 : Value) (x3 x4 : Int32) :
  am_ev 91 (d + 1) 9 [.ref r0, .ref r1, v2, .int x3, .int x4, v5] [] M =
 am_if (2 ≤ (am_K M r1).1 ∧ (am_K M r1).1 ≤ 6) (am_br .ge x4 (nI (am_K M r1).2)
 (am_ob M r0 3 (am_gr (am_R M r0 0) (fun h1 => am_ix M h1 2 (am_i 0) (some (some (.int (am_I M h1 (am_i 0).toNatClampNeg)), M)) none) none) none)
 (am_ix M r1 2 x4 (am_br .eq (am_I M r1 x4.toNatClampNeg) (am_i 20000)
 (am_ob M r0 3 (am_gr (am_R M r0 0) (fun h2 => am_ix M h2 2 (am_i 0) (some (some (.int (am_I M h2 (am_i 0).toNatClampNeg)), M)) none) none) none)
 (am_ix M r1 2 x4 (am_br .ge (am_I M r1 x4.toNatClampNeg) (am_i 20000)
 (am_br .eq (am_I M r1 x4.toNatClampNeg) (am_i 20001)
 (am_ev 91 (d + 1) 83 [.ref r0, .ref r1, v2, .int x3, .int x4, .int (am_I M r1 x4.toNatClampNeg)] [] M)
 (am_br .ne (am_I M r1 x4.toNatClampNeg) (am_i 20002)
 (am_br .le x3 (am_i 1)
 (am_ev 91 (d + 1) 9 [.ref r0, .ref r1, v2, .int x3, .int (x4 + am_i 1), .int (am_I M r1 x4.toNatClampNeg)] [] M)
 (am_ob M r0 3 (am_gr (am_R M r0 0) (fun h3 => am_ob M r0 3 (am_gr (am_R M r0 0) (fun h4 => am_ix M h4 2 ((x3 + am_i (-1)) - (am_i 1)) (am_ob M r0 3 (am_gr (am_R M r0 0) (fun h5 => am_ix M h5 2 (x3 + am_i (-1)) (am_ob M r0 3 (am_bI (am_cl 94 d [.ref r0, .int (am_I M r1 x4.toNatClampNeg), .long (am_I M h4 ((x3 + am_i (-1)) - (am_i 1)).toNatClampNeg).toInt64, .long (am_I M h5 (x3 + am_i (-1)).toNatClampNeg).toInt64] M) (fun c7 M6 => am_iw M6 h3 2 ((x3 + am_i (-1)) - (am_i 1)) (am_lt (am_sI M6 h3 ((x3 + am_i (-1)) - (am_i 1)).toNatClampNeg c7) (fun M8 => am_ev 91 (d + 1) 9 [.ref r0, .ref r1, (am_kl v2), .int (x3 + am_i (-1)), .int (x4 + am_i 1), .int (am_I M r1 x4.toNatClampNeg)] [] M8)) none)) none) none) none) none) none) none) none) none) none))
 (am_ev 91 (d + 1) 83 [.ref r0, .ref r1, v2, .int x3, .int x4, .int (am_I M r1 x4.toNatClampNeg)] [] M)))
 (am_ob M r0 3 (am_gr (am_R M r0 0) (fun h9 => am_if (2 ≤ (am_K M h9).1 ∧ (am_K M h9).1 ≤ 6) (am_br .ge x3 (nI (am_K M h9).2)
 (am_ev 91 (d + 1) 9 [.ref r0, .ref r1, v2, .int x3, .int (x4 + am_i 1), .int (am_I M r1 x4.toNatClampNeg)] [] M)
 (am_ob M r0 3 (am_gr (am_R M r0 0) (fun h10 => am_ob M r0 3 (am_bI (am_cl 92 d [.ref r0, .int (am_I M r1 x4.toNatClampNeg)] M) (fun c12 M11 => am_iw M11 h10 2 x3 (am_lt (am_sI M11 h10 x3.toNatClampNeg c12) (fun M13 => am_ev 91 (d + 1) 9 [.ref r0, .ref r1, (am_kl v2), .int (x3 + am_i 1), .int (x4 + am_i 1), .int (am_I M r1 x4.toNatClampNeg)] [] M13)) none)) none) none) none)) none) none) none)) none)) none)) none :=
  am_tree (cut := am_cut [9, 83]) 50 rfl
set_option maxHeartbeats 2000000 in
set_option maxRecDepth 100000 in
theorem t91_83 (d : Nat) (M : am_M) (r0 r1 : Nat) (v2 : Value) (x3 x4 x5 : Int32) :
  am_ev 91 (d + 1) 83 [.ref r0, .ref r1, v2, .int x3, .int x4, .int x5] [] M =
 am_br .le x3 (am_i 0)
 (am_ev 91 (d + 1) 9 [.ref r0, .ref r1, v2, .int x3, .int (x4 + am_i 1), .int x5] [] M)
 (am_ob M r0 3 (am_gr (am_R M r0 0) (fun h1 => am_br .ne x5 (am_i 20001)
 (am_ob M r0 3 (am_gr (am_R M r0 0) (fun h2 => am_ix M h2 2 (x3 - (am_i 1)) (am_ob M r0 3 (am_bI (am_cl 93 d [.ref r0, .int (am_I M h2 (x3 - (am_i 1)).toNatClampNeg)] M) (fun c4 M3 => am_iw M3 h1 2 (x3 - (am_i 1)) (am_lt (am_sI M3 h1 (x3 - (am_i 1)).toNatClampNeg c4) (fun M5 => am_ev 91 (d + 1) 9 [.ref r0, .ref r1, v2, .int x3, .int (x4 + am_i 1), .int x5] [] M5)) none)) none) none) none) none)
 (am_ob M r0 3 (am_gr (am_R M r0 0) (fun h6 => am_ix M h6 2 (x3 - (am_i 1)) (am_iw M h1 2 (x3 - (am_i 1)) (am_lt (am_sI M h1 (x3 - (am_i 1)).toNatClampNeg ((am_i 1) - (am_I M h6 (x3 - (am_i 1)).toNatClampNeg))) (fun M7 => am_ev 91 (d + 1) 9 [.ref r0, .ref r1, v2, .int x3, .int (x4 + am_i 1), .int x5] [] M7)) none) none) none) none)) none) none) :=
  am_tree (cut := am_cut [9, 83]) 24 rfl
-- 92: X3_given
set_option maxHeartbeats 2000000 in
set_option maxRecDepth 100000 in
theorem t92 (d : Nat) (M : am_M) (r0 : Nat) (x1 : Int32) :
  am_cl 92 d [.ref r0, .int x1] M =
 am_br .lt (x1 - (am_i 10000)) (am_i 0)
 (some (some (.int x1), M))
 (am_br .ge (x1 - (am_i 10000)) (am_i 29)
 (some (some (.int x1), M))
 (am_ob M r0 3 (am_gr (am_R M r0 1) (fun h1 => am_ix M h1 2 (x1 - (am_i 10000)) (some (some (.int (am_I M h1 (x1 - (am_i 10000)).toNatClampNeg)), M)) none) none) none)) :=
  show am_ev 92 d 0 [.ref r0, .int x1, .null] [] M = _ from am_tree (cut := am_cut []) 16 rfl
-- 93: X3_weightOf
set_option maxHeartbeats 2000000 in
set_option maxRecDepth 100000 in
theorem t93 (d : Nat) (M : am_M) (r0 : Nat) (x1 : Int32) :
  am_cl 93 d [.ref r0, .int x1] M =
 am_br .lt x1 (am_i 0)
 (some (some (.int (am_i 0)), M))
 (am_br .ge x1 (am_i 6)
 (some (some (.int (am_i 0)), M))
 (am_ob M r0 3 (am_gr (am_R M r0 2) (fun h1 => am_ix M h1 2 x1 (some (some (.int (am_I M h1 x1.toNatClampNeg)), M)) none) none) none)) :=
  show am_ev 93 d 0 [.ref r0, .int x1] [] M = _ from am_tree (cut := am_cut []) 12 rfl
-- 94: X3_joined
set_option maxHeartbeats 2000000 in
set_option maxRecDepth 100000 in
theorem t94 (d : Nat) (M : am_M) (r0 : Nat) (x1 : Int32) (y2 y4 : Int64) :
  am_cl 94 (d + 1) [.ref r0, .int x1, .long y2, .long y4] M =
 am_si 20003 x1 (am_bL (am_cl 277 d [.long (am_l 1000000), .long (y2 + y4)] M) (fun c2 M1 => am_bL (am_cl 275 d [.long (am_l (-1000000)), .long c2] M1) (fun c4 M3 => some (some (.int c4.toInt32), M3))))
 (am_si 20004 x1 (am_bL (am_cl 277 d [.long (am_l 1000000), .long (y2 - y4)] M) (fun c6 M5 => am_bL (am_cl 275 d [.long (am_l (-1000000)), .long c6] M5) (fun c8 M7 => some (some (.int c8.toInt32), M7))))
 (am_si 20005 x1 (am_bL (am_cl 277 d [.long (am_l 1000000), .long (y2 * y4)] M) (fun c10 M9 => am_bL (am_cl 275 d [.long (am_l (-1000000)), .long c10] M9) (fun c12 M11 => some (some (.int c12.toInt32), M11))))
 (am_si 20006 x1 (am_br .ne (lg_cmp y4 (am_l 0)) (am_i 0)
 (am_bL (am_cl 273 d [.long y2, .long y4] M) (fun c14 M13 => am_ev 94 (d + 1) 104 [.ref r0, .int x1, .long y2, .null, .long y4, .null, .null, .null] [.long c14] M13))
 (am_ev 94 (d + 1) 104 [.ref r0, .int x1, .long y2, .null, .long y4, .null, .null, .null] [.long (am_l 0)] M))
 (am_si 20007 x1 (am_bL (am_cl 277 d [.long y2, .long y4] M) (fun c16 M15 => am_bL (am_cl 277 d [.long (am_l 1000000), .long c16] M15) (fun c18 M17 => am_bL (am_cl 275 d [.long (am_l (-1000000)), .long c18] M17) (fun c20 M19 => some (some (.int c20.toInt32), M19)))))
 (am_si 20008 x1 (am_bL (am_cl 275 d [.long y2, .long y4] M) (fun c22 M21 => am_bL (am_cl 277 d [.long (am_l 1000000), .long c22] M21) (fun c24 M23 => am_bL (am_cl 275 d [.long (am_l (-1000000)), .long c24] M23) (fun c26 M25 => some (some (.int c26.toInt32), M25)))))
 (am_si 20009 x1 (am_br .ge (lg_cmp y2 y4) (am_i 0)
 (am_ev 94 (d + 1) 143 [.ref r0, .int x1, .long y2, .null, .long y4, .null, .null, .null] [.long (am_l 0)] M)
 (am_ev 94 (d + 1) 143 [.ref r0, .int x1, .long y2, .null, .long y4, .null, .null, .null] [.long (am_l 1)] M))
 (am_si 20010 x1 (am_br .le (lg_cmp y2 y4) (am_i 0)
 (am_ev 94 (d + 1) 160 [.ref r0, .int x1, .long y2, .null, .long y4, .null, .null, .null] [.long (am_l 0)] M)
 (am_ev 94 (d + 1) 160 [.ref r0, .int x1, .long y2, .null, .long y4, .null, .null, .null] [.long (am_l 1)] M))
 (am_si 20011 x1 (am_br .ne (lg_cmp y2 y4) (am_i 0)
 (am_ev 94 (d + 1) 177 [.ref r0, .int x1, .long y2, .null, .long y4, .null, .null, .null] [.long (am_l 0)] M)
 (am_ev 94 (d + 1) 177 [.ref r0, .int x1, .long y2, .null, .long y4, .null, .null, .null] [.long (am_l 1)] M))
 (am_si 20012 x1 (am_bL (am_cl 277 d [.long (am_l 1000000), .long (y2 &&& y4)] M) (fun c28 M27 => am_bL (am_cl 275 d [.long (am_l (-1000000)), .long c28] M27) (fun c30 M29 => some (some (.int c30.toInt32), M29))))
 (am_si 20013 x1 (am_bL (am_cl 277 d [.long (am_l 1000000), .long (y2 ||| y4)] M) (fun c32 M31 => am_bL (am_cl 275 d [.long (am_l (-1000000)), .long c32] M31) (fun c34 M33 => some (some (.int c34.toInt32), M33))))
 (am_bL (am_cl 277 d [.long (am_l 1000000), .long (am_l 0)] M) (fun c36 M35 => am_bL (am_cl 275 d [.long (am_l (-1000000)), .long c36] M35) (fun c38 M37 => some (some (.int c38.toInt32), M37)))))))))))))) :=
  show am_ev 94 (d + 1) 0 [.ref r0, .int x1, .long y2, .null, .long y4, .null, .null, .null] [] M = _ from am_tree (cut := am_cut [104, 143, 160, 177]) 15 rfl
set_option maxHeartbeats 2000000 in
set_option maxRecDepth 100000 in
theorem t94_104 (d : Nat) (M : am_M) (v0 v1 v2 v3 v4 v5 v6 v7 : Value) (sy0 : Int64) :
  am_ev 94 (d + 1) 104 [v0, v1, v2, v3, v4, v5, v6, v7] [.long sy0] M =
 am_bL (am_cl 277 d [.long (am_l 1000000), .long sy0] M) (fun c2 M1 => am_bL (am_cl 275 d [.long (am_l (-1000000)), .long c2] M1) (fun c4 M3 => some (some (.int c4.toInt32), M3))) :=
  am_tree (cut := am_cut [104, 143, 160, 177]) 10 rfl
set_option maxHeartbeats 2000000 in
set_option maxRecDepth 100000 in
theorem t94_143 (d : Nat) (M : am_M) (v0 v1 v2 v3 v4 v5 v6 v7 : Value) (sy0 : Int64) :
  am_ev 94 (d + 1) 143 [v0, v1, v2, v3, v4, v5, v6, v7] [.long sy0] M =
 am_bL (am_cl 277 d [.long (am_l 1000000), .long sy0] M) (fun c2 M1 => am_bL (am_cl 275 d [.long (am_l (-1000000)), .long c2] M1) (fun c4 M3 => some (some (.int c4.toInt32), M3))) :=
  am_tree (cut := am_cut [104, 143, 160, 177]) 10 rfl
set_option maxHeartbeats 2000000 in
set_option maxRecDepth 100000 in
theorem t94_160 (d : Nat) (M : am_M) (v0 v1 v2 v3 v4 v5 v6 v7 : Value) (sy0 : Int64) :
  am_ev 94 (d + 1) 160 [v0, v1, v2, v3, v4, v5, v6, v7] [.long sy0] M =
 am_bL (am_cl 277 d [.long (am_l 1000000), .long sy0] M) (fun c2 M1 => am_bL (am_cl 275 d [.long (am_l (-1000000)), .long c2] M1) (fun c4 M3 => some (some (.int c4.toInt32), M3))) :=
  am_tree (cut := am_cut [104, 143, 160, 177]) 10 rfl
set_option maxHeartbeats 2000000 in
set_option maxRecDepth 100000 in
theorem t94_177 (d : Nat) (M : am_M) (v0 v1 v2 v3 v4 v5 v6 v7 : Value) (sy0 : Int64) :
  am_ev 94 (d + 1) 177 [v0, v1, v2, v3, v4, v5, v6, v7] [.long sy0] M =
 am_bL (am_cl 277 d [.long (am_l 1000000), .long sy0] M) (fun c2 M1 => am_bL (am_cl 275 d [.long (am_l (-1000000)), .long c2] M1) (fun c4 M3 => some (some (.int c4.toInt32), M3))) :=
  am_tree (cut := am_cut [104, 143, 160, 177]) 10 rfl
