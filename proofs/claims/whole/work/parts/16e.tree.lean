/-! Trees: what a method does, printed by a program out of the tables, each proved by running the abstract machine. -/

-- 196: X6_letter
set_option maxHeartbeats 2000000 in
set_option maxRecDepth 100000 in
theorem t196 (d : Nat) (M : am_M) (r0 : Nat) (x1 x2 x3 : Int32) :
  am_cl 196 (d + 1) [.ref r0, .int x1, .int x2, .int x3] M =
 am_bI (am_cl 127 d [.long x1.toInt64, .long (am_l 0), .long (am_l 2)] M) (fun c2 M1 => am_br .eq c2 (am_i 0)
 (some (some (.int (am_i (-1))), M1))
 (am_ob M1 r0 6 (am_gr (am_R M1 r0 40) (fun h3 => am_ix M1 h3 2 ((am_i 3) + x1) (am_bI (am_cl 127 d [.long x2.toInt64, .long (am_l 0), .long ((am_I M1 h3 ((am_i 3) + x1).toNatClampNeg) - (am_i 1)).toInt64] M1) (fun c5 M4 => am_br .eq c5 (am_i 0)
 (some (some (.int (am_i (-1))), M4))
 (am_bI (am_cl 127 d [.long x3.toInt64, .long (am_l 0), .long (am_l 5)] M4) (fun c7 M6 => am_br .ne c7 (am_i 0)
 (am_ob M6 r0 6 (am_gr (am_R M6 r0 41) (fun h8 => am_ix M6 h8 3 (((am_i 24) + ((am_i 8) * x1)) + x2) (am_lt (am_L M6 h8 (((am_i 24) + ((am_i 8) * x1)) + x2).toNatClampNeg) (fun u9 => am_ev 196 (d + 1) 69 [.ref r0, .int x1, .int x2, .int x3, .long u9, .null, .int (am_i 0), .long u9, .null] [] M6)) none) none) none)
 (some (some (.int (am_i (-1))), M6)))))) none) none) none)) :=
  show am_ev 196 (d + 1) 0 [.ref r0, .int x1, .int x2, .int x3, .null, .null, .null, .null, .null] [] M = _ from am_tree (cut := am_cut [69, 104]) 42 rfl
set_option maxHeartbeats 2000000 in
set_option maxRecDepth 100000 in
theorem t196_69 (d : Nat) (M : am_M) (v0 v1 v2 v5 v8 : Value) (x3 x6 : Int32) (y4 y7 : Int64) :
  am_ev 196 (d + 1) 69 [v0, v1, v2, .int x3, .long y4, v5, .int x6, .long y7, v8] [] M =
 am_br .le (lg_cmp y7 (am_l 0)) (am_i 0)
 (am_br .lt x3 x6
 (am_ev 196 (d + 1) 104 [v0, v1, v2, .int x3, .long y4, v5, .int x6, .int (x6 - (am_i 1)), v8] [] M)
 (some (some (.int (am_i 0)), M)))
 (am_if ((am_l 27) = 0) none (am_ev 196 (d + 1) 69 [v0, v1, v2, .int x3, .long y4, (am_kl v5), .int (x6 + am_i 1), .long (y7 / (am_l 27)), .null] [] M)) :=
  am_tree (cut := am_cut [69, 104]) 12 rfl
set_option maxHeartbeats 2000000 in
set_option maxRecDepth 100000 in
theorem t196_104 (d : Nat) (M : am_M) (v0 v1 v2 v5 v6 v8 : Value) (x3 x7 : Int32) (y4 : Int64) :
  am_ev 196 (d + 1) 104 [v0, v1, v2, .int x3, .long y4, v5, v6, .int x7, v8] [] M =
 am_br .le x7 x3
 (am_if ((am_l 27) = 0) none (some (some (.int (y4 - y4 / (am_l 27) * (am_l 27)).toInt32), M)))
 (am_if ((am_l 27) = 0) none (am_ev 196 (d + 1) 104 [v0, v1, v2, .int x3, .long (y4 / (am_l 27)), .null, (am_kl v6), .int (x7 + am_i (-1)), v8] [] M)) :=
  am_tree (cut := am_cut [69, 104]) 10 rfl
-- 197: X6_film
set_option maxHeartbeats 2000000 in
set_option maxRecDepth 100000 in
theorem t197 (d : Nat) (M : am_M) (r0 : Nat) (x1 x2 : Int32) :
  am_cl 197 (d + 1) [.ref r0, .int x1, .int x2] M =
 am_ob M r0 6 (am_bI (am_cl 162 d [.ref r0, .int x1] M) (fun c2 M1 => am_br .ne c2 (am_i 0)
 (am_br .lt x2 (am_i 10)
 (am_br .ne x2 (am_i 0)
 (some (some (.int (am_i (-1))), M1))
 (am_ob M1 r0 6 (am_bI (am_cl 164 d [.ref r0, .int x1] M1) (fun c4 M3 => some (some (.int c4), M3))) none))
 (am_ob M1 r0 6 (am_bI (am_cl 161 d [.ref r0, .int (x2 - (am_i 10))] M1) (fun c6 M5 => am_br .eq c6 (am_i 0)
 (am_br .ne x2 (am_i 0)
 (some (some (.int (am_i (-1))), M5))
 (am_ob M5 r0 6 (am_bI (am_cl 164 d [.ref r0, .int x1] M5) (fun c8 M7 => some (some (.int c8), M7))) none))
 (am_ob M5 r0 6 (am_bI (am_cl 165 d [.ref r0, .int x1, .int (x2 - (am_i 10))] M5) (fun c10 M9 => some (some (.int c10), M9))) none))) none))
 (some (some (.int (am_i (-1))), M1)))) none :=
  show am_ev 197 (d + 1) 0 [.ref r0, .int x1, .int x2] [] M = _ from am_tree (cut := am_cut []) 21 rfl
-- 198: X6_person
set_option maxHeartbeats 2000000 in
set_option maxRecDepth 100000 in
theorem t198 (d : Nat) (M : am_M) (r0 : Nat) (x1 x2 : Int32) :
  am_cl 198 (d + 1) [.ref r0, .int x1, .int x2] M =
 am_ob M r0 6 (am_bI (am_cl 163 d [.ref r0, .int x1] M) (fun c2 M1 => am_br .ne c2 (am_i 0)
 (am_br .lt x2 (am_i 10)
 (am_ev 198 (d + 1) 37 [.ref r0, .int x1, .int x2] [] M1)
 (am_ob M1 r0 6 (am_bI (am_cl 161 d [.ref r0, .int (x2 - (am_i 10))] M1) (fun c4 M3 => am_br .eq c4 (am_i 0)
 (am_ev 198 (d + 1) 37 [.ref r0, .int x1, .int x2] [] M3)
 (am_ob M3 r0 6 (am_bI (am_cl 166 d [.ref r0, .int x1, .int (x2 - (am_i 10))] M3) (fun c6 M5 => some (some (.int c6), M5))) none))) none))
 (some (some (.int (am_i (-1))), M1)))) none :=
  show am_ev 198 (d + 1) 0 [.ref r0, .int x1, .int x2] [] M = _ from am_tree (cut := am_cut [37]) 21 rfl
set_option maxHeartbeats 2000000 in
set_option maxRecDepth 100000 in
theorem t198_37 (d : Nat) (M : am_M) (r0 : Nat) (x1 x2 : Int32) :
  am_ev 198 (d + 1) 37 [.ref r0, .int x1, .int x2] [] M =
 am_si 0 x2 (am_ob M r0 6 (am_gr (am_R M r0 44) (fun h1 => am_ix M h1 2 (((am_i 10) + ((am_i 2) * x1)) + x2) (some (some (.int (am_I M h1 (((am_i 10) + ((am_i 2) * x1)) + x2).toNatClampNeg)), M)) none) none) none)
 (am_si 1 x2 (am_ob M r0 6 (am_gr (am_R M r0 44) (fun h2 => am_ix M h2 2 (((am_i 10) + ((am_i 2) * x1)) + x2) (some (some (.int (am_I M h2 (((am_i 10) + ((am_i 2) * x1)) + x2).toNatClampNeg)), M)) none) none) none)
 (am_si 2 x2 (am_ob M r0 6 (am_bI (am_cl 167 d [.ref r0, .int x1] M) (fun c4 M3 => am_br .eq c4 (am_i 0)
 (some (some (.int (am_i 0)), M3))
 (some (some (.int (am_i 1)), M3)))) none)
 (am_si 3 x2 (am_ob M r0 6 (am_bI (am_cl 193 d [.ref r0, .int x1] M) (fun c6 M5 => some (some (.int c6), M5))) none)
 (some (some (.int (am_i (-1))), M))))) :=
  am_tree (cut := am_cut [37]) 14 rfl
-- 199: X6_taste
set_option maxHeartbeats 2000000 in
set_option maxRecDepth 100000 in
theorem t199 (d : Nat) (M : am_M) (r0 : Nat) (x1 x2 : Int32) :
  am_cl 199 (d + 1) [.ref r0, .int x1, .int x2] M =
 am_br .eq x1 (am_i (-1))
 (am_ev 199 (d + 1) 13 [.ref r0, .int x1, .int x2] [] M)
 (am_ob M r0 6 (am_bI (am_cl 163 d [.ref r0, .int x1] M) (fun c2 M1 => am_br .eq c2 (am_i 0)
 (some (some (.int (am_i (-1))), M1))
 (am_ev 199 (d + 1) 13 [.ref r0, .int x1, .int x2] [] M1))) none) :=
  show am_ev 199 (d + 1) 0 [.ref r0, .int x1, .int x2] [] M = _ from am_tree (cut := am_cut [13]) 11 rfl
set_option maxHeartbeats 2000000 in
set_option maxRecDepth 100000 in
theorem t199_13 (d : Nat) (M : am_M) (r0 : Nat) (x1 x2 : Int32) :
  am_ev 199 (d + 1) 13 [.ref r0, .int x1, .int x2] [] M =
 am_ob M r0 6 (am_bI (am_cl 161 d [.ref r0, .int x2] M) (fun c2 M1 => am_br .ne c2 (am_i 0)
 (am_ob M1 r0 6 (am_gr (am_R M1 r0 54) (fun h3 => am_ob M1 r0 6 (am_bI (am_cl 171 d [.ref r0, .int ((am_i 1) + x1), .int x2] M1) (fun c5 M4 => am_ix M4 h3 2 c5 (some (some (.int (am_I M4 h3 c5.toNatClampNeg)), M4)) none)) none) none) none)
 (some (some (.int (am_i (-1))), M1)))) none :=
  am_tree (cut := am_cut [13]) 15 rfl
-- 200: X6_seen
set_option maxHeartbeats 2000000 in
set_option maxRecDepth 100000 in
theorem t200 (d : Nat) (M : am_M) (r0 : Nat) (x1 x2 : Int32) :
  am_cl 200 (d + 1) [.ref r0, .int x1, .int x2] M =
 am_br .eq x1 (am_i (-1))
 (am_ev 200 (d + 1) 13 [.ref r0, .int x1, .int x2] [] M)
 (am_ob M r0 6 (am_bI (am_cl 163 d [.ref r0, .int x1] M) (fun c2 M1 => am_br .eq c2 (am_i 0)
 (some (some (.int (am_i (-1))), M1))
 (am_ev 200 (d + 1) 13 [.ref r0, .int x1, .int x2] [] M1))) none) :=
  show am_ev 200 (d + 1) 0 [.ref r0, .int x1, .int x2] [] M = _ from am_tree (cut := am_cut [13]) 11 rfl
set_option maxHeartbeats 2000000 in
set_option maxRecDepth 100000 in
theorem t200_13 (d : Nat) (M : am_M) (r0 : Nat) (x1 x2 : Int32) :
  am_ev 200 (d + 1) 13 [.ref r0, .int x1, .int x2] [] M =
 am_ob M r0 6 (am_bI (am_cl 162 d [.ref r0, .int x2] M) (fun c2 M1 => am_br .ne c2 (am_i 0)
 (am_ob M1 r0 6 (am_bI (am_cl 173 d [.ref r0, .int ((am_i 1) + x1), .int x2] M1) (fun c4 M3 => some (some (.int c4), M3))) none)
 (some (some (.int (am_i (-1))), M1)))) none :=
  am_tree (cut := am_cut [13]) 12 rfl
-- 201: X6_suggest
set_option maxHeartbeats 2000000 in
set_option maxRecDepth 100000 in
theorem t201 (d : Nat) (M : am_M) (r0 : Nat) (x1 : Int32) :
  am_cl 201 (d + 1) [.ref r0, .int x1] M =
 am_ob M r0 6 (am_bI (am_cl 163 d [.ref r0, .int x1] M) (fun c2 M1 => am_br .eq c2 (am_i 0)
 (some (some (.int (am_i (-1))), M1))
 (am_ob M1 r0 6 (am_bI (am_cl 179 d [.ref r0, .int x1] M1) (fun c4 M3 => some (some (.int c4), M3))) none))) none :=
  show am_ev 201 (d + 1) 0 [.ref r0, .int x1] [] M = _ from am_tree (cut := am_cut []) 10 rfl
-- 202: X6_worth
set_option maxHeartbeats 2000000 in
set_option maxRecDepth 100000 in
theorem t202 (d : Nat) (M : am_M) (r0 : Nat) (x1 x2 : Int32) :
  am_cl 202 (d + 1) [.ref r0, .int x1, .int x2] M =
 am_ob M r0 6 (am_bI (am_cl 163 d [.ref r0, .int x1] M) (fun c2 M1 => am_br .eq c2 (am_i 0)
 (some (some (.int (am_i (-1))), M1))
 (am_ob M1 r0 6 (am_bI (am_cl 162 d [.ref r0, .int x2] M1) (fun c4 M3 => am_br .eq c4 (am_i 0)
 (some (some (.int (am_i (-1))), M3))
 (am_ob M3 r0 6 (am_bI (am_cl 175 d [.ref r0, .int x1, .int x2] M3) (fun c6 M5 => some (some (.int c6), M5))) none))) none))) none :=
  show am_ev 202 (d + 1) 0 [.ref r0, .int x1, .int x2] [] M = _ from am_tree (cut := am_cut []) 15 rfl
-- 203: X6_kept
set_option maxHeartbeats 2000000 in
set_option maxRecDepth 100000 in
theorem t203 (d : Nat) (M : am_M) (r0 : Nat) (x1 x2 : Int32) :
  am_cl 203 (d + 1) [.ref r0, .int x1, .int x2] M =
 am_ob M r0 6 (am_gr (am_R M r0 54) (fun h1 => am_ix M h1 2 (am_i 96) (am_bI (am_cl 127 d [.long x1.toInt64, .long (am_l 0), .long ((am_I M h1 (am_i 96).toNatClampNeg) - (am_i 1)).toInt64] M) (fun c3 M2 => am_br .eq c3 (am_i 0)
 (some (some (.int (am_i (-1))), M2))
 (am_bI (am_cl 127 d [.long x2.toInt64, .long (am_l 0), .long (am_l 3)] M2) (fun c5 M4 => am_br .eq c5 (am_i 0)
 (some (some (.int (am_i (-1))), M4))
 (am_ob M4 r0 6 (am_gr (am_R M4 r0 54) (fun h6 => am_ix M4 h6 2 (((am_i 97) + ((am_i 4) * x1)) + x2) (some (some (.int (am_I M4 h6 (((am_i 97) + ((am_i 4) * x1)) + x2).toNatClampNeg)), M4)) none) none) none))))) none) none) none :=
  show am_ev 203 (d + 1) 0 [.ref r0, .int x1, .int x2] [] M = _ from am_tree (cut := am_cut []) 31 rfl
-- 204: X6_pleased
set_option maxHeartbeats 2000000 in
set_option maxRecDepth 100000 in
theorem t204 (d : Nat) (M : am_M) (r0 : Nat) (x1 x2 : Int32) :
  am_cl 204 (d + 1) [.ref r0, .int x1, .int x2] M =
 am_ob M r0 6 (am_bI (am_cl 163 d [.ref r0, .int x1] M) (fun c2 M1 => am_br .eq c2 (am_i 0)
 (some (some (.long (am_l (-1000000000000000))), M1))
 (am_ob M1 r0 6 (am_bI (am_cl 191 d [.ref r0, .int x2, .int (am_i 0), .int (am_i 72)] M1) (fun c4 M3 => am_br .ne c4 (am_i 0)
 (am_ob M3 r0 6 (am_bV (am_cl 188 d [.ref r0] M3) (fun M5 => am_ob M5 r0 6 (am_bI (am_cl 187 d [.ref r0, .int x2] M5) (fun c7 M6 => am_ob M6 r0 6 (am_bV (am_cl 190 d [.ref r0] M6) (fun M8 => am_ob M8 r0 6 (am_gr (am_R M8 r0 62) (fun h9 => am_ix M8 h9 3 x1 (some (some (.long (am_L M8 h9 x1.toNatClampNeg)), M8)) none) none) none)) none)) none)) none)
 (some (some (.long (am_l (-1000000000000000))), M3)))) none))) none :=
  show am_ev 204 (d + 1) 0 [.ref r0, .int x1, .int x2] [] M = _ from am_tree (cut := am_cut []) 24 rfl
-- 205: X6_refused
set_option maxHeartbeats 2000000 in
set_option maxRecDepth 100000 in
theorem t205 (d : Nat) (M : am_M) (r0 : Nat) (x1 x2 : Int32) :
  am_cl 205 (d + 1) [.ref r0, .int x1, .int x2] M =
 am_ob M r0 6 (am_bI (am_cl 163 d [.ref r0, .int x1] M) (fun c2 M1 => am_br .eq c2 (am_i 0)
 (some (some (.int (am_i (-1))), M1))
 (am_ob M1 r0 6 (am_bI (am_cl 191 d [.ref r0, .int x2, .int (am_i 0), .int (am_i 72)] M1) (fun c4 M3 => am_br .ne c4 (am_i 0)
 (am_ob M3 r0 6 (am_bV (am_cl 188 d [.ref r0] M3) (fun M5 => am_ob M5 r0 6 (am_bI (am_cl 187 d [.ref r0, .int x2] M5) (fun c7 M6 => am_ob M6 r0 6 (am_bV (am_cl 190 d [.ref r0] M6) (fun M8 => am_ob M8 r0 6 (am_gr (am_R M8 r0 63) (fun h9 => am_ix M8 h9 2 x1 (some (some (.int (am_I M8 h9 x1.toNatClampNeg)), M8)) none) none) none)) none)) none)) none)
 (some (some (.int (am_i (-1))), M3)))) none))) none :=
  show am_ev 205 (d + 1) 0 [.ref r0, .int x1, .int x2] [] M = _ from am_tree (cut := am_cut []) 24 rfl
-- 206: X6_pleasureBy
set_option maxHeartbeats 2000000 in
set_option maxRecDepth 100000 in
theorem t206 (d : Nat) (M : am_M) (r0 : Nat) (x1 x2 x3 : Int32) :
  am_cl 206 (d + 1) [.ref r0, .int x1, .int x2, .int x3] M =
 am_ob M r0 6 (am_bV (am_cl 168 d [.ref r0, .int x1] M) (fun M1 => am_ob M1 r0 6 (am_bI (am_cl 187 d [.ref r0, .int x3] M1) (fun c3 M2 => am_ob M2 r0 6 (am_bV (am_cl 189 d [.ref r0] M2) (fun M4 => am_ob M4 r0 6 (am_gr (am_R M4 r0 62) (fun h5 => am_ix M4 h5 3 x2 (some (some (.long (am_L M4 h5 x2.toNatClampNeg)), M4)) none) none) none)) none)) none)) none :=
  show am_ev 206 (d + 1) 0 [.ref r0, .int x1, .int x2, .int x3] [] M = _ from am_tree (cut := am_cut []) 15 rfl
-- 207: X6_pressing
set_option maxHeartbeats 2000000 in
set_option maxRecDepth 100000 in
theorem t207 (d : Nat) (M : am_M) (r0 : Nat) (x1 x2 : Int32) :
  am_cl 207 (d + 1) [.ref r0, .int x1, .int x2] M =
 am_ob M r0 6 (am_bI (am_cl 163 d [.ref r0, .int x1] M) (fun c2 M1 => am_br .eq c2 (am_i 0)
 (some (some (.long (am_l (-1000000000000000))), M1))
 (am_ob M1 r0 6 (am_bI (am_cl 191 d [.ref r0, .int x2, .int (am_i 0), .int (am_i 72)] M1) (fun c4 M3 => am_br .ne c4 (am_i 0)
 (am_ob M3 r0 6 (am_bI (am_cl 169 d [.ref r0] M3) (fun c6 M5 => am_ob M5 r0 6 (am_bV (am_cl 188 d [.ref r0] M5) (fun M7 => am_ob M7 r0 6 (am_bL (am_cl 206 d [.ref r0, .int (c6 ||| ((am_i 1) <<< (x1 &&& 31))), .int x1, .int x2] M7) (fun c9 M8 => am_ob M8 r0 6 (am_bL (am_cl 206 d [.ref r0, .int (c6 &&& (((am_i 1) <<< (x1 &&& 31)) ^^^ (am_i (-1)))), .int x1, .int x2] M8) (fun c11 M10 => am_ob M10 r0 6 (am_bV (am_cl 190 d [.ref r0] M10) (fun M12 => some (some (.long (c9 - c11)), M12))) none)) none)) none)) none)) none)
 (some (some (.long (am_l (-1000000000000000))), M3)))) none))) none :=
  show am_ev 207 (d + 1) 0 [.ref r0, .int x1, .int x2, .null, .null, .null, .null, .null] [] M = _ from am_tree (cut := am_cut []) 44 rfl
-- 208: X6_isRest
set_option maxHeartbeats 2000000 in
set_option maxRecDepth 100000 in
theorem t208 (d : Nat) (M : am_M) (r0 : Nat) (x1 : Int32) :
  am_cl 208 (d + 1) [.ref r0, .int x1] M =
 am_ev 208 (d + 1) 2 [.ref r0, .int x1, .int (am_i 0)] [] M :=
  show am_ev 208 (d + 1) 0 [.ref r0, .int x1, .null] [] M = _ from am_tree (cut := am_cut [2]) 3 rfl
set_option maxHeartbeats 2000000 in
set_option maxRecDepth 100000 in
theorem t208_2 (d : Nat) (M : am_M) (r0 : Nat) (x1 x2 : Int32) :
  am_ev 208 (d + 1) 2 [.ref r0, .int x1, .int x2] [] M =
 am_ob M r0 6 (am_bI (am_cl 160 d [.ref r0] M) (fun c2 M1 => am_br .ge x2 c2
 (am_tr (am_i 1) (some (some (.int (am_i 1)), M1)) none)
 (am_ob M1 r0 6 (am_gr (am_R M1 r0 64) (fun h3 => am_ix M1 h3 3 (((am_i 5) * (x1 ^^^ ((am_i 1) <<< (x2 &&& 31)))) + x2) (am_ob M1 r0 6 (am_gr (am_R M1 r0 64) (fun h4 => am_ix M1 h4 3 (((am_i 5) * x1) + x2) (am_br .le (lg_cmp (am_L M1 h3 (((am_i 5) * (x1 ^^^ ((am_i 1) <<< (x2 &&& 31)))) + x2).toNatClampNeg) (am_L M1 h4 (((am_i 5) * x1) + x2).toNatClampNeg)) (am_i 0)
 (am_ev 208 (d + 1) 2 [.ref r0, .int x1, .int (x2 + am_i 1)] [] M1)
 (am_tr (am_i 0) (some (some (.int (am_i 0)), M1)) none)) none) none) none) none) none) none))) none :=
  am_tree (cut := am_cut [2]) 29 rfl
-- 209: X6_rest
set_option maxHeartbeats 2000000 in
set_option maxRecDepth 100000 in
theorem t209 (d : Nat) (M : am_M) (r0 : Nat) (x1 : Int32) :
  am_cl 209 (d + 1) [.ref r0, .int x1] M =
 am_ob M r0 6 (am_bI (am_cl 191 d [.ref r0, .int x1, .int (am_i 0), .int (am_i 48)] M) (fun c2 M1 => am_br .ne c2 (am_i 0)
 (am_ob M1 r0 6 (am_bI (am_cl 160 d [.ref r0] M1) (fun c4 M3 => am_ob M3 r0 6 (am_bV (am_cl 188 d [.ref r0] M3) (fun M5 => am_ev 209 (d + 1) 26 [.ref r0, .int x1, .int ((am_i 1) <<< (c4 &&& 31)), .int (am_i 0), .null] [] M5)) none)) none)
 (some (some (.int (am_i (-1))), M1)))) none :=
  show am_ev 209 (d + 1) 0 [.ref r0, .int x1, .null, .null, .null] [] M = _ from am_tree (cut := am_cut [26, 49, 97]) 16 rfl
set_option maxHeartbeats 2000000 in
set_option maxRecDepth 100000 in
theorem t209_26 (d : Nat) (M : am_M) (r0 : Nat) (x1 x2 x3 : Int32) (v4 : Value) :
  am_ev 209 (d + 1) 26 [.ref r0, .int x1, .int x2, .int x3, v4] [] M =
 am_br .ge x3 x2
 (am_ob M r0 6 (am_bV (am_cl 190 d [.ref r0] M) (fun M1 => am_ev 209 (d + 1) 97 [.ref r0, .int x1, .int x2, .int (am_i (-1)), .int (am_i 0)] [] M1)) none)
 (am_ob M r0 6 (am_bV (am_cl 168 d [.ref r0, .int x3] M) (fun M2 => am_ob M2 r0 6 (am_bI (am_cl 187 d [.ref r0, .int x1] M2) (fun c4 M3 => am_ob M3 r0 6 (am_bV (am_cl 189 d [.ref r0] M3) (fun M5 => am_ev 209 (d + 1) 49 [.ref r0, .int x1, .int x2, .int x3, .int (am_i 0)] [] M5)) none)) none)) none) :=
  am_tree (cut := am_cut [26, 49, 97]) 15 rfl
set_option maxHeartbeats 2000000 in
set_option maxRecDepth 100000 in
theorem t209_49 (d : Nat) (M : am_M) (r0 : Nat) (x1 x2 x3 x4 : Int32) :
  am_ev 209 (d + 1) 49 [.ref r0, .int x1, .int x2, .int x3, .int x4] [] M =
 am_ob M r0 6 (am_bI (am_cl 160 d [.ref r0] M) (fun c2 M1 => am_br .ge x4 c2
 (am_ev 209 (d + 1) 26 [.ref r0, .int x1, .int x2, .int (x3 + am_i 1), .int x4] [] M1)
 (am_ob M1 r0 6 (am_gr (am_R M1 r0 64) (fun h3 => am_ob M1 r0 6 (am_gr (am_R M1 r0 62) (fun h4 => am_ix M1 h4 3 x4 (am_iw M1 h3 3 (((am_i 5) * x3) + x4) (am_lt (am_sL M1 h3 (((am_i 5) * x3) + x4).toNatClampNeg (am_L M1 h4 x4.toNatClampNeg)) (fun M5 => am_ev 209 (d + 1) 49 [.ref r0, .int x1, .int x2, .int x3, .int (x4 + am_i 1)] [] M5)) none) none) none) none) none) none))) none :=
  am_tree (cut := am_cut [26, 49, 97]) 19 rfl
set_option maxHeartbeats 2000000 in
set_option maxRecDepth 100000 in
theorem t209_97 (d : Nat) (M : am_M) (r0 : Nat) (v1 : Value) (x2 x3 x4 : Int32) :
  am_ev 209 (d + 1) 97 [.ref r0, v1, .int x2, .int x3, .int x4] [] M =
 am_br .ge x4 x2
 (some (some (.int x3), M))
 (am_br .eq x3 (am_i (-1))
 (am_ob M r0 6 (am_bI (am_cl 208 d [.ref r0, .int x4] M) (fun c2 M1 => am_br .eq c2 (am_i 0)
 (am_ev 209 (d + 1) 97 [.ref r0, v1, .int x2, .int x3, .int (x4 + am_i 1)] [] M1)
 (am_ev 209 (d + 1) 97 [.ref r0, v1, .int x2, .int x4, .int (x4 + am_i 1)] [] M1))) none)
 (am_bI (am_cl 192 d [.int x4] M) (fun c4 M3 => am_bI (am_cl 192 d [.int x3] M3) (fun c6 M5 => am_br .ge c4 c6
 (am_ev 209 (d + 1) 97 [.ref r0, v1, .int x2, .int x3, .int (x4 + am_i 1)] [] M5)
 (am_ob M5 r0 6 (am_bI (am_cl 208 d [.ref r0, .int x4] M5) (fun c8 M7 => am_br .eq c8 (am_i 0)
 (am_ev 209 (d + 1) 97 [.ref r0, v1, .int x2, .int x3, .int (x4 + am_i 1)] [] M7)
 (am_ev 209 (d + 1) 97 [.ref r0, v1, .int x2, .int x4, .int (x4 + am_i 1)] [] M7))) none))))) :=
  am_tree (cut := am_cut [26, 49, 97]) 20 rfl
-- 210: X6_gone
set_option maxHeartbeats 2000000 in
set_option maxRecDepth 100000 in
theorem t210 (d : Nat) (M : am_M) (r0 : Nat) (x1 x2 : Int32) :
  am_cl 210 (d + 1) [.ref r0, .int x1, .int x2] M =
 am_ob M r0 6 (am_bI (am_cl 163 d [.ref r0, .int x1] M) (fun c2 M1 => am_br .eq c2 (am_i 0)
 (some (some (.int (am_i (-1))), M1))
 (am_ob M1 r0 6 (am_bI (am_cl 161 d [.ref r0, .int x2] M1) (fun c4 M3 => am_br .ne c4 (am_i 0)
 (am_ob M3 r0 6 (am_bV (am_cl 188 d [.ref r0] M3) (fun M5 => am_ev 210 (d + 1) 24 [.ref r0, .int x1, .int x2, .int (am_i 0), .null] [] M5)) none)
 (some (some (.int (am_i (-1))), M3)))) none))) none :=
  show am_ev 210 (d + 1) 0 [.ref r0, .int x1, .int x2, .null, .null] [] M = _ from am_tree (cut := am_cut [24, 69, 92]) 13 rfl
set_option maxHeartbeats 2000000 in
set_option maxRecDepth 100000 in
theorem t210_24 (d : Nat) (M : am_M) (r0 : Nat) (x1 x2 x3 : Int32) (v4 : Value) :
  am_ev 210 (d + 1) 24 [.ref r0, .int x1, .int x2, .int x3, v4] [] M =
 am_ob M r0 6 (am_gr (am_R M r0 54) (fun h1 => am_ob M r0 6 (am_bI (am_cl 170 d [.ref r0, .int x1] M) (fun c3 M2 => am_ob M2 r0 6 (am_bI (am_cl 171 d [.ref r0, .int c3, .int x2] M2) (fun c5 M4 => am_ix M4 h1 2 c5 (am_br .le (am_I M4 h1 c5.toNatClampNeg) (am_i 0)
 (am_ev 210 (d + 1) 69 [.ref r0, .int x1, .int x2, .int x3, v4] [] M4)
 (am_br .ge x3 (am_i 72)
 (am_ev 210 (d + 1) 69 [.ref r0, .int x1, .int x2, .int x3, v4] [] M4)
 (am_ob M4 r0 6 (am_bI (am_cl 191 d [.ref r0, .int (am_i 1), .int (am_i 1), .int (am_i 1)] M4) (fun c7 M6 => am_br .eq c7 (am_i 0)
 (am_ev 210 (d + 1) 69 [.ref r0, .int x1, .int x2, .int x3, v4] [] M6)
 (am_ob M6 r0 6 (am_bI (am_cl 186 d [.ref r0] M6) (fun c9 M8 => am_ev 210 (d + 1) 24 [.ref r0, .int x1, .int x2, .int (x3 + am_i 1), v4] [] M8)) none))) none))) none)) none)) none) none) none :=
  am_tree (cut := am_cut [24, 69, 92]) 25 rfl
set_option maxHeartbeats 2000000 in
set_option maxRecDepth 100000 in
theorem t210_69 (d : Nat) (M : am_M) (r0 : Nat) (x1 x2 x3 : Int32) (v4 : Value) :
  am_ev 210 (d + 1) 69 [.ref r0, .int x1, .int x2, .int x3, v4] [] M =
 am_ob M r0 6 (am_gr (am_R M r0 54) (fun h1 => am_ob M r0 6 (am_bI (am_cl 170 d [.ref r0, .int x1] M) (fun c3 M2 => am_ob M2 r0 6 (am_bI (am_cl 171 d [.ref r0, .int c3, .int x2] M2) (fun c5 M4 => am_ix M4 h1 2 c5 (am_br .ne (am_I M4 h1 c5.toNatClampNeg) (am_i 0)
 (am_ev 210 (d + 1) 92 [.ref r0, .int x1, .int x2, .int x3, v4] [.int (am_i 0)] M4)
 (am_ev 210 (d + 1) 92 [.ref r0, .int x1, .int x2, .int x3, v4] [.int (am_i 1)] M4)) none)) none)) none) none) none :=
  am_tree (cut := am_cut [24, 69, 92]) 13 rfl
set_option maxHeartbeats 2000000 in
set_option maxRecDepth 100000 in
theorem t210_92 (d : Nat) (M : am_M) (r0 : Nat) (v1 v2 v4 : Value) (x3 sx0 : Int32) :
  am_ev 210 (d + 1) 92 [.ref r0, v1, v2, .int x3, v4] [.int sx0] M =
 am_ob M r0 6 (am_bV (am_cl 190 d [.ref r0] M) (fun M1 => am_br .eq sx0 (am_i 0)
 (some (some (.int (am_i (-1))), M1))
 (some (some (.int x3), M1)))) none :=
  am_tree (cut := am_cut [24, 69, 92]) 9 rfl
-- 211: X6_sow
set_option maxHeartbeats 2000000 in
set_option maxRecDepth 100000 in
theorem t211 (d : Nat) (M : am_M) (r0 : Nat) (x1 x2 : Int32) :
  am_cl 211 (d + 1) [.ref r0, .int x1, .int x2] M =
 am_ob M r0 6 (am_bI (am_cl 163 d [.ref r0, .int x1] M) (fun c2 M1 => am_br .eq c2 (am_i 0)
 (some (some (.int (am_i (-1))), M1))
 (am_ob M1 r0 6 (am_bI (am_cl 191 d [.ref r0, .int x2, .int (am_i 0), .int (am_i 72)] M1) (fun c4 M3 => am_br .ne c4 (am_i 0)
 (am_ob M3 r0 6 (am_bI (am_cl 170 d [.ref r0, .int x1] M3) (fun c6 M5 => am_ob M5 r0 6 (am_bV (am_cl 188 d [.ref r0] M5) (fun M7 => am_ev 211 (d + 1) 40 [.ref r0, .int x1, .int x2, .int c6, .int (am_i (-1)), .long (am_l 0), .null, .int (am_i 0)] [] M7)) none)) none)
 (some (some (.int (am_i (-1))), M3)))) none))) none :=
  show am_ev 211 (d + 1) 0 [.ref r0, .int x1, .int x2, .null, .null, .null, .null, .null] [] M = _ from am_tree (cut := am_cut [40, 106]) 23 rfl
set_option maxHeartbeats 2000000 in
set_option maxRecDepth 100000 in
theorem t211_40 (d : Nat) (M : am_M) (r0 : Nat) (x1 x2 x3 x4 x7 : Int32) (y5 : Int64) (v6 : Value) :
  am_ev 211 (d + 1) 40 [.ref r0, .int x1, .int x2, .int x3, .int x4, .long y5, v6, .int x7] [] M =
 am_ob M r0 6 (am_bI (am_cl 159 d [.ref r0] M) (fun c2 M1 => am_br .ge x7 c2
 (am_ob M1 r0 6 (am_bV (am_cl 190 d [.ref r0] M1) (fun M3 => some (some (.int x4), M3))) none)
 (am_ob M1 r0 6 (am_bI (am_cl 173 d [.ref r0, .int x3, .int x7] M1) (fun c5 M4 => am_ob M4 r0 6 (am_bI (am_cl 164 d [.ref r0, .int x7] M4) (fun c7 M6 => am_br .ne c5 c7
 (am_ob M6 r0 6 (am_bV (am_cl 180 d [.ref r0, .int x3, .int x7] M6) (fun M8 => am_ob M8 r0 6 (am_bI (am_cl 187 d [.ref r0, .int x2] M8) (fun c10 M9 => am_ob M9 r0 6 (am_bV (am_cl 189 d [.ref r0] M9) (fun M11 => am_br .eq x4 (am_i (-1))
 (am_ev 211 (d + 1) 106 [.ref r0, .int x1, .int x2, .int x3, .int x4, .long y5, v6, .int x7] [] M11)
 (am_ob M11 r0 6 (am_gr (am_R M11 r0 62) (fun h12 => am_ix M11 h12 3 x1 (am_br .gt (lg_cmp (am_L M11 h12 x1.toNatClampNeg) y5) (am_i 0)
 (am_ev 211 (d + 1) 106 [.ref r0, .int x1, .int x2, .int x3, .int x4, .long y5, v6, .int x7] [] M11)
 (am_ev 211 (d + 1) 40 [.ref r0, .int x1, .int x2, .int x3, .int x4, .long y5, (am_kl v6), .int (x7 + am_i 1)] [] M11)) none) none) none))) none)) none)) none)
 (am_ev 211 (d + 1) 40 [.ref r0, .int x1, .int x2, .int x3, .int x4, .long y5, (am_kl v6), .int (x7 + am_i 1)] [] M6))) none)) none))) none :=
  am_tree (cut := am_cut [40, 106]) 36 rfl
set_option maxHeartbeats 2000000 in
set_option maxRecDepth 100000 in
theorem t211_106 (d : Nat) (M : am_M) (r0 : Nat) (x1 x2 x3 x7 : Int32) (v4 v5 v6 : Value) :
  am_ev 211 (d + 1) 106 [.ref r0, .int x1, .int x2, .int x3, v4, v5, v6, .int x7] [] M =
 am_ob M r0 6 (am_gr (am_R M r0 62) (fun h1 => am_ix M h1 3 x1 (am_ev 211 (d + 1) 40 [.ref r0, .int x1, .int x2, .int x3, .int x7, .long (am_L M h1 x1.toNatClampNeg), .null, .int (x7 + am_i 1)] [] M) none) none) none :=
  am_tree (cut := am_cut [40, 106]) 10 rfl
-- 212: X6_who
set_option maxHeartbeats 2000000 in
set_option maxRecDepth 100000 in
theorem t212 (d : Nat) (M : am_M) (r0 : Nat) (x1 x2 x3 : Int32) :
  am_cl 212 (d + 1) [.ref r0, .int x1, .int x2, .int x3] M =
 am_ob M r0 6 (am_bI (am_cl 163 d [.ref r0, .int x1] M) (fun c2 M1 => am_br .eq c2 (am_i 0)
 (some (some (.int (am_i (-1))), M1))
 (am_ob M1 r0 6 (am_bI (am_cl 162 d [.ref r0, .int x2] M1) (fun c4 M3 => am_br .eq c4 (am_i 0)
 (some (some (.int (am_i (-1))), M3))
 (am_bI (am_cl 127 d [.long x3.toInt64, .long (am_l 0), .long (am_l 23)] M3) (fun c6 M5 => am_br .ne c6 (am_i 0)
 (am_ev 212 (d + 1) 36 [.ref r0, .int x1, .int x2, .int x3, .long (am_l 0), .null, .int (am_i 0)] [] M5)
 (some (some (.int (am_i (-1))), M5)))))) none))) none :=
  show am_ev 212 (d + 1) 0 [.ref r0, .int x1, .int x2, .int x3, .null, .null, .null] [] M = _ from am_tree (cut := am_cut [36]) 19 rfl
set_option maxHeartbeats 2000000 in
set_option maxRecDepth 100000 in
theorem t212_36 (d : Nat) (M : am_M) (r0 : Nat) (x1 x2 x3 x6 : Int32) (y4 : Int64) (v5 : Value) :
  am_ev 212 (d + 1) 36 [.ref r0, .int x1, .int x2, .int x3, .long y4, v5, .int x6] [] M =
 am_ob M r0 6 (am_bI (am_cl 160 d [.ref r0] M) (fun c2 M1 => am_br .ge x6 c2
 (am_br .ne (lg_cmp y4 (am_l 0)) (am_i 0)
 (am_ob M1 r0 6 (am_bI (am_cl 185 d [.ref r0, .int x1, .int x3] M1) (fun c4 M3 => am_br .eq c4 (am_i 0)
 (some (some (.int (am_i 0)), M3))
 (am_ob M3 r0 6 (am_bI (am_cl 175 d [.ref r0, .int x1, .int x2] M3) (fun c6 M5 => am_if (y4 = 0) none (some (some (.int (((am_l 1000000) * (c6 + (am_i 1)).toInt64) / y4).toInt32), M5)))) none))) none)
 (some (some (.int (am_i (-1))), M1)))
 (am_ob M1 r0 6 (am_bI (am_cl 185 d [.ref r0, .int x6, .int x3] M1) (fun c8 M7 => am_br .eq c8 (am_i 0)
 (am_ev 212 (d + 1) 36 [.ref r0, .int x1, .int x2, .int x3, .long y4, (am_kl v5), .int (x6 + am_i 1)] [] M7)
 (am_ob M7 r0 6 (am_bI (am_cl 175 d [.ref r0, .int x6, .int x2] M7) (fun c10 M9 => am_ev 212 (d + 1) 36 [.ref r0, .int x1, .int x2, .int x3, .long (y4 + (c10 + (am_i 1)).toInt64), .null, .int (x6 + am_i 1)] [] M9)) none))) none))) none :=
  am_tree (cut := am_cut [36]) 28 rfl
-- 213: X6_firstOf
set_option maxHeartbeats 2000000 in
set_option maxRecDepth 100000 in
theorem t213 (d : Nat) (M : am_M) (r0 : Nat) (x1 : Int32) :
  am_cl 213 (d + 1) [.ref r0, .int x1] M =
 am_ev 213 (d + 1) 4 [.ref r0, .int x1, .int (am_i 0), .int (am_i 1)] [] M :=
  show am_ev 213 (d + 1) 0 [.ref r0, .int x1, .null, .null] [] M = _ from am_tree (cut := am_cut [4]) 5 rfl
set_option maxHeartbeats 2000000 in
set_option maxRecDepth 100000 in
theorem t213_4 (d : Nat) (M : am_M) (r0 : Nat) (x1 x2 x3 : Int32) :
  am_ev 213 (d + 1) 4 [.ref r0, .int x1, .int x2, .int x3] [] M =
 am_ob M r0 6 (am_bI (am_cl 159 d [.ref r0] M) (fun c2 M1 => am_br .ge x3 c2
 (some (some (.int x2), M1))
 (am_ob M1 r0 6 (am_bI (am_cl 175 d [.ref r0, .int x1, .int x3] M1) (fun c4 M3 => am_ob M3 r0 6 (am_bI (am_cl 175 d [.ref r0, .int x1, .int x2] M3) (fun c6 M5 => am_br .le c4 c6
 (am_ev 213 (d + 1) 4 [.ref r0, .int x1, .int x2, .int (x3 + am_i 1)] [] M5)
 (am_ev 213 (d + 1) 4 [.ref r0, .int x1, .int x3, .int (x3 + am_i 1)] [] M5))) none)) none))) none :=
  am_tree (cut := am_cut [4]) 18 rfl
-- 214: X6_byRule
set_option maxHeartbeats 2000000 in
set_option maxRecDepth 100000 in
theorem t214 (d : Nat) (M : am_M) (r0 : Nat) (x1 x2 x3 : Int32) :
  am_cl 214 (d + 1) [.ref r0, .int x1, .int x2, .int x3] M =
 am_ev 214 (d + 1) 12 [.ref r0, .int x1, .int x2, .int x3, .int (am_i 0), .int (am_i (-1)), .int (am_i 0), .int (am_i 0), .null] [] M :=
  show am_ev 214 (d + 1) 0 [.ref r0, .int x1, .int x2, .int x3, .null, .null, .null, .null, .null] [] M = _ from am_tree (cut := am_cut [12, 62]) 9 rfl
set_option maxHeartbeats 2000000 in
set_option maxRecDepth 100000 in
theorem t214_12 (d : Nat) (M : am_M) (r0 : Nat) (x1 x2 x3 x4 x5 x6 x7 : Int32) (v8 : Value) :
  am_ev 214 (d + 1) 12 [.ref r0, .int x1, .int x2, .int x3, .int x4, .int x5, .int x6, .int x7, v8] [] M =
 am_ob M r0 6 (am_bI (am_cl 160 d [.ref r0] M) (fun c2 M1 => am_br .ge x7 c2
 (am_br .ne x3 (am_i 0)
 (am_br .ne x3 (am_i 1)
 (some (some (.int x6), M1))
 (some (some (.int x5), M1)))
 (some (some (.int x4), M1)))
 (am_br .ne ((x1 >>> (x7 &&& 31)) &&& (am_i 1)) (am_i 0)
 (am_ob M1 r0 6 (am_bI (am_cl 175 d [.ref r0, .int x7, .int x2] M1) (fun c4 M3 => am_br .eq x5 (am_i (-1))
 (am_ev 214 (d + 1) 62 [.ref r0, .int x1, .int x2, .int x3, .int (x4 + c4), .int x5, .int x6, .int x7, .int c4] [] M3)
 (am_br .ge c4 x5
 (am_ob M3 r0 6 (am_bI (am_cl 213 d [.ref r0, .int x7] M3) (fun c6 M5 => am_br .ne c6 x2
 (am_ev 214 (d + 1) 12 [.ref r0, .int x1, .int x2, .int x3, .int (x4 + c4), .int x5, .int x6, .int (x7 + am_i 1), .int c4] [] M5)
 (am_ev 214 (d + 1) 12 [.ref r0, .int x1, .int x2, .int x3, .int (x4 + c4), .int x5, .int (x6 + am_i 1), .int (x7 + am_i 1), .int c4] [] M5))) none)
 (am_ev 214 (d + 1) 62 [.ref r0, .int x1, .int x2, .int x3, .int (x4 + c4), .int x5, .int x6, .int x7, .int c4] [] M3)))) none)
 (am_ev 214 (d + 1) 12 [.ref r0, .int x1, .int x2, .int x3, .int x4, .int x5, .int x6, .int (x7 + am_i 1), v8] [] M1)))) none :=
  am_tree (cut := am_cut [12, 62]) 34 rfl
set_option maxHeartbeats 2000000 in
set_option maxRecDepth 100000 in
theorem t214_62 (d : Nat) (M : am_M) (r0 : Nat) (x1 x2 x3 x4 x6 x7 x8 : Int32) (v5 : Value) :
  am_ev 214 (d + 1) 62 [.ref r0, .int x1, .int x2, .int x3, .int x4, v5, .int x6, .int x7, .int x8] [] M =
 am_ob M r0 6 (am_bI (am_cl 213 d [.ref r0, .int x7] M) (fun c2 M1 => am_br .ne c2 x2
 (am_ev 214 (d + 1) 12 [.ref r0, .int x1, .int x2, .int x3, .int x4, .int x8, .int x6, .int (x7 + am_i 1), .int x8] [] M1)
 (am_ev 214 (d + 1) 12 [.ref r0, .int x1, .int x2, .int x3, .int x4, .int x8, .int (x6 + am_i 1), .int (x7 + am_i 1), .int x8] [] M1))) none :=
  am_tree (cut := am_cut [12, 62]) 11 rfl
-- 215: X6_sofa
set_option maxHeartbeats 2000000 in
set_option maxRecDepth 100000 in
theorem t215 (d : Nat) (M : am_M) (r0 : Nat) (x1 x2 : Int32) :
  am_cl 215 (d + 1) [.ref r0, .int x1, .int x2] M =
 am_ob M r0 6 (am_bI (am_cl 160 d [.ref r0] M) (fun c2 M1 => am_bI (am_cl 127 d [.long x1.toInt64, .long (am_l 1), .long (((am_i 1) <<< (c2 &&& 31)) - (am_i 1)).toInt64] M1) (fun c4 M3 => am_br .eq c4 (am_i 0)
 (some (some (.int (am_i (-1))), M3))
 (am_bI (am_cl 127 d [.long x2.toInt64, .long (am_l 0), .long (am_l 2)] M3) (fun c6 M5 => am_br .ne c6 (am_i 0)
 (am_ev 215 (d + 1) 37 [.ref r0, .int x1, .int x2, .int (am_i (-1)), .int (am_i 0)] [] M5)
 (some (some (.int (am_i (-1))), M5))))))) none :=
  show am_ev 215 (d + 1) 0 [.ref r0, .int x1, .int x2, .null, .null] [] M = _ from am_tree (cut := am_cut [37]) 23 rfl
set_option maxHeartbeats 2000000 in
set_option maxRecDepth 100000 in
theorem t215_37 (d : Nat) (M : am_M) (r0 : Nat) (x1 x2 x3 x4 : Int32) :
  am_ev 215 (d + 1) 37 [.ref r0, .int x1, .int x2, .int x3, .int x4] [] M =
 am_ob M r0 6 (am_bI (am_cl 159 d [.ref r0] M) (fun c2 M1 => am_br .ge x4 c2
 (some (some (.int x3), M1))
 (am_br .eq x3 (am_i (-1))
 (am_ev 215 (d + 1) 37 [.ref r0, .int x1, .int x2, .int x4, .int (x4 + am_i 1)] [] M1)
 (am_ob M1 r0 6 (am_bI (am_cl 214 d [.ref r0, .int x1, .int x4, .int x2] M1) (fun c4 M3 => am_ob M3 r0 6 (am_bI (am_cl 214 d [.ref r0, .int x1, .int x3, .int x2] M3) (fun c6 M5 => am_br .le c4 c6
 (am_ev 215 (d + 1) 37 [.ref r0, .int x1, .int x2, .int x3, .int (x4 + am_i 1)] [] M5)
 (am_ev 215 (d + 1) 37 [.ref r0, .int x1, .int x2, .int x4, .int (x4 + am_i 1)] [] M5))) none)) none)))) none :=
  am_tree (cut := am_cut [37]) 23 rfl
-- 216: X6_share
set_option maxHeartbeats 2000000 in
set_option maxRecDepth 100000 in
theorem t216 (d : Nat) (M : am_M) (r0 : Nat) (x1 : Int32) :
  am_cl 216 (d + 1) [.ref r0, .int x1] M =
 am_ob M r0 6 (am_bI (am_cl 194 d [.ref r0] M) (fun c2 M1 => am_ob M1 r0 6 (am_bI (am_cl 163 d [.ref r0, .int x1] M1) (fun c4 M3 => am_br .eq c4 (am_i 0)
 (some (some (.int (am_i (-1))), M3))
 (am_br .ne c2 (am_i 0)
 (am_ob M3 r0 6 (am_gr (am_R M3 r0 47) (fun h5 => am_ix M3 h5 2 (am_i 5) (am_ev 216 (d + 1) 32 [.ref r0, .int x1, .int c2, .int (am_I M3 h5 (am_i 5).toNatClampNeg), .int (am_i 0), .int (am_i 0)] [] M3) none) none) none)
 (some (some (.int (am_i (-1))), M3))))) none)) none :=
  show am_ev 216 (d + 1) 0 [.ref r0, .int x1, .null, .null, .null, .null] [] M = _ from am_tree (cut := am_cut [32]) 19 rfl
set_option maxHeartbeats 2000000 in
set_option maxRecDepth 100000 in
theorem t216_32 (d : Nat) (M : am_M) (r0 : Nat) (x1 x2 x3 x4 x5 : Int32) :
  am_ev 216 (d + 1) 32 [.ref r0, .int x1, .int x2, .int x3, .int x4, .int x5] [] M =
 am_ob M r0 6 (am_bI (am_cl 160 d [.ref r0] M) (fun c2 M1 => am_br .ge x5 c2
 (am_ob M1 r0 6 (am_gr (am_R M1 r0 47) (fun h3 => am_ix M1 h3 2 (am_i 5) (am_ob M1 r0 6 (am_bI (am_cl 193 d [.ref r0, .int x1] M1) (fun c5 M4 => am_if (x2 = 0) none (am_br .ne x1 x4
 (some (some (.int ((((am_I M1 h3 (am_i 5).toNatClampNeg) * c5) / x2) + (am_i 0))), M4))
 (some (some (.int ((((am_I M1 h3 (am_i 5).toNatClampNeg) * c5) / x2) + x3)), M4))))) none) none) none) none)
 (am_ob M1 r0 6 (am_gr (am_R M1 r0 47) (fun h6 => am_ix M1 h6 2 (am_i 5) (am_ob M1 r0 6 (am_bI (am_cl 193 d [.ref r0, .int x5] M1) (fun c8 M7 => am_if (x2 = 0) none (am_lt (x3 - (((am_I M1 h6 (am_i 5).toNatClampNeg) * c8) / x2)) (fun u9 => am_ob M7 r0 6 (am_bI (am_cl 193 d [.ref r0, .int x5] M7) (fun c11 M10 => am_ob M10 r0 6 (am_bI (am_cl 193 d [.ref r0, .int x4] M10) (fun c13 M12 => am_br .le c11 c13
 (am_ev 216 (d + 1) 32 [.ref r0, .int x1, .int x2, .int u9, .int x4, .int (x5 + am_i 1)] [] M12)
 (am_ev 216 (d + 1) 32 [.ref r0, .int x1, .int x2, .int u9, .int x5, .int (x5 + am_i 1)] [] M12))) none)) none)))) none) none) none) none))) none :=
  am_tree (cut := am_cut [32]) 29 rfl
-- 217: X6_tell
set_option maxHeartbeats 2000000 in
set_option maxRecDepth 100000 in
theorem t217 (d : Nat) (M : am_M) (r0 : Nat) :
  am_cl 217 (d + 1) [.ref r0] M =
 am_ob M r0 6 (am_ob M r0 6 (am_lt (am_sI M r0 1 (am_i 0)) (fun M1 => am_br .le (am_I M r0 1) (am_i 0)
 (am_ev 217 (d + 1) 36 [.ref r0, .int (am_I M r0 1), .int (am_i 0), .int (am_i 0)] [] M1)
 (am_if ((am_i 3) = 0) none (am_br .ne ((am_I M r0 1) - (am_I M r0 1) / (am_i 3) * (am_i 3)) (am_i 0)
 (am_ev 217 (d + 1) 36 [.ref r0, .int (am_I M r0 1), .int (am_i 0), .int (am_i 0)] [] M1)
 (am_if ((am_i 3) = 0) none (am_br .gt ((am_I M r0 1) / (am_i 3)) (am_i 16)
 (am_ev 217 (d + 1) 36 [.ref r0, .int (am_I M r0 1), .int (am_i 0), .int (am_i 0)] [] M1)
 (am_ev 217 (d + 1) 36 [.ref r0, .int (am_I M r0 1), .int (am_i 1), .int (am_i 0)] [] M1))))))) none) none :=
  show am_ev 217 (d + 1) 0 [.ref r0, .null, .null, .null] [] M = _ from am_tree (cut := am_cut [36, 95, 113]) 23 rfl
set_option maxHeartbeats 2000000 in
set_option maxRecDepth 100000 in
theorem t217_36 (d : Nat) (M : am_M) (r0 : Nat) (x1 x2 x3 : Int32) :
  am_ev 217 (d + 1) 36 [.ref r0, .int x1, .int x2, .int x3] [] M =
 am_br .ge x3 x1
 (am_ev 217 (d + 1) 95 [.ref r0, .int x1, .int x2, .int x3] [] M)
 (am_br .eq x2 (am_i 0)
 (am_ev 217 (d + 1) 95 [.ref r0, .int x1, .int x2, .int x3] [] M)
 (am_ob M r0 6 (am_gr (am_R M r0 0) (fun h1 => am_ix M h1 2 x3 (am_br .ge (am_I M h1 x3.toNatClampNeg) (am_i 24)
 (am_ev 217 (d + 1) 36 [.ref r0, .int x1, .int (am_i 0), .int (x3 + am_i 3)] [] M)
 (am_ob M r0 6 (am_gr (am_R M r0 0) (fun h2 => am_ix M h2 2 (x3 + (am_i 1)) (am_ob M r0 6 (am_bI (am_cl 162 d [.ref r0, .int (am_I M h2 (x3 + (am_i 1)).toNatClampNeg)] M) (fun c4 M3 => am_br .eq c4 (am_i 0)
 (am_ev 217 (d + 1) 36 [.ref r0, .int x1, .int (am_i 0), .int (x3 + am_i 3)] [] M3)
 (am_ob M3 r0 6 (am_gr (am_R M3 r0 0) (fun h5 => am_ix M3 h5 2 (x3 + (am_i 2)) (am_br .ge (am_I M3 h5 (x3 + (am_i 2)).toNatClampNeg) (am_i 2)
 (am_ev 217 (d + 1) 36 [.ref r0, .int x1, .int (am_i 0), .int (x3 + am_i 3)] [] M3)
 (am_ev 217 (d + 1) 36 [.ref r0, .int x1, .int (am_i 1), .int (x3 + am_i 3)] [] M3)) none) none) none))) none) none) none) none)) none) none) none)) :=
  am_tree (cut := am_cut [36, 95, 113]) 34 rfl
set_option maxHeartbeats 2000000 in
set_option maxRecDepth 100000 in
theorem t217_95 (d : Nat) (M : am_M) (r0 : Nat) (x1 x2 : Int32) (v3 : Value) :
  am_ev 217 (d + 1) 95 [.ref r0, .int x1, .int x2, v3] [] M =
 am_br .ne x2 (am_i 0)
 (am_ev 217 (d + 1) 113 [.ref r0, .int x1, .int x2, .int (am_i 0)] [] M)
 (am_ob M r0 6 (am_gr (am_R M r0 9) (fun h1 => am_ix M h1 2 (am_i 1) (am_iw M h1 2 (am_i 1) (am_lt (am_sI M h1 (am_i 1).toNatClampNeg ((am_I M h1 (am_i 1).toNatClampNeg) + (am_i 1))) (fun M2 => some (some (.int (am_i (-1))), M2))) none) none) none) none) :=
  am_tree (cut := am_cut [36, 95, 113]) 13 rfl
set_option maxHeartbeats 2000000 in
set_option maxRecDepth 100000 in
theorem t217_113 (d : Nat) (M : am_M) (r0 : Nat) (x1 x3 : Int32) (v2 : Value) :
  am_ev 217 (d + 1) 113 [.ref r0, .int x1, v2, .int x3] [] M =
 am_br .ge x3 x1
 (am_if ((am_i 3) = 0) none (am_ob M r0 6 (am_lt (am_sI M r0 65 (x1 / (am_i 3))) (fun M1 => am_ob M1 r0 6 (some (some (.int (am_I M1 r0 65)), M1)) none)) none))
 (am_ob M r0 6 (am_gr (am_R M r0 66) (fun h2 => am_ob M r0 6 (am_gr (am_R M r0 0) (fun h3 => am_ix M h3 2 x3 (am_iw M h2 2 x3 (am_lt (am_sI M h2 x3.toNatClampNeg (am_I M h3 x3.toNatClampNeg)) (fun M4 => am_ev 217 (d + 1) 113 [.ref r0, .int x1, (am_kl v2), .int (x3 + am_i 1)] [] M4)) none) none) none) none) none) none) :=
  am_tree (cut := am_cut [36, 95, 113]) 14 rfl
-- 218: X6_isSeenNow
set_option maxHeartbeats 2000000 in
set_option maxRecDepth 100000 in
theorem t218 (d : Nat) (M : am_M) (r0 : Nat) (x1 : Int32) :
  am_cl 218 (d + 1) [.ref r0, .int x1] M =
 am_ev 218 (d + 1) 2 [.ref r0, .int x1, .int (am_i 0)] [] M :=
  show am_ev 218 (d + 1) 0 [.ref r0, .int x1, .null] [] M = _ from am_tree (cut := am_cut [2]) 3 rfl
set_option maxHeartbeats 2000000 in
set_option maxRecDepth 100000 in
theorem t218_2 (d : Nat) (M : am_M) (r0 : Nat) (x1 x2 : Int32) :
  am_ev 218 (d + 1) 2 [.ref r0, .int x1, .int x2] [] M =
 am_ob M r0 6 (am_bI (am_cl 160 d [.ref r0] M) (fun c2 M1 => am_br .ge x2 c2
 (am_tr (am_i 0) (some (some (.int (am_i 0)), M1)) none)
 (am_ob M1 r0 6 (am_gr (am_R M1 r0 61) (fun h3 => am_ix M1 h3 2 x2 (am_br .ne (am_I M1 h3 x2.toNatClampNeg) x1
 (am_ev 218 (d + 1) 2 [.ref r0, .int x1, .int (x2 + am_i 1)] [] M1)
 (am_tr (am_i 1) (some (some (.int (am_i 1)), M1)) none)) none) none) none))) none :=
  am_tree (cut := am_cut [2]) 13 rfl
-- 219: X6_lastHour
set_option maxHeartbeats 2000000 in
set_option maxRecDepth 100000 in
theorem t219 (d : Nat) (M : am_M) (r0 : Nat) :
  am_cl 219 d [.ref r0] M =
 am_ev 219 d 4 [.ref r0, .int (am_i (-1)), .int (am_i 0)] [] M :=
  show am_ev 219 d 0 [.ref r0, .null, .null] [] M = _ from am_tree (cut := am_cut [4]) 5 rfl
set_option maxHeartbeats 2000000 in
set_option maxRecDepth 100000 in
theorem t219_4 (d : Nat) (M : am_M) (r0 : Nat) (x1 x2 : Int32) :
  am_ev 219 d 4 [.ref r0, .int x1, .int x2] [] M =
 am_ob M r0 6 (am_br .ge x2 (am_I M r0 65)
 (some (some (.int x1), M))
 (am_ob M r0 6 (am_gr (am_R M r0 66) (fun h1 => am_ix M h1 2 ((am_i 3) * x2) (am_br .le (am_I M h1 ((am_i 3) * x2).toNatClampNeg) x1
 (am_ev 219 d 4 [.ref r0, .int x1, .int (x2 + am_i 1)] [] M)
 (am_ob M r0 6 (am_gr (am_R M r0 66) (fun h2 => am_ix M h2 2 ((am_i 3) * x2) (am_ev 219 d 4 [.ref r0, .int (am_I M h2 ((am_i 3) * x2).toNatClampNeg), .int (x2 + am_i 1)] [] M) none) none) none)) none) none) none)) none :=
  am_tree (cut := am_cut [4]) 22 rfl
-- 220: X6_isAsTold
set_option maxHeartbeats 2000000 in
set_option maxRecDepth 100000 in
theorem t220 (d : Nat) (M : am_M) (r0 : Nat) (x1 : Int32) :
  am_cl 220 (d + 1) [.ref r0, .int x1] M =
 am_ob M r0 6 (am_bI (am_cl 219 d [.ref r0] M) (fun c2 M1 => am_ob M1 r0 6 (am_bV (am_cl 168 d [.ref r0, .int x1] M1) (fun M3 => am_ev 220 (d + 1) 15 [.ref r0, .int x1, .int (am_i 1), .int c2, .int (am_i 0), .null] [] M3)) none)) none :=
  show am_ev 220 (d + 1) 0 [.ref r0, .int x1, .null, .null, .null, .null] [] M = _ from am_tree (cut := am_cut [15, 33]) 11 rfl
set_option maxHeartbeats 2000000 in
set_option maxRecDepth 100000 in
theorem t220_15 (d : Nat) (M : am_M) (r0 : Nat) (v1 v5 : Value) (x2 x3 x4 : Int32) :
  am_ev 220 (d + 1) 15 [.ref r0, v1, .int x2, .int x3, .int x4, v5] [] M =
 am_br .gt x4 x3
 (am_ob M r0 6 (am_bV (am_cl 189 d [.ref r0] M) (fun M1 => am_tr x2 (some (some (.int x2), M1)) none)) none)
 (am_br .eq x2 (am_i 0)
 (am_ob M r0 6 (am_bV (am_cl 189 d [.ref r0] M) (fun M2 => am_tr x2 (some (some (.int x2), M2)) none)) none)
 (am_ob M r0 6 (am_bI (am_cl 186 d [.ref r0] M) (fun c4 M3 => am_ev 220 (d + 1) 33 [.ref r0, v1, .int x2, .int x3, .int x4, .int (am_i 0)] [] M3)) none)) :=
  am_tree (cut := am_cut [15, 33]) 11 rfl
set_option maxHeartbeats 2000000 in
set_option maxRecDepth 100000 in
theorem t220_33 (d : Nat) (M : am_M) (r0 : Nat) (v1 : Value) (x2 x3 x4 x5 : Int32) :
  am_ev 220 (d + 1) 33 [.ref r0, v1, .int x2, .int x3, .int x4, .int x5] [] M =
 am_ob M r0 6 (am_br .ge x5 (am_I M r0 65)
 (am_ev 220 (d + 1) 15 [.ref r0, v1, .int x2, .int x3, .int (x4 + am_i 1), .int x5] [] M)
 (am_ob M r0 6 (am_gr (am_R M r0 66) (fun h1 => am_ix M h1 2 ((am_i 3) * x5) (am_br .ne (am_I M h1 ((am_i 3) * x5).toNatClampNeg) x4
 (am_ev 220 (d + 1) 33 [.ref r0, v1, .int x2, .int x3, .int x4, .int (x5 + am_i 1)] [] M)
 (am_ob M r0 6 (am_gr (am_R M r0 66) (fun h2 => am_ix M h2 2 (((am_i 3) * x5) + (am_i 1)) (am_ob M r0 6 (am_bI (am_cl 218 d [.ref r0, .int (am_I M h2 (((am_i 3) * x5) + (am_i 1)).toNatClampNeg)] M) (fun c4 M3 => am_ob M3 r0 6 (am_gr (am_R M3 r0 66) (fun h5 => am_ix M3 h5 2 (((am_i 3) * x5) + (am_i 2)) (am_br .ne (am_I M3 h5 (((am_i 3) * x5) + (am_i 2)).toNatClampNeg) (am_i 1)
 (am_br .eq c4 (am_i 0)
 (am_ev 220 (d + 1) 33 [.ref r0, v1, .int x2, .int x3, .int x4, .int (x5 + am_i 1)] [] M3)
 (am_ev 220 (d + 1) 33 [.ref r0, (am_kl v1), .int (am_i 0), .int x3, .int x4, .int (x5 + am_i 1)] [] M3))
 (am_br .eq c4 (am_i 1)
 (am_ev 220 (d + 1) 33 [.ref r0, v1, .int x2, .int x3, .int x4, .int (x5 + am_i 1)] [] M3)
 (am_ev 220 (d + 1) 33 [.ref r0, (am_kl v1), .int (am_i 0), .int x3, .int x4, .int (x5 + am_i 1)] [] M3))) none) none) none)) none) none) none) none)) none) none) none)) none :=
  am_tree (cut := am_cut [15, 33]) 40 rfl
-- 221: X6_pressed
set_option maxHeartbeats 2000000 in
set_option maxRecDepth 100000 in
theorem t221 (d : Nat) (M : am_M) (r0 : Nat) (x1 : Int32) :
  am_cl 221 (d + 1) [.ref r0, .int x1] M =
 am_bI (am_cl 127 d [.long x1.toInt64, .long (am_l 0), .long (am_l 2)] M) (fun c2 M1 => am_br .eq c2 (am_i 0)
 (some (some (.int (am_i (-1))), M1))
 (am_ob M1 r0 6 (am_br .le (am_I M1 r0 65) (am_i 0)
 (am_ev 221 (d + 1) 37 [.ref r0, .int x1, .null, .null, .null, .null] [] M1)
 (am_ob M1 r0 6 (am_bI (am_cl 219 d [.ref r0] M1) (fun c4 M3 => am_ob M3 r0 6 (am_bI (am_cl 191 d [.ref r0, .int (c4 + (am_i 1)), .int (am_i 0), .int (am_i 24)] M3) (fun c6 M5 => am_br .ne c6 (am_i 0)
 (am_ev 221 (d + 1) 37 [.ref r0, .int x1, .null, .null, .null, .null] [] M5)
 (some (some (.int (am_i (-1))), M5)))) none)) none)) none)) :=
  show am_ev 221 (d + 1) 0 [.ref r0, .int x1, .null, .null, .null, .null] [] M = _ from am_tree (cut := am_cut [37, 58]) 21 rfl
set_option maxHeartbeats 2000000 in
set_option maxRecDepth 100000 in
theorem t221_37 (d : Nat) (M : am_M) (r0 : Nat) (x1 : Int32) (v2 v3 v4 v5 : Value) :
  am_ev 221 (d + 1) 37 [.ref r0, .int x1, v2, v3, v4, v5] [] M =
 am_ob M r0 6 (am_bI (am_cl 160 d [.ref r0] M) (fun c2 M1 => am_ob M1 r0 6 (am_bV (am_cl 188 d [.ref r0] M1) (fun M3 => am_ev 221 (d + 1) 58 [.ref r0, .int x1, .int (am_i 0), .int (((am_i 1) <<< (c2 &&& 31)) - (am_i 1)), .int (am_i 0), .int (am_i 0)] [] M3)) none)) none :=
  am_tree (cut := am_cut [37, 58]) 16 rfl
set_option maxHeartbeats 2000000 in
set_option maxRecDepth 100000 in
theorem t221_58 (d : Nat) (M : am_M) (r0 : Nat) (x1 x2 x3 x4 x5 : Int32) :
  am_ev 221 (d + 1) 58 [.ref r0, .int x1, .int x2, .int x3, .int x4, .int x5] [] M =
 am_ob M r0 6 (am_bI (am_cl 160 d [.ref r0] M) (fun c2 M1 => am_br .ge x5 ((am_i 1) <<< (c2 &&& 31))
 (am_ob M1 r0 6 (am_bV (am_cl 190 d [.ref r0] M1) (fun M3 => am_br .ne x1 (am_i 0)
 (am_br .ne x1 (am_i 1)
 (some (some (.int x4), M3))
 (am_br .ne x2 (am_i 0)
 (some (some (.int x3), M3))
 (some (some (.int (am_i 0)), M3))))
 (some (some (.int x2), M3)))) none)
 (am_ob M1 r0 6 (am_bI (am_cl 220 d [.ref r0, .int x5] M1) (fun c5 M4 => am_br .ne c5 (am_i 0)
 (am_ev 221 (d + 1) 58 [.ref r0, .int x1, .int (x2 + am_i 1), .int (x3 &&& x5), .int (x4 ||| x5), .int (x5 + am_i 1)] [] M4)
 (am_ev 221 (d + 1) 58 [.ref r0, .int x1, .int x2, .int x3, .int x4, .int (x5 + am_i 1)] [] M4))) none))) none :=
  am_tree (cut := am_cut [37, 58]) 22 rfl
-- 222: X6_keeps
set_option maxHeartbeats 2000000 in
set_option maxRecDepth 100000 in
theorem t222 (d : Nat) (M : am_M) (r0 : Nat) :
  am_cl 222 d [.ref r0] M =
 am_ob M r0 6 (am_if ((am_i 20) = 0) none (am_lt ((am_I M r0 69) + (am_i 1)) (fun u1 => am_ob M r0 6 (am_lt (am_sI M r0 69 (u1 - u1 / (am_i 20) * (am_i 20))) (fun M2 => am_ev 222 d 15 [.ref r0, .int (am_i 0)] [] M2)) none))) none :=
  show am_ev 222 d 0 [.ref r0, .null] [] M = _ from am_tree (cut := am_cut [15]) 11 rfl
set_option maxHeartbeats 2000000 in
set_option maxRecDepth 100000 in
theorem t222_15 (d : Nat) (M : am_M) (r0 : Nat) (x1 : Int32) :
  am_ev 222 d 15 [.ref r0, .int x1] [] M =
 am_br .ge x1 (am_i 257)
 (am_ob M r0 6 (am_br .ge (am_I M r0 68) (am_i 20)
 (some (none, M))
 (am_ob M r0 6 (am_ob M r0 6 (am_lt (am_sI M r0 68 ((am_I M r0 68) + (am_i 1))) (fun M1 => some (none, M1))) none) none)) none)
 (am_ob M r0 6 (am_gr (am_R M r0 67) (fun h2 => am_ob M r0 6 (am_ob M r0 6 (am_gr (am_R M r0 54) (fun h3 => am_ix M h3 2 x1 (am_iw M h2 2 (((am_i 257) * (am_I M r0 69)) + x1) (am_lt (am_sI M h2 (((am_i 257) * (am_I M r0 69)) + x1).toNatClampNeg (am_I M h3 x1.toNatClampNeg)) (fun M4 => am_ev 222 d 15 [.ref r0, .int (x1 + am_i 1)] [] M4)) none) none) none) none) none) none) none) :=
  am_tree (cut := am_cut [15]) 19 rfl
-- 223: X6_undo
set_option maxHeartbeats 2000000 in
set_option maxRecDepth 100000 in
theorem t223 (d : Nat) (M : am_M) (r0 : Nat) :
  am_cl 223 d [.ref r0] M =
 am_ob M r0 6 (am_br .ne (am_I M r0 68) (am_i 0)
 (am_ev 223 d 21 [.ref r0, .int (am_i 0)] [] M)
 (am_ob M r0 6 (am_gr (am_R M r0 9) (fun h1 => am_ix M h1 2 (am_i 4) (am_iw M h1 2 (am_i 4) (am_lt (am_sI M h1 (am_i 4).toNatClampNeg ((am_I M h1 (am_i 4).toNatClampNeg) + (am_i 1))) (fun M2 => am_tr (am_i 0) (some (some (.int (am_i 0)), M2)) none)) none) none) none) none)) none :=
  show am_ev 223 d 0 [.ref r0, .null] [] M = _ from am_tree (cut := am_cut [21]) 14 rfl
set_option maxHeartbeats 2000000 in
set_option maxRecDepth 100000 in
theorem t223_21 (d : Nat) (M : am_M) (r0 : Nat) (x1 : Int32) :
  am_ev 223 d 21 [.ref r0, .int x1] [] M =
 am_br .ge x1 (am_i 257)
 (am_ob M r0 6 (am_if ((am_i 20) = 0) none (am_lt (((am_I M r0 69) + (am_i 20)) - (am_i 1)) (fun u1 => am_ob M r0 6 (am_lt (am_sI M r0 69 (u1 - u1 / (am_i 20) * (am_i 20))) (fun M2 => am_ob M2 r0 6 (am_ob M2 r0 6 (am_lt (am_sI M2 r0 68 ((am_I M2 r0 68) - (am_i 1))) (fun M3 => am_tr (am_i 1) (some (some (.int (am_i 1)), M3)) none)) none) none)) none))) none)
 (am_ob M r0 6 (am_gr (am_R M r0 54) (fun h4 => am_ob M r0 6 (am_gr (am_R M r0 67) (fun h5 => am_ob M r0 6 (am_ix M h5 2 (((am_i 257) * (am_I M r0 69)) + x1) (am_iw M h4 2 x1 (am_lt (am_sI M h4 x1.toNatClampNeg (am_I M h5 (((am_i 257) * (am_I M r0 69)) + x1).toNatClampNeg)) (fun M6 => am_ev 223 d 21 [.ref r0, .int (x1 + am_i 1)] [] M6)) none) none) none) none) none) none) none) :=
  am_tree (cut := am_cut [21]) 22 rfl
-- 224: X6_press
set_option maxHeartbeats 2000000 in
set_option maxRecDepth 100000 in
theorem t224 (d : Nat) (M : am_M) (r0 : Nat) (x1 x2 : Int32) :
  am_cl 224 (d + 1) [.ref r0, .int x1, .int x2] M =
 am_ob M r0 6 (am_bI (am_cl 163 d [.ref r0, .int x1] M) (fun c2 M1 => am_br .eq c2 (am_i 0)
 (am_ev 224 (d + 1) 36 [.ref r0, .int x1, .int x2] [] M1)
 (am_bI (am_cl 127 d [.long x2.toInt64, .long (am_l 0), .long (am_l 1)] M1) (fun c4 M3 => am_br .eq c4 (am_i 0)
 (am_ev 224 (d + 1) 36 [.ref r0, .int x1, .int x2] [] M3)
 (am_ob M3 r0 6 (am_bI (am_cl 167 d [.ref r0, .int x1] M3) (fun c6 M5 => am_br .ne x2 (am_i 1)
 (am_ev 224 (d + 1) 33 [.ref r0, .int x1, .int x2] [.int (am_i 0), .int c6] M5)
 (am_ev 224 (d + 1) 33 [.ref r0, .int x1, .int x2] [.int (am_i 1), .int c6] M5))) none))))) none :=
  show am_ev 224 (d + 1) 0 [.ref r0, .int x1, .int x2] [] M = _ from am_tree (cut := am_cut [33, 36]) 19 rfl
set_option maxHeartbeats 2000000 in
set_option maxRecDepth 100000 in
theorem t224_33 (d : Nat) (M : am_M) (r0 : Nat) (x1 x2 sx0 sx1 : Int32) :
  am_ev 224 (d + 1) 33 [.ref r0, .int x1, .int x2] [.int sx1, .int sx0] M =
 am_br .ne sx0 sx1
 (am_ob M r0 6 (am_bV (am_cl 222 d [.ref r0] M) (fun M1 => am_ob M1 r0 6 (am_gr (am_R M1 r0 54) (fun h2 => am_iw M1 h2 2 ((am_i 86) + ((am_i 2) * x1)) (am_lt (am_sI M1 h2 ((am_i 86) + ((am_i 2) * x1)).toNatClampNeg x2) (fun M3 => am_tr (am_i 1) (some (some (.int (am_i 1)), M3)) none)) none) none) none)) none)
 (am_ev 224 (d + 1) 36 [.ref r0, .int x1, .int x2] [] M) :=
  am_tree (cut := am_cut [33, 36]) 15 rfl
set_option maxHeartbeats 2000000 in
set_option maxRecDepth 100000 in
theorem t224_36 (d : Nat) (M : am_M) (r0 : Nat) (v1 v2 : Value) :
  am_ev 224 (d + 1) 36 [.ref r0, v1, v2] [] M =
 am_ob M r0 6 (am_gr (am_R M r0 9) (fun h1 => am_ix M h1 2 (am_i 2) (am_iw M h1 2 (am_i 2) (am_lt (am_sI M h1 (am_i 2).toNatClampNeg ((am_I M h1 (am_i 2).toNatClampNeg) + (am_i 1))) (fun M2 => am_tr (am_i 0) (some (some (.int (am_i 0)), M2)) none)) none) none) none) none :=
  am_tree (cut := am_cut [33, 36]) 11 rfl
-- 225: X6_show
set_option maxHeartbeats 2000000 in
set_option maxRecDepth 100000 in
theorem t225 (d : Nat) (M : am_M) (r0 : Nat) (x1 x2 : Int32) :
  am_cl 225 (d + 1) [.ref r0, .int x1, .int x2] M =
 am_ob M r0 6 (am_bI (am_cl 163 d [.ref r0, .int x1] M) (fun c2 M1 => am_br .eq c2 (am_i 0)
 (am_ev 225 (d + 1) 34 [.ref r0, .int x1, .int x2] [] M1)
 (am_ob M1 r0 6 (am_bI (am_cl 162 d [.ref r0, .int x2] M1) (fun c4 M3 => am_br .eq c4 (am_i 0)
 (am_ev 225 (d + 1) 34 [.ref r0, .int x1, .int x2] [] M3)
 (am_ob M3 r0 6 (am_bI (am_cl 170 d [.ref r0, .int x1] M3) (fun c6 M5 => am_ob M5 r0 6 (am_bI (am_cl 173 d [.ref r0, .int c6, .int x2] M5) (fun c8 M7 => am_ob M7 r0 6 (am_bI (am_cl 164 d [.ref r0, .int x2] M7) (fun c10 M9 => am_br .ne c8 c10
 (am_ob M9 r0 6 (am_bV (am_cl 222 d [.ref r0] M9) (fun M11 => am_ob M11 r0 6 (am_bI (am_cl 170 d [.ref r0, .int x1] M11) (fun c13 M12 => am_ob M12 r0 6 (am_bV (am_cl 180 d [.ref r0, .int c13, .int x2] M12) (fun M14 => am_ob M14 r0 6 (am_bV (am_cl 182 d [.ref r0, .int x1] M14) (fun M15 => am_ob M15 r0 6 (am_bV (am_cl 181 d [.ref r0, .int x1, .int x2] M15) (fun M16 => am_ob M16 r0 6 (am_bI (am_cl 183 d [.ref r0, .int x1, .int x2] M16) (fun c18 M17 => some (some (.long c18.toInt64), M17))) none)) none)) none)) none)) none)) none)
 (am_ev 225 (d + 1) 34 [.ref r0, .int x1, .int x2] [] M9))) none)) none)) none))) none))) none :=
  show am_ev 225 (d + 1) 0 [.ref r0, .int x1, .int x2] [] M = _ from am_tree (cut := am_cut [34]) 40 rfl
set_option maxHeartbeats 2000000 in
set_option maxRecDepth 100000 in
theorem t225_34 (d : Nat) (M : am_M) (r0 : Nat) (v1 v2 : Value) :
  am_ev 225 (d + 1) 34 [.ref r0, v1, v2] [] M =
 am_ob M r0 6 (am_gr (am_R M r0 9) (fun h1 => am_ix M h1 2 (am_i 2) (am_iw M h1 2 (am_i 2) (am_lt (am_sI M h1 (am_i 2).toNatClampNeg ((am_I M h1 (am_i 2).toNatClampNeg) + (am_i 1))) (fun M2 => some (some (.long (am_l (-1000000000000000))), M2))) none) none) none) none :=
  am_tree (cut := am_cut [34]) 11 rfl
-- 226: X6_refuses
set_option maxHeartbeats 2000000 in
set_option maxRecDepth 100000 in
theorem t226 (d : Nat) (M : am_M) (r0 : Nat) (x1 : Int32) :
  am_cl 226 d [.ref r0, .int x1] M =
 am_ob M r0 6 (am_gr (am_R M r0 9) (fun h1 => am_ix M h1 2 x1 (am_iw M h1 2 x1 (am_lt (am_sI M h1 x1.toNatClampNeg ((am_I M h1 x1.toNatClampNeg) + (am_i 1))) (fun M2 => some (some (.int (am_i (-1))), M2))) none) none) none) none :=
  show am_ev 226 d 0 [.ref r0, .int x1] [] M = _ from am_tree (cut := am_cut []) 11 rfl
-- 227: X6_hours
set_option maxHeartbeats 2000000 in
set_option maxRecDepth 100000 in
theorem t227 (d : Nat) (M : am_M) (r0 : Nat) (x1 : Int32) :
  am_cl 227 (d + 1) [.ref r0, .int x1] M =
 am_ob M r0 6 (am_bI (am_cl 191 d [.ref r0, .int x1, .int (am_i 1), .int (am_i 100)] M) (fun c2 M1 => am_br .ne c2 (am_i 0)
 (am_ob M1 r0 6 (am_bV (am_cl 222 d [.ref r0] M1) (fun M3 => am_ob M3 r0 6 (am_bI (am_cl 187 d [.ref r0, .int x1] M3) (fun c5 M4 => some (some (.int c5), M4))) none)) none)
 (am_ob M1 r0 6 (am_bI (am_cl 226 d [.ref r0, .int (am_i 3)] M1) (fun c7 M6 => some (some (.int c7), M6))) none))) none :=
  show am_ev 227 (d + 1) 0 [.ref r0, .int x1] [] M = _ from am_tree (cut := am_cut []) 13 rfl
-- 228: X6_seed
set_option maxHeartbeats 2000000 in
set_option maxRecDepth 100000 in
theorem t228 (d : Nat) (M : am_M) (r0 : Nat) (x1 : Int32) :
  am_cl 228 d [.ref r0, .int x1] M =
 am_br .ge x1 (am_i 0)
 (am_ob M r0 6 (am_lt (am_sL M r0 70 x1.toInt64) (fun M1 => am_tr (am_i 1) (some (some (.int (am_i 1)), M1)) none)) none)
 (am_ob M r0 6 (am_gr (am_R M r0 9) (fun h2 => am_ix M h2 2 (am_i 5) (am_iw M h2 2 (am_i 5) (am_lt (am_sI M h2 (am_i 5).toNatClampNeg ((am_I M h2 (am_i 5).toNatClampNeg) + (am_i 1))) (fun M3 => am_tr (am_i 0) (some (some (.int (am_i 0)), M3)) none)) none) none) none) none) :=
  show am_ev 228 d 0 [.ref r0, .int x1] [] M = _ from am_tree (cut := am_cut []) 13 rfl
-- 229: X6_drawOf
set_option maxHeartbeats 2000000 in
set_option maxRecDepth 100000 in
theorem t229 (d : Nat) (M : am_M) (r0 : Nat) (x1 : Int32) :
  am_cl 229 d [.ref r0, .int x1] M =
 am_ob M r0 6 (am_if ((am_l 2147483648) = 0) none (am_lt (((am_l 1103515245) * (am_L M r0 70)) + (am_l 12345)) (fun u1 => am_ob M r0 6 (am_lt (am_sL M r0 70 (u1 - u1 / (am_l 2147483648) * (am_l 2147483648))) (fun M2 => am_ob M2 r0 6 (am_if ((am_l 64) = 0) none (am_if (x1.toInt64 = 0) none (am_lt ((am_L M2 r0 70) / (am_l 64)) (fun u3 => some (some (.int (u3 - u3 / x1.toInt64 * x1.toInt64).toInt32), M2))))) none)) none))) none :=
  show am_ev 229 d 0 [.ref r0, .int x1] [] M = _ from am_tree (cut := am_cut []) 20 rfl
-- 230: X6_isStranger
set_option maxHeartbeats 2000000 in
set_option maxRecDepth 100000 in
theorem t230 (d : Nat) (M : am_M) (r0 : Nat) :
  am_cl 230 (d + 1) [.ref r0] M =
 am_ob M r0 6 (am_bI (am_cl 229 d [.ref r0, .int (am_i 100)] M) (fun c2 M1 => am_ob M1 r0 6 (am_gr (am_R M1 r0 47) (fun h3 => am_ix M1 h3 2 (am_i 7) (am_br .ge c2 (am_I M1 h3 (am_i 7).toNatClampNeg)
 (am_tr (am_i 0) (some (some (.int (am_i 0)), M1)) none)
 (am_ob M1 r0 6 (am_bI (am_cl 159 d [.ref r0] M1) (fun c5 M4 => am_br .ne c5 (am_i 0)
 (am_ob M4 r0 6 (am_bI (am_cl 159 d [.ref r0] M4) (fun c7 M6 => am_ob M6 r0 6 (am_bI (am_cl 229 d [.ref r0, .int c7] M6) (fun c9 M8 => am_ob M8 r0 6 (am_bI (am_cl 173 d [.ref r0, .int (am_i 0), .int c9] M8) (fun c11 M10 => am_ob M10 r0 6 (am_bI (am_cl 164 d [.ref r0, .int c9] M10) (fun c13 M12 => am_br .ne c11 c13
 (am_ob M12 r0 6 (am_bV (am_cl 180 d [.ref r0, .int (am_i 0), .int c9] M12) (fun M14 => am_ob M14 r0 6 (am_bV (am_cl 181 d [.ref r0, .int (am_i 9), .int c9] M14) (fun M15 => am_tr (am_i 1) (some (some (.int (am_i 1)), M15)) none)) none)) none)
 (am_tr (am_i 0) (some (some (.int (am_i 0)), M12)) none))) none)) none)) none)) none)
 (am_tr (am_i 0) (some (some (.int (am_i 0)), M4)) none))) none)) none) none) none)) none :=
  show am_ev 230 (d + 1) 0 [.ref r0, .null] [] M = _ from am_tree (cut := am_cut []) 35 rfl
-- 231: X6_chance
set_option maxHeartbeats 2000000 in
set_option maxRecDepth 100000 in
theorem t231 (d : Nat) (M : am_M) (r0 : Nat) (x1 : Int32) :
  am_cl 231 (d + 1) [.ref r0, .int x1] M =
 am_ob M r0 6 (am_bI (am_cl 191 d [.ref r0, .int x1, .int (am_i 1), .int (am_i 100)] M) (fun c2 M1 => am_br .ne c2 (am_i 0)
 (am_ob M1 r0 6 (am_bV (am_cl 222 d [.ref r0] M1) (fun M3 => am_ev 231 (d + 1) 25 [.ref r0, .int x1, .int (am_i 0), .int (am_i 0)] [] M3)) none)
 (am_ob M1 r0 6 (am_bI (am_cl 226 d [.ref r0, .int (am_i 3)] M1) (fun c5 M4 => some (some (.int c5), M4))) none))) none :=
  show am_ev 231 (d + 1) 0 [.ref r0, .int x1, .null, .null] [] M = _ from am_tree (cut := am_cut [25]) 13 rfl
set_option maxHeartbeats 2000000 in
set_option maxRecDepth 100000 in
theorem t231_25 (d : Nat) (M : am_M) (r0 : Nat) (x1 x2 x3 : Int32) :
  am_ev 231 (d + 1) 25 [.ref r0, .int x1, .int x2, .int x3] [] M =
 am_br .ge x3 x1
 (some (some (.int x2), M))
 (am_ob M r0 6 (am_bI (am_cl 230 d [.ref r0] M) (fun c2 M1 => am_br .eq c2 (am_i 0)
 (am_ob M1 r0 6 (am_bI (am_cl 186 d [.ref r0] M1) (fun c4 M3 => am_ev 231 (d + 1) 25 [.ref r0, .int x1, .int x2, .int (x3 + am_i 1)] [] M3)) none)
 (am_ob M1 r0 6 (am_bI (am_cl 186 d [.ref r0] M1) (fun c6 M5 => am_ev 231 (d + 1) 25 [.ref r0, .int x1, .int (x2 + am_i 1), .int (x3 + am_i 1)] [] M5)) none))) none) :=
  am_tree (cut := am_cut [25]) 13 rfl
-- 232: X6_qCode
set_option maxHeartbeats 2000000 in
set_option maxRecDepth 100000 in
theorem t232 (d : Nat) (M : am_M) (r0 : Nat) (x1 : Int32) :
  am_cl 232 d [.ref r0, .int x1] M =
 am_ob M r0 6 (am_gr (am_R M r0 91) (fun h1 => am_ob M r0 6 (am_iw M h1 2 (am_I M r0 92) (am_lt (am_sI M h1 (am_I M r0 92).toNatClampNeg x1) (fun M2 => am_ob M2 r0 6 (am_ob M2 r0 6 (am_lt (am_sI M2 r0 92 ((am_I M2 r0 92) + (am_i 1))) (fun M3 => some (none, M3))) none) none)) none) none) none) none :=
  show am_ev 232 d 0 [.ref r0, .int x1] [] M = _ from am_tree (cut := am_cut []) 14 rfl
-- 233: X6_qOpens
set_option maxHeartbeats 2000000 in
set_option maxRecDepth 100000 in
theorem t233 (d : Nat) (M : am_M) (r0 : Nat) (x1 x2 : Int32) :
  am_cl 233 (d + 1) [.ref r0, .int x1, .int x2] M =
 am_ob M r0 6 (am_br .eq (am_I M r0 5) (am_i 0)
 (am_ob M r0 6 (am_br .ne (am_I M r0 95) (am_i 6)
 (am_ob M r0 6 (am_ob M r0 6 (am_lt (am_sI M r0 95 ((am_I M r0 95) + (am_i 1))) (fun M1 => am_ob M1 r0 6 (am_gr (am_R M1 r0 93) (fun h2 => am_ob M1 r0 6 (am_iw M1 h2 2 (am_I M1 r0 94) (am_lt (am_sI M1 h2 (am_I M1 r0 94).toNatClampNeg x1) (fun M3 => am_ob M3 r0 6 (am_ob M3 r0 6 (am_lt (am_sI M3 r0 94 ((am_I M3 r0 94) + (am_i 1))) (fun M4 => some (none, M4))) none) none)) none) none) none) none)) none) none)
 (am_ob M r0 6 (am_bV (am_cl 130 d [.ref r0, .int (am_i 4), .int x2] M) (fun M5 => some (none, M5))) none)) none)
 (some (none, M))) none :=
  show am_ev 233 (d + 1) 0 [.ref r0, .int x1, .int x2] [] M = _ from am_tree (cut := am_cut []) 27 rfl
-- 234: X6_qIsOn
set_option maxHeartbeats 2000000 in
set_option maxRecDepth 100000 in
theorem t234 (d : Nat) (M : am_M) (r0 : Nat) (x1 : Int32) :
  am_cl 234 d [.ref r0, .int x1] M =
 am_ob M r0 6 (am_br .le (am_I M r0 94) (am_i 0)
 (am_tr (am_i 0) (some (some (.int (am_i 0)), M)) none)
 (am_ob M r0 6 (am_gr (am_R M r0 93) (fun h1 => am_ob M r0 6 (am_ix M h1 2 ((am_I M r0 94) - (am_i 1)) (am_br .ne (am_I M h1 ((am_I M r0 94) - (am_i 1)).toNatClampNeg) x1
 (am_tr (am_i 0) (some (some (.int (am_i 0)), M)) none)
 (am_tr (am_i 1) (some (some (.int (am_i 1)), M)) none)) none) none) none) none)) none :=
  show am_ev 234 d 0 [.ref r0, .int x1] [] M = _ from am_tree (cut := am_cut []) 16 rfl
-- 235: X6_qDrops
set_option maxHeartbeats 2000000 in
set_option maxRecDepth 100000 in
theorem t235 (d : Nat) (M : am_M) (r0 : Nat) :
  am_cl 235 (d + 1) [.ref r0] M =
 am_ob M r0 6 (am_ob M r0 6 (am_lt (am_sI M r0 94 ((am_I M r0 94) - (am_i 1))) (fun M1 => am_ob M1 r0 6 (am_gr (am_R M1 r0 93) (fun h2 => am_ob M1 r0 6 (am_ix M1 h2 2 (am_I M1 r0 94) (am_ob M1 r0 6 (am_bV (am_cl 232 d [.ref r0, .int (am_I M1 h2 (am_I M1 r0 94).toNatClampNeg)] M1) (fun M3 => some (none, M3))) none) none) none) none) none)) none) none :=
  show am_ev 235 (d + 1) 0 [.ref r0] [] M = _ from am_tree (cut := am_cut []) 15 rfl
-- 236: X6_qIsBracket
set_option maxHeartbeats 2000000 in
set_option maxRecDepth 100000 in
theorem t236 (d : Nat) (M : am_M) (x0 : Int32) :
  am_cl 236 d [.int x0] M =
 am_br .lt x0 (am_i 20)
 (am_tr (am_i 0) (some (some (.int (am_i 0)), M)) none)
 (am_br .gt x0 (am_i 24)
 (am_tr (am_i 0) (some (some (.int (am_i 0)), M)) none)
 (am_tr (am_i 1) (some (some (.int (am_i 1)), M)) none)) :=
  show am_ev 236 d 0 [.int x0] [] M = _ from am_tree (cut := am_cut []) 10 rfl
-- 237: X6_qBracket
set_option maxHeartbeats 2000000 in
set_option maxRecDepth 100000 in
theorem t237 (d : Nat) (M : am_M) (r0 : Nat) :
  am_cl 237 (d + 1) [.ref r0] M =
 am_ob M r0 6 (am_ev 237 (d + 1) 7 [.ref r0, .int ((am_I M r0 94) - (am_i 1))] [] M) none :=
  show am_ev 237 (d + 1) 0 [.ref r0, .null] [] M = _ from am_tree (cut := am_cut [7, 33]) 6 rfl
set_option maxHeartbeats 2000000 in
set_option maxRecDepth 100000 in
theorem t237_7 (d : Nat) (M : am_M) (r0 : Nat) (x1 : Int32) :
  am_ev 237 (d + 1) 7 [.ref r0, .int x1] [] M =
 am_ob M r0 6 (am_br .lt x1 (am_I M r0 96)
 (am_ev 237 (d + 1) 33 [.ref r0, .int x1] [] M)
 (am_ob M r0 6 (am_gr (am_R M r0 93) (fun h1 => am_ix M h1 2 x1 (am_bI (am_cl 236 d [.int (am_I M h1 x1.toNatClampNeg)] M) (fun c3 M2 => am_br .ne c3 (am_i 0)
 (am_ev 237 (d + 1) 33 [.ref r0, .int x1] [] M2)
 (am_ev 237 (d + 1) 7 [.ref r0, .int (x1 + am_i (-1))] [] M2))) none) none) none)) none :=
  am_tree (cut := am_cut [7, 33]) 13 rfl
set_option maxHeartbeats 2000000 in
set_option maxRecDepth 100000 in
theorem t237_33 (d : Nat) (M : am_M) (r0 : Nat) (x1 : Int32) :
  am_ev 237 (d + 1) 33 [.ref r0, .int x1] [] M =
 am_ob M r0 6 (am_br .lt x1 (am_I M r0 96)
 (some (some (.int (am_i (-1))), M))
 (am_ob M r0 6 (am_gr (am_R M r0 93) (fun h1 => am_ix M h1 2 x1 (some (some (.int (am_I M h1 x1.toNatClampNeg)), M)) none) none) none)) none :=
  am_tree (cut := am_cut [7, 33]) 11 rfl
-- 238: X6_qDropsToBracket
set_option maxHeartbeats 2000000 in
set_option maxRecDepth 100000 in
theorem t238 (d : Nat) (M : am_M) (r0 : Nat) :
  am_cl 238 (d + 1) [.ref r0] M =
 am_ev 238 (d + 1) 0 [.ref r0] [] M :=
  rfl
set_option maxHeartbeats 2000000 in
set_option maxRecDepth 100000 in
theorem t238_0 (d : Nat) (M : am_M) (r0 : Nat) :
  am_ev 238 (d + 1) 0 [.ref r0] [] M =
 am_ob M r0 6 (am_ob M r0 6 (am_br .le (am_I M r0 94) (am_I M r0 96)
 (some (none, M))
 (am_ob M r0 6 (am_gr (am_R M r0 93) (fun h1 => am_ob M r0 6 (am_ix M h1 2 ((am_I M r0 94) - (am_i 1)) (am_bI (am_cl 236 d [.int (am_I M h1 ((am_I M r0 94) - (am_i 1)).toNatClampNeg)] M) (fun c3 M2 => am_br .ne c3 (am_i 0)
 (some (none, M2))
 (am_ob M2 r0 6 (am_bV (am_cl 235 d [.ref r0] M2) (fun M4 => am_ev 238 (d + 1) 0 [.ref r0] [] M4)) none))) none) none) none) none)) none) none :=
  am_tree (cut := am_cut [0]) 18 rfl
-- 239: X6_qWordHere
set_option maxHeartbeats 2000000 in
set_option maxRecDepth 100000 in
theorem t239 (d : Nat) (M : am_M) (r0 : Nat) :
  am_cl 239 (d + 1) [.ref r0] M =
 am_ob M r0 6 (am_gr (am_R M r0 83) (fun h1 => am_ob M r0 6 (am_bI (am_cl 134 d [.ref r0, .ref h1] M) (fun c3 M2 => am_br .eq c3 (am_i 0)
 (am_ob M2 r0 6 (am_gr (am_R M2 r0 84) (fun h4 => am_ob M2 r0 6 (am_bI (am_cl 134 d [.ref r0, .ref h4] M2) (fun c6 M5 => am_br .eq c6 (am_i 0)
 (am_ob M5 r0 6 (am_gr (am_R M5 r0 85) (fun h7 => am_ob M5 r0 6 (am_bI (am_cl 134 d [.ref r0, .ref h7] M5) (fun c9 M8 => am_br .eq c9 (am_i 0)
 (am_ob M8 r0 6 (am_gr (am_R M8 r0 86) (fun h10 => am_ob M8 r0 6 (am_bI (am_cl 134 d [.ref r0, .ref h10] M8) (fun c12 M11 => am_br .eq c12 (am_i 0)
 (am_ob M11 r0 6 (am_gr (am_R M11 r0 87) (fun h13 => am_ob M11 r0 6 (am_bI (am_cl 134 d [.ref r0, .ref h13] M11) (fun c15 M14 => am_br .eq c15 (am_i 0)
 (am_ob M14 r0 6 (am_gr (am_R M14 r0 88) (fun h16 => am_ob M14 r0 6 (am_bI (am_cl 134 d [.ref r0, .ref h16] M14) (fun c18 M17 => am_br .eq c18 (am_i 0)
 (am_ob M17 r0 6 (am_gr (am_R M17 r0 89) (fun h19 => am_ob M17 r0 6 (am_bI (am_cl 134 d [.ref r0, .ref h19] M17) (fun c21 M20 => am_br .eq c21 (am_i 0)
 (am_ob M20 r0 6 (am_gr (am_R M20 r0 90) (fun h22 => am_ob M20 r0 6 (am_bI (am_cl 134 d [.ref r0, .ref h22] M20) (fun c24 M23 => am_br .eq c24 (am_i 0)
 (some (some (.int (am_i (-1))), M23))
 (some (some (.int (am_i 7)), M23)))) none) none) none)
 (some (some (.int (am_i 6)), M20)))) none) none) none)
 (some (some (.int (am_i 5)), M17)))) none) none) none)
 (some (some (.int (am_i 4)), M14)))) none) none) none)
 (some (some (.int (am_i 3)), M11)))) none) none) none)
 (am_ob M8 r0 6 (am_br .ne (am_I M8 r0 53) (am_i 3)
 (some (some (.int (am_i 2)), M8))
 (some (some (.int (am_i 8)), M8))) none))) none) none) none)
 (some (some (.int (am_i 1)), M5)))) none) none) none)
 (some (some (.int (am_i 0)), M2)))) none) none) none :=
  show am_ev 239 (d + 1) 0 [.ref r0] [] M = _ from am_tree (cut := am_cut []) 43 rfl
-- 240: X6_qWordOf
set_option maxHeartbeats 2000000 in
set_option maxRecDepth 100000 in
theorem t240 (d : Nat) (M : am_M) (r0 : Nat) (x1 x2 : Int32) :
  am_cl 240 (d + 1) [.ref r0, .int x1, .int x2] M =
 am_ob M r0 6 (am_bI (am_cl 239 d [.ref r0] M) (fun c2 M1 => am_br .lt c2 x1
 (some (some (.int (am_i (-1))), M1))
 (am_br .ge c2 x2
 (some (some (.int (am_i (-1))), M1))
 (am_ob M1 r0 6 (am_bI (am_cl 142 d [.ref r0, .int c2] M1) (fun c4 M3 => am_br .eq c4 (am_i 0)
 (some (some (.int (am_i (-1))), M3))
 (some (some (.int c2), M3)))) none)))) none :=
  show am_ev 240 (d + 1) 0 [.ref r0, .int x1, .int x2, .null] [] M = _ from am_tree (cut := am_cut []) 17 rfl
-- 241: X6_qAsksWord
set_option maxHeartbeats 2000000 in
set_option maxRecDepth 100000 in
theorem t241 (d : Nat) (M : am_M) (r0 : Nat) (x1 : Int32) :
  am_cl 241 (d + 1) [.ref r0, .int x1] M =
 am_si 0 x1 (am_ob M r0 6 (am_gr (am_R M r0 83) (fun h1 => am_ob M r0 6 (am_bV (am_cl 136 d [.ref r0, .ref h1] M) (fun M2 => some (none, M2))) none) none) none)
 (am_si 1 x1 (am_ob M r0 6 (am_gr (am_R M r0 84) (fun h3 => am_ob M r0 6 (am_bV (am_cl 136 d [.ref r0, .ref h3] M) (fun M4 => some (none, M4))) none) none) none)
 (am_si 2 x1 (am_ob M r0 6 (am_gr (am_R M r0 85) (fun h5 => am_ob M r0 6 (am_bV (am_cl 136 d [.ref r0, .ref h5] M) (fun M6 => some (none, M6))) none) none) none)
 (am_si 3 x1 (am_ob M r0 6 (am_gr (am_R M r0 86) (fun h7 => am_ob M r0 6 (am_bV (am_cl 136 d [.ref r0, .ref h7] M) (fun M8 => some (none, M8))) none) none) none)
 (am_si 4 x1 (am_ob M r0 6 (am_gr (am_R M r0 87) (fun h9 => am_ob M r0 6 (am_bV (am_cl 136 d [.ref r0, .ref h9] M) (fun M10 => some (none, M10))) none) none) none)
 (am_si 5 x1 (am_ob M r0 6 (am_gr (am_R M r0 88) (fun h11 => am_ob M r0 6 (am_bV (am_cl 136 d [.ref r0, .ref h11] M) (fun M12 => some (none, M12))) none) none) none)
 (am_si 6 x1 (am_ob M r0 6 (am_gr (am_R M r0 89) (fun h13 => am_ob M r0 6 (am_bV (am_cl 136 d [.ref r0, .ref h13] M) (fun M14 => some (none, M14))) none) none) none)
 (am_si 7 x1 (am_ob M r0 6 (am_gr (am_R M r0 90) (fun h15 => am_ob M r0 6 (am_bV (am_cl 136 d [.ref r0, .ref h15] M) (fun M16 => some (none, M16))) none) none) none)
 (am_ob M r0 6 (am_gr (am_R M r0 85) (fun h17 => am_ob M r0 6 (am_bV (am_cl 136 d [.ref r0, .ref h17] M) (fun M18 => some (none, M18))) none) none) none)))))))) :=
  show am_ev 241 (d + 1) 0 [.ref r0, .int x1] [] M = _ from am_tree (cut := am_cut []) 9 rfl
-- 242: X6_qEndsPart
set_option maxHeartbeats 2000000 in
set_option maxRecDepth 100000 in
theorem t242 (d : Nat) (M : am_M) (r0 : Nat) :
  am_cl 242 (d + 1) [.ref r0] M =
 am_ev 242 (d + 1) 0 [.ref r0] [] M :=
  rfl
set_option maxHeartbeats 2000000 in
set_option maxRecDepth 100000 in
theorem t242_0 (d : Nat) (M : am_M) (r0 : Nat) :
  am_ev 242 (d + 1) 0 [.ref r0] [] M =
 am_ob M r0 6 (am_br .ne (am_I M r0 5) (am_i 0)
 (some (none, M))
 (am_ob M r0 6 (am_ob M r0 6 (am_br .le (am_I M r0 94) (am_I M r0 96)
 (some (none, M))
 (am_ob M r0 6 (am_gr (am_R M r0 93) (fun h1 => am_ob M r0 6 (am_ix M h1 2 ((am_I M r0 94) - (am_i 1)) (am_br .lt (am_I M h1 ((am_I M r0 94) - (am_i 1)).toNatClampNeg) (am_i 60)
 (some (none, M))
 (am_ob M r0 6 (am_ob M r0 6 (am_lt (am_sI M r0 95 ((am_I M r0 95) - (am_i 1))) (fun M2 => am_ob M2 r0 6 (am_bV (am_cl 235 d [.ref r0] M2) (fun M3 => am_ev 242 (d + 1) 0 [.ref r0] [] M3)) none)) none) none)) none) none) none) none)) none) none)) none :=
  am_tree (cut := am_cut [0]) 27 rfl
-- 243: X6_qPartTold
set_option maxHeartbeats 2000000 in
set_option maxRecDepth 100000 in
theorem t243 (d : Nat) (M : am_M) (r0 : Nat) :
  am_cl 243 (d + 1) [.ref r0] M =
 am_ev 243 (d + 1) 2 [.ref r0, .int (am_i 1), .null, .null, .null, .null] [] M :=
  show am_ev 243 (d + 1) 0 [.ref r0, .null, .null, .null, .null, .null] [] M = _ from am_tree (cut := am_cut [2, 78, 118, 186, 212]) 3 rfl
set_option maxHeartbeats 2000000 in
set_option maxRecDepth 100000 in
theorem t243_2 (d : Nat) (M : am_M) (r0 : Nat) (x1 : Int32) (v2 v3 v4 v5 : Value) :
  am_ev 243 (d + 1) 2 [.ref r0, .int x1, v2, v3, v4, v5] [] M =
 am_br .eq x1 (am_i 0)
 (am_ev 243 (d + 1) 186 [.ref r0, .int x1, v2, v3, v4, v5] [] M)
 (am_ob M r0 6 (am_br .ne (am_I M r0 5) (am_i 0)
 (am_ev 243 (d + 1) 186 [.ref r0, .int x1, v2, v3, v4, v5] [] M)
 (am_ob M r0 6 (am_bI (am_cl 133 d [.ref r0] M) (fun c2 M1 => am_ob M1 r0 6 (am_bI (am_cl 240 d [.ref r0, .int (am_i 8), .int (am_i 9)] M1) (fun c4 M3 => am_br .ne c2 (am_i 40)
 (am_ob M3 r0 6 (am_gr (am_R M3 r0 81) (fun h5 => am_ob M3 r0 6 (am_bI (am_cl 134 d [.ref r0, .ref h5] M3) (fun c7 M6 => am_br .ne c7 (am_i 0)
 (am_ev 243 (d + 1) 78 [.ref r0, .int x1, .int c2, .int c4, v4, v5] [] M6)
 (am_ob M6 r0 6 (am_gr (am_R M6 r0 82) (fun h8 => am_ob M6 r0 6 (am_bI (am_cl 134 d [.ref r0, .ref h8] M6) (fun c10 M9 => am_br .eq c10 (am_i 0)
 (am_br .eq c4 (am_i (-1))
 (am_ev 243 (d + 1) 2 [.ref r0, .int (am_i 0), .int c2, .int c4, v4, v5] [] M9)
 (am_ob M9 r0 6 (am_ob M9 r0 6 (am_bV (am_cl 233 d [.ref r0, .int (((am_i 60) + c4) - (am_i 8)), .int (am_I M9 r0 2)] M9) (fun M11 => am_ob M11 r0 6 (am_bV (am_cl 241 d [.ref r0, .int c4] M11) (fun M12 => am_ev 243 (d + 1) 2 [.ref r0, .int x1, .int c2, .int c4, v4, v5] [] M12)) none)) none) none))
 (am_ev 243 (d + 1) 78 [.ref r0, .int x1, .int c2, .int c4, v4, v5] [] M9))) none) none) none))) none) none) none)
 (am_ob M3 r0 6 (am_ob M3 r0 6 (am_bV (am_cl 233 d [.ref r0, .int (am_i 20), .int (am_I M3 r0 2)] M3) (fun M13 => am_ob M13 r0 6 (am_ob M13 r0 6 (am_lt (am_sI M13 r0 2 ((am_I M13 r0 2) + (am_i 1))) (fun M14 => am_ev 243 (d + 1) 2 [.ref r0, .int x1, .int c2, .int c4, v4, v5] [] M14)) none) none)) none) none))) none)) none)) none) :=
  am_tree (cut := am_cut [2, 78, 118, 186, 212]) 44 rfl
set_option maxHeartbeats 2000000 in
set_option maxRecDepth 100000 in
theorem t243_78 (d : Nat) (M : am_M) (r0 : Nat) (x1 : Int32) (v2 v3 v4 v5 : Value) :
  am_ev 243 (d + 1) 78 [.ref r0, .int x1, v2, v3, v4, v5] [] M =
 am_ob M r0 6 (am_gr (am_R M r0 81) (fun h1 => am_ob M r0 6 (am_bI (am_cl 135 d [.ref r0, .ref h1] M) (fun c3 M2 => am_br .ne c3 (am_i 0)
 (am_ob M2 r0 6 (am_bI (am_cl 133 d [.ref r0] M2) (fun c5 M4 => am_br .ne c5 (am_i 40)
 (am_ev 243 (d + 1) 118 [.ref r0, .int x1, v2, (am_kl v3), .int c3, v5] [.int (am_i (-1))] M4)
 (am_ob M4 r0 6 (am_ev 243 (d + 1) 118 [.ref r0, .int x1, v2, (am_kl v3), .int c3, v5] [.int (am_I M4 r0 2)] M4) none))) none)
 (am_ob M2 r0 6 (am_gr (am_R M2 r0 82) (fun h6 => am_ob M2 r0 6 (am_bV (am_cl 136 d [.ref r0, .ref h6] M2) (fun M7 => am_ob M7 r0 6 (am_bI (am_cl 133 d [.ref r0] M7) (fun c9 M8 => am_br .ne c9 (am_i 40)
 (am_ev 243 (d + 1) 118 [.ref r0, .int x1, v2, (am_kl v3), .int c3, v5] [.int (am_i (-1))] M8)
 (am_ob M8 r0 6 (am_ev 243 (d + 1) 118 [.ref r0, .int x1, v2, (am_kl v3), .int c3, v5] [.int (am_I M8 r0 2)] M8) none))) none)) none) none) none))) none) none) none :=
  am_tree (cut := am_cut [2, 78, 118, 186, 212]) 19 rfl
set_option maxHeartbeats 2000000 in
set_option maxRecDepth 100000 in
theorem t243_118 (d : Nat) (M : am_M) (r0 : Nat) (x1 x4 sx0 : Int32) (v2 v3 v5 : Value) :
  am_ev 243 (d + 1) 118 [.ref r0, .int x1, v2, v3, .int x4, v5] [.int sx0] M =
 am_br .eq sx0 (am_i (-1))
 (am_ob M r0 6 (am_bV (am_cl 138 d [.ref r0, .int (am_i 40)] M) (fun M1 => am_ev 243 (d + 1) 2 [.ref r0, .int x1, v2, v3, .int x4, .int sx0] [] M1)) none)
 (am_br .eq x4 (am_i 0)
 (am_ob M r0 6 (am_bV (am_cl 233 d [.ref r0, .int (am_i 22), .int sx0] M) (fun M2 => am_ob M2 r0 6 (am_bV (am_cl 138 d [.ref r0, .int (am_i 40)] M2) (fun M3 => am_ev 243 (d + 1) 2 [.ref r0, .int x1, v2, v3, .int x4, .int sx0] [] M3)) none)) none)
 (am_ob M r0 6 (am_bV (am_cl 233 d [.ref r0, .int (am_i 21), .int sx0] M) (fun M4 => am_ob M4 r0 6 (am_bV (am_cl 138 d [.ref r0, .int (am_i 40)] M4) (fun M5 => am_ev 243 (d + 1) 2 [.ref r0, .int x1, v2, v3, .int x4, .int sx0] [] M5)) none)) none)) :=
  am_tree (cut := am_cut [2, 78, 118, 186, 212]) 17 rfl
set_option maxHeartbeats 2000000 in
set_option maxRecDepth 100000 in
theorem t243_186 (d : Nat) (M : am_M) (r0 : Nat) (v1 v2 v3 v4 v5 : Value) :
  am_ev 243 (d + 1) 186 [.ref r0, v1, v2, v3, v4, v5] [] M =
 am_ob M r0 6 (am_br .eq (am_I M r0 5) (am_i 0)
 (am_ob M r0 6 (am_bI (am_cl 240 d [.ref r0, .int (am_i 0), .int (am_i 8)] M) (fun c2 M1 => am_br .eq c2 (am_i (-1))
 (am_ev 243 (d + 1) 212 [.ref r0, (am_kl v1), .int c2, v3, v4, v5] [] M1)
 (am_ob M1 r0 6 (am_bV (am_cl 241 d [.ref r0, .int c2] M1) (fun M3 => am_ev 243 (d + 1) 212 [.ref r0, (am_kl v1), .int c2, v3, v4, v5] [] M3)) none))) none)
 (some (none, M))) none :=
  am_tree (cut := am_cut [2, 78, 118, 186, 212]) 15 rfl
set_option maxHeartbeats 2000000 in
set_option maxRecDepth 100000 in
theorem t243_212 (d : Nat) (M : am_M) (r0 : Nat) (v1 v3 v4 v5 : Value) (x2 : Int32) :
  am_ev 243 (d + 1) 212 [.ref r0, v1, .int x2, v3, v4, v5] [] M =
 am_br .eq x2 (am_i (-1))
 (am_ob M r0 6 (am_bI (am_cl 139 d [.ref r0, .int (am_i 0), .int (am_i 9999)] M) (fun c2 M1 => am_ob M1 r0 6 (am_bV (am_cl 232 d [.ref r0, .int ((am_i 1000) + c2)] M1) (fun M3 => am_ob M3 r0 6 (am_bV (am_cl 242 d [.ref r0] M3) (fun M4 => some (none, M4))) none)) none)) none)
 (am_ob M r0 6 (am_bV (am_cl 232 d [.ref r0, .int ((am_i 40) + x2)] M) (fun M5 => am_ob M5 r0 6 (am_bV (am_cl 242 d [.ref r0] M5) (fun M6 => some (none, M6))) none)) none) :=
  am_tree (cut := am_cut [2, 78, 118, 186, 212]) 15 rfl
-- 244: X6_qGoesOn
set_option maxHeartbeats 2000000 in
set_option maxRecDepth 100000 in
theorem t244 (d : Nat) (M : am_M) (r0 : Nat) :
  am_cl 244 (d + 1) [.ref r0] M =
 am_ev 244 (d + 1) 0 [.ref r0, .null] [] M :=
  rfl
set_option maxHeartbeats 2000000 in
set_option maxRecDepth 100000 in
theorem t244_0 (d : Nat) (M : am_M) (r0 : Nat) (v1 : Value) :
  am_ev 244 (d + 1) 0 [.ref r0, v1] [] M =
 am_ob M r0 6 (am_br .ne (am_I M r0 5) (am_i 0)
 (am_ev 244 (d + 1) 122 [.ref r0, v1] [] M)
 (am_ob M r0 6 (am_bI (am_cl 133 d [.ref r0] M) (fun c2 M1 => am_br .ne c2 (am_i 41)
 (am_ev 244 (d + 1) 122 [.ref r0, v1] [] M1)
 (am_ob M1 r0 6 (am_bI (am_cl 237 d [.ref r0] M1) (fun c4 M3 => am_br .eq c4 (am_i 20)
 (am_ev 244 (d + 1) 43 [.ref r0, v1] [] M3)
 (am_ob M3 r0 6 (am_bI (am_cl 237 d [.ref r0] M3) (fun c6 M5 => am_br .eq c6 (am_i 23)
 (am_ev 244 (d + 1) 43 [.ref r0, v1] [] M5)
 (am_ob M5 r0 6 (am_bI (am_cl 237 d [.ref r0] M5) (fun c8 M7 => am_br .ne c8 (am_i 24)
 (am_ev 244 (d + 1) 122 [.ref r0, v1] [] M7)
 (am_ev 244 (d + 1) 43 [.ref r0, v1] [] M7))) none))) none))) none))) none)) none :=
  am_tree (cut := am_cut [0, 43, 122, 140, 162, 225, 247, 326]) 20 rfl
set_option maxHeartbeats 2000000 in
set_option maxRecDepth 100000 in
theorem t244_43 (d : Nat) (M : am_M) (r0 : Nat) (v1 : Value) :
  am_ev 244 (d + 1) 43 [.ref r0, v1] [] M =
 am_ob M r0 6 (am_ob M r0 6 (am_lt (am_sI M r0 2 ((am_I M r0 2) + (am_i 1))) (fun M1 => am_ob M1 r0 6 (am_bV (am_cl 238 d [.ref r0] M1) (fun M2 => am_ob M2 r0 6 (am_ob M2 r0 6 (am_lt (am_sI M2 r0 94 ((am_I M2 r0 94) - (am_i 1))) (fun M3 => am_ob M3 r0 6 (am_ob M3 r0 6 (am_lt (am_sI M3 r0 95 ((am_I M3 r0 95) - (am_i 1))) (fun M4 => am_ob M4 r0 6 (am_gr (am_R M4 r0 93) (fun h5 => am_ob M4 r0 6 (am_ix M4 h5 2 (am_I M4 r0 94) (am_br .eq (am_I M4 h5 (am_I M4 r0 94).toNatClampNeg) (am_i 20)
 (am_ob M4 r0 6 (am_bV (am_cl 242 d [.ref r0] M4) (fun M6 => am_ev 244 (d + 1) 0 [.ref r0, v1] [] M6)) none)
 (am_ob M4 r0 6 (am_gr (am_R M4 r0 93) (fun h7 => am_ob M4 r0 6 (am_ix M4 h7 2 (am_I M4 r0 94) (am_br .ne (am_I M4 h7 (am_I M4 r0 94).toNatClampNeg) (am_i 23)
 (am_ob M4 r0 6 (am_bV (am_cl 232 d [.ref r0, .int (am_i 6)] M4) (fun M8 => am_ob M8 r0 6 (am_bV (am_cl 242 d [.ref r0] M8) (fun M9 => am_ev 244 (d + 1) 0 [.ref r0, v1] [] M9)) none)) none)
 (am_ob M4 r0 6 (am_bV (am_cl 232 d [.ref r0, .int (am_i 5)] M4) (fun M10 => am_ob M10 r0 6 (am_bV (am_cl 242 d [.ref r0] M10) (fun M11 => am_ev 244 (d + 1) 0 [.ref r0, v1] [] M11)) none)) none)) none) none) none) none)) none) none) none) none)) none) none)) none) none)) none)) none) none :=
  am_tree (cut := am_cut [0, 43, 122, 140, 162, 225, 247, 326]) 42 rfl
set_option maxHeartbeats 2000000 in
set_option maxRecDepth 100000 in
theorem t244_122 (d : Nat) (M : am_M) (r0 : Nat) (v1 : Value) :
  am_ev 244 (d + 1) 122 [.ref r0, v1] [] M =
 am_ob M r0 6 (am_bI (am_cl 137 d [.ref r0, .int (am_i 42)] M) (fun c2 M1 => am_br .ne c2 (am_i 0)
 (am_ev 244 (d + 1) 140 [.ref r0, v1] [] M1)
 (am_ob M1 r0 6 (am_bI (am_cl 137 d [.ref r0, .int (am_i 47)] M1) (fun c4 M3 => am_br .eq c4 (am_i 0)
 (am_ob M3 r0 6 (am_bI (am_cl 137 d [.ref r0, .int (am_i 43)] M3) (fun c6 M5 => am_br .ne c6 (am_i 0)
 (am_ev 244 (d + 1) 225 [.ref r0, v1] [] M5)
 (am_ob M5 r0 6 (am_bI (am_cl 137 d [.ref r0, .int (am_i 45)] M5) (fun c8 M7 => am_br .eq c8 (am_i 0)
 (am_ob M7 r0 6 (am_bI (am_cl 237 d [.ref r0] M7) (fun c10 M9 => am_br .eq c10 (am_i 21)
 (am_ev 244 (d + 1) 326 [.ref r0, v1] [] M9)
 (am_ob M9 r0 6 (am_bI (am_cl 237 d [.ref r0] M9) (fun c12 M11 => am_br .ne c12 (am_i 22)
 (am_ob M11 r0 6 (am_bI (am_cl 237 d [.ref r0] M11) (fun c14 M13 => am_br .eq c14 (am_i (-1))
 (am_tr (am_i 0) (some (some (.int (am_i 0)), M13)) none)
 (am_ob M13 r0 6 (am_br .ne (am_I M13 r0 5) (am_i 0)
 (am_tr (am_i 0) (some (some (.int (am_i 0)), M13)) none)
 (am_ob M13 r0 6 (am_ob M13 r0 6 (am_bV (am_cl 130 d [.ref r0, .int (am_i 1), .int (am_I M13 r0 2)] M13) (fun M15 => am_tr (am_i 0) (some (some (.int (am_i 0)), M15)) none)) none) none)) none))) none)
 (am_ev 244 (d + 1) 326 [.ref r0, v1] [] M11))) none))) none)
 (am_ev 244 (d + 1) 225 [.ref r0, v1] [] M7))) none))) none)
 (am_ev 244 (d + 1) 140 [.ref r0, v1] [] M3))) none))) none :=
  am_tree (cut := am_cut [0, 43, 122, 140, 162, 225, 247, 326]) 39 rfl
set_option maxHeartbeats 2000000 in
set_option maxRecDepth 100000 in
theorem t244_140 (d : Nat) (M : am_M) (r0 : Nat) (v1 : Value) :
  am_ev 244 (d + 1) 140 [.ref r0, v1] [] M =
 am_ob M r0 6 (am_gr (am_R M r0 0) (fun h1 => am_ob M r0 6 (am_ix M h1 2 ((am_I M r0 2) - (am_i 1)) (am_br .ne (am_I M h1 ((am_I M r0 2) - (am_i 1)).toNatClampNeg) (am_i 42)
 (am_ev 244 (d + 1) 162 [.ref r0, .int (am_i 4)] [] M)
 (am_ev 244 (d + 1) 162 [.ref r0, .int (am_i 3)] [] M)) none) none) none) none :=
  am_tree (cut := am_cut [0, 43, 122, 140, 162, 225, 247, 326]) 13 rfl
set_option maxHeartbeats 2000000 in
set_option maxRecDepth 100000 in
theorem t244_162 (d : Nat) (M : am_M) (r0 : Nat) (x1 : Int32) :
  am_ev 244 (d + 1) 162 [.ref r0, .int x1] [] M =
 am_ob M r0 6 (am_bI (am_cl 234 d [.ref r0, .int (am_i 3)] M) (fun c2 M1 => am_br .ne c2 (am_i 0)
 (am_ob M1 r0 6 (am_bV (am_cl 235 d [.ref r0] M1) (fun M3 => am_ev 244 (d + 1) 162 [.ref r0, .int x1] [] M3)) none)
 (am_ob M1 r0 6 (am_bI (am_cl 234 d [.ref r0, .int (am_i 4)] M1) (fun c5 M4 => am_br .eq c5 (am_i 0)
 (am_ob M4 r0 6 (am_gr (am_R M4 r0 93) (fun h6 => am_ob M4 r0 6 (am_iw M4 h6 2 (am_I M4 r0 94) (am_lt (am_sI M4 h6 (am_I M4 r0 94).toNatClampNeg x1) (fun M7 => am_ob M7 r0 6 (am_ob M7 r0 6 (am_lt (am_sI M7 r0 94 ((am_I M7 r0 94) + (am_i 1))) (fun M8 => am_tr (am_i 1) (some (some (.int (am_i 1)), M8)) none)) none) none)) none) none) none) none)
 (am_ob M4 r0 6 (am_bV (am_cl 235 d [.ref r0] M4) (fun M9 => am_ev 244 (d + 1) 162 [.ref r0, .int x1] [] M9)) none))) none))) none :=
  am_tree (cut := am_cut [0, 43, 122, 140, 162, 225, 247, 326]) 23 rfl
set_option maxHeartbeats 2000000 in
set_option maxRecDepth 100000 in
theorem t244_225 (d : Nat) (M : am_M) (r0 : Nat) (v1 : Value) :
  am_ev 244 (d + 1) 225 [.ref r0, v1] [] M =
 am_ob M r0 6 (am_gr (am_R M r0 0) (fun h1 => am_ob M r0 6 (am_ix M h1 2 ((am_I M r0 2) - (am_i 1)) (am_br .ne (am_I M h1 ((am_I M r0 2) - (am_i 1)).toNatClampNeg) (am_i 43)
 (am_ev 244 (d + 1) 247 [.ref r0, .int (am_i 2)] [] M)
 (am_ev 244 (d + 1) 247 [.ref r0, .int (am_i 1)] [] M)) none) none) none) none :=
  am_tree (cut := am_cut [0, 43, 122, 140, 162, 225, 247, 326]) 13 rfl
set_option maxHeartbeats 2000000 in
set_option maxRecDepth 100000 in
theorem t244_247 (d : Nat) (M : am_M) (r0 : Nat) (x1 : Int32) :
  am_ev 244 (d + 1) 247 [.ref r0, .int x1] [] M =
 am_ob M r0 6 (am_bI (am_cl 234 d [.ref r0, .int (am_i 3)] M) (fun c2 M1 => am_br .ne c2 (am_i 0)
 (am_ob M1 r0 6 (am_bV (am_cl 235 d [.ref r0] M1) (fun M3 => am_ev 244 (d + 1) 247 [.ref r0, .int x1] [] M3)) none)
 (am_ob M1 r0 6 (am_bI (am_cl 234 d [.ref r0, .int (am_i 4)] M1) (fun c5 M4 => am_br .ne c5 (am_i 0)
 (am_ob M4 r0 6 (am_bV (am_cl 235 d [.ref r0] M4) (fun M6 => am_ev 244 (d + 1) 247 [.ref r0, .int x1] [] M6)) none)
 (am_ob M4 r0 6 (am_bI (am_cl 234 d [.ref r0, .int (am_i 1)] M4) (fun c8 M7 => am_br .ne c8 (am_i 0)
 (am_ob M7 r0 6 (am_bV (am_cl 235 d [.ref r0] M7) (fun M9 => am_ev 244 (d + 1) 247 [.ref r0, .int x1] [] M9)) none)
 (am_ob M7 r0 6 (am_bI (am_cl 234 d [.ref r0, .int (am_i 2)] M7) (fun c11 M10 => am_br .eq c11 (am_i 0)
 (am_ob M10 r0 6 (am_gr (am_R M10 r0 93) (fun h12 => am_ob M10 r0 6 (am_iw M10 h12 2 (am_I M10 r0 94) (am_lt (am_sI M10 h12 (am_I M10 r0 94).toNatClampNeg x1) (fun M13 => am_ob M13 r0 6 (am_ob M13 r0 6 (am_lt (am_sI M13 r0 94 ((am_I M13 r0 94) + (am_i 1))) (fun M14 => am_tr (am_i 1) (some (some (.int (am_i 1)), M14)) none)) none) none)) none) none) none) none)
 (am_ob M10 r0 6 (am_bV (am_cl 235 d [.ref r0] M10) (fun M15 => am_ev 244 (d + 1) 247 [.ref r0, .int x1] [] M15)) none))) none))) none))) none))) none :=
  am_tree (cut := am_cut [0, 43, 122, 140, 162, 225, 247, 326]) 31 rfl
set_option maxHeartbeats 2000000 in
set_option maxRecDepth 100000 in
theorem t244_326 (d : Nat) (M : am_M) (r0 : Nat) (v1 : Value) :
  am_ev 244 (d + 1) 326 [.ref r0, v1] [] M =
 am_ob M r0 6 (am_bV (am_cl 138 d [.ref r0, .int (am_i 44)] M) (fun M1 => am_ob M1 r0 6 (am_br .eq (am_I M1 r0 5) (am_i 0)
 (am_ob M1 r0 6 (am_bV (am_cl 238 d [.ref r0] M1) (fun M2 => am_ob M2 r0 6 (am_gr (am_R M2 r0 93) (fun h3 => am_ob M2 r0 6 (am_ix M2 h3 2 ((am_I M2 r0 94) - (am_i 1)) (am_iw M2 h3 2 ((am_I M2 r0 94) - (am_i 1)) (am_lt (am_sI M2 h3 ((am_I M2 r0 94) - (am_i 1)).toNatClampNeg ((am_I M2 h3 ((am_I M2 r0 94) - (am_i 1)).toNatClampNeg) + (am_i 2))) (fun M4 => am_tr (am_i 1) (some (some (.int (am_i 1)), M4)) none)) none) none) none) none) none)) none)
 (am_tr (am_i 0) (some (some (.int (am_i 0)), M1)) none)) none)) none :=
  am_tree (cut := am_cut [0, 43, 122, 140, 162, 225, 247, 326]) 22 rfl
-- 245: X6_qSums
set_option maxHeartbeats 2000000 in
set_option maxRecDepth 100000 in
theorem t245 (d : Nat) (M : am_M) (r0 : Nat) :
  am_cl 245 (d + 1) [.ref r0] M =
 am_ob M r0 6 (am_ob M r0 6 (am_ob M r0 6 (am_lt (am_sI M r0 96 (am_I M r0 94)) (fun M1 => am_ev 245 (d + 1) 15 [.ref r0, .int (am_I M r0 96), .int (am_i 1)] [] M1)) none) none) none :=
  show am_ev 245 (d + 1) 0 [.ref r0, .null, .null] [] M = _ from am_tree (cut := am_cut [15, 53]) 10 rfl
set_option maxHeartbeats 2000000 in
set_option maxRecDepth 100000 in
theorem t245_15 (d : Nat) (M : am_M) (r0 : Nat) (x1 x2 : Int32) :
  am_ev 245 (d + 1) 15 [.ref r0, .int x1, .int x2] [] M =
 am_br .eq x2 (am_i 0)
 (am_ev 245 (d + 1) 53 [.ref r0, .int x1, .int x2] [] M)
 (am_ob M r0 6 (am_br .ne (am_I M r0 5) (am_i 0)
 (am_ev 245 (d + 1) 53 [.ref r0, .int x1, .int x2] [] M)
 (am_ob M r0 6 (am_bV (am_cl 243 d [.ref r0] M) (fun M1 => am_ob M1 r0 6 (am_br .ne (am_I M1 r0 5) (am_i 0)
 (am_ev 245 (d + 1) 15 [.ref r0, .int x1, .int (am_i 0)] [] M1)
 (am_ob M1 r0 6 (am_bI (am_cl 244 d [.ref r0] M1) (fun c3 M2 => am_br .eq c3 (am_i 0)
 (am_ev 245 (d + 1) 15 [.ref r0, .int x1, .int (am_i 0)] [] M2)
 (am_ev 245 (d + 1) 15 [.ref r0, .int x1, .int (am_i 1)] [] M2))) none)) none)) none)) none) :=
  am_tree (cut := am_cut [15, 53]) 18 rfl
set_option maxHeartbeats 2000000 in
set_option maxRecDepth 100000 in
theorem t245_53 (d : Nat) (M : am_M) (r0 : Nat) (x1 : Int32) (v2 : Value) :
  am_ev 245 (d + 1) 53 [.ref r0, .int x1, v2] [] M =
 am_ob M r0 6 (am_br .ne (am_I M r0 5) (am_i 0)
 (am_ob M r0 6 (am_lt (am_sI M r0 96 x1) (fun M1 => some (none, M1))) none)
 (am_ob M r0 6 (am_ob M r0 6 (am_br .le (am_I M r0 94) (am_I M r0 96)
 (am_ob M r0 6 (am_lt (am_sI M r0 96 x1) (fun M2 => some (none, M2))) none)
 (am_ob M r0 6 (am_bV (am_cl 235 d [.ref r0] M) (fun M3 => am_ev 245 (d + 1) 53 [.ref r0, .int x1, v2] [] M3)) none)) none) none)) none :=
  am_tree (cut := am_cut [15, 53]) 13 rfl
-- 246: X6_qFact
set_option maxHeartbeats 2000000 in
set_option maxRecDepth 100000 in
theorem t246 (d : Nat) (M : am_M) (r0 : Nat) :
  am_cl 246 (d + 1) [.ref r0] M =
 am_ob M r0 6 (am_gr (am_R M r0 80) (fun h1 => am_ob M r0 6 (am_bI (am_cl 135 d [.ref r0, .ref h1] M) (fun c3 M2 => am_br .eq c3 (am_i 0)
 (am_ob M2 r0 6 (am_bV (am_cl 245 d [.ref r0] M2) (fun M4 => am_ob M4 r0 6 (am_br .eq (am_I M4 r0 5) (am_i 0)
 (am_ob M4 r0 6 (am_bI (am_cl 133 d [.ref r0] M4) (fun c6 M5 => am_br .eq c6 (am_i 60)
 (am_ev 246 (d + 1) 63 [.ref r0, .int c6] [] M5)
 (am_br .eq c6 (am_i 62)
 (am_ev 246 (d + 1) 63 [.ref r0, .int c6] [] M5)
 (am_br .eq c6 (am_i 61)
 (am_ev 246 (d + 1) 63 [.ref r0, .int c6] [] M5)
 (am_ob M5 r0 6 (am_ob M5 r0 6 (am_bV (am_cl 130 d [.ref r0, .int (am_i 1), .int (am_I M5 r0 2)] M5) (fun M7 => some (none, M7))) none) none))))) none)
 (some (none, M4))) none)) none)
 (am_ob M2 r0 6 (am_bV (am_cl 232 d [.ref r0, .int (am_i 13)] M2) (fun M8 => some (none, M8))) none))) none) none) none :=
  show am_ev 246 (d + 1) 0 [.ref r0, .null] [] M = _ from am_tree (cut := am_cut [63]) 29 rfl
set_option maxHeartbeats 2000000 in
set_option maxRecDepth 100000 in
theorem t246_63 (d : Nat) (M : am_M) (r0 : Nat) (x1 : Int32) :
  am_ev 246 (d + 1) 63 [.ref r0, .int x1] [] M =
 am_ob M r0 6 (am_ob M r0 6 (am_lt (am_sI M r0 2 ((am_I M r0 2) + (am_i 1))) (fun M1 => am_ob M1 r0 6 (am_bV (am_cl 245 d [.ref r0] M1) (fun M2 => am_br .ne x1 (am_i 60)
 (am_br .ne x1 (am_i 62)
 (am_ob M2 r0 6 (am_bV (am_cl 232 d [.ref r0, .int (am_i 9)] M2) (fun M3 => some (none, M3))) none)
 (am_ob M2 r0 6 (am_bV (am_cl 232 d [.ref r0, .int (am_i 8)] M2) (fun M4 => some (none, M4))) none))
 (am_ob M2 r0 6 (am_bV (am_cl 232 d [.ref r0, .int (am_i 7)] M2) (fun M5 => some (none, M5))) none))) none)) none) none :=
  am_tree (cut := am_cut [63]) 20 rfl
-- 247: X6_qHasSquare
set_option maxHeartbeats 2000000 in
set_option maxRecDepth 100000 in
theorem t247 (d : Nat) (M : am_M) (r0 : Nat) :
  am_cl 247 d [.ref r0] M =
 am_ev 247 d 2 [.ref r0, .int (am_i 0)] [] M :=
  show am_ev 247 d 0 [.ref r0, .null] [] M = _ from am_tree (cut := am_cut [2]) 3 rfl
set_option maxHeartbeats 2000000 in
set_option maxRecDepth 100000 in
theorem t247_2 (d : Nat) (M : am_M) (r0 : Nat) (x1 : Int32) :
  am_ev 247 d 2 [.ref r0, .int x1] [] M =
 am_ob M r0 6 (am_br .ge x1 (am_I M r0 94)
 (am_tr (am_i 0) (some (some (.int (am_i 0)), M)) none)
 (am_ob M r0 6 (am_gr (am_R M r0 93) (fun h1 => am_ix M h1 2 x1 (am_br .ne (am_I M h1 x1.toNatClampNeg) (am_i 25)
 (am_ev 247 d 2 [.ref r0, .int (x1 + am_i 1)] [] M)
 (am_tr (am_i 1) (some (some (.int (am_i 1)), M)) none)) none) none) none)) none :=
  am_tree (cut := am_cut [2]) 13 rfl
-- 248: X6_qDropsNots
set_option maxHeartbeats 2000000 in
set_option maxRecDepth 100000 in
theorem t248 (d : Nat) (M : am_M) (r0 : Nat) :
  am_cl 248 (d + 1) [.ref r0] M =
 am_ev 248 (d + 1) 0 [.ref r0] [] M :=
  rfl
set_option maxHeartbeats 2000000 in
set_option maxRecDepth 100000 in
theorem t248_0 (d : Nat) (M : am_M) (r0 : Nat) :
  am_ev 248 (d + 1) 0 [.ref r0] [] M =
 am_ob M r0 6 (am_br .ne (am_I M r0 5) (am_i 0)
 (some (none, M))
 (am_ob M r0 6 (am_bI (am_cl 234 d [.ref r0, .int (am_i 12)] M) (fun c2 M1 => am_br .eq c2 (am_i 0)
 (some (none, M1))
 (am_ob M1 r0 6 (am_ob M1 r0 6 (am_lt (am_sI M1 r0 95 ((am_I M1 r0 95) - (am_i 1))) (fun M3 => am_ob M3 r0 6 (am_bV (am_cl 235 d [.ref r0] M3) (fun M4 => am_ev 248 (d + 1) 0 [.ref r0] [] M4)) none)) none) none))) none)) none :=
  am_tree (cut := am_cut [0]) 17 rfl
-- 249: X6_qTest
set_option maxHeartbeats 2000000 in
set_option maxRecDepth 100000 in
theorem t249 (d : Nat) (M : am_M) (r0 : Nat) :
  am_cl 249 (d + 1) [.ref r0] M =
 am_ev 249 (d + 1) 2 [.ref r0, .int (am_i 1), .null] [] M :=
  show am_ev 249 (d + 1) 0 [.ref r0, .null, .null] [] M = _ from am_tree (cut := am_cut [2, 110]) 3 rfl
set_option maxHeartbeats 2000000 in
set_option maxRecDepth 100000 in
theorem t249_2 (d : Nat) (M : am_M) (r0 : Nat) (x1 : Int32) (v2 : Value) :
  am_ev 249 (d + 1) 2 [.ref r0, .int x1, v2] [] M =
 am_br .eq x1 (am_i 0)
 (am_ev 249 (d + 1) 110 [.ref r0, .int x1, v2] [] M)
 (am_ob M r0 6 (am_br .ne (am_I M r0 5) (am_i 0)
 (am_ev 249 (d + 1) 110 [.ref r0, .int x1, v2] [] M)
 (am_ob M r0 6 (am_bI (am_cl 133 d [.ref r0] M) (fun c2 M1 => am_br .ne c2 (am_i 91)
 (am_ob M1 r0 6 (am_gr (am_R M1 r0 77) (fun h3 => am_ob M1 r0 6 (am_bI (am_cl 134 d [.ref r0, .ref h3] M1) (fun c5 M4 => am_br .eq c5 (am_i 0)
 (am_ob M4 r0 6 (am_bV (am_cl 246 d [.ref r0] M4) (fun M6 => am_ob M6 r0 6 (am_bV (am_cl 248 d [.ref r0] M6) (fun M7 => am_ob M7 r0 6 (am_br .ne (am_I M7 r0 5) (am_i 0)
 (am_ev 249 (d + 1) 2 [.ref r0, .int (am_i 0), .int c2] [] M7)
 (am_ob M7 r0 6 (am_bI (am_cl 250 d [.ref r0] M7) (fun c9 M8 => am_br .eq c9 (am_i 0)
 (am_ev 249 (d + 1) 2 [.ref r0, .int (am_i 0), .int c2] [] M8)
 (am_ev 249 (d + 1) 2 [.ref r0, .int (am_i 1), .int c2] [] M8))) none)) none)) none)) none)
 (am_ob M4 r0 6 (am_ob M4 r0 6 (am_bV (am_cl 233 d [.ref r0, .int (am_i 12), .int (am_I M4 r0 2)] M4) (fun M10 => am_ob M10 r0 6 (am_gr (am_R M10 r0 77) (fun h11 => am_ob M10 r0 6 (am_bV (am_cl 136 d [.ref r0, .ref h11] M10) (fun M12 => am_ev 249 (d + 1) 2 [.ref r0, .int x1, .int c2] [] M12)) none) none) none)) none) none))) none) none) none)
 (am_ob M1 r0 6 (am_ob M1 r0 6 (am_bV (am_cl 233 d [.ref r0, .int (am_i 25), .int (am_I M1 r0 2)] M1) (fun M13 => am_ob M13 r0 6 (am_ob M13 r0 6 (am_lt (am_sI M13 r0 2 ((am_I M13 r0 2) + (am_i 1))) (fun M14 => am_ev 249 (d + 1) 2 [.ref r0, .int x1, .int c2] [] M14)) none) none)) none) none))) none)) none) :=
  am_tree (cut := am_cut [2, 110]) 31 rfl
set_option maxHeartbeats 2000000 in
set_option maxRecDepth 100000 in
theorem t249_110 (d : Nat) (M : am_M) (r0 : Nat) (v1 v2 : Value) :
  am_ev 249 (d + 1) 110 [.ref r0, v1, v2] [] M =
 am_ob M r0 6 (am_br .ne (am_I M r0 5) (am_i 0)
 (some (none, M))
 (am_ob M r0 6 (am_br .le (am_I M r0 94) (am_i 0)
 (some (none, M))
 (am_ob M r0 6 (am_bV (am_cl 235 d [.ref r0] M) (fun M1 => am_ev 249 (d + 1) 110 [.ref r0, v1, v2] [] M1)) none)) none)) none :=
  am_tree (cut := am_cut [2, 110]) 10 rfl
-- 250: X6_qGoesOnTest
set_option maxHeartbeats 2000000 in
set_option maxRecDepth 100000 in
theorem t250 (d : Nat) (M : am_M) (r0 : Nat) :
  am_cl 250 (d + 1) [.ref r0] M =
 am_ev 250 (d + 1) 0 [.ref r0] [] M :=
  rfl
set_option maxHeartbeats 2000000 in
set_option maxRecDepth 100000 in
theorem t250_0 (d : Nat) (M : am_M) (r0 : Nat) :
  am_ev 250 (d + 1) 0 [.ref r0] [] M =
 am_ob M r0 6 (am_br .ne (am_I M r0 5) (am_i 0)
 (am_ev 250 (d + 1) 76 [.ref r0] [] M)
 (am_ob M r0 6 (am_bI (am_cl 133 d [.ref r0] M) (fun c2 M1 => am_br .ne c2 (am_i 93)
 (am_ev 250 (d + 1) 76 [.ref r0] [] M1)
 (am_ob M1 r0 6 (am_bI (am_cl 247 d [.ref r0] M1) (fun c4 M3 => am_br .eq c4 (am_i 0)
 (am_ev 250 (d + 1) 76 [.ref r0] [] M3)
 (am_ob M3 r0 6 (am_ob M3 r0 6 (am_lt (am_sI M3 r0 2 ((am_I M3 r0 2) + (am_i 1))) (fun M5 => am_ev 250 (d + 1) 33 [.ref r0] [] M5)) none) none))) none))) none)) none :=
  am_tree (cut := am_cut [0, 33, 76, 87, 137]) 17 rfl
set_option maxHeartbeats 2000000 in
set_option maxRecDepth 100000 in
theorem t250_33 (d : Nat) (M : am_M) (r0 : Nat) :
  am_ev 250 (d + 1) 33 [.ref r0] [] M =
 am_ob M r0 6 (am_bI (am_cl 234 d [.ref r0, .int (am_i 25)] M) (fun c2 M1 => am_br .ne c2 (am_i 0)
 (am_ob M1 r0 6 (am_ob M1 r0 6 (am_lt (am_sI M1 r0 94 ((am_I M1 r0 94) - (am_i 1))) (fun M3 => am_ob M3 r0 6 (am_ob M3 r0 6 (am_lt (am_sI M3 r0 95 ((am_I M3 r0 95) - (am_i 1))) (fun M4 => am_ob M4 r0 6 (am_bV (am_cl 248 d [.ref r0] M4) (fun M5 => am_ev 250 (d + 1) 0 [.ref r0] [] M5)) none)) none) none)) none) none)
 (am_ob M1 r0 6 (am_bV (am_cl 235 d [.ref r0] M1) (fun M6 => am_ev 250 (d + 1) 33 [.ref r0] [] M6)) none))) none :=
  am_tree (cut := am_cut [0, 33, 76, 87, 137]) 20 rfl
set_option maxHeartbeats 2000000 in
set_option maxRecDepth 100000 in
theorem t250_76 (d : Nat) (M : am_M) (r0 : Nat) :
  am_ev 250 (d + 1) 76 [.ref r0] [] M =
 am_ob M r0 6 (am_gr (am_R M r0 78) (fun h1 => am_ob M r0 6 (am_bI (am_cl 135 d [.ref r0, .ref h1] M) (fun c3 M2 => am_br .eq c3 (am_i 0)
 (am_ob M2 r0 6 (am_gr (am_R M2 r0 79) (fun h4 => am_ob M2 r0 6 (am_bI (am_cl 135 d [.ref r0, .ref h4] M2) (fun c6 M5 => am_br .eq c6 (am_i 0)
 (am_ob M5 r0 6 (am_br .ne (am_I M5 r0 5) (am_i 0)
 (am_tr (am_i 0) (some (some (.int (am_i 0)), M5)) none)
 (am_ob M5 r0 6 (am_bI (am_cl 247 d [.ref r0] M5) (fun c8 M7 => am_br .eq c8 (am_i 0)
 (am_tr (am_i 0) (some (some (.int (am_i 0)), M7)) none)
 (am_ob M7 r0 6 (am_ob M7 r0 6 (am_bV (am_cl 130 d [.ref r0, .int (am_i 1), .int (am_I M7 r0 2)] M7) (fun M9 => am_tr (am_i 0) (some (some (.int (am_i 0)), M9)) none)) none) none))) none)) none)
 (am_ev 250 (d + 1) 137 [.ref r0] [] M5))) none) none) none)
 (am_ev 250 (d + 1) 87 [.ref r0] [] M2))) none) none) none :=
  am_tree (cut := am_cut [0, 33, 76, 87, 137]) 24 rfl
set_option maxHeartbeats 2000000 in
set_option maxRecDepth 100000 in
theorem t250_87 (d : Nat) (M : am_M) (r0 : Nat) :
  am_ev 250 (d + 1) 87 [.ref r0] [] M =
 am_ob M r0 6 (am_bI (am_cl 234 d [.ref r0, .int (am_i 10)] M) (fun c2 M1 => am_br .eq c2 (am_i 0)
 (am_ob M1 r0 6 (am_gr (am_R M1 r0 93) (fun h3 => am_ob M1 r0 6 (am_iw M1 h3 2 (am_I M1 r0 94) (am_lt (am_sI M1 h3 (am_I M1 r0 94).toNatClampNeg (am_i 10)) (fun M4 => am_ob M4 r0 6 (am_ob M4 r0 6 (am_lt (am_sI M4 r0 94 ((am_I M4 r0 94) + (am_i 1))) (fun M5 => am_tr (am_i 1) (some (some (.int (am_i 1)), M5)) none)) none) none)) none) none) none) none)
 (am_ob M1 r0 6 (am_bV (am_cl 235 d [.ref r0] M1) (fun M6 => am_ev 250 (d + 1) 87 [.ref r0] [] M6)) none))) none :=
  am_tree (cut := am_cut [0, 33, 76, 87, 137]) 19 rfl
set_option maxHeartbeats 2000000 in
set_option maxRecDepth 100000 in
theorem t250_137 (d : Nat) (M : am_M) (r0 : Nat) :
  am_ev 250 (d + 1) 137 [.ref r0] [] M =
 am_ob M r0 6 (am_bI (am_cl 234 d [.ref r0, .int (am_i 10)] M) (fun c2 M1 => am_br .ne c2 (am_i 0)
 (am_ob M1 r0 6 (am_bV (am_cl 235 d [.ref r0] M1) (fun M3 => am_ev 250 (d + 1) 137 [.ref r0] [] M3)) none)
 (am_ob M1 r0 6 (am_bI (am_cl 234 d [.ref r0, .int (am_i 11)] M1) (fun c5 M4 => am_br .eq c5 (am_i 0)
 (am_ob M4 r0 6 (am_gr (am_R M4 r0 93) (fun h6 => am_ob M4 r0 6 (am_iw M4 h6 2 (am_I M4 r0 94) (am_lt (am_sI M4 h6 (am_I M4 r0 94).toNatClampNeg (am_i 11)) (fun M7 => am_ob M7 r0 6 (am_ob M7 r0 6 (am_lt (am_sI M7 r0 94 ((am_I M7 r0 94) + (am_i 1))) (fun M8 => am_tr (am_i 1) (some (some (.int (am_i 1)), M8)) none)) none) none)) none) none) none) none)
 (am_ob M4 r0 6 (am_bV (am_cl 235 d [.ref r0] M4) (fun M9 => am_ev 250 (d + 1) 137 [.ref r0] [] M9)) none))) none))) none :=
  am_tree (cut := am_cut [0, 33, 76, 87, 137]) 23 rfl
-- 251: X6_qClip
set_option maxHeartbeats 2000000 in
set_option maxRecDepth 100000 in
theorem t251 (d : Nat) (M : am_M) (y0 : Int64) :
  am_cl 251 d [.long y0] M =
 am_br .le (lg_cmp y0 (am_l 1000000)) (am_i 0)
 (am_br .ge (lg_cmp y0 (am_l (-1000000))) (am_i 0)
 (some (some (.long y0), M))
 (some (some (.long (am_l (-1000000))), M)))
 (some (some (.long (am_l 1000000)), M)) :=
  show am_ev 251 d 0 [.long y0, .null] [] M = _ from am_tree (cut := am_cut []) 12 rfl
-- 252: X6_qFloor
set_option maxHeartbeats 2000000 in
set_option maxRecDepth 100000 in
theorem t252 (d : Nat) (M : am_M) (y0 y2 : Int64) :
  am_cl 252 d [.long y0, .long y2] M =
 am_br .ne (lg_cmp y2 (am_l 0)) (am_i 0)
 (am_if (y2 = 0) none (am_if (y2 = 0) none (am_br .eq (lg_cmp (y0 - y0 / y2 * y2) (am_l 0)) (am_i 0)
 (some (some (.long (y0 / y2)), M))
 (am_br .ge (lg_cmp y0 (am_l 0)) (am_i 0)
 (am_ev 252 d 32 [.long y0, .null, .long y2, .null, .long (y0 / y2), .null] [.int (am_i 0)] M)
 (am_ev 252 d 32 [.long y0, .null, .long y2, .null, .long (y0 / y2), .null] [.int (am_i 1)] M)))))
 (some (some (.long (am_l 0)), M)) :=
  show am_ev 252 d 0 [.long y0, .null, .long y2, .null, .null, .null] [] M = _ from am_tree (cut := am_cut [32]) 21 rfl
set_option maxHeartbeats 2000000 in
set_option maxRecDepth 100000 in
theorem t252_32 (d : Nat) (M : am_M) (v0 v1 v3 v5 : Value) (y2 y4 : Int64) (sx0 : Int32) :
  am_ev 252 d 32 [v0, v1, .long y2, v3, .long y4, v5] [.int sx0] M =
 am_br .ge (lg_cmp y2 (am_l 0)) (am_i 0)
 (am_br .eq sx0 (am_i 0)
 (some (some (.long y4), M))
 (some (some (.long (y4 - (am_l 1))), M)))
 (am_br .eq sx0 (am_i 1)
 (some (some (.long y4), M))
 (some (some (.long (y4 - (am_l 1))), M))) :=
  am_tree (cut := am_cut [32]) 13 rfl
-- 253: X6_qPuts
set_option maxHeartbeats 2000000 in
set_option maxRecDepth 100000 in
theorem t253 (d : Nat) (M : am_M) (r0 : Nat) (y1 : Int64) :
  am_cl 253 d [.ref r0, .long y1] M =
 am_ob M r0 6 (am_gr (am_R M r0 97) (fun h1 => am_ob M r0 6 (am_iw M h1 3 (am_I M r0 98) (am_lt (am_sL M h1 (am_I M r0 98).toNatClampNeg y1) (fun M2 => am_ob M2 r0 6 (am_ob M2 r0 6 (am_lt (am_sI M2 r0 98 ((am_I M2 r0 98) + (am_i 1))) (fun M3 => some (none, M3))) none) none)) none) none) none) none :=
  show am_ev 253 d 0 [.ref r0, .long y1, .null] [] M = _ from am_tree (cut := am_cut []) 14 rfl
-- 254: X6_qJoins
set_option maxHeartbeats 2000000 in
set_option maxRecDepth 100000 in
theorem t254 (d : Nat) (M : am_M) (r0 : Nat) (x1 : Int32) :
  am_cl 254 (d + 1) [.ref r0, .int x1] M =
 am_ob M r0 6 (am_gr (am_R M r0 97) (fun h1 => am_ob M r0 6 (am_ix M h1 3 ((am_I M r0 98) - (am_i 1)) (am_lt (am_L M h1 ((am_I M r0 98) - (am_i 1)).toNatClampNeg) (fun u2 => am_ob M r0 6 (am_gr (am_R M r0 97) (fun h3 => am_ob M r0 6 (am_ix M h3 3 ((am_I M r0 98) - (am_i 2)) (am_lt (am_L M h3 ((am_I M r0 98) - (am_i 2)).toNatClampNeg) (fun u4 => am_ob M r0 6 (am_ob M r0 6 (am_lt (am_sI M r0 98 ((am_I M r0 98) - (am_i 2))) (fun M5 => am_si 1 x1 (am_bL (am_cl 251 d [.long (u4 + u2)] M5) (fun c7 M6 => am_ob M6 r0 6 (am_bV (am_cl 253 d [.ref r0, .long c7] M6) (fun M8 => some (none, M8))) none))
 (am_si 2 x1 (am_bL (am_cl 251 d [.long (u4 - u2)] M5) (fun c10 M9 => am_ob M9 r0 6 (am_bV (am_cl 253 d [.ref r0, .long c10] M9) (fun M11 => some (none, M11))) none))
 (am_si 3 x1 (am_bL (am_cl 251 d [.long (u4 * u2)] M5) (fun c13 M12 => am_ob M12 r0 6 (am_bV (am_cl 253 d [.ref r0, .long c13] M12) (fun M14 => some (none, M14))) none))
 (am_si 4 x1 (am_bL (am_cl 252 d [.long u4, .long u2] M5) (fun c16 M15 => am_ob M15 r0 6 (am_bV (am_cl 253 d [.ref r0, .long c16] M15) (fun M17 => some (none, M17))) none))
 (am_si 5 x1 (am_br .ge (lg_cmp u4 u2) (am_i 0)
 (am_ob M5 r0 6 (am_bV (am_cl 253 d [.ref r0, .long u2] M5) (fun M18 => some (none, M18))) none)
 (am_ob M5 r0 6 (am_bV (am_cl 253 d [.ref r0, .long u4] M5) (fun M19 => some (none, M19))) none))
 (am_si 6 x1 (am_br .le (lg_cmp u4 u2) (am_i 0)
 (am_ob M5 r0 6 (am_bV (am_cl 253 d [.ref r0, .long u2] M5) (fun M20 => some (none, M20))) none)
 (am_ob M5 r0 6 (am_bV (am_cl 253 d [.ref r0, .long u4] M5) (fun M21 => some (none, M21))) none))
 (am_si 7 x1 (am_br .ge (lg_cmp u4 u2) (am_i 0)
 (am_ob M5 r0 6 (am_bV (am_cl 253 d [.ref r0, .long (am_l 0)] M5) (fun M22 => some (none, M22))) none)
 (am_ob M5 r0 6 (am_bV (am_cl 253 d [.ref r0, .long (am_l 1)] M5) (fun M23 => some (none, M23))) none))
 (am_si 8 x1 (am_br .le (lg_cmp u4 u2) (am_i 0)
 (am_ob M5 r0 6 (am_bV (am_cl 253 d [.ref r0, .long (am_l 0)] M5) (fun M24 => some (none, M24))) none)
 (am_ob M5 r0 6 (am_bV (am_cl 253 d [.ref r0, .long (am_l 1)] M5) (fun M25 => some (none, M25))) none))
 (am_si 9 x1 (am_br .ne (lg_cmp u4 u2) (am_i 0)
 (am_ob M5 r0 6 (am_bV (am_cl 253 d [.ref r0, .long (am_l 0)] M5) (fun M26 => some (none, M26))) none)
 (am_ob M5 r0 6 (am_bV (am_cl 253 d [.ref r0, .long (am_l 1)] M5) (fun M27 => some (none, M27))) none))
 (am_si 10 x1 (am_ob M5 r0 6 (am_bV (am_cl 253 d [.ref r0, .long (u4 * u2)] M5) (fun M28 => some (none, M28))) none)
 (am_br .le (lg_cmp (u4 + u2) (am_l 0)) (am_i 0)
 (am_ob M5 r0 6 (am_bV (am_cl 253 d [.ref r0, .long (am_l 0)] M5) (fun M29 => some (none, M29))) none)
 (am_ob M5 r0 6 (am_bV (am_cl 253 d [.ref r0, .long (am_l 1)] M5) (fun M30 => some (none, M30))) none))))))))))))) none) none)) none) none) none) none)) none) none) none) none :=
  show am_ev 254 (d + 1) 0 [.ref r0, .int x1, .null, .null, .null, .null] [] M = _ from am_tree (cut := am_cut []) 36 rfl
-- 255: X6_qPartOf
set_option maxHeartbeats 2000000 in
set_option maxRecDepth 100000 in
theorem t255 (d : Nat) (M : am_M) (r0 : Nat) (x1 x2 : Int32) :
  am_cl 255 (d + 1) [.ref r0, .int x1, .int x2] M =
 am_si 0 x1 (am_ob M r0 6 (am_gr (am_R M r0 54) (fun h1 => am_ix M h1 2 (am_i 1) (some (some (.long (am_I M h1 (am_i 1).toNatClampNeg).toInt64), M)) none) none) none)
 (am_si 1 x1 (am_ob M r0 6 (some (some (.long (am_I M r0 58).toInt64), M)) none)
 (am_si 2 x1 (am_ob M r0 6 (some (some (.long (am_I M r0 59).toInt64), M)) none)
 (am_si 3 x1 (am_ob M r0 6 (am_bI (am_cl 164 d [.ref r0, .int x2] M) (fun c3 M2 => some (some (.long c3.toInt64), M2))) none)
 (am_si 4 x1 (am_ob M r0 6 (am_ob M r0 6 (am_bI (am_cl 173 d [.ref r0, .int (am_I M r0 57), .int x2] M) (fun c5 M4 => some (some (.long c5.toInt64), M4))) none) none)
 (am_si 5 x1 (am_ob M r0 6 (am_ob M r0 6 (am_bI (am_cl 174 d [.ref r0, .int (am_I M r0 57), .int x2] M) (fun c7 M6 => some (some (.long c7.toInt64), M6))) none) none)
 (am_si 6 x1 (some (some (.long x2.toInt64), M))
 (am_ob M r0 6 (am_ob M r0 6 (am_bI (am_cl 175 d [.ref r0, .int (am_I M r0 56), .int x2] M) (fun c9 M8 => some (some (.long c9.toInt64), M8))) none) none))))))) :=
  show am_ev 255 (d + 1) 0 [.ref r0, .int x1, .int x2] [] M = _ from am_tree (cut := am_cut []) 10 rfl
-- 256: X6_qOf
set_option maxHeartbeats 2000000 in
set_option maxRecDepth 100000 in
theorem t256 (d : Nat) (M : am_M) (r0 : Nat) (x1 x4 : Int32) (y2 : Int64) :
  am_cl 256 (d + 1) [.ref r0, .int x1, .long y2, .int x4] M =
 am_ob M r0 6 (am_bI (am_cl 158 d [.ref r0] M) (fun c2 M1 => am_bI (am_cl 127 d [.long y2, .long (am_l 0), .long (c2 - (am_i 1)).toInt64] M1) (fun c4 M3 => am_br .eq c4 (am_i 0)
 (some (some (.long (am_l 0)), M3))
 (am_ob M3 r0 6 (am_bI (am_cl 165 d [.ref r0, .int x4, .int y2.toInt32] M3) (fun c6 M5 => some (some (.long c6.toInt64), M5))) none)))) none :=
  show am_ev 256 (d + 1) 0 [.ref r0, .int x1, .long y2, .null, .int x4] [] M = _ from am_tree (cut := am_cut []) 20 rfl
-- 257: X6_qTold
set_option maxHeartbeats 2000000 in
set_option maxRecDepth 100000 in
theorem t257 (d : Nat) (M : am_M) (r0 : Nat) (x1 : Int32) :
  am_cl 257 (d + 1) [.ref r0, .int x1] M =
 am_ob M r0 6 (am_lt (am_sI M r0 98 (am_i 0)) (fun M1 => am_ev 257 (d + 1) 7 [.ref r0, .int x1, .int (am_i 0), .null] [] M1)) none :=
  show am_ev 257 (d + 1) 0 [.ref r0, .int x1, .null, .null] [] M = _ from am_tree (cut := am_cut [7]) 6 rfl
set_option maxHeartbeats 2000000 in
set_option maxRecDepth 100000 in
theorem t257_7 (d : Nat) (M : am_M) (r0 : Nat) (x1 x2 : Int32) (v3 : Value) :
  am_ev 257 (d + 1) 7 [.ref r0, .int x1, .int x2, v3] [] M =
 am_ob M r0 6 (am_br .ge x2 (am_I M r0 92)
 (am_ob M r0 6 (am_gr (am_R M r0 97) (fun h1 => am_ix M h1 3 (am_i 0) (some (some (.long (am_L M h1 (am_i 0).toNatClampNeg)), M)) none) none) none)
 (am_ob M r0 6 (am_gr (am_R M r0 91) (fun h2 => am_ix M h2 2 x2 (am_br .lt (am_I M h2 x2.toNatClampNeg) (am_i 1000)
 (am_br .lt (am_I M h2 x2.toNatClampNeg) (am_i 60)
 (am_br .lt (am_I M h2 x2.toNatClampNeg) (am_i 40)
 (am_br .ne (am_I M h2 x2.toNatClampNeg) (am_i 13)
 (am_br .ne (am_I M h2 x2.toNatClampNeg) (am_i 12)
 (am_ob M r0 6 (am_bV (am_cl 254 d [.ref r0, .int (am_I M h2 x2.toNatClampNeg)] M) (fun M3 => am_ev 257 (d + 1) 7 [.ref r0, .int x1, .int (x2 + am_i 1), .int (am_I M h2 x2.toNatClampNeg)] [] M3)) none)
 (am_ob M r0 6 (am_gr (am_R M r0 97) (fun h4 => am_ob M r0 6 (am_ob M r0 6 (am_gr (am_R M r0 97) (fun h5 => am_ob M r0 6 (am_ix M h5 3 ((am_I M r0 98) - (am_i 1)) (am_iw M h4 3 ((am_I M r0 98) - (am_i 1)) (am_lt (am_sL M h4 ((am_I M r0 98) - (am_i 1)).toNatClampNeg ((am_l 1) - (am_L M h5 ((am_I M r0 98) - (am_i 1)).toNatClampNeg))) (fun M6 => am_ev 257 (d + 1) 7 [.ref r0, .int x1, .int (x2 + am_i 1), .int (am_I M h2 x2.toNatClampNeg)] [] M6)) none) none) none) none) none) none) none) none))
 (am_ob M r0 6 (am_bV (am_cl 253 d [.ref r0, .long (am_l 1)] M) (fun M7 => am_ev 257 (d + 1) 7 [.ref r0, .int x1, .int (x2 + am_i 1), .int (am_I M h2 x2.toNatClampNeg)] [] M7)) none))
 (am_ob M r0 6 (am_bL (am_cl 255 d [.ref r0, .int ((am_I M h2 x2.toNatClampNeg) - (am_i 40)), .int x1] M) (fun c9 M8 => am_bL (am_cl 251 d [.long c9] M8) (fun c11 M10 => am_ob M10 r0 6 (am_bV (am_cl 253 d [.ref r0, .long c11] M10) (fun M12 => am_ev 257 (d + 1) 7 [.ref r0, .int x1, .int (x2 + am_i 1), .int (am_I M h2 x2.toNatClampNeg)] [] M12)) none))) none))
 (am_ob M r0 6 (am_gr (am_R M r0 97) (fun h13 => am_ob M r0 6 (am_ob M r0 6 (am_gr (am_R M r0 97) (fun h14 => am_ob M r0 6 (am_ix M h14 3 ((am_I M r0 98) - (am_i 1)) (am_ob M r0 6 (am_bL (am_cl 256 d [.ref r0, .int ((am_I M h2 x2.toNatClampNeg) - (am_i 60)), .long (am_L M h14 ((am_I M r0 98) - (am_i 1)).toNatClampNeg), .int x1] M) (fun c16 M15 => am_bL (am_cl 251 d [.long c16] M15) (fun c18 M17 => am_iw M17 h13 3 ((am_I M r0 98) - (am_i 1)) (am_lt (am_sL M17 h13 ((am_I M r0 98) - (am_i 1)).toNatClampNeg c18) (fun M19 => am_ev 257 (d + 1) 7 [.ref r0, .int x1, .int (x2 + am_i 1), .int (am_I M h2 x2.toNatClampNeg)] [] M19)) none))) none) none) none) none) none) none) none) none))
 (am_ob M r0 6 (am_bV (am_cl 253 d [.ref r0, .long ((am_I M h2 x2.toNatClampNeg) - (am_i 1000)).toInt64] M) (fun M20 => am_ev 257 (d + 1) 7 [.ref r0, .int x1, .int (x2 + am_i 1), .int (am_I M h2 x2.toNatClampNeg)] [] M20)) none)) none) none) none)) none :=
  am_tree (cut := am_cut [7]) 44 rfl
-- 258: X6_qKind
set_option maxHeartbeats 2000000 in
set_option maxRecDepth 100000 in
theorem t258 (d : Nat) (M : am_M) (r0 : Nat) :
  am_cl 258 (d + 1) [.ref r0] M =
 am_ob M r0 6 (am_gr (am_R M r0 71) (fun h1 => am_ob M r0 6 (am_bI (am_cl 135 d [.ref r0, .ref h1] M) (fun c3 M2 => am_br .eq c3 (am_i 0)
 (am_ob M2 r0 6 (am_gr (am_R M2 r0 72) (fun h4 => am_ob M2 r0 6 (am_bI (am_cl 135 d [.ref r0, .ref h4] M2) (fun c6 M5 => am_br .eq c6 (am_i 0)
 (am_ob M5 r0 6 (am_gr (am_R M5 r0 73) (fun h7 => am_ob M5 r0 6 (am_bI (am_cl 135 d [.ref r0, .ref h7] M5) (fun c9 M8 => am_br .eq c9 (am_i 0)
 (am_ob M8 r0 6 (am_gr (am_R M8 r0 74) (fun h10 => am_ob M8 r0 6 (am_bI (am_cl 135 d [.ref r0, .ref h10] M8) (fun c12 M11 => am_br .eq c12 (am_i 0)
 (am_ob M11 r0 6 (am_gr (am_R M11 r0 75) (fun h13 => am_ob M11 r0 6 (am_bI (am_cl 135 d [.ref r0, .ref h13] M11) (fun c15 M14 => am_br .eq c15 (am_i 0)
 (am_ev 258 (d + 1) 76 [.ref r0, .null] [.int (am_i 5)] M14)
 (am_ev 258 (d + 1) 76 [.ref r0, .null] [.int (am_i 4)] M14))) none) none) none)
 (am_ev 258 (d + 1) 76 [.ref r0, .null] [.int (am_i 3)] M11))) none) none) none)
 (am_ev 258 (d + 1) 76 [.ref r0, .null] [.int (am_i 2)] M8))) none) none) none)
 (am_ev 258 (d + 1) 76 [.ref r0, .null] [.int (am_i 1)] M5))) none) none) none)
 (am_ev 258 (d + 1) 76 [.ref r0, .null] [.int (am_i 0)] M2))) none) none) none :=
  show am_ev 258 (d + 1) 0 [.ref r0, .null] [] M = _ from am_tree (cut := am_cut [76]) 28 rfl
set_option maxHeartbeats 2000000 in
set_option maxRecDepth 100000 in
theorem t258_76 (d : Nat) (M : am_M) (r0 : Nat) (v1 : Value) (sx0 : Int32) :
  am_ev 258 (d + 1) 76 [.ref r0, v1] [.int sx0] M =
 am_br .ne sx0 (am_i 5)
 (some (some (.int sx0), M))
 (am_ob M r0 6 (am_gr (am_R M r0 76) (fun h1 => am_ob M r0 6 (am_bV (am_cl 136 d [.ref r0, .ref h1] M) (fun M2 => some (some (.int sx0), M2))) none) none) none) :=
  am_tree (cut := am_cut [76]) 11 rfl
-- 259: X6_qTakes
set_option maxHeartbeats 2000000 in
set_option maxRecDepth 100000 in
theorem t259 (d : Nat) (M : am_M) (r0 : Nat) (x1 x4 : Int32) (y2 : Int64) :
  am_cl 259 d [.ref r0, .int x1, .long y2, .int x4] M =
 am_br .ge x1 (am_i 3)
 (am_ev 259 d 16 [.ref r0, .int x1, .long y2, .null, .int x4, .null] [.int (am_i 0)] M)
 (am_br .ne (lg_cmp y2 (am_l 1)) (am_i 0)
 (am_ev 259 d 16 [.ref r0, .int x1, .long y2, .null, .int x4, .null] [.int (am_i 0)] M)
 (am_ev 259 d 16 [.ref r0, .int x1, .long y2, .null, .int x4, .null] [.int (am_i 1)] M)) :=
  show am_ev 259 d 0 [.ref r0, .int x1, .long y2, .null, .int x4, .null] [] M = _ from am_tree (cut := am_cut [16, 38, 55, 75, 90]) 10 rfl
set_option maxHeartbeats 2000000 in
set_option maxRecDepth 100000 in
theorem t259_16 (d : Nat) (M : am_M) (r0 : Nat) (x1 x4 sx0 : Int32) (y2 : Int64) (v3 v5 : Value) :
  am_ev 259 d 16 [.ref r0, .int x1, .long y2, v3, .int x4, v5] [.int sx0] M =
 am_br .ne x1 (am_i 0)
 (am_ev 259 d 38 [.ref r0, .int x1, .long y2, v3, .int x4, .int sx0] [] M)
 (am_br .eq sx0 (am_i 0)
 (am_ev 259 d 38 [.ref r0, .int x1, .long y2, v3, .int x4, .int sx0] [] M)
 (am_ob M r0 6 (am_br .eq (lg_cmp (am_L M r0 99) (am_l (-1))) (am_i 0)
 (am_ob M r0 6 (am_lt (am_sL M r0 99 x4.toInt64) (fun M1 => am_ev 259 d 55 [.ref r0, .int x1, .long y2, v3, .int x4, .int sx0] [] M1)) none)
 (am_ev 259 d 38 [.ref r0, .int x1, .long y2, v3, .int x4, .int sx0] [] M)) none)) :=
  am_tree (cut := am_cut [16, 38, 55, 75, 90]) 15 rfl
set_option maxHeartbeats 2000000 in
set_option maxRecDepth 100000 in
theorem t259_38 (d : Nat) (M : am_M) (r0 : Nat) (x1 x4 x5 : Int32) (y2 : Int64) (v3 : Value) :
  am_ev 259 d 38 [.ref r0, .int x1, .long y2, v3, .int x4, .int x5] [] M =
 am_br .ne x1 (am_i 1)
 (am_ev 259 d 55 [.ref r0, .int x1, .long y2, v3, .int x4, .int x5] [] M)
 (am_br .eq x5 (am_i 0)
 (am_ev 259 d 55 [.ref r0, .int x1, .long y2, v3, .int x4, .int x5] [] M)
 (am_ob M r0 6 (am_lt (am_sL M r0 99 x4.toInt64) (fun M1 => am_ev 259 d 55 [.ref r0, .int x1, .long y2, v3, .int x4, .int x5] [] M1)) none)) :=
  am_tree (cut := am_cut [16, 38, 55, 75, 90]) 10 rfl
set_option maxHeartbeats 2000000 in
set_option maxRecDepth 100000 in
theorem t259_55 (d : Nat) (M : am_M) (r0 : Nat) (x1 x5 : Int32) (y2 : Int64) (v3 v4 : Value) :
  am_ev 259 d 55 [.ref r0, .int x1, .long y2, v3, v4, .int x5] [] M =
 am_br .ne x1 (am_i 2)
 (am_ev 259 d 75 [.ref r0, .int x1, .long y2, v3, v4, .int x5] [] M)
 (am_br .eq x5 (am_i 0)
 (am_ev 259 d 75 [.ref r0, .int x1, .long y2, v3, v4, .int x5] [] M)
 (am_ob M r0 6 (am_ob M r0 6 (am_lt (am_sL M r0 99 ((am_L M r0 99) + (am_l 1))) (fun M1 => am_ev 259 d 75 [.ref r0, .int x1, .long y2, v3, v4, .int x5] [] M1)) none) none)) :=
  am_tree (cut := am_cut [16, 38, 55, 75, 90]) 12 rfl
set_option maxHeartbeats 2000000 in
set_option maxRecDepth 100000 in
theorem t259_75 (d : Nat) (M : am_M) (r0 : Nat) (x1 : Int32) (y2 : Int64) (v3 v4 v5 : Value) :
  am_ev 259 d 75 [.ref r0, .int x1, .long y2, v3, v4, v5] [] M =
 am_br .ne x1 (am_i 3)
 (am_ev 259 d 90 [.ref r0, .int x1, .long y2, v3, v4, v5] [] M)
 (am_ob M r0 6 (am_ob M r0 6 (am_lt (am_sL M r0 99 ((am_L M r0 99) + y2)) (fun M1 => am_ev 259 d 90 [.ref r0, .int x1, .long y2, v3, v4, v5] [] M1)) none) none) :=
  am_tree (cut := am_cut [16, 38, 55, 75, 90]) 10 rfl
set_option maxHeartbeats 2000000 in
set_option maxRecDepth 100000 in
theorem t259_90 (d : Nat) (M : am_M) (r0 : Nat) (x1 : Int32) (y2 : Int64) (v3 v4 v5 : Value) :
  am_ev 259 d 90 [.ref r0, .int x1, .long y2, v3, v4, v5] [] M =
 am_br .le x1 (am_i 3)
 (am_ob M r0 6 (am_tr (am_i 0) (am_lt (am_sI M r0 100 (am_i 0)) (fun M1 => some (none, M1))) none) none)
 (am_ob M r0 6 (am_br .ne (am_I M r0 100) (am_i 0)
 (am_ob M r0 6 (am_lt (am_sL M r0 99 y2) (fun M2 => am_ob M2 r0 6 (am_tr (am_i 0) (am_lt (am_sI M2 r0 100 (am_i 0)) (fun M3 => some (none, M3))) none) none)) none)
 (am_br .ne x1 (am_i 4)
 (am_ob M r0 6 (am_br .ge (lg_cmp y2 (am_L M r0 99)) (am_i 0)
 (am_ob M r0 6 (am_tr (am_i 0) (am_lt (am_sI M r0 100 (am_i 0)) (fun M4 => some (none, M4))) none) none)
 (am_ob M r0 6 (am_lt (am_sL M r0 99 y2) (fun M5 => am_ob M5 r0 6 (am_tr (am_i 0) (am_lt (am_sI M5 r0 100 (am_i 0)) (fun M6 => some (none, M6))) none) none)) none)) none)
 (am_ob M r0 6 (am_br .le (lg_cmp y2 (am_L M r0 99)) (am_i 0)
 (am_ob M r0 6 (am_tr (am_i 0) (am_lt (am_sI M r0 100 (am_i 0)) (fun M7 => some (none, M7))) none) none)
 (am_ob M r0 6 (am_lt (am_sL M r0 99 y2) (fun M8 => am_ob M8 r0 6 (am_tr (am_i 0) (am_lt (am_sI M8 r0 100 (am_i 0)) (fun M9 => some (none, M9))) none) none)) none)) none))) none) :=
  am_tree (cut := am_cut [16, 38, 55, 75, 90]) 23 rfl
-- 260: X6_ask
set_option maxHeartbeats 2000000 in
set_option maxRecDepth 100000 in
theorem t260 (d : Nat) (M : am_M) (r0 : Nat) (x1 : Int32) :
  am_cl 260 (d + 1) [.ref r0, .int x1] M =
 am_ob M r0 6 (am_bI (am_cl 163 d [.ref r0, .int x1] M) (fun c2 M1 => am_br .ne c2 (am_i 0)
 (am_ob M1 r0 6 (am_ob M1 r0 6 (am_lt (am_sI M1 r0 3 (am_I M1 r0 1)) (fun M3 => am_ob M3 r0 6 (am_lt (am_sI M3 r0 1 (am_i 0)) (fun M4 => am_ob M4 r0 6 (am_lt (am_sI M4 r0 2 (am_i 0)) (fun M5 => am_ob M5 r0 6 (am_lt (am_sI M5 r0 4 (am_i (-1))) (fun M6 => am_ob M6 r0 6 (am_lt (am_sI M6 r0 5 (am_i 0)) (fun M7 => am_ob M7 r0 6 (am_lt (am_sI M7 r0 6 (am_i (-1))) (fun M8 => am_ob M8 r0 6 (am_lt (am_sI M8 r0 53 (am_i 3)) (fun M9 => am_ob M9 r0 6 (am_lt (am_sI M9 r0 92 (am_i 0)) (fun M10 => am_ob M10 r0 6 (am_lt (am_sI M10 r0 94 (am_i 0)) (fun M11 => am_ob M11 r0 6 (am_lt (am_sI M11 r0 95 (am_i 0)) (fun M12 => am_ob M12 r0 6 (am_lt (am_sI M12 r0 96 (am_i 0)) (fun M13 => am_ob M13 r0 6 (am_bI (am_cl 258 d [.ref r0] M13) (fun c15 M14 => am_ob M14 r0 6 (am_br .ne (am_I M14 r0 5) (am_i 0)
 (am_ob M14 r0 6 (am_br .ne (am_I M14 r0 5) (am_i 0)
 (am_ev 260 (d + 1) 110 [.ref r0, .int x1, .int c15, .null] [] M14)
 (am_ob M14 r0 6 (am_bV (am_cl 245 d [.ref r0] M14) (fun M16 => am_ev 260 (d + 1) 110 [.ref r0, .int x1, .int c15, .null] [] M16)) none)) none)
 (am_br .ge c15 (am_i 3)
 (am_ob M14 r0 6 (am_br .ne (am_I M14 r0 5) (am_i 0)
 (am_ev 260 (d + 1) 110 [.ref r0, .int x1, .int c15, .null] [] M14)
 (am_ob M14 r0 6 (am_bV (am_cl 245 d [.ref r0] M14) (fun M17 => am_ev 260 (d + 1) 110 [.ref r0, .int x1, .int c15, .null] [] M17)) none)) none)
 (am_ob M14 r0 6 (am_bV (am_cl 249 d [.ref r0] M14) (fun M18 => am_ev 260 (d + 1) 110 [.ref r0, .int x1, .int c15, .null] [] M18)) none))) none)) none)) none)) none)) none)) none)) none)) none)) none)) none)) none)) none)) none) none)
 (am_ob M1 r0 6 (am_lt (am_sI M1 r0 1 (am_i 0)) (fun M19 => some (some (.long (am_l (-1000000000000000))), M19))) none))) none :=
  show am_ev 260 (d + 1) 0 [.ref r0, .int x1, .null, .null] [] M = _ from am_tree (cut := am_cut [110, 134, 174, 203]) 53 rfl
set_option maxHeartbeats 2000000 in
set_option maxRecDepth 100000 in
theorem t260_110 (d : Nat) (M : am_M) (r0 : Nat) (x1 x2 : Int32) (v3 : Value) :
  am_ev 260 (d + 1) 110 [.ref r0, .int x1, .int x2, v3] [] M =
 am_ob M r0 6 (am_br .ne (am_I M r0 5) (am_i 0)
 (am_ev 260 (d + 1) 134 [.ref r0, .int x1, .int x2, v3] [] M)
 (am_ob M r0 6 (am_bI (am_cl 133 d [.ref r0] M) (fun c2 M1 => am_br .eq c2 (am_i (-1))
 (am_ev 260 (d + 1) 134 [.ref r0, .int x1, .int x2, v3] [] M1)
 (am_ob M1 r0 6 (am_ob M1 r0 6 (am_bV (am_cl 130 d [.ref r0, .int (am_i 1), .int (am_I M1 r0 2)] M1) (fun M3 => am_ev 260 (d + 1) 134 [.ref r0, .int x1, .int x2, v3] [] M3)) none) none))) none)) none :=
  am_tree (cut := am_cut [110, 134, 174, 203]) 13 rfl
set_option maxHeartbeats 2000000 in
set_option maxRecDepth 100000 in
theorem t260_134 (d : Nat) (M : am_M) (r0 : Nat) (x1 x2 : Int32) (v3 : Value) :
  am_ev 260 (d + 1) 134 [.ref r0, .int x1, .int x2, v3] [] M =
 am_ob M r0 6 (am_ob M r0 6 (am_lt (am_sI M r0 7 (am_I M r0 5)) (fun M1 => am_ob M1 r0 6 (am_ob M1 r0 6 (am_lt (am_sI M1 r0 8 (am_I M1 r0 6)) (fun M2 => am_ob M2 r0 6 (am_br .eq (am_I M2 r0 5) (am_i 0)
 (am_br .ge x2 (am_i 2)
 (am_ev 260 (d + 1) 174 [.ref r0, .int x1, .int x2, v3] [.long (am_l 0), .ref r0] M2)
 (am_ev 260 (d + 1) 174 [.ref r0, .int x1, .int x2, v3] [.long (am_l (-1)), .ref r0] M2))
 (some (some (.long (am_l (-1000000000000000))), M2))) none)) none) none)) none) none :=
  am_tree (cut := am_cut [110, 134, 174, 203]) 18 rfl
set_option maxHeartbeats 2000000 in
set_option maxRecDepth 100000 in
theorem t260_174 (d : Nat) (M : am_M) (r0 sr0 : Nat) (x1 x2 : Int32) (v3 : Value) (sy1 : Int64) :
  am_ev 260 (d + 1) 174 [.ref r0, .int x1, .int x2, v3] [.long sy1, .ref sr0] M =
 am_ob M sr0 6 (am_lt (am_sL M sr0 99 sy1) (fun M1 => am_ob M1 r0 6 (am_tr (am_i 1) (am_lt (am_sI M1 r0 100 (am_i 1)) (fun M2 => am_ob M2 r0 6 (am_lt (am_sI M2 r0 56 x1) (fun M3 => am_ob M3 r0 6 (am_bI (am_cl 170 d [.ref r0, .int x1] M3) (fun c5 M4 => am_ob M4 r0 6 (am_lt (am_sI M4 r0 57 c5) (fun M6 => am_ob M6 r0 6 (am_lt (am_sI M6 r0 53 (am_i 3)) (fun M7 => am_ev 260 (d + 1) 203 [.ref r0, .int x1, .int x2, .int (am_i 0)] [] M7)) none)) none)) none)) none)) none) none)) none :=
  am_tree (cut := am_cut [110, 134, 174, 203]) 18 rfl
set_option maxHeartbeats 2000000 in
set_option maxRecDepth 100000 in
theorem t260_203 (d : Nat) (M : am_M) (r0 : Nat) (v1 : Value) (x2 x3 : Int32) :
  am_ev 260 (d + 1) 203 [.ref r0, v1, .int x2, .int x3] [] M =
 am_ob M r0 6 (am_bI (am_cl 159 d [.ref r0] M) (fun c2 M1 => am_br .ge x3 c2
 (am_ob M1 r0 6 (some (some (.long (am_L M1 r0 99)), M1)) none)
 (am_ob M1 r0 6 (am_bL (am_cl 257 d [.ref r0, .int x3] M1) (fun c4 M3 => am_ob M3 r0 6 (am_bV (am_cl 259 d [.ref r0, .int x2, .long c4, .int x3] M3) (fun M5 => am_ev 260 (d + 1) 203 [.ref r0, v1, .int x2, .int (x3 + am_i 1)] [] M5)) none)) none))) none :=
  am_tree (cut := am_cut [110, 134, 174, 203]) 14 rfl
-- 261: X6_checked
set_option maxHeartbeats 2000000 in
set_option maxRecDepth 100000 in
theorem t261 (d : Nat) (M : am_M) (r0 : Nat) (x1 : Int32) :
  am_cl 261 d [.ref r0, .int x1] M =
 am_ev 261 d 5 [.ref r0, .int x1, .int (am_i 53), .int (am_i 0)] [] M :=
  show am_ev 261 d 0 [.ref r0, .int x1, .null, .null] [] M = _ from am_tree (cut := am_cut [5]) 5 rfl
set_option maxHeartbeats 2000000 in
set_option maxRecDepth 100000 in
theorem t261_5 (d : Nat) (M : am_M) (r0 : Nat) (x1 x2 x3 : Int32) :
  am_ev 261 d 5 [.ref r0, .int x1, .int x2, .int x3] [] M =
 am_br .ge x3 x1
 (some (some (.int x2), M))
 (am_ix M r0 2 x3 (am_if ((am_i 251) = 0) none (am_lt (((am_i 3) * x2) + (am_I M r0 x3.toNatClampNeg)) (fun u1 => am_ev 261 d 5 [.ref r0, .int x1, .int (u1 - u1 / (am_i 251) * (am_i 251)), .int (x3 + am_i 1)] [] M))) none) :=
  am_tree (cut := am_cut [5]) 16 rfl
-- 262: X6_writes
set_option maxHeartbeats 2000000 in
set_option maxRecDepth 100000 in
theorem t262 (d : Nat) (M : am_M) (r0 : Nat) (x1 : Int32) :
  am_cl 262 d [.ref r0, .int x1] M =
 am_ob M r0 6 (am_gr (am_R M r0 101) (fun h1 => am_ob M r0 6 (am_iw M h1 2 (am_I M r0 102) (am_lt (am_sI M h1 (am_I M r0 102).toNatClampNeg x1) (fun M2 => am_ob M2 r0 6 (am_ob M2 r0 6 (am_lt (am_sI M2 r0 102 ((am_I M2 r0 102) + (am_i 1))) (fun M3 => some (none, M3))) none) none)) none) none) none) none :=
  show am_ev 262 d 0 [.ref r0, .int x1] [] M = _ from am_tree (cut := am_cut []) 14 rfl
-- 263: X6_writesTwo
set_option maxHeartbeats 2000000 in
set_option maxRecDepth 100000 in
theorem t263 (d : Nat) (M : am_M) (r0 : Nat) (x1 : Int32) :
  am_cl 263 (d + 1) [.ref r0, .int x1] M =
 am_if ((am_i 256) = 0) none (am_ob M r0 6 (am_bV (am_cl 262 d [.ref r0, .int (x1 / (am_i 256))] M) (fun M1 => am_if ((am_i 256) = 0) none (am_ob M1 r0 6 (am_bV (am_cl 262 d [.ref r0, .int (x1 - x1 / (am_i 256) * (am_i 256))] M1) (fun M2 => some (none, M2))) none))) none) :=
  show am_ev 263 (d + 1) 0 [.ref r0, .int x1] [] M = _ from am_tree (cut := am_cut []) 12 rfl
-- 264: X6_image
set_option maxHeartbeats 2000000 in
set_option maxRecDepth 100000 in
theorem t264 (d : Nat) (M : am_M) (r0 : Nat) :
  am_cl 264 (d + 1) [.ref r0] M =
 am_ob M r0 6 (am_lt (am_sI M r0 102 (am_i 0)) (fun M1 => am_ob M1 r0 6 (am_gr (am_R M1 r0 54) (fun h2 => am_ix M1 h2 2 (am_i 0) (am_ob M1 r0 6 (am_bV (am_cl 263 d [.ref r0, .int (am_I M1 h2 (am_i 0).toNatClampNeg)] M1) (fun M3 => am_ob M3 r0 6 (am_gr (am_R M3 r0 54) (fun h4 => am_ix M3 h4 2 (am_i 1) (am_ob M3 r0 6 (am_bV (am_cl 262 d [.ref r0, .int (am_I M3 h4 (am_i 1).toNatClampNeg)] M3) (fun M5 => am_ev 264 (d + 1) 27 [.ref r0, .int (am_i 0), .null] [] M5)) none) none) none) none)) none) none) none) none)) none :=
  show am_ev 264 (d + 1) 0 [.ref r0, .null, .null] [] M = _ from am_tree (cut := am_cut [27, 37, 68, 100]) 18 rfl
set_option maxHeartbeats 2000000 in
set_option maxRecDepth 100000 in
theorem t264_27 (d : Nat) (M : am_M) (r0 : Nat) (x1 : Int32) (v2 : Value) :
  am_ev 264 (d + 1) 27 [.ref r0, .int x1, v2] [] M =
 am_ob M r0 6 (am_bI (am_cl 160 d [.ref r0] M) (fun c2 M1 => am_br .gt x1 c2
 (am_ev 264 (d + 1) 100 [.ref r0, .int (am_i 0), v2] [] M1)
 (am_ev 264 (d + 1) 37 [.ref r0, .int x1, .int (am_i 0)] [] M1))) none :=
  am_tree (cut := am_cut [27, 37, 68, 100]) 7 rfl
set_option maxHeartbeats 2000000 in
set_option maxRecDepth 100000 in
theorem t264_37 (d : Nat) (M : am_M) (r0 : Nat) (x1 x2 : Int32) :
  am_ev 264 (d + 1) 37 [.ref r0, .int x1, .int x2] [] M =
 am_ob M r0 6 (am_bI (am_cl 158 d [.ref r0] M) (fun c2 M1 => am_br .ge x2 c2
 (am_ev 264 (d + 1) 68 [.ref r0, .int x1, .int (am_i 0)] [] M1)
 (am_ob M1 r0 6 (am_gr (am_R M1 r0 54) (fun h3 => am_ob M1 r0 6 (am_bI (am_cl 171 d [.ref r0, .int x1, .int x2] M1) (fun c5 M4 => am_ix M4 h3 2 c5 (am_ob M4 r0 6 (am_bV (am_cl 263 d [.ref r0, .int (am_I M4 h3 c5.toNatClampNeg)] M4) (fun M6 => am_ev 264 (d + 1) 37 [.ref r0, .int x1, .int (x2 + am_i 1)] [] M6)) none) none)) none) none) none))) none :=
  am_tree (cut := am_cut [27, 37, 68, 100]) 16 rfl
set_option maxHeartbeats 2000000 in
set_option maxRecDepth 100000 in
theorem t264_68 (d : Nat) (M : am_M) (r0 : Nat) (x1 x2 : Int32) :
  am_ev 264 (d + 1) 68 [.ref r0, .int x1, .int x2] [] M =
 am_ob M r0 6 (am_bI (am_cl 159 d [.ref r0] M) (fun c2 M1 => am_br .ge x2 c2
 (am_ev 264 (d + 1) 27 [.ref r0, .int (x1 + am_i 1), .int x2] [] M1)
 (am_ob M1 r0 6 (am_bI (am_cl 173 d [.ref r0, .int x1, .int x2] M1) (fun c4 M3 => am_ob M3 r0 6 (am_bV (am_cl 262 d [.ref r0, .int c4] M3) (fun M5 => am_ev 264 (d + 1) 68 [.ref r0, .int x1, .int (x2 + am_i 1)] [] M5)) none)) none))) none :=
  am_tree (cut := am_cut [27, 37, 68, 100]) 13 rfl
set_option maxHeartbeats 2000000 in
set_option maxRecDepth 100000 in
theorem t264_100 (d : Nat) (M : am_M) (r0 : Nat) (x1 : Int32) (v2 : Value) :
  am_ev 264 (d + 1) 100 [.ref r0, .int x1, v2] [] M =
 am_ob M r0 6 (am_bI (am_cl 160 d [.ref r0] M) (fun c2 M1 => am_br .ge x1 c2
 (am_ob M1 r0 6 (am_gr (am_R M1 r0 101) (fun h3 => am_ob M1 r0 6 (am_bI (am_cl 261 d [.ref h3, .int (am_I M1 r0 102)] M1) (fun c5 M4 => am_ob M4 r0 6 (am_bV (am_cl 262 d [.ref r0, .int c5] M4) (fun M6 => am_ob M6 r0 6 (some (some (.int (am_I M6 r0 102)), M6)) none)) none)) none) none) none)
 (am_ob M1 r0 6 (am_gr (am_R M1 r0 54) (fun h7 => am_ix M1 h7 2 ((am_i 86) + ((am_i 2) * x1)) (am_ob M1 r0 6 (am_bV (am_cl 262 d [.ref r0, .int (am_I M1 h7 ((am_i 86) + ((am_i 2) * x1)).toNatClampNeg)] M1) (fun M8 => am_ob M8 r0 6 (am_bI (am_cl 193 d [.ref r0, .int x1] M8) (fun c10 M9 => am_ob M9 r0 6 (am_bV (am_cl 263 d [.ref r0, .int c10] M9) (fun M11 => am_ev 264 (d + 1) 100 [.ref r0, .int (x1 + am_i 1), v2] [] M11)) none)) none)) none) none) none) none))) none :=
  am_tree (cut := am_cut [27, 37, 68, 100]) 22 rfl
-- 265: X6_octet
set_option maxHeartbeats 2000000 in
set_option maxRecDepth 100000 in
theorem t265 (d : Nat) (M : am_M) (r0 : Nat) (x1 : Int32) :
  am_cl 265 d [.ref r0, .int x1] M =
 am_br .lt x1 (am_i 0)
 (some (some (.int (am_i (-1))), M))
 (am_ob M r0 6 (am_br .ge x1 (am_I M r0 102)
 (some (some (.int (am_i (-1))), M))
 (am_ob M r0 6 (am_gr (am_R M r0 101) (fun h1 => am_ix M h1 2 x1 (some (some (.int (am_I M h1 x1.toNatClampNeg)), M)) none) none) none)) none) :=
  show am_ev 265 d 0 [.ref r0, .int x1] [] M = _ from am_tree (cut := am_cut []) 13 rfl
-- 266: X6_twoAt
set_option maxHeartbeats 2000000 in
set_option maxRecDepth 100000 in
theorem t266 (d : Nat) (M : am_M) (r0 : Nat) (x1 : Int32) :
  am_cl 266 d [.ref r0, .int x1] M =
 am_ob M r0 6 (am_gr (am_R M r0 0) (fun h1 => am_ix M h1 2 x1 (am_ob M r0 6 (am_gr (am_R M r0 0) (fun h2 => am_ix M h2 2 (x1 + (am_i 1)) (some (some (.int (((am_i 256) * (am_I M h1 x1.toNatClampNeg)) + (am_I M h2 (x1 + (am_i 1)).toNatClampNeg))), M)) none) none) none) none) none) none :=
  show am_ev 266 d 0 [.ref r0, .int x1] [] M = _ from am_tree (cut := am_cut []) 15 rfl
-- 267: X6_profileFrom
set_option maxHeartbeats 2000000 in
set_option maxRecDepth 100000 in
theorem t267 (d : Nat) (M : am_M) (r0 : Nat) (x1 : Int32) :
  am_cl 267 (d + 1) [.ref r0, .int x1] M =
 am_ob M r0 6 (am_bI (am_cl 158 d [.ref r0] M) (fun c2 M1 => am_ob M1 r0 6 (am_bI (am_cl 159 d [.ref r0] M1) (fun c4 M3 => some (some (.int ((am_i 3) + (x1 * (((am_i 2) * c2) + c4)))), M3))) none)) none :=
  show am_ev 267 (d + 1) 0 [.ref r0, .int x1] [] M = _ from am_tree (cut := am_cut []) 13 rfl
-- 268: X6_isProfileTold
set_option maxHeartbeats 2000000 in
set_option maxRecDepth 100000 in
theorem t268 (d : Nat) (M : am_M) (r0 : Nat) (x1 : Int32) :
  am_cl 268 (d + 1) [.ref r0, .int x1] M =
 am_ob M r0 6 (am_bI (am_cl 267 d [.ref r0, .int x1] M) (fun c2 M1 => am_ev 268 (d + 1) 8 [.ref r0, .int x1, .int c2, .int (am_i 0)] [] M1)) none :=
  show am_ev 268 (d + 1) 0 [.ref r0, .int x1, .null, .null] [] M = _ from am_tree (cut := am_cut [8, 50]) 7 rfl
set_option maxHeartbeats 2000000 in
set_option maxRecDepth 100000 in
theorem t268_8 (d : Nat) (M : am_M) (r0 : Nat) (v1 : Value) (x2 x3 : Int32) :
  am_ev 268 (d + 1) 8 [.ref r0, v1, .int x2, .int x3] [] M =
 am_ob M r0 6 (am_bI (am_cl 158 d [.ref r0] M) (fun c2 M1 => am_br .ge x3 c2
 (am_ob M1 r0 6 (am_bI (am_cl 158 d [.ref r0] M1) (fun c4 M3 => am_ev 268 (d + 1) 50 [.ref r0, (am_kl v1), .int (x2 + ((am_i 2) * c4)), .int (am_i 0)] [] M3)) none)
 (am_ob M1 r0 6 (am_bI (am_cl 266 d [.ref r0, .int (x2 + ((am_i 2) * x3))] M1) (fun c6 M5 => am_br .le c6 (am_i 999)
 (am_ev 268 (d + 1) 8 [.ref r0, v1, .int x2, .int (x3 + am_i 1)] [] M5)
 (am_tr (am_i 0) (some (some (.int (am_i 0)), M5)) none))) none))) none :=
  am_tree (cut := am_cut [8, 50]) 16 rfl
set_option maxHeartbeats 2000000 in
set_option maxRecDepth 100000 in
theorem t268_50 (d : Nat) (M : am_M) (r0 : Nat) (v1 : Value) (x2 x3 : Int32) :
  am_ev 268 (d + 1) 50 [.ref r0, v1, .int x2, .int x3] [] M =
 am_ob M r0 6 (am_bI (am_cl 159 d [.ref r0] M) (fun c2 M1 => am_br .ge x3 c2
 (am_tr (am_i 1) (some (some (.int (am_i 1)), M1)) none)
 (am_ob M1 r0 6 (am_gr (am_R M1 r0 0) (fun h3 => am_ix M1 h3 2 (x2 + x3) (am_ob M1 r0 6 (am_bI (am_cl 164 d [.ref r0, .int x3] M1) (fun c5 M4 => am_br .le (am_I M1 h3 (x2 + x3).toNatClampNeg) c5
 (am_ev 268 (d + 1) 50 [.ref r0, v1, .int x2, .int (x3 + am_i 1)] [] M4)
 (am_tr (am_i 0) (some (some (.int (am_i 0)), M4)) none))) none) none) none) none))) none :=
  am_tree (cut := am_cut [8, 50]) 17 rfl
-- 269: X6_isImage
set_option maxHeartbeats 2000000 in
set_option maxRecDepth 100000 in
theorem t269 (d : Nat) (M : am_M) (r0 : Nat) (x1 : Int32) :
  am_cl 269 (d + 1) [.ref r0, .int x1] M =
 am_ob M r0 6 (am_bI (am_cl 160 d [.ref r0] M) (fun c2 M1 => am_ob M1 r0 6 (am_bI (am_cl 267 d [.ref r0, .int ((am_i 1) + c2)] M1) (fun c4 M3 => am_ob M3 r0 6 (am_bI (am_cl 160 d [.ref r0] M3) (fun c6 M5 => am_br .ne x1 ((c4 + ((am_i 3) * c6)) + (am_i 1))
 (am_tr (am_i 0) (some (some (.int (am_i 0)), M5)) none)
 (am_ob M5 r0 6 (am_gr (am_R M5 r0 0) (fun h7 => am_ix M5 h7 2 (x1 - (am_i 1)) (am_ob M5 r0 6 (am_gr (am_R M5 r0 0) (fun h8 => am_bI (am_cl 261 d [.ref h8, .int (x1 - (am_i 1))] M5) (fun c10 M9 => am_br .ne (am_I M5 h7 (x1 - (am_i 1)).toNatClampNeg) c10
 (am_tr (am_i 0) (some (some (.int (am_i 0)), M9)) none)
 (am_ob M9 r0 6 (am_bI (am_cl 266 d [.ref r0, .int (am_i 0)] M9) (fun c12 M11 => am_br .gt c12 (am_i 999)
 (am_tr (am_i 0) (some (some (.int (am_i 0)), M11)) none)
 (am_ob M11 r0 6 (am_gr (am_R M11 r0 0) (fun h13 => am_ix M11 h13 2 (am_i 2) (am_br .lt (am_I M11 h13 (am_i 2).toNatClampNeg) (am_i 24)
 (am_ev 269 (d + 1) 72 [.ref r0, .int x1, .int c4, .int (am_i 0)] [] M11)
 (am_tr (am_i 0) (some (some (.int (am_i 0)), M11)) none)) none) none) none))) none))) none) none) none) none) none))) none)) none)) none :=
  show am_ev 269 (d + 1) 0 [.ref r0, .int x1, .null, .null] [] M = _ from am_tree (cut := am_cut [72, 98]) 44 rfl
set_option maxHeartbeats 2000000 in
set_option maxRecDepth 100000 in
theorem t269_72 (d : Nat) (M : am_M) (r0 : Nat) (v1 : Value) (x2 x3 : Int32) :
  am_ev 269 (d + 1) 72 [.ref r0, v1, .int x2, .int x3] [] M =
 am_ob M r0 6 (am_bI (am_cl 160 d [.ref r0] M) (fun c2 M1 => am_br .gt x3 c2
 (am_ev 269 (d + 1) 98 [.ref r0, v1, .int x2, .int (am_i 0)] [] M1)
 (am_ob M1 r0 6 (am_bI (am_cl 268 d [.ref r0, .int x3] M1) (fun c4 M3 => am_br .ne c4 (am_i 0)
 (am_ev 269 (d + 1) 72 [.ref r0, v1, .int x2, .int (x3 + am_i 1)] [] M3)
 (am_tr (am_i 0) (some (some (.int (am_i 0)), M3)) none))) none))) none :=
  am_tree (cut := am_cut [72, 98]) 11 rfl
set_option maxHeartbeats 2000000 in
set_option maxRecDepth 100000 in
theorem t269_98 (d : Nat) (M : am_M) (r0 : Nat) (v1 : Value) (x2 x3 : Int32) :
  am_ev 269 (d + 1) 98 [.ref r0, v1, .int x2, .int x3] [] M =
 am_ob M r0 6 (am_bI (am_cl 160 d [.ref r0] M) (fun c2 M1 => am_br .ge x3 c2
 (am_tr (am_i 1) (some (some (.int (am_i 1)), M1)) none)
 (am_ob M1 r0 6 (am_gr (am_R M1 r0 0) (fun h3 => am_ix M1 h3 2 (x2 + ((am_i 3) * x3)) (am_br .gt (am_I M1 h3 (x2 + ((am_i 3) * x3)).toNatClampNeg) (am_i 1)
 (am_tr (am_i 0) (some (some (.int (am_i 0)), M1)) none)
 (am_ob M1 r0 6 (am_bI (am_cl 266 d [.ref r0, .int ((x2 + (am_i 1)) + ((am_i 3) * x3))] M1) (fun c5 M4 => am_br .le c5 (am_i 9999)
 (am_ev 269 (d + 1) 98 [.ref r0, v1, .int x2, .int (x3 + am_i 1)] [] M4)
 (am_tr (am_i 0) (some (some (.int (am_i 0)), M4)) none))) none)) none) none) none))) none :=
  am_tree (cut := am_cut [72, 98]) 28 rfl
-- 270: X6_on
set_option maxHeartbeats 2000000 in
set_option maxRecDepth 100000 in
theorem t270 (d : Nat) (M : am_M) (r0 : Nat) :
  am_cl 270 (d + 1) [.ref r0] M =
 am_ob M r0 6 (am_ob M r0 6 (am_lt (am_sI M r0 1 (am_i 0)) (fun M1 => am_ob M1 r0 6 (am_bI (am_cl 269 d [.ref r0, .int (am_I M r0 1)] M1) (fun c3 M2 => am_br .ne c3 (am_i 0)
 (am_ob M2 r0 6 (am_gr (am_R M2 r0 54) (fun h4 => am_ob M2 r0 6 (am_bI (am_cl 266 d [.ref r0, .int (am_i 0)] M2) (fun c6 M5 => am_iw M5 h4 2 (am_i 0) (am_lt (am_sI M5 h4 (am_i 0).toNatClampNeg c6) (fun M7 => am_ob M7 r0 6 (am_gr (am_R M7 r0 54) (fun h8 => am_ob M7 r0 6 (am_gr (am_R M7 r0 0) (fun h9 => am_ix M7 h9 2 (am_i 2) (am_iw M7 h8 2 (am_i 1) (am_lt (am_sI M7 h8 (am_i 1).toNatClampNeg (am_I M7 h9 (am_i 2).toNatClampNeg)) (fun M10 => am_ev 270 (d + 1) 55 [.ref r0, .int (am_I M r0 1), .int (am_i 0), .null, .null] [] M10)) none) none) none) none) none) none)) none)) none) none) none)
 (am_ob M2 r0 6 (am_gr (am_R M2 r0 9) (fun h11 => am_ix M2 h11 2 (am_i 5) (am_iw M2 h11 2 (am_i 5) (am_lt (am_sI M2 h11 (am_i 5).toNatClampNeg ((am_I M2 h11 (am_i 5).toNatClampNeg) + (am_i 1))) (fun M12 => am_tr (am_i 0) (some (some (.int (am_i 0)), M12)) none)) none) none) none) none))) none)) none) none :=
  show am_ev 270 (d + 1) 0 [.ref r0, .null, .null, .null, .null] [] M = _ from am_tree (cut := am_cut [55, 72, 112, 174]) 28 rfl
set_option maxHeartbeats 2000000 in
set_option maxRecDepth 100000 in
theorem t270_55 (d : Nat) (M : am_M) (r0 : Nat) (v1 v3 v4 : Value) (x2 : Int32) :
  am_ev 270 (d + 1) 55 [.ref r0, v1, .int x2, v3, v4] [] M =
 am_ob M r0 6 (am_bI (am_cl 160 d [.ref r0] M) (fun c2 M1 => am_br .gt x2 c2
 (am_ob M1 r0 6 (am_bI (am_cl 160 d [.ref r0] M1) (fun c4 M3 => am_ob M3 r0 6 (am_bI (am_cl 267 d [.ref r0, .int ((am_i 1) + c4)] M3) (fun c6 M5 => am_ev 270 (d + 1) 174 [.ref r0, (am_kl v1), .int c6, .int (am_i 0), v4] [] M5)) none)) none)
 (am_ob M1 r0 6 (am_bI (am_cl 267 d [.ref r0, .int x2] M1) (fun c8 M7 => am_ev 270 (d + 1) 72 [.ref r0, v1, .int x2, .int c8, .int (am_i 0)] [] M7)) none))) none :=
  am_tree (cut := am_cut [55, 72, 112, 174]) 14 rfl
set_option maxHeartbeats 2000000 in
set_option maxRecDepth 100000 in
theorem t270_72 (d : Nat) (M : am_M) (r0 : Nat) (v1 : Value) (x2 x3 x4 : Int32) :
  am_ev 270 (d + 1) 72 [.ref r0, v1, .int x2, .int x3, .int x4] [] M =
 am_ob M r0 6 (am_bI (am_cl 158 d [.ref r0] M) (fun c2 M1 => am_br .ge x4 c2
 (am_ev 270 (d + 1) 112 [.ref r0, v1, .int x2, .int x3, .int (am_i 0)] [] M1)
 (am_ob M1 r0 6 (am_gr (am_R M1 r0 54) (fun h3 => am_ob M1 r0 6 (am_bI (am_cl 171 d [.ref r0, .int x2, .int x4] M1) (fun c5 M4 => am_ob M4 r0 6 (am_bI (am_cl 266 d [.ref r0, .int (x3 + ((am_i 2) * x4))] M4) (fun c7 M6 => am_iw M6 h3 2 c5 (am_lt (am_sI M6 h3 c5.toNatClampNeg c7) (fun M8 => am_ev 270 (d + 1) 72 [.ref r0, v1, .int x2, .int x3, .int (x4 + am_i 1)] [] M8)) none)) none)) none) none) none))) none :=
  am_tree (cut := am_cut [55, 72, 112, 174]) 21 rfl
set_option maxHeartbeats 2000000 in
set_option maxRecDepth 100000 in
theorem t270_112 (d : Nat) (M : am_M) (r0 : Nat) (v1 : Value) (x2 x3 x4 : Int32) :
  am_ev 270 (d + 1) 112 [.ref r0, v1, .int x2, .int x3, .int x4] [] M =
 am_ob M r0 6 (am_bI (am_cl 159 d [.ref r0] M) (fun c2 M1 => am_br .ge x4 c2
 (am_ev 270 (d + 1) 55 [.ref r0, (am_kl v1), .int (x2 + am_i 1), .int x3, .int x4] [] M1)
 (am_ob M1 r0 6 (am_gr (am_R M1 r0 54) (fun h3 => am_ob M1 r0 6 (am_bI (am_cl 172 d [.ref r0, .int x2, .int x4] M1) (fun c5 M4 => am_ob M4 r0 6 (am_gr (am_R M4 r0 0) (fun h6 => am_ob M4 r0 6 (am_bI (am_cl 158 d [.ref r0] M4) (fun c8 M7 => am_ix M7 h6 2 ((x3 + ((am_i 2) * c8)) + x4) (am_iw M7 h3 2 c5 (am_lt (am_sI M7 h3 c5.toNatClampNeg (am_I M7 h6 ((x3 + ((am_i 2) * c8)) + x4).toNatClampNeg)) (fun M9 => am_ev 270 (d + 1) 112 [.ref r0, v1, .int x2, .int x3, .int (x4 + am_i 1)] [] M9)) none) none)) none) none) none)) none) none) none))) none :=
  am_tree (cut := am_cut [55, 72, 112, 174]) 25 rfl
set_option maxHeartbeats 2000000 in
set_option maxRecDepth 100000 in
theorem t270_174 (d : Nat) (M : am_M) (r0 : Nat) (v1 v4 : Value) (x2 x3 : Int32) :
  am_ev 270 (d + 1) 174 [.ref r0, v1, .int x2, .int x3, v4] [] M =
 am_ob M r0 6 (am_bI (am_cl 160 d [.ref r0] M) (fun c2 M1 => am_br .ge x3 c2
 (am_ob M1 r0 6 (am_gr (am_R M1 r0 54) (fun h3 => am_iw M1 h3 2 (am_i 96) (am_lt (am_sI M1 h3 (am_i 96).toNatClampNeg (am_i 0)) (fun M4 => am_ob M4 r0 6 (am_lt (am_sI M4 r0 68 (am_i 0)) (fun M5 => am_tr (am_i 1) (some (some (.int (am_i 1)), M5)) none)) none)) none) none) none)
 (am_ob M1 r0 6 (am_gr (am_R M1 r0 54) (fun h6 => am_ob M1 r0 6 (am_gr (am_R M1 r0 0) (fun h7 => am_ix M1 h7 2 (x2 + ((am_i 3) * x3)) (am_iw M1 h6 2 ((am_i 86) + ((am_i 2) * x3)) (am_lt (am_sI M1 h6 ((am_i 86) + ((am_i 2) * x3)).toNatClampNeg (am_I M1 h7 (x2 + ((am_i 3) * x3)).toNatClampNeg)) (fun M8 => am_ob M8 r0 6 (am_gr (am_R M8 r0 54) (fun h9 => am_ob M8 r0 6 (am_bI (am_cl 266 d [.ref r0, .int ((x2 + (am_i 1)) + ((am_i 3) * x3))] M8) (fun c11 M10 => am_iw M10 h9 2 (((am_i 86) + ((am_i 2) * x3)) + (am_i 1)) (am_lt (am_sI M10 h9 (((am_i 86) + ((am_i 2) * x3)) + (am_i 1)).toNatClampNeg c11) (fun M12 => am_ev 270 (d + 1) 174 [.ref r0, v1, .int x2, .int (x3 + am_i 1), v4] [] M12)) none)) none) none) none)) none) none) none) none) none) none))) none :=
  am_tree (cut := am_cut [55, 72, 112, 174]) 42 rfl
-- 271: X6_status
set_option maxHeartbeats 2000000 in
set_option maxRecDepth 100000 in
theorem t271 (d : Nat) (M : am_M) (r0 : Nat) (x1 : Int32) :
  am_cl 271 (d + 1) [.ref r0, .int x1] M =
 am_bI (am_cl 127 d [.long x1.toInt64, .long (am_l 0), .long (am_l 5)] M) (fun c2 M1 => am_br .eq c2 (am_i 0)
 (some (some (.int (am_i (-1))), M1))
 (am_ob M1 r0 6 (am_gr (am_R M1 r0 9) (fun h3 => am_ix M1 h3 2 x1 (some (some (.int (am_I M1 h3 x1.toNatClampNeg)), M1)) none) none) none)) :=
  show am_ev 271 (d + 1) 0 [.ref r0, .int x1] [] M = _ from am_tree (cut := am_cut []) 13 rfl
