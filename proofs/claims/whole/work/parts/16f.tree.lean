/-! Trees: what a method does, printed by a program out of the tables, each proved by running the abstract machine. -/

-- 0: L_law
set_option maxHeartbeats 2000000 in
set_option maxRecDepth 100000 in
theorem t0 (d : Nat) (M : am_M) (r0 : Nat) :
  am_cl 0 (d + 1) [.ref r0] M =
 am_lt (am_nw M (1, 5) 16) (fun M1 => am_bV (am_cl 1 d [.ref (am_n M)] M1) (fun M2 => am_lt (am_nw M2 (1, 6) 103) (fun M3 => am_bV (am_cl 126 d [.ref (am_n M2)] M3) (fun M4 => am_ev 0 (d + 1) 18 [.ref r0, .ref (am_n M), .ref (am_n M2), .int (am_i 0)] [] M4)))) :=
  show am_ev 0 (d + 1) 0 [.ref r0, .null, .null, .null] [] M = _ from am_tree (cut := am_cut [18]) 11 rfl
set_option maxHeartbeats 2000000 in
set_option maxRecDepth 100000 in
theorem t0_18 (d : Nat) (M : am_M) (r0 r1 r2 : Nat) (x3 : Int32) :
  am_ev 0 (d + 1) 18 [.ref r0, .ref r1, .ref r2, .int x3] [] M =
 am_if (2 ≤ (am_K M r0).1 ∧ (am_K M r0).1 ≤ 6) (am_br .gt x3 ((nI (am_K M r0).2) - (am_i 6))
 (am_tr (am_i 1) (some (some (.int (am_i 1)), M)) none)
 (am_ix M r0 2 x3 (am_si 0 ((am_I M r0 x3.toNatClampNeg) &&& (am_i 63)) (am_ix M r0 2 (x3 + (am_i 1)) (am_ix M r0 2 (x3 + (am_i 2)) (am_ix M r0 2 (x3 + (am_i 3)) (am_ix M r0 2 (x3 + (am_i 4)) (am_ix M r0 2 (x3 + (am_i 5)) (am_ob M r1 5 (am_bI (am_cl 2 d [.ref r1, .int (am_I M r0 (x3 + (am_i 1)).toNatClampNeg), .int (am_I M r0 (x3 + (am_i 2)).toNatClampNeg), .int (am_I M r0 (x3 + (am_i 3)).toNatClampNeg), .int (am_I M r0 (x3 + (am_i 4)).toNatClampNeg), .int (am_I M r0 (x3 + (am_i 5)).toNatClampNeg)] M) (fun c2 M1 => am_ix M1 r0 2 (x3 + (am_i 1)) (am_ix M1 r0 2 (x3 + (am_i 2)) (am_ix M1 r0 2 (x3 + (am_i 3)) (am_ix M1 r0 2 (x3 + (am_i 4)) (am_ix M1 r0 2 (x3 + (am_i 5)) (am_ob M1 r2 6 (am_bI (am_cl 128 d [.ref r2, .int (am_I M1 r0 (x3 + (am_i 1)).toNatClampNeg), .int (am_I M1 r0 (x3 + (am_i 2)).toNatClampNeg), .int (am_I M1 r0 (x3 + (am_i 3)).toNatClampNeg), .int (am_I M1 r0 (x3 + (am_i 4)).toNatClampNeg), .int (am_I M1 r0 (x3 + (am_i 5)).toNatClampNeg)] M1) (fun c4 M3 => am_br .eq c2 c4
 (am_ev 0 (d + 1) 18 [.ref r0, .ref r1, .ref r2, .int (x3 + am_i 6)] [] M3)
 (am_tr (am_i 0) (some (some (.int (am_i 0)), M3)) none))) none) none) none) none) none) none)) none) none) none) none) none) none)
 (am_si 1 ((am_I M r0 x3.toNatClampNeg) &&& (am_i 63)) (am_ix M r0 2 (x3 + (am_i 1)) (am_ob M r1 5 (am_bI (am_cl 3 d [.ref r1, .int (am_I M r0 (x3 + (am_i 1)).toNatClampNeg)] M) (fun c6 M5 => am_ix M5 r0 2 (x3 + (am_i 1)) (am_ob M5 r2 6 (am_bI (am_cl 129 d [.ref r2, .int (am_I M5 r0 (x3 + (am_i 1)).toNatClampNeg)] M5) (fun c8 M7 => am_br .eq c6 c8
 (am_ev 0 (d + 1) 18 [.ref r0, .ref r1, .ref r2, .int (x3 + am_i 6)] [] M7)
 (am_tr (am_i 0) (some (some (.int (am_i 0)), M7)) none))) none) none)) none) none)
 (am_si 2 ((am_I M r0 x3.toNatClampNeg) &&& (am_i 63)) (am_ob M r1 5 (am_bI (am_cl 4 d [.ref r1] M) (fun c10 M9 => am_ob M9 r2 6 (am_bI (am_cl 155 d [.ref r2] M9) (fun c12 M11 => am_br .eq c10 c12
 (am_ev 0 (d + 1) 18 [.ref r0, .ref r1, .ref r2, .int (x3 + am_i 6)] [] M11)
 (am_tr (am_i 0) (some (some (.int (am_i 0)), M11)) none))) none)) none)
 (am_si 3 ((am_I M r0 x3.toNatClampNeg) &&& (am_i 63)) (am_ix M r0 2 (x3 + (am_i 1)) (am_ob M r1 5 (am_bI (am_cl 5 d [.ref r1, .int (am_I M r0 (x3 + (am_i 1)).toNatClampNeg)] M) (fun c14 M13 => am_ix M13 r0 2 (x3 + (am_i 1)) (am_ob M13 r2 6 (am_bI (am_cl 157 d [.ref r2, .int (am_I M13 r0 (x3 + (am_i 1)).toNatClampNeg)] M13) (fun c16 M15 => am_br .eq c14 c16
 (am_ev 0 (d + 1) 18 [.ref r0, .ref r1, .ref r2, .int (x3 + am_i 6)] [] M15)
 (am_tr (am_i 0) (some (some (.int (am_i 0)), M15)) none))) none) none)) none) none)
 (am_si 4 ((am_I M r0 x3.toNatClampNeg) &&& (am_i 63)) (am_ix M r0 2 (x3 + (am_i 1)) (am_ob M r1 5 (am_bI (am_cl 6 d [.ref r1, .int (am_I M r0 (x3 + (am_i 1)).toNatClampNeg)] M) (fun c18 M17 => am_ix M17 r0 2 (x3 + (am_i 1)) (am_ob M17 r2 6 (am_bI (am_cl 195 d [.ref r2, .int (am_I M17 r0 (x3 + (am_i 1)).toNatClampNeg)] M17) (fun c20 M19 => am_br .eq c18 c20
 (am_ev 0 (d + 1) 18 [.ref r0, .ref r1, .ref r2, .int (x3 + am_i 6)] [] M19)
 (am_tr (am_i 0) (some (some (.int (am_i 0)), M19)) none))) none) none)) none) none)
 (am_si 5 ((am_I M r0 x3.toNatClampNeg) &&& (am_i 63)) (am_ix M r0 2 (x3 + (am_i 1)) (am_ix M r0 2 (x3 + (am_i 2)) (am_ix M r0 2 (x3 + (am_i 3)) (am_ob M r1 5 (am_bI (am_cl 7 d [.ref r1, .int (am_I M r0 (x3 + (am_i 1)).toNatClampNeg), .int (am_I M r0 (x3 + (am_i 2)).toNatClampNeg), .int (am_I M r0 (x3 + (am_i 3)).toNatClampNeg)] M) (fun c22 M21 => am_ix M21 r0 2 (x3 + (am_i 1)) (am_ix M21 r0 2 (x3 + (am_i 2)) (am_ix M21 r0 2 (x3 + (am_i 3)) (am_ob M21 r2 6 (am_bI (am_cl 196 d [.ref r2, .int (am_I M21 r0 (x3 + (am_i 1)).toNatClampNeg), .int (am_I M21 r0 (x3 + (am_i 2)).toNatClampNeg), .int (am_I M21 r0 (x3 + (am_i 3)).toNatClampNeg)] M21) (fun c24 M23 => am_br .eq c22 c24
 (am_ev 0 (d + 1) 18 [.ref r0, .ref r1, .ref r2, .int (x3 + am_i 6)] [] M23)
 (am_tr (am_i 0) (some (some (.int (am_i 0)), M23)) none))) none) none) none) none)) none) none) none) none)
 (am_si 6 ((am_I M r0 x3.toNatClampNeg) &&& (am_i 63)) (am_ix M r0 2 (x3 + (am_i 1)) (am_ix M r0 2 (x3 + (am_i 2)) (am_ob M r1 5 (am_bI (am_cl 8 d [.ref r1, .int (am_I M r0 (x3 + (am_i 1)).toNatClampNeg), .int (am_I M r0 (x3 + (am_i 2)).toNatClampNeg)] M) (fun c26 M25 => am_ix M25 r0 2 (x3 + (am_i 1)) (am_ix M25 r0 2 (x3 + (am_i 2)) (am_ob M25 r2 6 (am_bI (am_cl 197 d [.ref r2, .int (am_I M25 r0 (x3 + (am_i 1)).toNatClampNeg), .int (am_I M25 r0 (x3 + (am_i 2)).toNatClampNeg)] M25) (fun c28 M27 => am_br .eq c26 c28
 (am_ev 0 (d + 1) 18 [.ref r0, .ref r1, .ref r2, .int (x3 + am_i 6)] [] M27)
 (am_tr (am_i 0) (some (some (.int (am_i 0)), M27)) none))) none) none) none)) none) none) none)
 (am_si 7 ((am_I M r0 x3.toNatClampNeg) &&& (am_i 63)) (am_ix M r0 2 (x3 + (am_i 1)) (am_ix M r0 2 (x3 + (am_i 2)) (am_ob M r1 5 (am_bI (am_cl 9 d [.ref r1, .int (am_I M r0 (x3 + (am_i 1)).toNatClampNeg), .int (am_I M r0 (x3 + (am_i 2)).toNatClampNeg)] M) (fun c30 M29 => am_ix M29 r0 2 (x3 + (am_i 1)) (am_ix M29 r0 2 (x3 + (am_i 2)) (am_ob M29 r2 6 (am_bI (am_cl 198 d [.ref r2, .int (am_I M29 r0 (x3 + (am_i 1)).toNatClampNeg), .int (am_I M29 r0 (x3 + (am_i 2)).toNatClampNeg)] M29) (fun c32 M31 => am_br .eq c30 c32
 (am_ev 0 (d + 1) 18 [.ref r0, .ref r1, .ref r2, .int (x3 + am_i 6)] [] M31)
 (am_tr (am_i 0) (some (some (.int (am_i 0)), M31)) none))) none) none) none)) none) none) none)
 (am_si 8 ((am_I M r0 x3.toNatClampNeg) &&& (am_i 63)) (am_ix M r0 2 (x3 + (am_i 1)) (am_ix M r0 2 (x3 + (am_i 2)) (am_ob M r1 5 (am_bI (am_cl 10 d [.ref r1, .int (am_I M r0 (x3 + (am_i 1)).toNatClampNeg), .int (am_I M r0 (x3 + (am_i 2)).toNatClampNeg)] M) (fun c34 M33 => am_ix M33 r0 2 (x3 + (am_i 1)) (am_ix M33 r0 2 (x3 + (am_i 2)) (am_ob M33 r2 6 (am_bI (am_cl 199 d [.ref r2, .int (am_I M33 r0 (x3 + (am_i 1)).toNatClampNeg), .int (am_I M33 r0 (x3 + (am_i 2)).toNatClampNeg)] M33) (fun c36 M35 => am_br .eq c34 c36
 (am_ev 0 (d + 1) 18 [.ref r0, .ref r1, .ref r2, .int (x3 + am_i 6)] [] M35)
 (am_tr (am_i 0) (some (some (.int (am_i 0)), M35)) none))) none) none) none)) none) none) none)
 (am_si 9 ((am_I M r0 x3.toNatClampNeg) &&& (am_i 63)) (am_ix M r0 2 (x3 + (am_i 1)) (am_ix M r0 2 (x3 + (am_i 2)) (am_ob M r1 5 (am_bI (am_cl 11 d [.ref r1, .int (am_I M r0 (x3 + (am_i 1)).toNatClampNeg), .int (am_I M r0 (x3 + (am_i 2)).toNatClampNeg)] M) (fun c38 M37 => am_ix M37 r0 2 (x3 + (am_i 1)) (am_ix M37 r0 2 (x3 + (am_i 2)) (am_ob M37 r2 6 (am_bI (am_cl 200 d [.ref r2, .int (am_I M37 r0 (x3 + (am_i 1)).toNatClampNeg), .int (am_I M37 r0 (x3 + (am_i 2)).toNatClampNeg)] M37) (fun c40 M39 => am_br .eq c38 c40
 (am_ev 0 (d + 1) 18 [.ref r0, .ref r1, .ref r2, .int (x3 + am_i 6)] [] M39)
 (am_tr (am_i 0) (some (some (.int (am_i 0)), M39)) none))) none) none) none)) none) none) none)
 (am_si 10 ((am_I M r0 x3.toNatClampNeg) &&& (am_i 63)) (am_ix M r0 2 (x3 + (am_i 1)) (am_ob M r1 5 (am_bI (am_cl 12 d [.ref r1, .int (am_I M r0 (x3 + (am_i 1)).toNatClampNeg)] M) (fun c42 M41 => am_ix M41 r0 2 (x3 + (am_i 1)) (am_ob M41 r2 6 (am_bI (am_cl 201 d [.ref r2, .int (am_I M41 r0 (x3 + (am_i 1)).toNatClampNeg)] M41) (fun c44 M43 => am_br .eq c42 c44
 (am_ev 0 (d + 1) 18 [.ref r0, .ref r1, .ref r2, .int (x3 + am_i 6)] [] M43)
 (am_tr (am_i 0) (some (some (.int (am_i 0)), M43)) none))) none) none)) none) none)
 (am_si 11 ((am_I M r0 x3.toNatClampNeg) &&& (am_i 63)) (am_ix M r0 2 (x3 + (am_i 1)) (am_ix M r0 2 (x3 + (am_i 2)) (am_ob M r1 5 (am_bI (am_cl 13 d [.ref r1, .int (am_I M r0 (x3 + (am_i 1)).toNatClampNeg), .int (am_I M r0 (x3 + (am_i 2)).toNatClampNeg)] M) (fun c46 M45 => am_ix M45 r0 2 (x3 + (am_i 1)) (am_ix M45 r0 2 (x3 + (am_i 2)) (am_ob M45 r2 6 (am_bI (am_cl 202 d [.ref r2, .int (am_I M45 r0 (x3 + (am_i 1)).toNatClampNeg), .int (am_I M45 r0 (x3 + (am_i 2)).toNatClampNeg)] M45) (fun c48 M47 => am_br .eq c46 c48
 (am_ev 0 (d + 1) 18 [.ref r0, .ref r1, .ref r2, .int (x3 + am_i 6)] [] M47)
 (am_tr (am_i 0) (some (some (.int (am_i 0)), M47)) none))) none) none) none)) none) none) none)
 (am_si 12 ((am_I M r0 x3.toNatClampNeg) &&& (am_i 63)) (am_ix M r0 2 (x3 + (am_i 1)) (am_ix M r0 2 (x3 + (am_i 2)) (am_ob M r1 5 (am_bI (am_cl 14 d [.ref r1, .int (am_I M r0 (x3 + (am_i 1)).toNatClampNeg), .int (am_I M r0 (x3 + (am_i 2)).toNatClampNeg)] M) (fun c50 M49 => am_ix M49 r0 2 (x3 + (am_i 1)) (am_ix M49 r0 2 (x3 + (am_i 2)) (am_ob M49 r2 6 (am_bI (am_cl 203 d [.ref r2, .int (am_I M49 r0 (x3 + (am_i 1)).toNatClampNeg), .int (am_I M49 r0 (x3 + (am_i 2)).toNatClampNeg)] M49) (fun c52 M51 => am_br .eq c50 c52
 (am_ev 0 (d + 1) 18 [.ref r0, .ref r1, .ref r2, .int (x3 + am_i 6)] [] M51)
 (am_tr (am_i 0) (some (some (.int (am_i 0)), M51)) none))) none) none) none)) none) none) none)
 (am_si 13 ((am_I M r0 x3.toNatClampNeg) &&& (am_i 63)) (am_ix M r0 2 (x3 + (am_i 1)) (am_ix M r0 2 (x3 + (am_i 2)) (am_ob M r1 5 (am_bL (am_cl 15 d [.ref r1, .int (am_I M r0 (x3 + (am_i 1)).toNatClampNeg), .int (am_I M r0 (x3 + (am_i 2)).toNatClampNeg)] M) (fun c54 M53 => am_ix M53 r0 2 (x3 + (am_i 1)) (am_ix M53 r0 2 (x3 + (am_i 2)) (am_ob M53 r2 6 (am_bL (am_cl 204 d [.ref r2, .int (am_I M53 r0 (x3 + (am_i 1)).toNatClampNeg), .int (am_I M53 r0 (x3 + (am_i 2)).toNatClampNeg)] M53) (fun c56 M55 => am_br .eq (lg_cmp c54 c56) (am_i 0)
 (am_ev 0 (d + 1) 18 [.ref r0, .ref r1, .ref r2, .int (x3 + am_i 6)] [] M55)
 (am_tr (am_i 0) (some (some (.int (am_i 0)), M55)) none))) none) none) none)) none) none) none)
 (am_si 14 ((am_I M r0 x3.toNatClampNeg) &&& (am_i 63)) (am_ix M r0 2 (x3 + (am_i 1)) (am_ix M r0 2 (x3 + (am_i 2)) (am_ob M r1 5 (am_bI (am_cl 16 d [.ref r1, .int (am_I M r0 (x3 + (am_i 1)).toNatClampNeg), .int (am_I M r0 (x3 + (am_i 2)).toNatClampNeg)] M) (fun c58 M57 => am_ix M57 r0 2 (x3 + (am_i 1)) (am_ix M57 r0 2 (x3 + (am_i 2)) (am_ob M57 r2 6 (am_bI (am_cl 205 d [.ref r2, .int (am_I M57 r0 (x3 + (am_i 1)).toNatClampNeg), .int (am_I M57 r0 (x3 + (am_i 2)).toNatClampNeg)] M57) (fun c60 M59 => am_br .eq c58 c60
 (am_ev 0 (d + 1) 18 [.ref r0, .ref r1, .ref r2, .int (x3 + am_i 6)] [] M59)
 (am_tr (am_i 0) (some (some (.int (am_i 0)), M59)) none))) none) none) none)) none) none) none)
 (am_si 15 ((am_I M r0 x3.toNatClampNeg) &&& (am_i 63)) (am_ix M r0 2 (x3 + (am_i 1)) (am_ix M r0 2 (x3 + (am_i 2)) (am_ob M r1 5 (am_bL (am_cl 17 d [.ref r1, .int (am_I M r0 (x3 + (am_i 1)).toNatClampNeg), .int (am_I M r0 (x3 + (am_i 2)).toNatClampNeg)] M) (fun c62 M61 => am_ix M61 r0 2 (x3 + (am_i 1)) (am_ix M61 r0 2 (x3 + (am_i 2)) (am_ob M61 r2 6 (am_bL (am_cl 207 d [.ref r2, .int (am_I M61 r0 (x3 + (am_i 1)).toNatClampNeg), .int (am_I M61 r0 (x3 + (am_i 2)).toNatClampNeg)] M61) (fun c64 M63 => am_br .eq (lg_cmp c62 c64) (am_i 0)
 (am_ev 0 (d + 1) 18 [.ref r0, .ref r1, .ref r2, .int (x3 + am_i 6)] [] M63)
 (am_tr (am_i 0) (some (some (.int (am_i 0)), M63)) none))) none) none) none)) none) none) none)
 (am_si 16 ((am_I M r0 x3.toNatClampNeg) &&& (am_i 63)) (am_ix M r0 2 (x3 + (am_i 1)) (am_ob M r1 5 (am_bI (am_cl 18 d [.ref r1, .int (am_I M r0 (x3 + (am_i 1)).toNatClampNeg)] M) (fun c66 M65 => am_ix M65 r0 2 (x3 + (am_i 1)) (am_ob M65 r2 6 (am_bI (am_cl 209 d [.ref r2, .int (am_I M65 r0 (x3 + (am_i 1)).toNatClampNeg)] M65) (fun c68 M67 => am_br .eq c66 c68
 (am_ev 0 (d + 1) 18 [.ref r0, .ref r1, .ref r2, .int (x3 + am_i 6)] [] M67)
 (am_tr (am_i 0) (some (some (.int (am_i 0)), M67)) none))) none) none)) none) none)
 (am_si 17 ((am_I M r0 x3.toNatClampNeg) &&& (am_i 63)) (am_ix M r0 2 (x3 + (am_i 1)) (am_ix M r0 2 (x3 + (am_i 2)) (am_ob M r1 5 (am_bI (am_cl 19 d [.ref r1, .int (am_I M r0 (x3 + (am_i 1)).toNatClampNeg), .int (am_I M r0 (x3 + (am_i 2)).toNatClampNeg)] M) (fun c70 M69 => am_ix M69 r0 2 (x3 + (am_i 1)) (am_ix M69 r0 2 (x3 + (am_i 2)) (am_ob M69 r2 6 (am_bI (am_cl 210 d [.ref r2, .int (am_I M69 r0 (x3 + (am_i 1)).toNatClampNeg), .int (am_I M69 r0 (x3 + (am_i 2)).toNatClampNeg)] M69) (fun c72 M71 => am_br .eq c70 c72
 (am_ev 0 (d + 1) 18 [.ref r0, .ref r1, .ref r2, .int (x3 + am_i 6)] [] M71)
 (am_tr (am_i 0) (some (some (.int (am_i 0)), M71)) none))) none) none) none)) none) none) none)
 (am_si 18 ((am_I M r0 x3.toNatClampNeg) &&& (am_i 63)) (am_ix M r0 2 (x3 + (am_i 1)) (am_ix M r0 2 (x3 + (am_i 2)) (am_ob M r1 5 (am_bI (am_cl 20 d [.ref r1, .int (am_I M r0 (x3 + (am_i 1)).toNatClampNeg), .int (am_I M r0 (x3 + (am_i 2)).toNatClampNeg)] M) (fun c74 M73 => am_ix M73 r0 2 (x3 + (am_i 1)) (am_ix M73 r0 2 (x3 + (am_i 2)) (am_ob M73 r2 6 (am_bI (am_cl 211 d [.ref r2, .int (am_I M73 r0 (x3 + (am_i 1)).toNatClampNeg), .int (am_I M73 r0 (x3 + (am_i 2)).toNatClampNeg)] M73) (fun c76 M75 => am_br .eq c74 c76
 (am_ev 0 (d + 1) 18 [.ref r0, .ref r1, .ref r2, .int (x3 + am_i 6)] [] M75)
 (am_tr (am_i 0) (some (some (.int (am_i 0)), M75)) none))) none) none) none)) none) none) none)
 (am_si 19 ((am_I M r0 x3.toNatClampNeg) &&& (am_i 63)) (am_ix M r0 2 (x3 + (am_i 1)) (am_ix M r0 2 (x3 + (am_i 2)) (am_ix M r0 2 (x3 + (am_i 3)) (am_ob M r1 5 (am_bI (am_cl 21 d [.ref r1, .int (am_I M r0 (x3 + (am_i 1)).toNatClampNeg), .int (am_I M r0 (x3 + (am_i 2)).toNatClampNeg), .int (am_I M r0 (x3 + (am_i 3)).toNatClampNeg)] M) (fun c78 M77 => am_ix M77 r0 2 (x3 + (am_i 1)) (am_ix M77 r0 2 (x3 + (am_i 2)) (am_ix M77 r0 2 (x3 + (am_i 3)) (am_ob M77 r2 6 (am_bI (am_cl 212 d [.ref r2, .int (am_I M77 r0 (x3 + (am_i 1)).toNatClampNeg), .int (am_I M77 r0 (x3 + (am_i 2)).toNatClampNeg), .int (am_I M77 r0 (x3 + (am_i 3)).toNatClampNeg)] M77) (fun c80 M79 => am_br .eq c78 c80
 (am_ev 0 (d + 1) 18 [.ref r0, .ref r1, .ref r2, .int (x3 + am_i 6)] [] M79)
 (am_tr (am_i 0) (some (some (.int (am_i 0)), M79)) none))) none) none) none) none)) none) none) none) none)
 (am_si 20 ((am_I M r0 x3.toNatClampNeg) &&& (am_i 63)) (am_ix M r0 2 (x3 + (am_i 1)) (am_ix M r0 2 (x3 + (am_i 2)) (am_ob M r1 5 (am_bI (am_cl 22 d [.ref r1, .int (am_I M r0 (x3 + (am_i 1)).toNatClampNeg), .int (am_I M r0 (x3 + (am_i 2)).toNatClampNeg)] M) (fun c82 M81 => am_ix M81 r0 2 (x3 + (am_i 1)) (am_ix M81 r0 2 (x3 + (am_i 2)) (am_ob M81 r2 6 (am_bI (am_cl 215 d [.ref r2, .int (am_I M81 r0 (x3 + (am_i 1)).toNatClampNeg), .int (am_I M81 r0 (x3 + (am_i 2)).toNatClampNeg)] M81) (fun c84 M83 => am_br .eq c82 c84
 (am_ev 0 (d + 1) 18 [.ref r0, .ref r1, .ref r2, .int (x3 + am_i 6)] [] M83)
 (am_tr (am_i 0) (some (some (.int (am_i 0)), M83)) none))) none) none) none)) none) none) none)
 (am_si 21 ((am_I M r0 x3.toNatClampNeg) &&& (am_i 63)) (am_ix M r0 2 (x3 + (am_i 1)) (am_ob M r1 5 (am_bI (am_cl 23 d [.ref r1, .int (am_I M r0 (x3 + (am_i 1)).toNatClampNeg)] M) (fun c86 M85 => am_ix M85 r0 2 (x3 + (am_i 1)) (am_ob M85 r2 6 (am_bI (am_cl 216 d [.ref r2, .int (am_I M85 r0 (x3 + (am_i 1)).toNatClampNeg)] M85) (fun c88 M87 => am_br .eq c86 c88
 (am_ev 0 (d + 1) 18 [.ref r0, .ref r1, .ref r2, .int (x3 + am_i 6)] [] M87)
 (am_tr (am_i 0) (some (some (.int (am_i 0)), M87)) none))) none) none)) none) none)
 (am_si 22 ((am_I M r0 x3.toNatClampNeg) &&& (am_i 63)) (am_ob M r1 5 (am_bI (am_cl 24 d [.ref r1] M) (fun c90 M89 => am_ob M89 r2 6 (am_bI (am_cl 217 d [.ref r2] M89) (fun c92 M91 => am_br .eq c90 c92
 (am_ev 0 (d + 1) 18 [.ref r0, .ref r1, .ref r2, .int (x3 + am_i 6)] [] M91)
 (am_tr (am_i 0) (some (some (.int (am_i 0)), M91)) none))) none)) none)
 (am_si 23 ((am_I M r0 x3.toNatClampNeg) &&& (am_i 63)) (am_ix M r0 2 (x3 + (am_i 1)) (am_ob M r1 5 (am_bI (am_cl 25 d [.ref r1, .int (am_I M r0 (x3 + (am_i 1)).toNatClampNeg)] M) (fun c94 M93 => am_ix M93 r0 2 (x3 + (am_i 1)) (am_ob M93 r2 6 (am_bI (am_cl 221 d [.ref r2, .int (am_I M93 r0 (x3 + (am_i 1)).toNatClampNeg)] M93) (fun c96 M95 => am_br .eq c94 c96
 (am_ev 0 (d + 1) 18 [.ref r0, .ref r1, .ref r2, .int (x3 + am_i 6)] [] M95)
 (am_tr (am_i 0) (some (some (.int (am_i 0)), M95)) none))) none) none)) none) none)
 (am_si 24 ((am_I M r0 x3.toNatClampNeg) &&& (am_i 63)) (am_ix M r0 2 (x3 + (am_i 1)) (am_ix M r0 2 (x3 + (am_i 2)) (am_ob M r1 5 (am_bI (am_cl 26 d [.ref r1, .int (am_I M r0 (x3 + (am_i 1)).toNatClampNeg), .int (am_I M r0 (x3 + (am_i 2)).toNatClampNeg)] M) (fun c98 M97 => am_ix M97 r0 2 (x3 + (am_i 1)) (am_ix M97 r0 2 (x3 + (am_i 2)) (am_ob M97 r2 6 (am_bI (am_cl 224 d [.ref r2, .int (am_I M97 r0 (x3 + (am_i 1)).toNatClampNeg), .int (am_I M97 r0 (x3 + (am_i 2)).toNatClampNeg)] M97) (fun c100 M99 => am_br .eq c98 c100
 (am_ev 0 (d + 1) 18 [.ref r0, .ref r1, .ref r2, .int (x3 + am_i 6)] [] M99)
 (am_tr (am_i 0) (some (some (.int (am_i 0)), M99)) none))) none) none) none)) none) none) none)
 (am_si 25 ((am_I M r0 x3.toNatClampNeg) &&& (am_i 63)) (am_ix M r0 2 (x3 + (am_i 1)) (am_ix M r0 2 (x3 + (am_i 2)) (am_ob M r1 5 (am_bL (am_cl 27 d [.ref r1, .int (am_I M r0 (x3 + (am_i 1)).toNatClampNeg), .int (am_I M r0 (x3 + (am_i 2)).toNatClampNeg)] M) (fun c102 M101 => am_ix M101 r0 2 (x3 + (am_i 1)) (am_ix M101 r0 2 (x3 + (am_i 2)) (am_ob M101 r2 6 (am_bL (am_cl 225 d [.ref r2, .int (am_I M101 r0 (x3 + (am_i 1)).toNatClampNeg), .int (am_I M101 r0 (x3 + (am_i 2)).toNatClampNeg)] M101) (fun c104 M103 => am_br .eq (lg_cmp c102 c104) (am_i 0)
 (am_ev 0 (d + 1) 18 [.ref r0, .ref r1, .ref r2, .int (x3 + am_i 6)] [] M103)
 (am_tr (am_i 0) (some (some (.int (am_i 0)), M103)) none))) none) none) none)) none) none) none)
 (am_si 26 ((am_I M r0 x3.toNatClampNeg) &&& (am_i 63)) (am_ix M r0 2 (x3 + (am_i 1)) (am_ob M r1 5 (am_bI (am_cl 28 d [.ref r1, .int (am_I M r0 (x3 + (am_i 1)).toNatClampNeg)] M) (fun c106 M105 => am_ix M105 r0 2 (x3 + (am_i 1)) (am_ob M105 r2 6 (am_bI (am_cl 227 d [.ref r2, .int (am_I M105 r0 (x3 + (am_i 1)).toNatClampNeg)] M105) (fun c108 M107 => am_br .eq c106 c108
 (am_ev 0 (d + 1) 18 [.ref r0, .ref r1, .ref r2, .int (x3 + am_i 6)] [] M107)
 (am_tr (am_i 0) (some (some (.int (am_i 0)), M107)) none))) none) none)) none) none)
 (am_si 27 ((am_I M r0 x3.toNatClampNeg) &&& (am_i 63)) (am_ix M r0 2 (x3 + (am_i 1)) (am_ob M r1 5 (am_bI (am_cl 29 d [.ref r1, .int (am_I M r0 (x3 + (am_i 1)).toNatClampNeg)] M) (fun c110 M109 => am_ix M109 r0 2 (x3 + (am_i 1)) (am_ob M109 r2 6 (am_bI (am_cl 231 d [.ref r2, .int (am_I M109 r0 (x3 + (am_i 1)).toNatClampNeg)] M109) (fun c112 M111 => am_br .eq c110 c112
 (am_ev 0 (d + 1) 18 [.ref r0, .ref r1, .ref r2, .int (x3 + am_i 6)] [] M111)
 (am_tr (am_i 0) (some (some (.int (am_i 0)), M111)) none))) none) none)) none) none)
 (am_si 28 ((am_I M r0 x3.toNatClampNeg) &&& (am_i 63)) (am_ob M r1 5 (am_bI (am_cl 30 d [.ref r1] M) (fun c114 M113 => am_ob M113 r2 6 (am_bI (am_cl 223 d [.ref r2] M113) (fun c116 M115 => am_br .eq c114 c116
 (am_ev 0 (d + 1) 18 [.ref r0, .ref r1, .ref r2, .int (x3 + am_i 6)] [] M115)
 (am_tr (am_i 0) (some (some (.int (am_i 0)), M115)) none))) none)) none)
 (am_si 29 ((am_I M r0 x3.toNatClampNeg) &&& (am_i 63)) (am_ix M r0 2 (x3 + (am_i 1)) (am_ob M r1 5 (am_bI (am_cl 31 d [.ref r1, .int (am_I M r0 (x3 + (am_i 1)).toNatClampNeg)] M) (fun c118 M117 => am_ix M117 r0 2 (x3 + (am_i 1)) (am_ob M117 r2 6 (am_bI (am_cl 228 d [.ref r2, .int (am_I M117 r0 (x3 + (am_i 1)).toNatClampNeg)] M117) (fun c120 M119 => am_br .eq c118 c120
 (am_ev 0 (d + 1) 18 [.ref r0, .ref r1, .ref r2, .int (x3 + am_i 6)] [] M119)
 (am_tr (am_i 0) (some (some (.int (am_i 0)), M119)) none))) none) none)) none) none)
 (am_si 30 ((am_I M r0 x3.toNatClampNeg) &&& (am_i 63)) (am_ix M r0 2 (x3 + (am_i 1)) (am_ob M r1 5 (am_bL (am_cl 32 d [.ref r1, .int (am_I M r0 (x3 + (am_i 1)).toNatClampNeg)] M) (fun c122 M121 => am_ix M121 r0 2 (x3 + (am_i 1)) (am_ob M121 r2 6 (am_bL (am_cl 260 d [.ref r2, .int (am_I M121 r0 (x3 + (am_i 1)).toNatClampNeg)] M121) (fun c124 M123 => am_br .eq (lg_cmp c122 c124) (am_i 0)
 (am_ev 0 (d + 1) 18 [.ref r0, .ref r1, .ref r2, .int (x3 + am_i 6)] [] M123)
 (am_tr (am_i 0) (some (some (.int (am_i 0)), M123)) none))) none) none)) none) none)
 (am_si 31 ((am_I M r0 x3.toNatClampNeg) &&& (am_i 63)) (am_ob M r1 5 (am_bI (am_cl 33 d [.ref r1] M) (fun c126 M125 => am_ob M125 r2 6 (am_bI (am_cl 264 d [.ref r2] M125) (fun c128 M127 => am_br .eq c126 c128
 (am_ev 0 (d + 1) 18 [.ref r0, .ref r1, .ref r2, .int (x3 + am_i 6)] [] M127)
 (am_tr (am_i 0) (some (some (.int (am_i 0)), M127)) none))) none)) none)
 (am_si 32 ((am_I M r0 x3.toNatClampNeg) &&& (am_i 63)) (am_ix M r0 2 (x3 + (am_i 1)) (am_ob M r1 5 (am_bI (am_cl 34 d [.ref r1, .int (am_I M r0 (x3 + (am_i 1)).toNatClampNeg)] M) (fun c130 M129 => am_ix M129 r0 2 (x3 + (am_i 1)) (am_ob M129 r2 6 (am_bI (am_cl 265 d [.ref r2, .int (am_I M129 r0 (x3 + (am_i 1)).toNatClampNeg)] M129) (fun c132 M131 => am_br .eq c130 c132
 (am_ev 0 (d + 1) 18 [.ref r0, .ref r1, .ref r2, .int (x3 + am_i 6)] [] M131)
 (am_tr (am_i 0) (some (some (.int (am_i 0)), M131)) none))) none) none)) none) none)
 (am_si 33 ((am_I M r0 x3.toNatClampNeg) &&& (am_i 63)) (am_ob M r1 5 (am_bI (am_cl 35 d [.ref r1] M) (fun c134 M133 => am_ob M133 r2 6 (am_bI (am_cl 270 d [.ref r2] M133) (fun c136 M135 => am_br .eq c134 c136
 (am_ev 0 (d + 1) 18 [.ref r0, .ref r1, .ref r2, .int (x3 + am_i 6)] [] M135)
 (am_tr (am_i 0) (some (some (.int (am_i 0)), M135)) none))) none)) none)
 (am_si 34 ((am_I M r0 x3.toNatClampNeg) &&& (am_i 63)) (am_ix M r0 2 (x3 + (am_i 1)) (am_ob M r1 5 (am_bI (am_cl 36 d [.ref r1, .int (am_I M r0 (x3 + (am_i 1)).toNatClampNeg)] M) (fun c138 M137 => am_ix M137 r0 2 (x3 + (am_i 1)) (am_ob M137 r2 6 (am_bI (am_cl 271 d [.ref r2, .int (am_I M137 r0 (x3 + (am_i 1)).toNatClampNeg)] M137) (fun c140 M139 => am_br .eq c138 c140
 (am_ev 0 (d + 1) 18 [.ref r0, .ref r1, .ref r2, .int (x3 + am_i 6)] [] M139)
 (am_tr (am_i 0) (some (some (.int (am_i 0)), M139)) none))) none) none)) none) none)
 (am_ev 0 (d + 1) 18 [.ref r0, .ref r1, .ref r2, .int (x3 + am_i 6)] [] M)))))))))))))))))))))))))))))))))))) none)) none :=
  am_tree (cut := am_cut [18]) 70 rfl
-- 272: J6_bitCount_0f7a4
set_option maxHeartbeats 2000000 in
set_option maxRecDepth 100000 in
theorem t272 (d : Nat) (M : am_M) (x0 : Int32) :
  am_cl 272 d [.int x0] M =
 am_lt (x0 - (((x0.toUInt32 >>> ((am_i 1).toUInt32 &&& Int32.toUInt32 31)).toInt32) &&& (am_i 1431655765))) (fun u1 => am_lt ((u1 &&& (am_i 858993459)) + (((u1.toUInt32 >>> ((am_i 2).toUInt32 &&& Int32.toUInt32 31)).toInt32) &&& (am_i 858993459))) (fun u2 => am_lt ((u2 + ((u2.toUInt32 >>> ((am_i 4).toUInt32 &&& Int32.toUInt32 31)).toInt32)) &&& (am_i 252645135)) (fun u3 => am_lt (u3 + ((u3.toUInt32 >>> ((am_i 8).toUInt32 &&& Int32.toUInt32 31)).toInt32)) (fun u4 => am_lt (u4 + ((u4.toUInt32 >>> ((am_i 16).toUInt32 &&& Int32.toUInt32 31)).toInt32)) (fun u5 => some (some (.int (u5 &&& (am_i 63))), M)))))) :=
  show am_ev 272 d 0 [.int x0] [] M = _ from am_tree (cut := am_cut []) 43 rfl
-- 273: J9_floorDiv_f86c9
set_option maxHeartbeats 2000000 in
set_option maxRecDepth 100000 in
theorem t273 (d : Nat) (M : am_M) (y0 y2 : Int64) :
  am_cl 273 d [.long y0, .long y2] M =
 am_if (y2 = 0) none (am_br .ge (lg_cmp (y0 ^^^ y2) (am_l 0)) (am_i 0)
 (some (some (.long (y0 / y2)), M))
 (am_br .eq (lg_cmp ((y0 / y2) * y2) y0) (am_i 0)
 (some (some (.long (y0 / y2)), M))
 (some (some (.long ((y0 / y2) - (am_l 1))), M)))) :=
  show am_ev 273 d 0 [.long y0, .null, .long y2, .null, .null, .null] [] M = _ from am_tree (cut := am_cut []) 21 rfl
-- 274: J9_max_7cf53
set_option maxHeartbeats 2000000 in
set_option maxRecDepth 100000 in
theorem t274 (d : Nat) (M : am_M) (x0 x1 : Int32) :
  am_cl 274 d [.int x0, .int x1] M =
 am_br .lt x0 x1
 (some (some (.int x1), M))
 (some (some (.int x0), M)) :=
  show am_ev 274 d 0 [.int x0, .int x1] [] M = _ from am_tree (cut := am_cut []) 7 rfl
-- 275: J9_max_f86c9
set_option maxHeartbeats 2000000 in
set_option maxRecDepth 100000 in
theorem t275 (d : Nat) (M : am_M) (y0 y2 : Int64) :
  am_cl 275 d [.long y0, .long y2] M =
 am_br .lt (lg_cmp y0 y2) (am_i 0)
 (some (some (.long y2), M))
 (some (some (.long y0), M)) :=
  show am_ev 275 d 0 [.long y0, .null, .long y2, .null] [] M = _ from am_tree (cut := am_cut []) 8 rfl
-- 276: J9_min_7cf53
set_option maxHeartbeats 2000000 in
set_option maxRecDepth 100000 in
theorem t276 (d : Nat) (M : am_M) (x0 x1 : Int32) :
  am_cl 276 d [.int x0, .int x1] M =
 am_br .gt x0 x1
 (some (some (.int x1), M))
 (some (some (.int x0), M)) :=
  show am_ev 276 d 0 [.int x0, .int x1] [] M = _ from am_tree (cut := am_cut []) 7 rfl
-- 277: J9_min_f86c9
set_option maxHeartbeats 2000000 in
set_option maxRecDepth 100000 in
theorem t277 (d : Nat) (M : am_M) (y0 y2 : Int64) :
  am_cl 277 d [.long y0, .long y2] M =
 am_br .gt (lg_cmp y0 y2) (am_i 0)
 (some (some (.long y2), M))
 (some (some (.long y0), M)) :=
  show am_ev 277 d 0 [.long y0, .null, .long y2, .null] [] M = _ from am_tree (cut := am_cut []) 8 rfl
