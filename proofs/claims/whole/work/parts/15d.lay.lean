/-! The shape of the memory, once class and reference are made: which cell is what, which refers to which. -/
def am_kl0 : List (Nat × Nat) := [(0, 0), (0, 0), (1, 5), (1, 4), (1, 2), (2, 3), (6, 3), (2, 8), (2, 8), (2, 8), (2, 8), (6, 8), (2, 6), (2, 6), (2, 6), (2, 6), (2, 6), (2, 6), (2, 6), (2, 6), (2, 5), (2, 5), (6, 5), (2, 6), (2, 6), (2, 6), (2, 6), (2, 6), (2, 1600), (2, 1600), (2, 1600), (3, 35), (5, 20), (2, 48), (2, 139), (2, 160), (2, 8), (2, 6), (1, 2), (2, 3), (6, 3), (2, 8), (2, 8), (2, 8), (2, 8), (6, 8), (2, 6), (2, 6), (2, 6), (2, 6), (2, 6), (2, 6), (2, 6), (2, 6), (2, 5), (2, 5), (6, 5), (2, 6), (2, 6), (2, 6), (2, 6), (2, 6), (2, 1600), (1, 1), (1, 0), (2, 36), (2, 48), (2, 5), (2, 40), (2, 5), (2, 5), (1, 3), (2, 64), (2, 29), (2, 6), (1, 1), (1, 0), (2, 36), (2, 48), (2, 5), (2, 40), (2, 5), (2, 5), (1, 3), (2, 64), (2, 29), (2, 6), (1, 0), (2, 36), (2, 48), (2, 5), (2, 40), (1, 0), (2, 36), (2, 48), (2, 5), (2, 40), (1, 0), (2, 36), (2, 48), (2, 5), (2, 40), (1, 0), (2, 36), (2, 48), (2, 5), (2, 40), (1, 0), (2, 36), (2, 48), (2, 5), (2, 40), (1, 0), (2, 36), (2, 48), (2, 5), (2, 40), (1, 0), (2, 36), (2, 48), (2, 5), (2, 40), (1, 0), (2, 36), (2, 48), (2, 5), (2, 40), (1, 0), (2, 36), (2, 48), (2, 5), (2, 40), (1, 0), (2, 36), (2, 48), (2, 5), (2, 40), (1, 0), (2, 36), (2, 48), (2, 5), (2, 40), (1, 0), (2, 36), (2, 48), (2, 5), (2, 40), (1, 0), (2, 36), (2, 48), (2, 5), (2, 40), (1, 0), (2, 36), (2, 48), (2, 5), (2, 40), (1, 0), (2, 36), (2, 48), (2, 5), (2, 40), (1, 0), (2, 36), (2, 48), (2, 5), (2, 40), (1, 0), (2, 36), (2, 48), (2, 5), (2, 40), (1, 0), (2, 36), (2, 48), (2, 5), (2, 40), (1, 0), (2, 36), (2, 48), (2, 5), (2, 40), (1, 0), (2, 36), (2, 48), (2, 5), (2, 40), (1, 6), (2, 1600), (2, 6), (4, 4), (4, 4), (4, 5), (4, 2), (4, 6), (4, 2), (4, 2), (4, 5), (4, 5), (4, 6), (4, 5), (4, 3), (4, 7), (4, 5), (4, 6), (4, 7), (4, 4), (4, 5), (4, 6), (4, 4), (4, 5), (4, 5), (4, 6), (4, 2), (4, 3), (4, 3), (4, 3), (4, 3), (4, 3), (2, 6), (3, 48), (2, 16), (2, 96), (2, 20), (2, 60), (2, 8), (2, 6), (2, 6), (2, 3200), (2, 257), (2, 96), (2, 5), (3, 5), (2, 5), (3, 160), (2, 48), (2, 5140), (4, 5), (4, 4), (4, 5), (4, 5), (4, 4), (4, 5), (4, 3), (4, 3), (4, 2), (4, 3), (4, 3), (4, 3), (4, 4), (4, 5), (4, 6), (4, 5), (4, 4), (4, 5), (4, 6), (4, 5), (2, 1700), (2, 1700), (3, 1700), (2, 139)]
def am_kk (L r : Nat) : Nat × Nat := if r = 0 then (2, L) else am_kl0.getD r (0, 0)
def am_rl0 : List (List Nat) := [[], [], [3, 30, 0, 63, 75, 32, 0, 0, 33, 0, 34, 0, 35, 36, 37], [0, 0, 0, 0, 29, 30, 0, 31], [5, 6, 10, 11, 20, 21, 22, 0, 0, 0, 0, 0, 0, 0, 0, 28], [], [7, 8, 9], [], [], [], [], [12, 13, 14, 15, 16, 17, 18, 19], [], [], [], [], [], [], [], [], [], [], [23, 24, 25, 26, 27], [], [], [], [], [], [], [], [], [], [87, 92, 97, 102, 107, 112, 117, 122, 127, 132, 137, 142, 147, 152, 157, 162, 167, 172, 177, 182], [], [], [], [], [], [39, 40, 44, 45, 54, 55, 56, 0, 0, 0, 0, 0, 0, 0, 0, 62], [], [41, 42, 43], [], [], [], [], [46, 47, 48, 49, 50, 51, 52, 53], [], [], [], [], [], [], [], [], [], [], [57, 58, 59, 60, 61], [], [], [], [], [], [], [0, 64, 69, 70, 0, 71], [0, 0, 65, 66, 67, 68], [], [], [], [], [], [], [72, 73, 74], [], [], [], [0, 76, 81, 82, 0, 83], [0, 0, 77, 78, 79, 80], [], [], [], [], [], [], [84, 85, 86], [], [], [], [0, 0, 88, 89, 90, 91], [], [], [], [], [0, 0, 93, 94, 95, 96], [], [], [], [], [0, 0, 98, 99, 100, 101], [], [], [], [], [0, 0, 103, 104, 105, 106], [], [], [], [], [0, 0, 108, 109, 110, 111], [], [], [], [], [0, 0, 113, 114, 115, 116], [], [], [], [], [0, 0, 118, 119, 120, 121], [], [], [], [], [0, 0, 123, 124, 125, 126], [], [], [], [], [0, 0, 128, 129, 130, 131], [], [], [], [], [0, 0, 133, 134, 135, 136], [], [], [], [], [0, 0, 138, 139, 140, 141], [], [], [], [], [0, 0, 143, 144, 145, 146], [], [], [], [], [0, 0, 148, 149, 150, 151], [], [], [], [], [0, 0, 153, 154, 155, 156], [], [], [], [], [0, 0, 158, 159, 160, 161], [], [], [], [], [0, 0, 163, 164, 165, 166], [], [], [], [], [0, 0, 168, 169, 170, 171], [], [], [], [], [0, 0, 173, 174, 175, 176], [], [], [], [], [0, 0, 178, 179, 180, 181], [], [], [], [], [0, 0, 183, 184, 185, 186], [], [], [], [], [188, 0, 0, 0, 0, 0, 0, 0, 0, 189, 190, 191, 192, 193, 194, 195, 196, 197, 198, 199, 200, 201, 202, 203, 204, 205, 206, 207, 208, 209, 210, 211, 212, 213, 214, 215, 216, 217, 218, 0, 219, 220, 221, 222, 223, 224, 0, 225, 226, 227, 228, 0, 0, 0, 229, 230, 0, 0, 0, 0, 0, 231, 232, 233, 234, 0, 235, 236, 0, 0, 0, 237, 238, 239, 240, 241, 242, 243, 244, 245, 246, 247, 248, 249, 250, 251, 252, 253, 254, 255, 256, 257, 0, 258, 0, 0, 0, 259, 0, 0, 0, 260], [], [], [], [], [], [], [], [], [], [], [], [], [], [], [], [], [], [], [], [], [], [], [], [], [], [], [], [], [], [], [], [], [], [], [], [], [], [], [], [], [], [], [], [], [], [], [], [], [], [], [], [], [], [], [], [], [], [], [], [], [], [], [], [], [], [], [], [], [], [], [], [], []]
def am_r0 (r j : Nat) : Option Nat := match (am_rl0.getD r []).getD j 0 with
  | 0 => none
  | t => some t
-- the references that change: house of 3, steps of 3, house of 63, house of 75
def am_rr (q : Nat × Nat × Nat × Nat) (r j : Nat) : Option Nat := if r = 3 ∧ j = 2 then some q.1 else if r = 3 ∧ j = 14 then some q.2.1 else if r = 63 ∧ j = 0 then some q.2.2.1 else if r = 75 ∧ j = 0 then some q.2.2.2 else am_r0 r j
abbrev am_Pq : Type := Nat × Nat × Nat × Nat
def am_Sh (L : Nat) (q : am_Pq) (M : am_M) : Prop := (∀ r, am_K M r = am_kk L r) ∧ (∀ r, r < 261 → ∀ j, j < 120 → am_R M r j = am_rr q r j) ∧ am_n M = 261 ∧ am_s M = 26728
theorem kk_2 {L : Nat} {q : am_Pq} {M : am_M} (S : am_Sh L q M) : am_K M 2 = (1, 5) := S.1 2
theorem kk_3 {L : Nat} {q : am_Pq} {M : am_M} (S : am_Sh L q M) : am_K M 3 = (1, 4) := S.1 3
theorem kk_4 {L : Nat} {q : am_Pq} {M : am_M} (S : am_Sh L q M) : am_K M 4 = (1, 2) := S.1 4
theorem kk_5 {L : Nat} {q : am_Pq} {M : am_M} (S : am_Sh L q M) : am_K M 5 = (2, 3) := S.1 5
theorem kk_6 {L : Nat} {q : am_Pq} {M : am_M} (S : am_Sh L q M) : am_K M 6 = (6, 3) := S.1 6
theorem kk_7 {L : Nat} {q : am_Pq} {M : am_M} (S : am_Sh L q M) : am_K M 7 = (2, 8) := S.1 7
theorem kk_8 {L : Nat} {q : am_Pq} {M : am_M} (S : am_Sh L q M) : am_K M 8 = (2, 8) := S.1 8
theorem kk_9 {L : Nat} {q : am_Pq} {M : am_M} (S : am_Sh L q M) : am_K M 9 = (2, 8) := S.1 9
theorem kk_10 {L : Nat} {q : am_Pq} {M : am_M} (S : am_Sh L q M) : am_K M 10 = (2, 8) := S.1 10
theorem kk_11 {L : Nat} {q : am_Pq} {M : am_M} (S : am_Sh L q M) : am_K M 11 = (6, 8) := S.1 11
theorem kk_12 {L : Nat} {q : am_Pq} {M : am_M} (S : am_Sh L q M) : am_K M 12 = (2, 6) := S.1 12
theorem kk_13 {L : Nat} {q : am_Pq} {M : am_M} (S : am_Sh L q M) : am_K M 13 = (2, 6) := S.1 13
theorem kk_14 {L : Nat} {q : am_Pq} {M : am_M} (S : am_Sh L q M) : am_K M 14 = (2, 6) := S.1 14
theorem kk_15 {L : Nat} {q : am_Pq} {M : am_M} (S : am_Sh L q M) : am_K M 15 = (2, 6) := S.1 15
theorem kk_16 {L : Nat} {q : am_Pq} {M : am_M} (S : am_Sh L q M) : am_K M 16 = (2, 6) := S.1 16
theorem kk_17 {L : Nat} {q : am_Pq} {M : am_M} (S : am_Sh L q M) : am_K M 17 = (2, 6) := S.1 17
theorem kk_18 {L : Nat} {q : am_Pq} {M : am_M} (S : am_Sh L q M) : am_K M 18 = (2, 6) := S.1 18
theorem kk_19 {L : Nat} {q : am_Pq} {M : am_M} (S : am_Sh L q M) : am_K M 19 = (2, 6) := S.1 19
theorem kk_20 {L : Nat} {q : am_Pq} {M : am_M} (S : am_Sh L q M) : am_K M 20 = (2, 5) := S.1 20
theorem kk_21 {L : Nat} {q : am_Pq} {M : am_M} (S : am_Sh L q M) : am_K M 21 = (2, 5) := S.1 21
theorem kk_22 {L : Nat} {q : am_Pq} {M : am_M} (S : am_Sh L q M) : am_K M 22 = (6, 5) := S.1 22
theorem kk_23 {L : Nat} {q : am_Pq} {M : am_M} (S : am_Sh L q M) : am_K M 23 = (2, 6) := S.1 23
theorem kk_24 {L : Nat} {q : am_Pq} {M : am_M} (S : am_Sh L q M) : am_K M 24 = (2, 6) := S.1 24
theorem kk_25 {L : Nat} {q : am_Pq} {M : am_M} (S : am_Sh L q M) : am_K M 25 = (2, 6) := S.1 25
theorem kk_26 {L : Nat} {q : am_Pq} {M : am_M} (S : am_Sh L q M) : am_K M 26 = (2, 6) := S.1 26
theorem kk_27 {L : Nat} {q : am_Pq} {M : am_M} (S : am_Sh L q M) : am_K M 27 = (2, 6) := S.1 27
theorem kk_28 {L : Nat} {q : am_Pq} {M : am_M} (S : am_Sh L q M) : am_K M 28 = (2, 1600) := S.1 28
theorem kk_29 {L : Nat} {q : am_Pq} {M : am_M} (S : am_Sh L q M) : am_K M 29 = (2, 1600) := S.1 29
theorem kk_30 {L : Nat} {q : am_Pq} {M : am_M} (S : am_Sh L q M) : am_K M 30 = (2, 1600) := S.1 30
theorem kk_31 {L : Nat} {q : am_Pq} {M : am_M} (S : am_Sh L q M) : am_K M 31 = (3, 35) := S.1 31
theorem kk_32 {L : Nat} {q : am_Pq} {M : am_M} (S : am_Sh L q M) : am_K M 32 = (5, 20) := S.1 32
theorem kk_33 {L : Nat} {q : am_Pq} {M : am_M} (S : am_Sh L q M) : am_K M 33 = (2, 48) := S.1 33
theorem kk_34 {L : Nat} {q : am_Pq} {M : am_M} (S : am_Sh L q M) : am_K M 34 = (2, 139) := S.1 34
theorem kk_35 {L : Nat} {q : am_Pq} {M : am_M} (S : am_Sh L q M) : am_K M 35 = (2, 160) := S.1 35
theorem kk_36 {L : Nat} {q : am_Pq} {M : am_M} (S : am_Sh L q M) : am_K M 36 = (2, 8) := S.1 36
theorem kk_37 {L : Nat} {q : am_Pq} {M : am_M} (S : am_Sh L q M) : am_K M 37 = (2, 6) := S.1 37
theorem kk_38 {L : Nat} {q : am_Pq} {M : am_M} (S : am_Sh L q M) : am_K M 38 = (1, 2) := S.1 38
theorem kk_39 {L : Nat} {q : am_Pq} {M : am_M} (S : am_Sh L q M) : am_K M 39 = (2, 3) := S.1 39
theorem kk_40 {L : Nat} {q : am_Pq} {M : am_M} (S : am_Sh L q M) : am_K M 40 = (6, 3) := S.1 40
theorem kk_41 {L : Nat} {q : am_Pq} {M : am_M} (S : am_Sh L q M) : am_K M 41 = (2, 8) := S.1 41
theorem kk_42 {L : Nat} {q : am_Pq} {M : am_M} (S : am_Sh L q M) : am_K M 42 = (2, 8) := S.1 42
theorem kk_43 {L : Nat} {q : am_Pq} {M : am_M} (S : am_Sh L q M) : am_K M 43 = (2, 8) := S.1 43
theorem kk_44 {L : Nat} {q : am_Pq} {M : am_M} (S : am_Sh L q M) : am_K M 44 = (2, 8) := S.1 44
theorem kk_45 {L : Nat} {q : am_Pq} {M : am_M} (S : am_Sh L q M) : am_K M 45 = (6, 8) := S.1 45
theorem kk_46 {L : Nat} {q : am_Pq} {M : am_M} (S : am_Sh L q M) : am_K M 46 = (2, 6) := S.1 46
theorem kk_47 {L : Nat} {q : am_Pq} {M : am_M} (S : am_Sh L q M) : am_K M 47 = (2, 6) := S.1 47
theorem kk_48 {L : Nat} {q : am_Pq} {M : am_M} (S : am_Sh L q M) : am_K M 48 = (2, 6) := S.1 48
theorem kk_49 {L : Nat} {q : am_Pq} {M : am_M} (S : am_Sh L q M) : am_K M 49 = (2, 6) := S.1 49
theorem kk_50 {L : Nat} {q : am_Pq} {M : am_M} (S : am_Sh L q M) : am_K M 50 = (2, 6) := S.1 50
theorem kk_51 {L : Nat} {q : am_Pq} {M : am_M} (S : am_Sh L q M) : am_K M 51 = (2, 6) := S.1 51
theorem kk_52 {L : Nat} {q : am_Pq} {M : am_M} (S : am_Sh L q M) : am_K M 52 = (2, 6) := S.1 52
theorem kk_53 {L : Nat} {q : am_Pq} {M : am_M} (S : am_Sh L q M) : am_K M 53 = (2, 6) := S.1 53
theorem kk_54 {L : Nat} {q : am_Pq} {M : am_M} (S : am_Sh L q M) : am_K M 54 = (2, 5) := S.1 54
theorem kk_55 {L : Nat} {q : am_Pq} {M : am_M} (S : am_Sh L q M) : am_K M 55 = (2, 5) := S.1 55
theorem kk_56 {L : Nat} {q : am_Pq} {M : am_M} (S : am_Sh L q M) : am_K M 56 = (6, 5) := S.1 56
theorem kk_57 {L : Nat} {q : am_Pq} {M : am_M} (S : am_Sh L q M) : am_K M 57 = (2, 6) := S.1 57
theorem kk_58 {L : Nat} {q : am_Pq} {M : am_M} (S : am_Sh L q M) : am_K M 58 = (2, 6) := S.1 58
theorem kk_59 {L : Nat} {q : am_Pq} {M : am_M} (S : am_Sh L q M) : am_K M 59 = (2, 6) := S.1 59
theorem kk_60 {L : Nat} {q : am_Pq} {M : am_M} (S : am_Sh L q M) : am_K M 60 = (2, 6) := S.1 60
theorem kk_61 {L : Nat} {q : am_Pq} {M : am_M} (S : am_Sh L q M) : am_K M 61 = (2, 6) := S.1 61
theorem kk_62 {L : Nat} {q : am_Pq} {M : am_M} (S : am_Sh L q M) : am_K M 62 = (2, 1600) := S.1 62
theorem kk_63 {L : Nat} {q : am_Pq} {M : am_M} (S : am_Sh L q M) : am_K M 63 = (1, 1) := S.1 63
theorem kk_64 {L : Nat} {q : am_Pq} {M : am_M} (S : am_Sh L q M) : am_K M 64 = (1, 0) := S.1 64
theorem kk_65 {L : Nat} {q : am_Pq} {M : am_M} (S : am_Sh L q M) : am_K M 65 = (2, 36) := S.1 65
theorem kk_66 {L : Nat} {q : am_Pq} {M : am_M} (S : am_Sh L q M) : am_K M 66 = (2, 48) := S.1 66
theorem kk_67 {L : Nat} {q : am_Pq} {M : am_M} (S : am_Sh L q M) : am_K M 67 = (2, 5) := S.1 67
theorem kk_68 {L : Nat} {q : am_Pq} {M : am_M} (S : am_Sh L q M) : am_K M 68 = (2, 40) := S.1 68
theorem kk_69 {L : Nat} {q : am_Pq} {M : am_M} (S : am_Sh L q M) : am_K M 69 = (2, 5) := S.1 69
theorem kk_70 {L : Nat} {q : am_Pq} {M : am_M} (S : am_Sh L q M) : am_K M 70 = (2, 5) := S.1 70
theorem kk_71 {L : Nat} {q : am_Pq} {M : am_M} (S : am_Sh L q M) : am_K M 71 = (1, 3) := S.1 71
theorem kk_72 {L : Nat} {q : am_Pq} {M : am_M} (S : am_Sh L q M) : am_K M 72 = (2, 64) := S.1 72
theorem kk_73 {L : Nat} {q : am_Pq} {M : am_M} (S : am_Sh L q M) : am_K M 73 = (2, 29) := S.1 73
theorem kk_74 {L : Nat} {q : am_Pq} {M : am_M} (S : am_Sh L q M) : am_K M 74 = (2, 6) := S.1 74
theorem kk_75 {L : Nat} {q : am_Pq} {M : am_M} (S : am_Sh L q M) : am_K M 75 = (1, 1) := S.1 75
theorem kk_76 {L : Nat} {q : am_Pq} {M : am_M} (S : am_Sh L q M) : am_K M 76 = (1, 0) := S.1 76
theorem kk_77 {L : Nat} {q : am_Pq} {M : am_M} (S : am_Sh L q M) : am_K M 77 = (2, 36) := S.1 77
theorem kk_78 {L : Nat} {q : am_Pq} {M : am_M} (S : am_Sh L q M) : am_K M 78 = (2, 48) := S.1 78
theorem kk_79 {L : Nat} {q : am_Pq} {M : am_M} (S : am_Sh L q M) : am_K M 79 = (2, 5) := S.1 79
theorem kk_80 {L : Nat} {q : am_Pq} {M : am_M} (S : am_Sh L q M) : am_K M 80 = (2, 40) := S.1 80
theorem kk_81 {L : Nat} {q : am_Pq} {M : am_M} (S : am_Sh L q M) : am_K M 81 = (2, 5) := S.1 81
theorem kk_82 {L : Nat} {q : am_Pq} {M : am_M} (S : am_Sh L q M) : am_K M 82 = (2, 5) := S.1 82
theorem kk_83 {L : Nat} {q : am_Pq} {M : am_M} (S : am_Sh L q M) : am_K M 83 = (1, 3) := S.1 83
theorem kk_84 {L : Nat} {q : am_Pq} {M : am_M} (S : am_Sh L q M) : am_K M 84 = (2, 64) := S.1 84
theorem kk_85 {L : Nat} {q : am_Pq} {M : am_M} (S : am_Sh L q M) : am_K M 85 = (2, 29) := S.1 85
theorem kk_86 {L : Nat} {q : am_Pq} {M : am_M} (S : am_Sh L q M) : am_K M 86 = (2, 6) := S.1 86
theorem kk_87 {L : Nat} {q : am_Pq} {M : am_M} (S : am_Sh L q M) : am_K M 87 = (1, 0) := S.1 87
theorem kk_88 {L : Nat} {q : am_Pq} {M : am_M} (S : am_Sh L q M) : am_K M 88 = (2, 36) := S.1 88
theorem kk_89 {L : Nat} {q : am_Pq} {M : am_M} (S : am_Sh L q M) : am_K M 89 = (2, 48) := S.1 89
theorem kk_90 {L : Nat} {q : am_Pq} {M : am_M} (S : am_Sh L q M) : am_K M 90 = (2, 5) := S.1 90
theorem kk_91 {L : Nat} {q : am_Pq} {M : am_M} (S : am_Sh L q M) : am_K M 91 = (2, 40) := S.1 91
theorem kk_92 {L : Nat} {q : am_Pq} {M : am_M} (S : am_Sh L q M) : am_K M 92 = (1, 0) := S.1 92
theorem kk_93 {L : Nat} {q : am_Pq} {M : am_M} (S : am_Sh L q M) : am_K M 93 = (2, 36) := S.1 93
theorem kk_94 {L : Nat} {q : am_Pq} {M : am_M} (S : am_Sh L q M) : am_K M 94 = (2, 48) := S.1 94
theorem kk_95 {L : Nat} {q : am_Pq} {M : am_M} (S : am_Sh L q M) : am_K M 95 = (2, 5) := S.1 95
theorem kk_96 {L : Nat} {q : am_Pq} {M : am_M} (S : am_Sh L q M) : am_K M 96 = (2, 40) := S.1 96
theorem kk_97 {L : Nat} {q : am_Pq} {M : am_M} (S : am_Sh L q M) : am_K M 97 = (1, 0) := S.1 97
theorem kk_98 {L : Nat} {q : am_Pq} {M : am_M} (S : am_Sh L q M) : am_K M 98 = (2, 36) := S.1 98
theorem kk_99 {L : Nat} {q : am_Pq} {M : am_M} (S : am_Sh L q M) : am_K M 99 = (2, 48) := S.1 99
theorem kk_100 {L : Nat} {q : am_Pq} {M : am_M} (S : am_Sh L q M) : am_K M 100 = (2, 5) := S.1 100
theorem kk_101 {L : Nat} {q : am_Pq} {M : am_M} (S : am_Sh L q M) : am_K M 101 = (2, 40) := S.1 101
theorem kk_102 {L : Nat} {q : am_Pq} {M : am_M} (S : am_Sh L q M) : am_K M 102 = (1, 0) := S.1 102
theorem kk_103 {L : Nat} {q : am_Pq} {M : am_M} (S : am_Sh L q M) : am_K M 103 = (2, 36) := S.1 103
theorem kk_104 {L : Nat} {q : am_Pq} {M : am_M} (S : am_Sh L q M) : am_K M 104 = (2, 48) := S.1 104
theorem kk_105 {L : Nat} {q : am_Pq} {M : am_M} (S : am_Sh L q M) : am_K M 105 = (2, 5) := S.1 105
theorem kk_106 {L : Nat} {q : am_Pq} {M : am_M} (S : am_Sh L q M) : am_K M 106 = (2, 40) := S.1 106
theorem kk_107 {L : Nat} {q : am_Pq} {M : am_M} (S : am_Sh L q M) : am_K M 107 = (1, 0) := S.1 107
theorem kk_108 {L : Nat} {q : am_Pq} {M : am_M} (S : am_Sh L q M) : am_K M 108 = (2, 36) := S.1 108
theorem kk_109 {L : Nat} {q : am_Pq} {M : am_M} (S : am_Sh L q M) : am_K M 109 = (2, 48) := S.1 109
theorem kk_110 {L : Nat} {q : am_Pq} {M : am_M} (S : am_Sh L q M) : am_K M 110 = (2, 5) := S.1 110
theorem kk_111 {L : Nat} {q : am_Pq} {M : am_M} (S : am_Sh L q M) : am_K M 111 = (2, 40) := S.1 111
theorem kk_112 {L : Nat} {q : am_Pq} {M : am_M} (S : am_Sh L q M) : am_K M 112 = (1, 0) := S.1 112
theorem kk_113 {L : Nat} {q : am_Pq} {M : am_M} (S : am_Sh L q M) : am_K M 113 = (2, 36) := S.1 113
theorem kk_114 {L : Nat} {q : am_Pq} {M : am_M} (S : am_Sh L q M) : am_K M 114 = (2, 48) := S.1 114
theorem kk_115 {L : Nat} {q : am_Pq} {M : am_M} (S : am_Sh L q M) : am_K M 115 = (2, 5) := S.1 115
theorem kk_116 {L : Nat} {q : am_Pq} {M : am_M} (S : am_Sh L q M) : am_K M 116 = (2, 40) := S.1 116
theorem kk_117 {L : Nat} {q : am_Pq} {M : am_M} (S : am_Sh L q M) : am_K M 117 = (1, 0) := S.1 117
theorem kk_118 {L : Nat} {q : am_Pq} {M : am_M} (S : am_Sh L q M) : am_K M 118 = (2, 36) := S.1 118
theorem kk_119 {L : Nat} {q : am_Pq} {M : am_M} (S : am_Sh L q M) : am_K M 119 = (2, 48) := S.1 119
theorem kk_120 {L : Nat} {q : am_Pq} {M : am_M} (S : am_Sh L q M) : am_K M 120 = (2, 5) := S.1 120
theorem kk_121 {L : Nat} {q : am_Pq} {M : am_M} (S : am_Sh L q M) : am_K M 121 = (2, 40) := S.1 121
theorem kk_122 {L : Nat} {q : am_Pq} {M : am_M} (S : am_Sh L q M) : am_K M 122 = (1, 0) := S.1 122
theorem kk_123 {L : Nat} {q : am_Pq} {M : am_M} (S : am_Sh L q M) : am_K M 123 = (2, 36) := S.1 123
theorem kk_124 {L : Nat} {q : am_Pq} {M : am_M} (S : am_Sh L q M) : am_K M 124 = (2, 48) := S.1 124
theorem kk_125 {L : Nat} {q : am_Pq} {M : am_M} (S : am_Sh L q M) : am_K M 125 = (2, 5) := S.1 125
theorem kk_126 {L : Nat} {q : am_Pq} {M : am_M} (S : am_Sh L q M) : am_K M 126 = (2, 40) := S.1 126
theorem kk_127 {L : Nat} {q : am_Pq} {M : am_M} (S : am_Sh L q M) : am_K M 127 = (1, 0) := S.1 127
theorem kk_128 {L : Nat} {q : am_Pq} {M : am_M} (S : am_Sh L q M) : am_K M 128 = (2, 36) := S.1 128
theorem kk_129 {L : Nat} {q : am_Pq} {M : am_M} (S : am_Sh L q M) : am_K M 129 = (2, 48) := S.1 129
theorem kk_130 {L : Nat} {q : am_Pq} {M : am_M} (S : am_Sh L q M) : am_K M 130 = (2, 5) := S.1 130
theorem kk_131 {L : Nat} {q : am_Pq} {M : am_M} (S : am_Sh L q M) : am_K M 131 = (2, 40) := S.1 131
theorem kk_132 {L : Nat} {q : am_Pq} {M : am_M} (S : am_Sh L q M) : am_K M 132 = (1, 0) := S.1 132
theorem kk_133 {L : Nat} {q : am_Pq} {M : am_M} (S : am_Sh L q M) : am_K M 133 = (2, 36) := S.1 133
theorem kk_134 {L : Nat} {q : am_Pq} {M : am_M} (S : am_Sh L q M) : am_K M 134 = (2, 48) := S.1 134
theorem kk_135 {L : Nat} {q : am_Pq} {M : am_M} (S : am_Sh L q M) : am_K M 135 = (2, 5) := S.1 135
theorem kk_136 {L : Nat} {q : am_Pq} {M : am_M} (S : am_Sh L q M) : am_K M 136 = (2, 40) := S.1 136
theorem kk_137 {L : Nat} {q : am_Pq} {M : am_M} (S : am_Sh L q M) : am_K M 137 = (1, 0) := S.1 137
theorem kk_138 {L : Nat} {q : am_Pq} {M : am_M} (S : am_Sh L q M) : am_K M 138 = (2, 36) := S.1 138
theorem kk_139 {L : Nat} {q : am_Pq} {M : am_M} (S : am_Sh L q M) : am_K M 139 = (2, 48) := S.1 139
theorem kk_140 {L : Nat} {q : am_Pq} {M : am_M} (S : am_Sh L q M) : am_K M 140 = (2, 5) := S.1 140
theorem kk_141 {L : Nat} {q : am_Pq} {M : am_M} (S : am_Sh L q M) : am_K M 141 = (2, 40) := S.1 141
theorem kk_142 {L : Nat} {q : am_Pq} {M : am_M} (S : am_Sh L q M) : am_K M 142 = (1, 0) := S.1 142
theorem kk_143 {L : Nat} {q : am_Pq} {M : am_M} (S : am_Sh L q M) : am_K M 143 = (2, 36) := S.1 143
theorem kk_144 {L : Nat} {q : am_Pq} {M : am_M} (S : am_Sh L q M) : am_K M 144 = (2, 48) := S.1 144
theorem kk_145 {L : Nat} {q : am_Pq} {M : am_M} (S : am_Sh L q M) : am_K M 145 = (2, 5) := S.1 145
theorem kk_146 {L : Nat} {q : am_Pq} {M : am_M} (S : am_Sh L q M) : am_K M 146 = (2, 40) := S.1 146
theorem kk_147 {L : Nat} {q : am_Pq} {M : am_M} (S : am_Sh L q M) : am_K M 147 = (1, 0) := S.1 147
theorem kk_148 {L : Nat} {q : am_Pq} {M : am_M} (S : am_Sh L q M) : am_K M 148 = (2, 36) := S.1 148
theorem kk_149 {L : Nat} {q : am_Pq} {M : am_M} (S : am_Sh L q M) : am_K M 149 = (2, 48) := S.1 149
theorem kk_150 {L : Nat} {q : am_Pq} {M : am_M} (S : am_Sh L q M) : am_K M 150 = (2, 5) := S.1 150
theorem kk_151 {L : Nat} {q : am_Pq} {M : am_M} (S : am_Sh L q M) : am_K M 151 = (2, 40) := S.1 151
theorem kk_152 {L : Nat} {q : am_Pq} {M : am_M} (S : am_Sh L q M) : am_K M 152 = (1, 0) := S.1 152
theorem kk_153 {L : Nat} {q : am_Pq} {M : am_M} (S : am_Sh L q M) : am_K M 153 = (2, 36) := S.1 153
theorem kk_154 {L : Nat} {q : am_Pq} {M : am_M} (S : am_Sh L q M) : am_K M 154 = (2, 48) := S.1 154
theorem kk_155 {L : Nat} {q : am_Pq} {M : am_M} (S : am_Sh L q M) : am_K M 155 = (2, 5) := S.1 155
theorem kk_156 {L : Nat} {q : am_Pq} {M : am_M} (S : am_Sh L q M) : am_K M 156 = (2, 40) := S.1 156
theorem kk_157 {L : Nat} {q : am_Pq} {M : am_M} (S : am_Sh L q M) : am_K M 157 = (1, 0) := S.1 157
theorem kk_158 {L : Nat} {q : am_Pq} {M : am_M} (S : am_Sh L q M) : am_K M 158 = (2, 36) := S.1 158
theorem kk_159 {L : Nat} {q : am_Pq} {M : am_M} (S : am_Sh L q M) : am_K M 159 = (2, 48) := S.1 159
theorem kk_160 {L : Nat} {q : am_Pq} {M : am_M} (S : am_Sh L q M) : am_K M 160 = (2, 5) := S.1 160
theorem kk_161 {L : Nat} {q : am_Pq} {M : am_M} (S : am_Sh L q M) : am_K M 161 = (2, 40) := S.1 161
theorem kk_162 {L : Nat} {q : am_Pq} {M : am_M} (S : am_Sh L q M) : am_K M 162 = (1, 0) := S.1 162
theorem kk_163 {L : Nat} {q : am_Pq} {M : am_M} (S : am_Sh L q M) : am_K M 163 = (2, 36) := S.1 163
theorem kk_164 {L : Nat} {q : am_Pq} {M : am_M} (S : am_Sh L q M) : am_K M 164 = (2, 48) := S.1 164
theorem kk_165 {L : Nat} {q : am_Pq} {M : am_M} (S : am_Sh L q M) : am_K M 165 = (2, 5) := S.1 165
theorem kk_166 {L : Nat} {q : am_Pq} {M : am_M} (S : am_Sh L q M) : am_K M 166 = (2, 40) := S.1 166
theorem kk_167 {L : Nat} {q : am_Pq} {M : am_M} (S : am_Sh L q M) : am_K M 167 = (1, 0) := S.1 167
theorem kk_168 {L : Nat} {q : am_Pq} {M : am_M} (S : am_Sh L q M) : am_K M 168 = (2, 36) := S.1 168
theorem kk_169 {L : Nat} {q : am_Pq} {M : am_M} (S : am_Sh L q M) : am_K M 169 = (2, 48) := S.1 169
theorem kk_170 {L : Nat} {q : am_Pq} {M : am_M} (S : am_Sh L q M) : am_K M 170 = (2, 5) := S.1 170
theorem kk_171 {L : Nat} {q : am_Pq} {M : am_M} (S : am_Sh L q M) : am_K M 171 = (2, 40) := S.1 171
theorem kk_172 {L : Nat} {q : am_Pq} {M : am_M} (S : am_Sh L q M) : am_K M 172 = (1, 0) := S.1 172
theorem kk_173 {L : Nat} {q : am_Pq} {M : am_M} (S : am_Sh L q M) : am_K M 173 = (2, 36) := S.1 173
theorem kk_174 {L : Nat} {q : am_Pq} {M : am_M} (S : am_Sh L q M) : am_K M 174 = (2, 48) := S.1 174
theorem kk_175 {L : Nat} {q : am_Pq} {M : am_M} (S : am_Sh L q M) : am_K M 175 = (2, 5) := S.1 175
theorem kk_176 {L : Nat} {q : am_Pq} {M : am_M} (S : am_Sh L q M) : am_K M 176 = (2, 40) := S.1 176
theorem kk_177 {L : Nat} {q : am_Pq} {M : am_M} (S : am_Sh L q M) : am_K M 177 = (1, 0) := S.1 177
theorem kk_178 {L : Nat} {q : am_Pq} {M : am_M} (S : am_Sh L q M) : am_K M 178 = (2, 36) := S.1 178
theorem kk_179 {L : Nat} {q : am_Pq} {M : am_M} (S : am_Sh L q M) : am_K M 179 = (2, 48) := S.1 179
theorem kk_180 {L : Nat} {q : am_Pq} {M : am_M} (S : am_Sh L q M) : am_K M 180 = (2, 5) := S.1 180
theorem kk_181 {L : Nat} {q : am_Pq} {M : am_M} (S : am_Sh L q M) : am_K M 181 = (2, 40) := S.1 181
theorem kk_182 {L : Nat} {q : am_Pq} {M : am_M} (S : am_Sh L q M) : am_K M 182 = (1, 0) := S.1 182
theorem kk_183 {L : Nat} {q : am_Pq} {M : am_M} (S : am_Sh L q M) : am_K M 183 = (2, 36) := S.1 183
theorem kk_184 {L : Nat} {q : am_Pq} {M : am_M} (S : am_Sh L q M) : am_K M 184 = (2, 48) := S.1 184
theorem kk_185 {L : Nat} {q : am_Pq} {M : am_M} (S : am_Sh L q M) : am_K M 185 = (2, 5) := S.1 185
theorem kk_186 {L : Nat} {q : am_Pq} {M : am_M} (S : am_Sh L q M) : am_K M 186 = (2, 40) := S.1 186
theorem kk_187 {L : Nat} {q : am_Pq} {M : am_M} (S : am_Sh L q M) : am_K M 187 = (1, 6) := S.1 187
theorem kk_188 {L : Nat} {q : am_Pq} {M : am_M} (S : am_Sh L q M) : am_K M 188 = (2, 1600) := S.1 188
theorem kk_189 {L : Nat} {q : am_Pq} {M : am_M} (S : am_Sh L q M) : am_K M 189 = (2, 6) := S.1 189
theorem kk_190 {L : Nat} {q : am_Pq} {M : am_M} (S : am_Sh L q M) : am_K M 190 = (4, 4) := S.1 190
theorem kk_191 {L : Nat} {q : am_Pq} {M : am_M} (S : am_Sh L q M) : am_K M 191 = (4, 4) := S.1 191
theorem kk_192 {L : Nat} {q : am_Pq} {M : am_M} (S : am_Sh L q M) : am_K M 192 = (4, 5) := S.1 192
theorem kk_193 {L : Nat} {q : am_Pq} {M : am_M} (S : am_Sh L q M) : am_K M 193 = (4, 2) := S.1 193
theorem kk_194 {L : Nat} {q : am_Pq} {M : am_M} (S : am_Sh L q M) : am_K M 194 = (4, 6) := S.1 194
theorem kk_195 {L : Nat} {q : am_Pq} {M : am_M} (S : am_Sh L q M) : am_K M 195 = (4, 2) := S.1 195
theorem kk_196 {L : Nat} {q : am_Pq} {M : am_M} (S : am_Sh L q M) : am_K M 196 = (4, 2) := S.1 196
theorem kk_197 {L : Nat} {q : am_Pq} {M : am_M} (S : am_Sh L q M) : am_K M 197 = (4, 5) := S.1 197
theorem kk_198 {L : Nat} {q : am_Pq} {M : am_M} (S : am_Sh L q M) : am_K M 198 = (4, 5) := S.1 198
theorem kk_199 {L : Nat} {q : am_Pq} {M : am_M} (S : am_Sh L q M) : am_K M 199 = (4, 6) := S.1 199
theorem kk_200 {L : Nat} {q : am_Pq} {M : am_M} (S : am_Sh L q M) : am_K M 200 = (4, 5) := S.1 200
theorem kk_201 {L : Nat} {q : am_Pq} {M : am_M} (S : am_Sh L q M) : am_K M 201 = (4, 3) := S.1 201
theorem kk_202 {L : Nat} {q : am_Pq} {M : am_M} (S : am_Sh L q M) : am_K M 202 = (4, 7) := S.1 202
theorem kk_203 {L : Nat} {q : am_Pq} {M : am_M} (S : am_Sh L q M) : am_K M 203 = (4, 5) := S.1 203
theorem kk_204 {L : Nat} {q : am_Pq} {M : am_M} (S : am_Sh L q M) : am_K M 204 = (4, 6) := S.1 204
theorem kk_205 {L : Nat} {q : am_Pq} {M : am_M} (S : am_Sh L q M) : am_K M 205 = (4, 7) := S.1 205
theorem kk_206 {L : Nat} {q : am_Pq} {M : am_M} (S : am_Sh L q M) : am_K M 206 = (4, 4) := S.1 206
theorem kk_207 {L : Nat} {q : am_Pq} {M : am_M} (S : am_Sh L q M) : am_K M 207 = (4, 5) := S.1 207
theorem kk_208 {L : Nat} {q : am_Pq} {M : am_M} (S : am_Sh L q M) : am_K M 208 = (4, 6) := S.1 208
theorem kk_209 {L : Nat} {q : am_Pq} {M : am_M} (S : am_Sh L q M) : am_K M 209 = (4, 4) := S.1 209
theorem kk_210 {L : Nat} {q : am_Pq} {M : am_M} (S : am_Sh L q M) : am_K M 210 = (4, 5) := S.1 210
theorem kk_211 {L : Nat} {q : am_Pq} {M : am_M} (S : am_Sh L q M) : am_K M 211 = (4, 5) := S.1 211
theorem kk_212 {L : Nat} {q : am_Pq} {M : am_M} (S : am_Sh L q M) : am_K M 212 = (4, 6) := S.1 212
theorem kk_213 {L : Nat} {q : am_Pq} {M : am_M} (S : am_Sh L q M) : am_K M 213 = (4, 2) := S.1 213
theorem kk_214 {L : Nat} {q : am_Pq} {M : am_M} (S : am_Sh L q M) : am_K M 214 = (4, 3) := S.1 214
theorem kk_215 {L : Nat} {q : am_Pq} {M : am_M} (S : am_Sh L q M) : am_K M 215 = (4, 3) := S.1 215
theorem kk_216 {L : Nat} {q : am_Pq} {M : am_M} (S : am_Sh L q M) : am_K M 216 = (4, 3) := S.1 216
theorem kk_217 {L : Nat} {q : am_Pq} {M : am_M} (S : am_Sh L q M) : am_K M 217 = (4, 3) := S.1 217
theorem kk_218 {L : Nat} {q : am_Pq} {M : am_M} (S : am_Sh L q M) : am_K M 218 = (4, 3) := S.1 218
theorem kk_219 {L : Nat} {q : am_Pq} {M : am_M} (S : am_Sh L q M) : am_K M 219 = (2, 6) := S.1 219
theorem kk_220 {L : Nat} {q : am_Pq} {M : am_M} (S : am_Sh L q M) : am_K M 220 = (3, 48) := S.1 220
theorem kk_221 {L : Nat} {q : am_Pq} {M : am_M} (S : am_Sh L q M) : am_K M 221 = (2, 16) := S.1 221
theorem kk_222 {L : Nat} {q : am_Pq} {M : am_M} (S : am_Sh L q M) : am_K M 222 = (2, 96) := S.1 222
theorem kk_223 {L : Nat} {q : am_Pq} {M : am_M} (S : am_Sh L q M) : am_K M 223 = (2, 20) := S.1 223
theorem kk_224 {L : Nat} {q : am_Pq} {M : am_M} (S : am_Sh L q M) : am_K M 224 = (2, 60) := S.1 224
theorem kk_225 {L : Nat} {q : am_Pq} {M : am_M} (S : am_Sh L q M) : am_K M 225 = (2, 8) := S.1 225
theorem kk_226 {L : Nat} {q : am_Pq} {M : am_M} (S : am_Sh L q M) : am_K M 226 = (2, 6) := S.1 226
theorem kk_227 {L : Nat} {q : am_Pq} {M : am_M} (S : am_Sh L q M) : am_K M 227 = (2, 6) := S.1 227
theorem kk_228 {L : Nat} {q : am_Pq} {M : am_M} (S : am_Sh L q M) : am_K M 228 = (2, 3200) := S.1 228
theorem kk_229 {L : Nat} {q : am_Pq} {M : am_M} (S : am_Sh L q M) : am_K M 229 = (2, 257) := S.1 229
theorem kk_230 {L : Nat} {q : am_Pq} {M : am_M} (S : am_Sh L q M) : am_K M 230 = (2, 96) := S.1 230
theorem kk_231 {L : Nat} {q : am_Pq} {M : am_M} (S : am_Sh L q M) : am_K M 231 = (2, 5) := S.1 231
theorem kk_232 {L : Nat} {q : am_Pq} {M : am_M} (S : am_Sh L q M) : am_K M 232 = (3, 5) := S.1 232
theorem kk_233 {L : Nat} {q : am_Pq} {M : am_M} (S : am_Sh L q M) : am_K M 233 = (2, 5) := S.1 233
theorem kk_234 {L : Nat} {q : am_Pq} {M : am_M} (S : am_Sh L q M) : am_K M 234 = (3, 160) := S.1 234
theorem kk_235 {L : Nat} {q : am_Pq} {M : am_M} (S : am_Sh L q M) : am_K M 235 = (2, 48) := S.1 235
theorem kk_236 {L : Nat} {q : am_Pq} {M : am_M} (S : am_Sh L q M) : am_K M 236 = (2, 5140) := S.1 236
theorem kk_237 {L : Nat} {q : am_Pq} {M : am_M} (S : am_Sh L q M) : am_K M 237 = (4, 5) := S.1 237
theorem kk_238 {L : Nat} {q : am_Pq} {M : am_M} (S : am_Sh L q M) : am_K M 238 = (4, 4) := S.1 238
theorem kk_239 {L : Nat} {q : am_Pq} {M : am_M} (S : am_Sh L q M) : am_K M 239 = (4, 5) := S.1 239
theorem kk_240 {L : Nat} {q : am_Pq} {M : am_M} (S : am_Sh L q M) : am_K M 240 = (4, 5) := S.1 240
theorem kk_241 {L : Nat} {q : am_Pq} {M : am_M} (S : am_Sh L q M) : am_K M 241 = (4, 4) := S.1 241
theorem kk_242 {L : Nat} {q : am_Pq} {M : am_M} (S : am_Sh L q M) : am_K M 242 = (4, 5) := S.1 242
theorem kk_243 {L : Nat} {q : am_Pq} {M : am_M} (S : am_Sh L q M) : am_K M 243 = (4, 3) := S.1 243
theorem kk_244 {L : Nat} {q : am_Pq} {M : am_M} (S : am_Sh L q M) : am_K M 244 = (4, 3) := S.1 244
theorem kk_245 {L : Nat} {q : am_Pq} {M : am_M} (S : am_Sh L q M) : am_K M 245 = (4, 2) := S.1 245
theorem kk_246 {L : Nat} {q : am_Pq} {M : am_M} (S : am_Sh L q M) : am_K M 246 = (4, 3) := S.1 246
theorem kk_247 {L : Nat} {q : am_Pq} {M : am_M} (S : am_Sh L q M) : am_K M 247 = (4, 3) := S.1 247
theorem kk_248 {L : Nat} {q : am_Pq} {M : am_M} (S : am_Sh L q M) : am_K M 248 = (4, 3) := S.1 248
theorem kk_249 {L : Nat} {q : am_Pq} {M : am_M} (S : am_Sh L q M) : am_K M 249 = (4, 4) := S.1 249
theorem kk_250 {L : Nat} {q : am_Pq} {M : am_M} (S : am_Sh L q M) : am_K M 250 = (4, 5) := S.1 250
theorem kk_251 {L : Nat} {q : am_Pq} {M : am_M} (S : am_Sh L q M) : am_K M 251 = (4, 6) := S.1 251
theorem kk_252 {L : Nat} {q : am_Pq} {M : am_M} (S : am_Sh L q M) : am_K M 252 = (4, 5) := S.1 252
theorem kk_253 {L : Nat} {q : am_Pq} {M : am_M} (S : am_Sh L q M) : am_K M 253 = (4, 4) := S.1 253
theorem kk_254 {L : Nat} {q : am_Pq} {M : am_M} (S : am_Sh L q M) : am_K M 254 = (4, 5) := S.1 254
theorem kk_255 {L : Nat} {q : am_Pq} {M : am_M} (S : am_Sh L q M) : am_K M 255 = (4, 6) := S.1 255
theorem kk_256 {L : Nat} {q : am_Pq} {M : am_M} (S : am_Sh L q M) : am_K M 256 = (4, 5) := S.1 256
theorem kk_257 {L : Nat} {q : am_Pq} {M : am_M} (S : am_Sh L q M) : am_K M 257 = (2, 1700) := S.1 257
theorem kk_258 {L : Nat} {q : am_Pq} {M : am_M} (S : am_Sh L q M) : am_K M 258 = (2, 1700) := S.1 258
theorem kk_259 {L : Nat} {q : am_Pq} {M : am_M} (S : am_Sh L q M) : am_K M 259 = (3, 1700) := S.1 259
theorem kk_260 {L : Nat} {q : am_Pq} {M : am_M} (S : am_Sh L q M) : am_K M 260 = (2, 139) := S.1 260
theorem rr_2_0 {L : Nat} {q : am_Pq} {M : am_M} (S : am_Sh L q M) : am_R M 2 0 = some 3 := S.2.1 2 (by decide) 0 (by decide)
theorem rr_2_1 {L : Nat} {q : am_Pq} {M : am_M} (S : am_Sh L q M) : am_R M 2 1 = some 30 := S.2.1 2 (by decide) 1 (by decide)
theorem rr_2_3 {L : Nat} {q : am_Pq} {M : am_M} (S : am_Sh L q M) : am_R M 2 3 = some 63 := S.2.1 2 (by decide) 3 (by decide)
theorem rr_2_4 {L : Nat} {q : am_Pq} {M : am_M} (S : am_Sh L q M) : am_R M 2 4 = some 75 := S.2.1 2 (by decide) 4 (by decide)
theorem rr_2_5 {L : Nat} {q : am_Pq} {M : am_M} (S : am_Sh L q M) : am_R M 2 5 = some 32 := S.2.1 2 (by decide) 5 (by decide)
theorem rr_2_8 {L : Nat} {q : am_Pq} {M : am_M} (S : am_Sh L q M) : am_R M 2 8 = some 33 := S.2.1 2 (by decide) 8 (by decide)
theorem rr_2_10 {L : Nat} {q : am_Pq} {M : am_M} (S : am_Sh L q M) : am_R M 2 10 = some 34 := S.2.1 2 (by decide) 10 (by decide)
theorem rr_2_12 {L : Nat} {q : am_Pq} {M : am_M} (S : am_Sh L q M) : am_R M 2 12 = some 35 := S.2.1 2 (by decide) 12 (by decide)
theorem rr_2_13 {L : Nat} {q : am_Pq} {M : am_M} (S : am_Sh L q M) : am_R M 2 13 = some 36 := S.2.1 2 (by decide) 13 (by decide)
theorem rr_2_14 {L : Nat} {q : am_Pq} {M : am_M} (S : am_Sh L q M) : am_R M 2 14 = some 37 := S.2.1 2 (by decide) 14 (by decide)
theorem rr_3_4 {L : Nat} {q : am_Pq} {M : am_M} (S : am_Sh L q M) : am_R M 3 4 = some 29 := S.2.1 3 (by decide) 4 (by decide)
theorem rr_3_5 {L : Nat} {q : am_Pq} {M : am_M} (S : am_Sh L q M) : am_R M 3 5 = some 30 := S.2.1 3 (by decide) 5 (by decide)
theorem rr_3_7 {L : Nat} {q : am_Pq} {M : am_M} (S : am_Sh L q M) : am_R M 3 7 = some 31 := S.2.1 3 (by decide) 7 (by decide)
theorem rr_4_0 {L : Nat} {q : am_Pq} {M : am_M} (S : am_Sh L q M) : am_R M 4 0 = some 5 := S.2.1 4 (by decide) 0 (by decide)
theorem rr_4_1 {L : Nat} {q : am_Pq} {M : am_M} (S : am_Sh L q M) : am_R M 4 1 = some 6 := S.2.1 4 (by decide) 1 (by decide)
theorem rr_4_2 {L : Nat} {q : am_Pq} {M : am_M} (S : am_Sh L q M) : am_R M 4 2 = some 10 := S.2.1 4 (by decide) 2 (by decide)
theorem rr_4_3 {L : Nat} {q : am_Pq} {M : am_M} (S : am_Sh L q M) : am_R M 4 3 = some 11 := S.2.1 4 (by decide) 3 (by decide)
theorem rr_4_4 {L : Nat} {q : am_Pq} {M : am_M} (S : am_Sh L q M) : am_R M 4 4 = some 20 := S.2.1 4 (by decide) 4 (by decide)
theorem rr_4_5 {L : Nat} {q : am_Pq} {M : am_M} (S : am_Sh L q M) : am_R M 4 5 = some 21 := S.2.1 4 (by decide) 5 (by decide)
theorem rr_4_6 {L : Nat} {q : am_Pq} {M : am_M} (S : am_Sh L q M) : am_R M 4 6 = some 22 := S.2.1 4 (by decide) 6 (by decide)
theorem rr_4_15 {L : Nat} {q : am_Pq} {M : am_M} (S : am_Sh L q M) : am_R M 4 15 = some 28 := S.2.1 4 (by decide) 15 (by decide)
theorem rr_6_0 {L : Nat} {q : am_Pq} {M : am_M} (S : am_Sh L q M) : am_R M 6 0 = some 7 := S.2.1 6 (by decide) 0 (by decide)
theorem rr_6_1 {L : Nat} {q : am_Pq} {M : am_M} (S : am_Sh L q M) : am_R M 6 1 = some 8 := S.2.1 6 (by decide) 1 (by decide)
theorem rr_6_2 {L : Nat} {q : am_Pq} {M : am_M} (S : am_Sh L q M) : am_R M 6 2 = some 9 := S.2.1 6 (by decide) 2 (by decide)
theorem rr_11_0 {L : Nat} {q : am_Pq} {M : am_M} (S : am_Sh L q M) : am_R M 11 0 = some 12 := S.2.1 11 (by decide) 0 (by decide)
theorem rr_11_1 {L : Nat} {q : am_Pq} {M : am_M} (S : am_Sh L q M) : am_R M 11 1 = some 13 := S.2.1 11 (by decide) 1 (by decide)
theorem rr_11_2 {L : Nat} {q : am_Pq} {M : am_M} (S : am_Sh L q M) : am_R M 11 2 = some 14 := S.2.1 11 (by decide) 2 (by decide)
theorem rr_11_3 {L : Nat} {q : am_Pq} {M : am_M} (S : am_Sh L q M) : am_R M 11 3 = some 15 := S.2.1 11 (by decide) 3 (by decide)
theorem rr_11_4 {L : Nat} {q : am_Pq} {M : am_M} (S : am_Sh L q M) : am_R M 11 4 = some 16 := S.2.1 11 (by decide) 4 (by decide)
theorem rr_11_5 {L : Nat} {q : am_Pq} {M : am_M} (S : am_Sh L q M) : am_R M 11 5 = some 17 := S.2.1 11 (by decide) 5 (by decide)
theorem rr_11_6 {L : Nat} {q : am_Pq} {M : am_M} (S : am_Sh L q M) : am_R M 11 6 = some 18 := S.2.1 11 (by decide) 6 (by decide)
theorem rr_11_7 {L : Nat} {q : am_Pq} {M : am_M} (S : am_Sh L q M) : am_R M 11 7 = some 19 := S.2.1 11 (by decide) 7 (by decide)
theorem rr_22_0 {L : Nat} {q : am_Pq} {M : am_M} (S : am_Sh L q M) : am_R M 22 0 = some 23 := S.2.1 22 (by decide) 0 (by decide)
theorem rr_22_1 {L : Nat} {q : am_Pq} {M : am_M} (S : am_Sh L q M) : am_R M 22 1 = some 24 := S.2.1 22 (by decide) 1 (by decide)
theorem rr_22_2 {L : Nat} {q : am_Pq} {M : am_M} (S : am_Sh L q M) : am_R M 22 2 = some 25 := S.2.1 22 (by decide) 2 (by decide)
theorem rr_22_3 {L : Nat} {q : am_Pq} {M : am_M} (S : am_Sh L q M) : am_R M 22 3 = some 26 := S.2.1 22 (by decide) 3 (by decide)
theorem rr_22_4 {L : Nat} {q : am_Pq} {M : am_M} (S : am_Sh L q M) : am_R M 22 4 = some 27 := S.2.1 22 (by decide) 4 (by decide)
theorem rr_32_0 {L : Nat} {q : am_Pq} {M : am_M} (S : am_Sh L q M) : am_R M 32 0 = some 87 := S.2.1 32 (by decide) 0 (by decide)
theorem rr_32_1 {L : Nat} {q : am_Pq} {M : am_M} (S : am_Sh L q M) : am_R M 32 1 = some 92 := S.2.1 32 (by decide) 1 (by decide)
theorem rr_32_2 {L : Nat} {q : am_Pq} {M : am_M} (S : am_Sh L q M) : am_R M 32 2 = some 97 := S.2.1 32 (by decide) 2 (by decide)
theorem rr_32_3 {L : Nat} {q : am_Pq} {M : am_M} (S : am_Sh L q M) : am_R M 32 3 = some 102 := S.2.1 32 (by decide) 3 (by decide)
theorem rr_32_4 {L : Nat} {q : am_Pq} {M : am_M} (S : am_Sh L q M) : am_R M 32 4 = some 107 := S.2.1 32 (by decide) 4 (by decide)
theorem rr_32_5 {L : Nat} {q : am_Pq} {M : am_M} (S : am_Sh L q M) : am_R M 32 5 = some 112 := S.2.1 32 (by decide) 5 (by decide)
theorem rr_32_6 {L : Nat} {q : am_Pq} {M : am_M} (S : am_Sh L q M) : am_R M 32 6 = some 117 := S.2.1 32 (by decide) 6 (by decide)
theorem rr_32_7 {L : Nat} {q : am_Pq} {M : am_M} (S : am_Sh L q M) : am_R M 32 7 = some 122 := S.2.1 32 (by decide) 7 (by decide)
theorem rr_32_8 {L : Nat} {q : am_Pq} {M : am_M} (S : am_Sh L q M) : am_R M 32 8 = some 127 := S.2.1 32 (by decide) 8 (by decide)
theorem rr_32_9 {L : Nat} {q : am_Pq} {M : am_M} (S : am_Sh L q M) : am_R M 32 9 = some 132 := S.2.1 32 (by decide) 9 (by decide)
theorem rr_32_10 {L : Nat} {q : am_Pq} {M : am_M} (S : am_Sh L q M) : am_R M 32 10 = some 137 := S.2.1 32 (by decide) 10 (by decide)
theorem rr_32_11 {L : Nat} {q : am_Pq} {M : am_M} (S : am_Sh L q M) : am_R M 32 11 = some 142 := S.2.1 32 (by decide) 11 (by decide)
theorem rr_32_12 {L : Nat} {q : am_Pq} {M : am_M} (S : am_Sh L q M) : am_R M 32 12 = some 147 := S.2.1 32 (by decide) 12 (by decide)
theorem rr_32_13 {L : Nat} {q : am_Pq} {M : am_M} (S : am_Sh L q M) : am_R M 32 13 = some 152 := S.2.1 32 (by decide) 13 (by decide)
theorem rr_32_14 {L : Nat} {q : am_Pq} {M : am_M} (S : am_Sh L q M) : am_R M 32 14 = some 157 := S.2.1 32 (by decide) 14 (by decide)
theorem rr_32_15 {L : Nat} {q : am_Pq} {M : am_M} (S : am_Sh L q M) : am_R M 32 15 = some 162 := S.2.1 32 (by decide) 15 (by decide)
theorem rr_32_16 {L : Nat} {q : am_Pq} {M : am_M} (S : am_Sh L q M) : am_R M 32 16 = some 167 := S.2.1 32 (by decide) 16 (by decide)
theorem rr_32_17 {L : Nat} {q : am_Pq} {M : am_M} (S : am_Sh L q M) : am_R M 32 17 = some 172 := S.2.1 32 (by decide) 17 (by decide)
theorem rr_32_18 {L : Nat} {q : am_Pq} {M : am_M} (S : am_Sh L q M) : am_R M 32 18 = some 177 := S.2.1 32 (by decide) 18 (by decide)
theorem rr_32_19 {L : Nat} {q : am_Pq} {M : am_M} (S : am_Sh L q M) : am_R M 32 19 = some 182 := S.2.1 32 (by decide) 19 (by decide)
theorem rr_38_0 {L : Nat} {q : am_Pq} {M : am_M} (S : am_Sh L q M) : am_R M 38 0 = some 39 := S.2.1 38 (by decide) 0 (by decide)
theorem rr_38_1 {L : Nat} {q : am_Pq} {M : am_M} (S : am_Sh L q M) : am_R M 38 1 = some 40 := S.2.1 38 (by decide) 1 (by decide)
theorem rr_38_2 {L : Nat} {q : am_Pq} {M : am_M} (S : am_Sh L q M) : am_R M 38 2 = some 44 := S.2.1 38 (by decide) 2 (by decide)
theorem rr_38_3 {L : Nat} {q : am_Pq} {M : am_M} (S : am_Sh L q M) : am_R M 38 3 = some 45 := S.2.1 38 (by decide) 3 (by decide)
theorem rr_38_4 {L : Nat} {q : am_Pq} {M : am_M} (S : am_Sh L q M) : am_R M 38 4 = some 54 := S.2.1 38 (by decide) 4 (by decide)
theorem rr_38_5 {L : Nat} {q : am_Pq} {M : am_M} (S : am_Sh L q M) : am_R M 38 5 = some 55 := S.2.1 38 (by decide) 5 (by decide)
theorem rr_38_6 {L : Nat} {q : am_Pq} {M : am_M} (S : am_Sh L q M) : am_R M 38 6 = some 56 := S.2.1 38 (by decide) 6 (by decide)
theorem rr_38_15 {L : Nat} {q : am_Pq} {M : am_M} (S : am_Sh L q M) : am_R M 38 15 = some 62 := S.2.1 38 (by decide) 15 (by decide)
theorem rr_40_0 {L : Nat} {q : am_Pq} {M : am_M} (S : am_Sh L q M) : am_R M 40 0 = some 41 := S.2.1 40 (by decide) 0 (by decide)
theorem rr_40_1 {L : Nat} {q : am_Pq} {M : am_M} (S : am_Sh L q M) : am_R M 40 1 = some 42 := S.2.1 40 (by decide) 1 (by decide)
theorem rr_40_2 {L : Nat} {q : am_Pq} {M : am_M} (S : am_Sh L q M) : am_R M 40 2 = some 43 := S.2.1 40 (by decide) 2 (by decide)
theorem rr_45_0 {L : Nat} {q : am_Pq} {M : am_M} (S : am_Sh L q M) : am_R M 45 0 = some 46 := S.2.1 45 (by decide) 0 (by decide)
theorem rr_45_1 {L : Nat} {q : am_Pq} {M : am_M} (S : am_Sh L q M) : am_R M 45 1 = some 47 := S.2.1 45 (by decide) 1 (by decide)
theorem rr_45_2 {L : Nat} {q : am_Pq} {M : am_M} (S : am_Sh L q M) : am_R M 45 2 = some 48 := S.2.1 45 (by decide) 2 (by decide)
theorem rr_45_3 {L : Nat} {q : am_Pq} {M : am_M} (S : am_Sh L q M) : am_R M 45 3 = some 49 := S.2.1 45 (by decide) 3 (by decide)
theorem rr_45_4 {L : Nat} {q : am_Pq} {M : am_M} (S : am_Sh L q M) : am_R M 45 4 = some 50 := S.2.1 45 (by decide) 4 (by decide)
theorem rr_45_5 {L : Nat} {q : am_Pq} {M : am_M} (S : am_Sh L q M) : am_R M 45 5 = some 51 := S.2.1 45 (by decide) 5 (by decide)
theorem rr_45_6 {L : Nat} {q : am_Pq} {M : am_M} (S : am_Sh L q M) : am_R M 45 6 = some 52 := S.2.1 45 (by decide) 6 (by decide)
theorem rr_45_7 {L : Nat} {q : am_Pq} {M : am_M} (S : am_Sh L q M) : am_R M 45 7 = some 53 := S.2.1 45 (by decide) 7 (by decide)
theorem rr_56_0 {L : Nat} {q : am_Pq} {M : am_M} (S : am_Sh L q M) : am_R M 56 0 = some 57 := S.2.1 56 (by decide) 0 (by decide)
theorem rr_56_1 {L : Nat} {q : am_Pq} {M : am_M} (S : am_Sh L q M) : am_R M 56 1 = some 58 := S.2.1 56 (by decide) 1 (by decide)
theorem rr_56_2 {L : Nat} {q : am_Pq} {M : am_M} (S : am_Sh L q M) : am_R M 56 2 = some 59 := S.2.1 56 (by decide) 2 (by decide)
theorem rr_56_3 {L : Nat} {q : am_Pq} {M : am_M} (S : am_Sh L q M) : am_R M 56 3 = some 60 := S.2.1 56 (by decide) 3 (by decide)
theorem rr_56_4 {L : Nat} {q : am_Pq} {M : am_M} (S : am_Sh L q M) : am_R M 56 4 = some 61 := S.2.1 56 (by decide) 4 (by decide)
theorem rr_63_1 {L : Nat} {q : am_Pq} {M : am_M} (S : am_Sh L q M) : am_R M 63 1 = some 64 := S.2.1 63 (by decide) 1 (by decide)
theorem rr_63_2 {L : Nat} {q : am_Pq} {M : am_M} (S : am_Sh L q M) : am_R M 63 2 = some 69 := S.2.1 63 (by decide) 2 (by decide)
theorem rr_63_3 {L : Nat} {q : am_Pq} {M : am_M} (S : am_Sh L q M) : am_R M 63 3 = some 70 := S.2.1 63 (by decide) 3 (by decide)
theorem rr_63_5 {L : Nat} {q : am_Pq} {M : am_M} (S : am_Sh L q M) : am_R M 63 5 = some 71 := S.2.1 63 (by decide) 5 (by decide)
theorem rr_64_2 {L : Nat} {q : am_Pq} {M : am_M} (S : am_Sh L q M) : am_R M 64 2 = some 65 := S.2.1 64 (by decide) 2 (by decide)
theorem rr_64_3 {L : Nat} {q : am_Pq} {M : am_M} (S : am_Sh L q M) : am_R M 64 3 = some 66 := S.2.1 64 (by decide) 3 (by decide)
theorem rr_64_4 {L : Nat} {q : am_Pq} {M : am_M} (S : am_Sh L q M) : am_R M 64 4 = some 67 := S.2.1 64 (by decide) 4 (by decide)
theorem rr_64_5 {L : Nat} {q : am_Pq} {M : am_M} (S : am_Sh L q M) : am_R M 64 5 = some 68 := S.2.1 64 (by decide) 5 (by decide)
theorem rr_71_0 {L : Nat} {q : am_Pq} {M : am_M} (S : am_Sh L q M) : am_R M 71 0 = some 72 := S.2.1 71 (by decide) 0 (by decide)
theorem rr_71_1 {L : Nat} {q : am_Pq} {M : am_M} (S : am_Sh L q M) : am_R M 71 1 = some 73 := S.2.1 71 (by decide) 1 (by decide)
theorem rr_71_2 {L : Nat} {q : am_Pq} {M : am_M} (S : am_Sh L q M) : am_R M 71 2 = some 74 := S.2.1 71 (by decide) 2 (by decide)
theorem rr_75_1 {L : Nat} {q : am_Pq} {M : am_M} (S : am_Sh L q M) : am_R M 75 1 = some 76 := S.2.1 75 (by decide) 1 (by decide)
theorem rr_75_2 {L : Nat} {q : am_Pq} {M : am_M} (S : am_Sh L q M) : am_R M 75 2 = some 81 := S.2.1 75 (by decide) 2 (by decide)
theorem rr_75_3 {L : Nat} {q : am_Pq} {M : am_M} (S : am_Sh L q M) : am_R M 75 3 = some 82 := S.2.1 75 (by decide) 3 (by decide)
theorem rr_75_5 {L : Nat} {q : am_Pq} {M : am_M} (S : am_Sh L q M) : am_R M 75 5 = some 83 := S.2.1 75 (by decide) 5 (by decide)
theorem rr_76_2 {L : Nat} {q : am_Pq} {M : am_M} (S : am_Sh L q M) : am_R M 76 2 = some 77 := S.2.1 76 (by decide) 2 (by decide)
theorem rr_76_3 {L : Nat} {q : am_Pq} {M : am_M} (S : am_Sh L q M) : am_R M 76 3 = some 78 := S.2.1 76 (by decide) 3 (by decide)
theorem rr_76_4 {L : Nat} {q : am_Pq} {M : am_M} (S : am_Sh L q M) : am_R M 76 4 = some 79 := S.2.1 76 (by decide) 4 (by decide)
theorem rr_76_5 {L : Nat} {q : am_Pq} {M : am_M} (S : am_Sh L q M) : am_R M 76 5 = some 80 := S.2.1 76 (by decide) 5 (by decide)
theorem rr_83_0 {L : Nat} {q : am_Pq} {M : am_M} (S : am_Sh L q M) : am_R M 83 0 = some 84 := S.2.1 83 (by decide) 0 (by decide)
theorem rr_83_1 {L : Nat} {q : am_Pq} {M : am_M} (S : am_Sh L q M) : am_R M 83 1 = some 85 := S.2.1 83 (by decide) 1 (by decide)
theorem rr_83_2 {L : Nat} {q : am_Pq} {M : am_M} (S : am_Sh L q M) : am_R M 83 2 = some 86 := S.2.1 83 (by decide) 2 (by decide)
theorem rr_87_2 {L : Nat} {q : am_Pq} {M : am_M} (S : am_Sh L q M) : am_R M 87 2 = some 88 := S.2.1 87 (by decide) 2 (by decide)
theorem rr_87_3 {L : Nat} {q : am_Pq} {M : am_M} (S : am_Sh L q M) : am_R M 87 3 = some 89 := S.2.1 87 (by decide) 3 (by decide)
theorem rr_87_4 {L : Nat} {q : am_Pq} {M : am_M} (S : am_Sh L q M) : am_R M 87 4 = some 90 := S.2.1 87 (by decide) 4 (by decide)
theorem rr_87_5 {L : Nat} {q : am_Pq} {M : am_M} (S : am_Sh L q M) : am_R M 87 5 = some 91 := S.2.1 87 (by decide) 5 (by decide)
theorem rr_92_2 {L : Nat} {q : am_Pq} {M : am_M} (S : am_Sh L q M) : am_R M 92 2 = some 93 := S.2.1 92 (by decide) 2 (by decide)
theorem rr_92_3 {L : Nat} {q : am_Pq} {M : am_M} (S : am_Sh L q M) : am_R M 92 3 = some 94 := S.2.1 92 (by decide) 3 (by decide)
theorem rr_92_4 {L : Nat} {q : am_Pq} {M : am_M} (S : am_Sh L q M) : am_R M 92 4 = some 95 := S.2.1 92 (by decide) 4 (by decide)
theorem rr_92_5 {L : Nat} {q : am_Pq} {M : am_M} (S : am_Sh L q M) : am_R M 92 5 = some 96 := S.2.1 92 (by decide) 5 (by decide)
theorem rr_97_2 {L : Nat} {q : am_Pq} {M : am_M} (S : am_Sh L q M) : am_R M 97 2 = some 98 := S.2.1 97 (by decide) 2 (by decide)
theorem rr_97_3 {L : Nat} {q : am_Pq} {M : am_M} (S : am_Sh L q M) : am_R M 97 3 = some 99 := S.2.1 97 (by decide) 3 (by decide)
theorem rr_97_4 {L : Nat} {q : am_Pq} {M : am_M} (S : am_Sh L q M) : am_R M 97 4 = some 100 := S.2.1 97 (by decide) 4 (by decide)
theorem rr_97_5 {L : Nat} {q : am_Pq} {M : am_M} (S : am_Sh L q M) : am_R M 97 5 = some 101 := S.2.1 97 (by decide) 5 (by decide)
theorem rr_102_2 {L : Nat} {q : am_Pq} {M : am_M} (S : am_Sh L q M) : am_R M 102 2 = some 103 := S.2.1 102 (by decide) 2 (by decide)
theorem rr_102_3 {L : Nat} {q : am_Pq} {M : am_M} (S : am_Sh L q M) : am_R M 102 3 = some 104 := S.2.1 102 (by decide) 3 (by decide)
theorem rr_102_4 {L : Nat} {q : am_Pq} {M : am_M} (S : am_Sh L q M) : am_R M 102 4 = some 105 := S.2.1 102 (by decide) 4 (by decide)
theorem rr_102_5 {L : Nat} {q : am_Pq} {M : am_M} (S : am_Sh L q M) : am_R M 102 5 = some 106 := S.2.1 102 (by decide) 5 (by decide)
theorem rr_107_2 {L : Nat} {q : am_Pq} {M : am_M} (S : am_Sh L q M) : am_R M 107 2 = some 108 := S.2.1 107 (by decide) 2 (by decide)
theorem rr_107_3 {L : Nat} {q : am_Pq} {M : am_M} (S : am_Sh L q M) : am_R M 107 3 = some 109 := S.2.1 107 (by decide) 3 (by decide)
theorem rr_107_4 {L : Nat} {q : am_Pq} {M : am_M} (S : am_Sh L q M) : am_R M 107 4 = some 110 := S.2.1 107 (by decide) 4 (by decide)
theorem rr_107_5 {L : Nat} {q : am_Pq} {M : am_M} (S : am_Sh L q M) : am_R M 107 5 = some 111 := S.2.1 107 (by decide) 5 (by decide)
theorem rr_112_2 {L : Nat} {q : am_Pq} {M : am_M} (S : am_Sh L q M) : am_R M 112 2 = some 113 := S.2.1 112 (by decide) 2 (by decide)
theorem rr_112_3 {L : Nat} {q : am_Pq} {M : am_M} (S : am_Sh L q M) : am_R M 112 3 = some 114 := S.2.1 112 (by decide) 3 (by decide)
theorem rr_112_4 {L : Nat} {q : am_Pq} {M : am_M} (S : am_Sh L q M) : am_R M 112 4 = some 115 := S.2.1 112 (by decide) 4 (by decide)
theorem rr_112_5 {L : Nat} {q : am_Pq} {M : am_M} (S : am_Sh L q M) : am_R M 112 5 = some 116 := S.2.1 112 (by decide) 5 (by decide)
theorem rr_117_2 {L : Nat} {q : am_Pq} {M : am_M} (S : am_Sh L q M) : am_R M 117 2 = some 118 := S.2.1 117 (by decide) 2 (by decide)
theorem rr_117_3 {L : Nat} {q : am_Pq} {M : am_M} (S : am_Sh L q M) : am_R M 117 3 = some 119 := S.2.1 117 (by decide) 3 (by decide)
theorem rr_117_4 {L : Nat} {q : am_Pq} {M : am_M} (S : am_Sh L q M) : am_R M 117 4 = some 120 := S.2.1 117 (by decide) 4 (by decide)
theorem rr_117_5 {L : Nat} {q : am_Pq} {M : am_M} (S : am_Sh L q M) : am_R M 117 5 = some 121 := S.2.1 117 (by decide) 5 (by decide)
theorem rr_122_2 {L : Nat} {q : am_Pq} {M : am_M} (S : am_Sh L q M) : am_R M 122 2 = some 123 := S.2.1 122 (by decide) 2 (by decide)
theorem rr_122_3 {L : Nat} {q : am_Pq} {M : am_M} (S : am_Sh L q M) : am_R M 122 3 = some 124 := S.2.1 122 (by decide) 3 (by decide)
theorem rr_122_4 {L : Nat} {q : am_Pq} {M : am_M} (S : am_Sh L q M) : am_R M 122 4 = some 125 := S.2.1 122 (by decide) 4 (by decide)
theorem rr_122_5 {L : Nat} {q : am_Pq} {M : am_M} (S : am_Sh L q M) : am_R M 122 5 = some 126 := S.2.1 122 (by decide) 5 (by decide)
theorem rr_127_2 {L : Nat} {q : am_Pq} {M : am_M} (S : am_Sh L q M) : am_R M 127 2 = some 128 := S.2.1 127 (by decide) 2 (by decide)
theorem rr_127_3 {L : Nat} {q : am_Pq} {M : am_M} (S : am_Sh L q M) : am_R M 127 3 = some 129 := S.2.1 127 (by decide) 3 (by decide)
theorem rr_127_4 {L : Nat} {q : am_Pq} {M : am_M} (S : am_Sh L q M) : am_R M 127 4 = some 130 := S.2.1 127 (by decide) 4 (by decide)
theorem rr_127_5 {L : Nat} {q : am_Pq} {M : am_M} (S : am_Sh L q M) : am_R M 127 5 = some 131 := S.2.1 127 (by decide) 5 (by decide)
theorem rr_132_2 {L : Nat} {q : am_Pq} {M : am_M} (S : am_Sh L q M) : am_R M 132 2 = some 133 := S.2.1 132 (by decide) 2 (by decide)
theorem rr_132_3 {L : Nat} {q : am_Pq} {M : am_M} (S : am_Sh L q M) : am_R M 132 3 = some 134 := S.2.1 132 (by decide) 3 (by decide)
theorem rr_132_4 {L : Nat} {q : am_Pq} {M : am_M} (S : am_Sh L q M) : am_R M 132 4 = some 135 := S.2.1 132 (by decide) 4 (by decide)
theorem rr_132_5 {L : Nat} {q : am_Pq} {M : am_M} (S : am_Sh L q M) : am_R M 132 5 = some 136 := S.2.1 132 (by decide) 5 (by decide)
theorem rr_137_2 {L : Nat} {q : am_Pq} {M : am_M} (S : am_Sh L q M) : am_R M 137 2 = some 138 := S.2.1 137 (by decide) 2 (by decide)
theorem rr_137_3 {L : Nat} {q : am_Pq} {M : am_M} (S : am_Sh L q M) : am_R M 137 3 = some 139 := S.2.1 137 (by decide) 3 (by decide)
theorem rr_137_4 {L : Nat} {q : am_Pq} {M : am_M} (S : am_Sh L q M) : am_R M 137 4 = some 140 := S.2.1 137 (by decide) 4 (by decide)
theorem rr_137_5 {L : Nat} {q : am_Pq} {M : am_M} (S : am_Sh L q M) : am_R M 137 5 = some 141 := S.2.1 137 (by decide) 5 (by decide)
theorem rr_142_2 {L : Nat} {q : am_Pq} {M : am_M} (S : am_Sh L q M) : am_R M 142 2 = some 143 := S.2.1 142 (by decide) 2 (by decide)
theorem rr_142_3 {L : Nat} {q : am_Pq} {M : am_M} (S : am_Sh L q M) : am_R M 142 3 = some 144 := S.2.1 142 (by decide) 3 (by decide)
theorem rr_142_4 {L : Nat} {q : am_Pq} {M : am_M} (S : am_Sh L q M) : am_R M 142 4 = some 145 := S.2.1 142 (by decide) 4 (by decide)
theorem rr_142_5 {L : Nat} {q : am_Pq} {M : am_M} (S : am_Sh L q M) : am_R M 142 5 = some 146 := S.2.1 142 (by decide) 5 (by decide)
theorem rr_147_2 {L : Nat} {q : am_Pq} {M : am_M} (S : am_Sh L q M) : am_R M 147 2 = some 148 := S.2.1 147 (by decide) 2 (by decide)
theorem rr_147_3 {L : Nat} {q : am_Pq} {M : am_M} (S : am_Sh L q M) : am_R M 147 3 = some 149 := S.2.1 147 (by decide) 3 (by decide)
theorem rr_147_4 {L : Nat} {q : am_Pq} {M : am_M} (S : am_Sh L q M) : am_R M 147 4 = some 150 := S.2.1 147 (by decide) 4 (by decide)
theorem rr_147_5 {L : Nat} {q : am_Pq} {M : am_M} (S : am_Sh L q M) : am_R M 147 5 = some 151 := S.2.1 147 (by decide) 5 (by decide)
theorem rr_152_2 {L : Nat} {q : am_Pq} {M : am_M} (S : am_Sh L q M) : am_R M 152 2 = some 153 := S.2.1 152 (by decide) 2 (by decide)
theorem rr_152_3 {L : Nat} {q : am_Pq} {M : am_M} (S : am_Sh L q M) : am_R M 152 3 = some 154 := S.2.1 152 (by decide) 3 (by decide)
theorem rr_152_4 {L : Nat} {q : am_Pq} {M : am_M} (S : am_Sh L q M) : am_R M 152 4 = some 155 := S.2.1 152 (by decide) 4 (by decide)
theorem rr_152_5 {L : Nat} {q : am_Pq} {M : am_M} (S : am_Sh L q M) : am_R M 152 5 = some 156 := S.2.1 152 (by decide) 5 (by decide)
theorem rr_157_2 {L : Nat} {q : am_Pq} {M : am_M} (S : am_Sh L q M) : am_R M 157 2 = some 158 := S.2.1 157 (by decide) 2 (by decide)
theorem rr_157_3 {L : Nat} {q : am_Pq} {M : am_M} (S : am_Sh L q M) : am_R M 157 3 = some 159 := S.2.1 157 (by decide) 3 (by decide)
theorem rr_157_4 {L : Nat} {q : am_Pq} {M : am_M} (S : am_Sh L q M) : am_R M 157 4 = some 160 := S.2.1 157 (by decide) 4 (by decide)
theorem rr_157_5 {L : Nat} {q : am_Pq} {M : am_M} (S : am_Sh L q M) : am_R M 157 5 = some 161 := S.2.1 157 (by decide) 5 (by decide)
theorem rr_162_2 {L : Nat} {q : am_Pq} {M : am_M} (S : am_Sh L q M) : am_R M 162 2 = some 163 := S.2.1 162 (by decide) 2 (by decide)
theorem rr_162_3 {L : Nat} {q : am_Pq} {M : am_M} (S : am_Sh L q M) : am_R M 162 3 = some 164 := S.2.1 162 (by decide) 3 (by decide)
theorem rr_162_4 {L : Nat} {q : am_Pq} {M : am_M} (S : am_Sh L q M) : am_R M 162 4 = some 165 := S.2.1 162 (by decide) 4 (by decide)
theorem rr_162_5 {L : Nat} {q : am_Pq} {M : am_M} (S : am_Sh L q M) : am_R M 162 5 = some 166 := S.2.1 162 (by decide) 5 (by decide)
theorem rr_167_2 {L : Nat} {q : am_Pq} {M : am_M} (S : am_Sh L q M) : am_R M 167 2 = some 168 := S.2.1 167 (by decide) 2 (by decide)
theorem rr_167_3 {L : Nat} {q : am_Pq} {M : am_M} (S : am_Sh L q M) : am_R M 167 3 = some 169 := S.2.1 167 (by decide) 3 (by decide)
theorem rr_167_4 {L : Nat} {q : am_Pq} {M : am_M} (S : am_Sh L q M) : am_R M 167 4 = some 170 := S.2.1 167 (by decide) 4 (by decide)
theorem rr_167_5 {L : Nat} {q : am_Pq} {M : am_M} (S : am_Sh L q M) : am_R M 167 5 = some 171 := S.2.1 167 (by decide) 5 (by decide)
theorem rr_172_2 {L : Nat} {q : am_Pq} {M : am_M} (S : am_Sh L q M) : am_R M 172 2 = some 173 := S.2.1 172 (by decide) 2 (by decide)
theorem rr_172_3 {L : Nat} {q : am_Pq} {M : am_M} (S : am_Sh L q M) : am_R M 172 3 = some 174 := S.2.1 172 (by decide) 3 (by decide)
theorem rr_172_4 {L : Nat} {q : am_Pq} {M : am_M} (S : am_Sh L q M) : am_R M 172 4 = some 175 := S.2.1 172 (by decide) 4 (by decide)
theorem rr_172_5 {L : Nat} {q : am_Pq} {M : am_M} (S : am_Sh L q M) : am_R M 172 5 = some 176 := S.2.1 172 (by decide) 5 (by decide)
theorem rr_177_2 {L : Nat} {q : am_Pq} {M : am_M} (S : am_Sh L q M) : am_R M 177 2 = some 178 := S.2.1 177 (by decide) 2 (by decide)
theorem rr_177_3 {L : Nat} {q : am_Pq} {M : am_M} (S : am_Sh L q M) : am_R M 177 3 = some 179 := S.2.1 177 (by decide) 3 (by decide)
theorem rr_177_4 {L : Nat} {q : am_Pq} {M : am_M} (S : am_Sh L q M) : am_R M 177 4 = some 180 := S.2.1 177 (by decide) 4 (by decide)
theorem rr_177_5 {L : Nat} {q : am_Pq} {M : am_M} (S : am_Sh L q M) : am_R M 177 5 = some 181 := S.2.1 177 (by decide) 5 (by decide)
theorem rr_182_2 {L : Nat} {q : am_Pq} {M : am_M} (S : am_Sh L q M) : am_R M 182 2 = some 183 := S.2.1 182 (by decide) 2 (by decide)
theorem rr_182_3 {L : Nat} {q : am_Pq} {M : am_M} (S : am_Sh L q M) : am_R M 182 3 = some 184 := S.2.1 182 (by decide) 3 (by decide)
theorem rr_182_4 {L : Nat} {q : am_Pq} {M : am_M} (S : am_Sh L q M) : am_R M 182 4 = some 185 := S.2.1 182 (by decide) 4 (by decide)
theorem rr_182_5 {L : Nat} {q : am_Pq} {M : am_M} (S : am_Sh L q M) : am_R M 182 5 = some 186 := S.2.1 182 (by decide) 5 (by decide)
theorem rr_187_0 {L : Nat} {q : am_Pq} {M : am_M} (S : am_Sh L q M) : am_R M 187 0 = some 188 := S.2.1 187 (by decide) 0 (by decide)
theorem rr_187_9 {L : Nat} {q : am_Pq} {M : am_M} (S : am_Sh L q M) : am_R M 187 9 = some 189 := S.2.1 187 (by decide) 9 (by decide)
theorem rr_187_10 {L : Nat} {q : am_Pq} {M : am_M} (S : am_Sh L q M) : am_R M 187 10 = some 190 := S.2.1 187 (by decide) 10 (by decide)
theorem rr_187_11 {L : Nat} {q : am_Pq} {M : am_M} (S : am_Sh L q M) : am_R M 187 11 = some 191 := S.2.1 187 (by decide) 11 (by decide)
theorem rr_187_12 {L : Nat} {q : am_Pq} {M : am_M} (S : am_Sh L q M) : am_R M 187 12 = some 192 := S.2.1 187 (by decide) 12 (by decide)
theorem rr_187_13 {L : Nat} {q : am_Pq} {M : am_M} (S : am_Sh L q M) : am_R M 187 13 = some 193 := S.2.1 187 (by decide) 13 (by decide)
theorem rr_187_14 {L : Nat} {q : am_Pq} {M : am_M} (S : am_Sh L q M) : am_R M 187 14 = some 194 := S.2.1 187 (by decide) 14 (by decide)
theorem rr_187_15 {L : Nat} {q : am_Pq} {M : am_M} (S : am_Sh L q M) : am_R M 187 15 = some 195 := S.2.1 187 (by decide) 15 (by decide)
theorem rr_187_16 {L : Nat} {q : am_Pq} {M : am_M} (S : am_Sh L q M) : am_R M 187 16 = some 196 := S.2.1 187 (by decide) 16 (by decide)
theorem rr_187_17 {L : Nat} {q : am_Pq} {M : am_M} (S : am_Sh L q M) : am_R M 187 17 = some 197 := S.2.1 187 (by decide) 17 (by decide)
theorem rr_187_18 {L : Nat} {q : am_Pq} {M : am_M} (S : am_Sh L q M) : am_R M 187 18 = some 198 := S.2.1 187 (by decide) 18 (by decide)
theorem rr_187_19 {L : Nat} {q : am_Pq} {M : am_M} (S : am_Sh L q M) : am_R M 187 19 = some 199 := S.2.1 187 (by decide) 19 (by decide)
theorem rr_187_20 {L : Nat} {q : am_Pq} {M : am_M} (S : am_Sh L q M) : am_R M 187 20 = some 200 := S.2.1 187 (by decide) 20 (by decide)
theorem rr_187_21 {L : Nat} {q : am_Pq} {M : am_M} (S : am_Sh L q M) : am_R M 187 21 = some 201 := S.2.1 187 (by decide) 21 (by decide)
theorem rr_187_22 {L : Nat} {q : am_Pq} {M : am_M} (S : am_Sh L q M) : am_R M 187 22 = some 202 := S.2.1 187 (by decide) 22 (by decide)
theorem rr_187_23 {L : Nat} {q : am_Pq} {M : am_M} (S : am_Sh L q M) : am_R M 187 23 = some 203 := S.2.1 187 (by decide) 23 (by decide)
theorem rr_187_24 {L : Nat} {q : am_Pq} {M : am_M} (S : am_Sh L q M) : am_R M 187 24 = some 204 := S.2.1 187 (by decide) 24 (by decide)
theorem rr_187_25 {L : Nat} {q : am_Pq} {M : am_M} (S : am_Sh L q M) : am_R M 187 25 = some 205 := S.2.1 187 (by decide) 25 (by decide)
theorem rr_187_26 {L : Nat} {q : am_Pq} {M : am_M} (S : am_Sh L q M) : am_R M 187 26 = some 206 := S.2.1 187 (by decide) 26 (by decide)
theorem rr_187_27 {L : Nat} {q : am_Pq} {M : am_M} (S : am_Sh L q M) : am_R M 187 27 = some 207 := S.2.1 187 (by decide) 27 (by decide)
theorem rr_187_28 {L : Nat} {q : am_Pq} {M : am_M} (S : am_Sh L q M) : am_R M 187 28 = some 208 := S.2.1 187 (by decide) 28 (by decide)
theorem rr_187_29 {L : Nat} {q : am_Pq} {M : am_M} (S : am_Sh L q M) : am_R M 187 29 = some 209 := S.2.1 187 (by decide) 29 (by decide)
theorem rr_187_30 {L : Nat} {q : am_Pq} {M : am_M} (S : am_Sh L q M) : am_R M 187 30 = some 210 := S.2.1 187 (by decide) 30 (by decide)
theorem rr_187_31 {L : Nat} {q : am_Pq} {M : am_M} (S : am_Sh L q M) : am_R M 187 31 = some 211 := S.2.1 187 (by decide) 31 (by decide)
theorem rr_187_32 {L : Nat} {q : am_Pq} {M : am_M} (S : am_Sh L q M) : am_R M 187 32 = some 212 := S.2.1 187 (by decide) 32 (by decide)
theorem rr_187_33 {L : Nat} {q : am_Pq} {M : am_M} (S : am_Sh L q M) : am_R M 187 33 = some 213 := S.2.1 187 (by decide) 33 (by decide)
theorem rr_187_34 {L : Nat} {q : am_Pq} {M : am_M} (S : am_Sh L q M) : am_R M 187 34 = some 214 := S.2.1 187 (by decide) 34 (by decide)
theorem rr_187_35 {L : Nat} {q : am_Pq} {M : am_M} (S : am_Sh L q M) : am_R M 187 35 = some 215 := S.2.1 187 (by decide) 35 (by decide)
theorem rr_187_36 {L : Nat} {q : am_Pq} {M : am_M} (S : am_Sh L q M) : am_R M 187 36 = some 216 := S.2.1 187 (by decide) 36 (by decide)
theorem rr_187_37 {L : Nat} {q : am_Pq} {M : am_M} (S : am_Sh L q M) : am_R M 187 37 = some 217 := S.2.1 187 (by decide) 37 (by decide)
theorem rr_187_38 {L : Nat} {q : am_Pq} {M : am_M} (S : am_Sh L q M) : am_R M 187 38 = some 218 := S.2.1 187 (by decide) 38 (by decide)
theorem rr_187_40 {L : Nat} {q : am_Pq} {M : am_M} (S : am_Sh L q M) : am_R M 187 40 = some 219 := S.2.1 187 (by decide) 40 (by decide)
theorem rr_187_41 {L : Nat} {q : am_Pq} {M : am_M} (S : am_Sh L q M) : am_R M 187 41 = some 220 := S.2.1 187 (by decide) 41 (by decide)
theorem rr_187_42 {L : Nat} {q : am_Pq} {M : am_M} (S : am_Sh L q M) : am_R M 187 42 = some 221 := S.2.1 187 (by decide) 42 (by decide)
theorem rr_187_43 {L : Nat} {q : am_Pq} {M : am_M} (S : am_Sh L q M) : am_R M 187 43 = some 222 := S.2.1 187 (by decide) 43 (by decide)
theorem rr_187_44 {L : Nat} {q : am_Pq} {M : am_M} (S : am_Sh L q M) : am_R M 187 44 = some 223 := S.2.1 187 (by decide) 44 (by decide)
theorem rr_187_45 {L : Nat} {q : am_Pq} {M : am_M} (S : am_Sh L q M) : am_R M 187 45 = some 224 := S.2.1 187 (by decide) 45 (by decide)
theorem rr_187_47 {L : Nat} {q : am_Pq} {M : am_M} (S : am_Sh L q M) : am_R M 187 47 = some 225 := S.2.1 187 (by decide) 47 (by decide)
theorem rr_187_48 {L : Nat} {q : am_Pq} {M : am_M} (S : am_Sh L q M) : am_R M 187 48 = some 226 := S.2.1 187 (by decide) 48 (by decide)
theorem rr_187_49 {L : Nat} {q : am_Pq} {M : am_M} (S : am_Sh L q M) : am_R M 187 49 = some 227 := S.2.1 187 (by decide) 49 (by decide)
theorem rr_187_50 {L : Nat} {q : am_Pq} {M : am_M} (S : am_Sh L q M) : am_R M 187 50 = some 228 := S.2.1 187 (by decide) 50 (by decide)
theorem rr_187_54 {L : Nat} {q : am_Pq} {M : am_M} (S : am_Sh L q M) : am_R M 187 54 = some 229 := S.2.1 187 (by decide) 54 (by decide)
theorem rr_187_55 {L : Nat} {q : am_Pq} {M : am_M} (S : am_Sh L q M) : am_R M 187 55 = some 230 := S.2.1 187 (by decide) 55 (by decide)
theorem rr_187_61 {L : Nat} {q : am_Pq} {M : am_M} (S : am_Sh L q M) : am_R M 187 61 = some 231 := S.2.1 187 (by decide) 61 (by decide)
theorem rr_187_62 {L : Nat} {q : am_Pq} {M : am_M} (S : am_Sh L q M) : am_R M 187 62 = some 232 := S.2.1 187 (by decide) 62 (by decide)
theorem rr_187_63 {L : Nat} {q : am_Pq} {M : am_M} (S : am_Sh L q M) : am_R M 187 63 = some 233 := S.2.1 187 (by decide) 63 (by decide)
theorem rr_187_64 {L : Nat} {q : am_Pq} {M : am_M} (S : am_Sh L q M) : am_R M 187 64 = some 234 := S.2.1 187 (by decide) 64 (by decide)
theorem rr_187_66 {L : Nat} {q : am_Pq} {M : am_M} (S : am_Sh L q M) : am_R M 187 66 = some 235 := S.2.1 187 (by decide) 66 (by decide)
theorem rr_187_67 {L : Nat} {q : am_Pq} {M : am_M} (S : am_Sh L q M) : am_R M 187 67 = some 236 := S.2.1 187 (by decide) 67 (by decide)
theorem rr_187_71 {L : Nat} {q : am_Pq} {M : am_M} (S : am_Sh L q M) : am_R M 187 71 = some 237 := S.2.1 187 (by decide) 71 (by decide)
theorem rr_187_72 {L : Nat} {q : am_Pq} {M : am_M} (S : am_Sh L q M) : am_R M 187 72 = some 238 := S.2.1 187 (by decide) 72 (by decide)
theorem rr_187_73 {L : Nat} {q : am_Pq} {M : am_M} (S : am_Sh L q M) : am_R M 187 73 = some 239 := S.2.1 187 (by decide) 73 (by decide)
theorem rr_187_74 {L : Nat} {q : am_Pq} {M : am_M} (S : am_Sh L q M) : am_R M 187 74 = some 240 := S.2.1 187 (by decide) 74 (by decide)
theorem rr_187_75 {L : Nat} {q : am_Pq} {M : am_M} (S : am_Sh L q M) : am_R M 187 75 = some 241 := S.2.1 187 (by decide) 75 (by decide)
theorem rr_187_76 {L : Nat} {q : am_Pq} {M : am_M} (S : am_Sh L q M) : am_R M 187 76 = some 242 := S.2.1 187 (by decide) 76 (by decide)
theorem rr_187_77 {L : Nat} {q : am_Pq} {M : am_M} (S : am_Sh L q M) : am_R M 187 77 = some 243 := S.2.1 187 (by decide) 77 (by decide)
theorem rr_187_78 {L : Nat} {q : am_Pq} {M : am_M} (S : am_Sh L q M) : am_R M 187 78 = some 244 := S.2.1 187 (by decide) 78 (by decide)
theorem rr_187_79 {L : Nat} {q : am_Pq} {M : am_M} (S : am_Sh L q M) : am_R M 187 79 = some 245 := S.2.1 187 (by decide) 79 (by decide)
theorem rr_187_80 {L : Nat} {q : am_Pq} {M : am_M} (S : am_Sh L q M) : am_R M 187 80 = some 246 := S.2.1 187 (by decide) 80 (by decide)
theorem rr_187_81 {L : Nat} {q : am_Pq} {M : am_M} (S : am_Sh L q M) : am_R M 187 81 = some 247 := S.2.1 187 (by decide) 81 (by decide)
theorem rr_187_82 {L : Nat} {q : am_Pq} {M : am_M} (S : am_Sh L q M) : am_R M 187 82 = some 248 := S.2.1 187 (by decide) 82 (by decide)
theorem rr_187_83 {L : Nat} {q : am_Pq} {M : am_M} (S : am_Sh L q M) : am_R M 187 83 = some 249 := S.2.1 187 (by decide) 83 (by decide)
theorem rr_187_84 {L : Nat} {q : am_Pq} {M : am_M} (S : am_Sh L q M) : am_R M 187 84 = some 250 := S.2.1 187 (by decide) 84 (by decide)
theorem rr_187_85 {L : Nat} {q : am_Pq} {M : am_M} (S : am_Sh L q M) : am_R M 187 85 = some 251 := S.2.1 187 (by decide) 85 (by decide)
theorem rr_187_86 {L : Nat} {q : am_Pq} {M : am_M} (S : am_Sh L q M) : am_R M 187 86 = some 252 := S.2.1 187 (by decide) 86 (by decide)
theorem rr_187_87 {L : Nat} {q : am_Pq} {M : am_M} (S : am_Sh L q M) : am_R M 187 87 = some 253 := S.2.1 187 (by decide) 87 (by decide)
theorem rr_187_88 {L : Nat} {q : am_Pq} {M : am_M} (S : am_Sh L q M) : am_R M 187 88 = some 254 := S.2.1 187 (by decide) 88 (by decide)
theorem rr_187_89 {L : Nat} {q : am_Pq} {M : am_M} (S : am_Sh L q M) : am_R M 187 89 = some 255 := S.2.1 187 (by decide) 89 (by decide)
theorem rr_187_90 {L : Nat} {q : am_Pq} {M : am_M} (S : am_Sh L q M) : am_R M 187 90 = some 256 := S.2.1 187 (by decide) 90 (by decide)
theorem rr_187_91 {L : Nat} {q : am_Pq} {M : am_M} (S : am_Sh L q M) : am_R M 187 91 = some 257 := S.2.1 187 (by decide) 91 (by decide)
theorem rr_187_93 {L : Nat} {q : am_Pq} {M : am_M} (S : am_Sh L q M) : am_R M 187 93 = some 258 := S.2.1 187 (by decide) 93 (by decide)
theorem rr_187_97 {L : Nat} {q : am_Pq} {M : am_M} (S : am_Sh L q M) : am_R M 187 97 = some 259 := S.2.1 187 (by decide) 97 (by decide)
theorem rr_187_101 {L : Nat} {q : am_Pq} {M : am_M} (S : am_Sh L q M) : am_R M 187 101 = some 260 := S.2.1 187 (by decide) 101 (by decide)
theorem rr_3_2 {L : Nat} {q : am_Pq} {M : am_M} (S : am_Sh L q M) : am_R M 3 2 = some q.1 := S.2.1 3 (by decide) 2 (by decide)
theorem rr_3_14 {L : Nat} {q : am_Pq} {M : am_M} (S : am_Sh L q M) : am_R M 3 14 = some q.2.1 := S.2.1 3 (by decide) 14 (by decide)
theorem rr_63_0 {L : Nat} {q : am_Pq} {M : am_M} (S : am_Sh L q M) : am_R M 63 0 = some q.2.2.1 := S.2.1 63 (by decide) 0 (by decide)
theorem rr_75_0 {L : Nat} {q : am_Pq} {M : am_M} (S : am_Sh L q M) : am_R M 75 0 = some q.2.2.2 := S.2.1 75 (by decide) 0 (by decide)
theorem am_Sh.sI {L : Nat} {q : am_Pq} {M : am_M} (S : am_Sh L q M) (a j : Nat) (v : Int32) : am_Sh L q (am_sI M a j v) := S
theorem am_Sh.sL {L : Nat} {q : am_Pq} {M : am_M} (S : am_Sh L q M) (a j : Nat) (v : Int64) : am_Sh L q (am_sL M a j v) := S
