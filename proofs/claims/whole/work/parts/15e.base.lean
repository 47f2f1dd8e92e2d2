/-! Objects that stand more than once: what lies where, by the base. -/
def isA (h : Nat) : Prop := h = 64 ∨ h = 76 ∨ h = 87 ∨ h = 92 ∨ h = 97 ∨ h = 102 ∨ h = 107 ∨ h = 112 ∨ h = 117 ∨ h = 122 ∨ h = 127 ∨ h = 132 ∨ h = 137 ∨ h = 142 ∨ h = 147 ∨ h = 152 ∨ h = 157 ∨ h = 162 ∨ h = 167 ∨ h = 172 ∨ h = 177 ∨ h = 182
theorem A_k0 {L : Nat} {q : am_Pq} {M : am_M} {h : Nat} (S : am_Sh L q M) (h0 : isA h) : am_K M (h) = (1, 0) := by
  rcases h0 with rfl | rfl | rfl | rfl | rfl | rfl | rfl | rfl | rfl | rfl | rfl | rfl | rfl | rfl | rfl | rfl | rfl | rfl | rfl | rfl | rfl | rfl
  · exact kk_64 S
  · exact kk_76 S
  · exact kk_87 S
  · exact kk_92 S
  · exact kk_97 S
  · exact kk_102 S
  · exact kk_107 S
  · exact kk_112 S
  · exact kk_117 S
  · exact kk_122 S
  · exact kk_127 S
  · exact kk_132 S
  · exact kk_137 S
  · exact kk_142 S
  · exact kk_147 S
  · exact kk_152 S
  · exact kk_157 S
  · exact kk_162 S
  · exact kk_167 S
  · exact kk_172 S
  · exact kk_177 S
  · exact kk_182 S
theorem A_r0_2 {L : Nat} {q : am_Pq} {M : am_M} {h : Nat} (S : am_Sh L q M) (h0 : isA h) : am_R M (h) 2 = some (h + 1) := by
  rcases h0 with rfl | rfl | rfl | rfl | rfl | rfl | rfl | rfl | rfl | rfl | rfl | rfl | rfl | rfl | rfl | rfl | rfl | rfl | rfl | rfl | rfl | rfl
  · exact rr_64_2 S
  · exact rr_76_2 S
  · exact rr_87_2 S
  · exact rr_92_2 S
  · exact rr_97_2 S
  · exact rr_102_2 S
  · exact rr_107_2 S
  · exact rr_112_2 S
  · exact rr_117_2 S
  · exact rr_122_2 S
  · exact rr_127_2 S
  · exact rr_132_2 S
  · exact rr_137_2 S
  · exact rr_142_2 S
  · exact rr_147_2 S
  · exact rr_152_2 S
  · exact rr_157_2 S
  · exact rr_162_2 S
  · exact rr_167_2 S
  · exact rr_172_2 S
  · exact rr_177_2 S
  · exact rr_182_2 S
theorem A_r0_3 {L : Nat} {q : am_Pq} {M : am_M} {h : Nat} (S : am_Sh L q M) (h0 : isA h) : am_R M (h) 3 = some (h + 2) := by
  rcases h0 with rfl | rfl | rfl | rfl | rfl | rfl | rfl | rfl | rfl | rfl | rfl | rfl | rfl | rfl | rfl | rfl | rfl | rfl | rfl | rfl | rfl | rfl
  · exact rr_64_3 S
  · exact rr_76_3 S
  · exact rr_87_3 S
  · exact rr_92_3 S
  · exact rr_97_3 S
  · exact rr_102_3 S
  · exact rr_107_3 S
  · exact rr_112_3 S
  · exact rr_117_3 S
  · exact rr_122_3 S
  · exact rr_127_3 S
  · exact rr_132_3 S
  · exact rr_137_3 S
  · exact rr_142_3 S
  · exact rr_147_3 S
  · exact rr_152_3 S
  · exact rr_157_3 S
  · exact rr_162_3 S
  · exact rr_167_3 S
  · exact rr_172_3 S
  · exact rr_177_3 S
  · exact rr_182_3 S
theorem A_r0_4 {L : Nat} {q : am_Pq} {M : am_M} {h : Nat} (S : am_Sh L q M) (h0 : isA h) : am_R M (h) 4 = some (h + 3) := by
  rcases h0 with rfl | rfl | rfl | rfl | rfl | rfl | rfl | rfl | rfl | rfl | rfl | rfl | rfl | rfl | rfl | rfl | rfl | rfl | rfl | rfl | rfl | rfl
  · exact rr_64_4 S
  · exact rr_76_4 S
  · exact rr_87_4 S
  · exact rr_92_4 S
  · exact rr_97_4 S
  · exact rr_102_4 S
  · exact rr_107_4 S
  · exact rr_112_4 S
  · exact rr_117_4 S
  · exact rr_122_4 S
  · exact rr_127_4 S
  · exact rr_132_4 S
  · exact rr_137_4 S
  · exact rr_142_4 S
  · exact rr_147_4 S
  · exact rr_152_4 S
  · exact rr_157_4 S
  · exact rr_162_4 S
  · exact rr_167_4 S
  · exact rr_172_4 S
  · exact rr_177_4 S
  · exact rr_182_4 S
theorem A_r0_5 {L : Nat} {q : am_Pq} {M : am_M} {h : Nat} (S : am_Sh L q M) (h0 : isA h) : am_R M (h) 5 = some (h + 4) := by
  rcases h0 with rfl | rfl | rfl | rfl | rfl | rfl | rfl | rfl | rfl | rfl | rfl | rfl | rfl | rfl | rfl | rfl | rfl | rfl | rfl | rfl | rfl | rfl
  · exact rr_64_5 S
  · exact rr_76_5 S
  · exact rr_87_5 S
  · exact rr_92_5 S
  · exact rr_97_5 S
  · exact rr_102_5 S
  · exact rr_107_5 S
  · exact rr_112_5 S
  · exact rr_117_5 S
  · exact rr_122_5 S
  · exact rr_127_5 S
  · exact rr_132_5 S
  · exact rr_137_5 S
  · exact rr_142_5 S
  · exact rr_147_5 S
  · exact rr_152_5 S
  · exact rr_157_5 S
  · exact rr_162_5 S
  · exact rr_167_5 S
  · exact rr_172_5 S
  · exact rr_177_5 S
  · exact rr_182_5 S
theorem A_k1 {L : Nat} {q : am_Pq} {M : am_M} {h : Nat} (S : am_Sh L q M) (h0 : isA h) : am_K M (h + 1) = (2, 36) := by
  rcases h0 with rfl | rfl | rfl | rfl | rfl | rfl | rfl | rfl | rfl | rfl | rfl | rfl | rfl | rfl | rfl | rfl | rfl | rfl | rfl | rfl | rfl | rfl
  · exact kk_65 S
  · exact kk_77 S
  · exact kk_88 S
  · exact kk_93 S
  · exact kk_98 S
  · exact kk_103 S
  · exact kk_108 S
  · exact kk_113 S
  · exact kk_118 S
  · exact kk_123 S
  · exact kk_128 S
  · exact kk_133 S
  · exact kk_138 S
  · exact kk_143 S
  · exact kk_148 S
  · exact kk_153 S
  · exact kk_158 S
  · exact kk_163 S
  · exact kk_168 S
  · exact kk_173 S
  · exact kk_178 S
  · exact kk_183 S
theorem A_k2 {L : Nat} {q : am_Pq} {M : am_M} {h : Nat} (S : am_Sh L q M) (h0 : isA h) : am_K M (h + 2) = (2, 48) := by
  rcases h0 with rfl | rfl | rfl | rfl | rfl | rfl | rfl | rfl | rfl | rfl | rfl | rfl | rfl | rfl | rfl | rfl | rfl | rfl | rfl | rfl | rfl | rfl
  · exact kk_66 S
  · exact kk_78 S
  · exact kk_89 S
  · exact kk_94 S
  · exact kk_99 S
  · exact kk_104 S
  · exact kk_109 S
  · exact kk_114 S
  · exact kk_119 S
  · exact kk_124 S
  · exact kk_129 S
  · exact kk_134 S
  · exact kk_139 S
  · exact kk_144 S
  · exact kk_149 S
  · exact kk_154 S
  · exact kk_159 S
  · exact kk_164 S
  · exact kk_169 S
  · exact kk_174 S
  · exact kk_179 S
  · exact kk_184 S
theorem A_k3 {L : Nat} {q : am_Pq} {M : am_M} {h : Nat} (S : am_Sh L q M) (h0 : isA h) : am_K M (h + 3) = (2, 5) := by
  rcases h0 with rfl | rfl | rfl | rfl | rfl | rfl | rfl | rfl | rfl | rfl | rfl | rfl | rfl | rfl | rfl | rfl | rfl | rfl | rfl | rfl | rfl | rfl
  · exact kk_67 S
  · exact kk_79 S
  · exact kk_90 S
  · exact kk_95 S
  · exact kk_100 S
  · exact kk_105 S
  · exact kk_110 S
  · exact kk_115 S
  · exact kk_120 S
  · exact kk_125 S
  · exact kk_130 S
  · exact kk_135 S
  · exact kk_140 S
  · exact kk_145 S
  · exact kk_150 S
  · exact kk_155 S
  · exact kk_160 S
  · exact kk_165 S
  · exact kk_170 S
  · exact kk_175 S
  · exact kk_180 S
  · exact kk_185 S
theorem A_k4 {L : Nat} {q : am_Pq} {M : am_M} {h : Nat} (S : am_Sh L q M) (h0 : isA h) : am_K M (h + 4) = (2, 40) := by
  rcases h0 with rfl | rfl | rfl | rfl | rfl | rfl | rfl | rfl | rfl | rfl | rfl | rfl | rfl | rfl | rfl | rfl | rfl | rfl | rfl | rfl | rfl | rfl
  · exact kk_68 S
  · exact kk_80 S
  · exact kk_91 S
  · exact kk_96 S
  · exact kk_101 S
  · exact kk_106 S
  · exact kk_111 S
  · exact kk_116 S
  · exact kk_121 S
  · exact kk_126 S
  · exact kk_131 S
  · exact kk_136 S
  · exact kk_141 S
  · exact kk_146 S
  · exact kk_151 S
  · exact kk_156 S
  · exact kk_161 S
  · exact kk_166 S
  · exact kk_171 S
  · exact kk_176 S
  · exact kk_181 S
  · exact kk_186 S
def isC (h : Nat) : Prop := h = 63 ∨ h = 75
theorem C_k0 {L : Nat} {q : am_Pq} {M : am_M} {h : Nat} (S : am_Sh L q M) (h0 : isC h) : am_K M (h) = (1, 1) := by
  rcases h0 with rfl | rfl
  · exact kk_63 S
  · exact kk_75 S
theorem C_r0_1 {L : Nat} {q : am_Pq} {M : am_M} {h : Nat} (S : am_Sh L q M) (h0 : isC h) : am_R M (h) 1 = some (h + 1) := by
  rcases h0 with rfl | rfl
  · exact rr_63_1 S
  · exact rr_75_1 S
theorem C_r0_2 {L : Nat} {q : am_Pq} {M : am_M} {h : Nat} (S : am_Sh L q M) (h0 : isC h) : am_R M (h) 2 = some (h + 6) := by
  rcases h0 with rfl | rfl
  · exact rr_63_2 S
  · exact rr_75_2 S
theorem C_r0_3 {L : Nat} {q : am_Pq} {M : am_M} {h : Nat} (S : am_Sh L q M) (h0 : isC h) : am_R M (h) 3 = some (h + 7) := by
  rcases h0 with rfl | rfl
  · exact rr_63_3 S
  · exact rr_75_3 S
theorem C_r0_5 {L : Nat} {q : am_Pq} {M : am_M} {h : Nat} (S : am_Sh L q M) (h0 : isC h) : am_R M (h) 5 = some (h + 8) := by
  rcases h0 with rfl | rfl
  · exact rr_63_5 S
  · exact rr_75_5 S
theorem C_k1 {L : Nat} {q : am_Pq} {M : am_M} {h : Nat} (S : am_Sh L q M) (h0 : isC h) : am_K M (h + 1) = (1, 0) := by
  rcases h0 with rfl | rfl
  · exact kk_64 S
  · exact kk_76 S
theorem C_r1_2 {L : Nat} {q : am_Pq} {M : am_M} {h : Nat} (S : am_Sh L q M) (h0 : isC h) : am_R M (h + 1) 2 = some (h + 2) := by
  rcases h0 with rfl | rfl
  · exact rr_64_2 S
  · exact rr_76_2 S
theorem C_r1_3 {L : Nat} {q : am_Pq} {M : am_M} {h : Nat} (S : am_Sh L q M) (h0 : isC h) : am_R M (h + 1) 3 = some (h + 3) := by
  rcases h0 with rfl | rfl
  · exact rr_64_3 S
  · exact rr_76_3 S
theorem C_r1_4 {L : Nat} {q : am_Pq} {M : am_M} {h : Nat} (S : am_Sh L q M) (h0 : isC h) : am_R M (h + 1) 4 = some (h + 4) := by
  rcases h0 with rfl | rfl
  · exact rr_64_4 S
  · exact rr_76_4 S
theorem C_r1_5 {L : Nat} {q : am_Pq} {M : am_M} {h : Nat} (S : am_Sh L q M) (h0 : isC h) : am_R M (h + 1) 5 = some (h + 5) := by
  rcases h0 with rfl | rfl
  · exact rr_64_5 S
  · exact rr_76_5 S
theorem C_k2 {L : Nat} {q : am_Pq} {M : am_M} {h : Nat} (S : am_Sh L q M) (h0 : isC h) : am_K M (h + 2) = (2, 36) := by
  rcases h0 with rfl | rfl
  · exact kk_65 S
  · exact kk_77 S
theorem C_k3 {L : Nat} {q : am_Pq} {M : am_M} {h : Nat} (S : am_Sh L q M) (h0 : isC h) : am_K M (h + 3) = (2, 48) := by
  rcases h0 with rfl | rfl
  · exact kk_66 S
  · exact kk_78 S
theorem C_k4 {L : Nat} {q : am_Pq} {M : am_M} {h : Nat} (S : am_Sh L q M) (h0 : isC h) : am_K M (h + 4) = (2, 5) := by
  rcases h0 with rfl | rfl
  · exact kk_67 S
  · exact kk_79 S
theorem C_k5 {L : Nat} {q : am_Pq} {M : am_M} {h : Nat} (S : am_Sh L q M) (h0 : isC h) : am_K M (h + 5) = (2, 40) := by
  rcases h0 with rfl | rfl
  · exact kk_68 S
  · exact kk_80 S
theorem C_k6 {L : Nat} {q : am_Pq} {M : am_M} {h : Nat} (S : am_Sh L q M) (h0 : isC h) : am_K M (h + 6) = (2, 5) := by
  rcases h0 with rfl | rfl
  · exact kk_69 S
  · exact kk_81 S
theorem C_k7 {L : Nat} {q : am_Pq} {M : am_M} {h : Nat} (S : am_Sh L q M) (h0 : isC h) : am_K M (h + 7) = (2, 5) := by
  rcases h0 with rfl | rfl
  · exact kk_70 S
  · exact kk_82 S
theorem C_k8 {L : Nat} {q : am_Pq} {M : am_M} {h : Nat} (S : am_Sh L q M) (h0 : isC h) : am_K M (h + 8) = (1, 3) := by
  rcases h0 with rfl | rfl
  · exact kk_71 S
  · exact kk_83 S
theorem C_r8_0 {L : Nat} {q : am_Pq} {M : am_M} {h : Nat} (S : am_Sh L q M) (h0 : isC h) : am_R M (h + 8) 0 = some (h + 9) := by
  rcases h0 with rfl | rfl
  · exact rr_71_0 S
  · exact rr_83_0 S
theorem C_r8_1 {L : Nat} {q : am_Pq} {M : am_M} {h : Nat} (S : am_Sh L q M) (h0 : isC h) : am_R M (h + 8) 1 = some (h + 10) := by
  rcases h0 with rfl | rfl
  · exact rr_71_1 S
  · exact rr_83_1 S
theorem C_r8_2 {L : Nat} {q : am_Pq} {M : am_M} {h : Nat} (S : am_Sh L q M) (h0 : isC h) : am_R M (h + 8) 2 = some (h + 11) := by
  rcases h0 with rfl | rfl
  · exact rr_71_2 S
  · exact rr_83_2 S
theorem C_k9 {L : Nat} {q : am_Pq} {M : am_M} {h : Nat} (S : am_Sh L q M) (h0 : isC h) : am_K M (h + 9) = (2, 64) := by
  rcases h0 with rfl | rfl
  · exact kk_72 S
  · exact kk_84 S
theorem C_k10 {L : Nat} {q : am_Pq} {M : am_M} {h : Nat} (S : am_Sh L q M) (h0 : isC h) : am_K M (h + 10) = (2, 29) := by
  rcases h0 with rfl | rfl
  · exact kk_73 S
  · exact kk_85 S
theorem C_k11 {L : Nat} {q : am_Pq} {M : am_M} {h : Nat} (S : am_Sh L q M) (h0 : isC h) : am_K M (h + 11) = (2, 6) := by
  rcases h0 with rfl | rfl
  · exact kk_74 S
  · exact kk_86 S
def isH (h : Nat) : Prop := h = 4 ∨ h = 38
theorem H_k0 {L : Nat} {q : am_Pq} {M : am_M} {h : Nat} (S : am_Sh L q M) (h0 : isH h) : am_K M (h) = (1, 2) := by
  rcases h0 with rfl | rfl
  · exact kk_4 S
  · exact kk_38 S
theorem H_r0_0 {L : Nat} {q : am_Pq} {M : am_M} {h : Nat} (S : am_Sh L q M) (h0 : isH h) : am_R M (h) 0 = some (h + 1) := by
  rcases h0 with rfl | rfl
  · exact rr_4_0 S
  · exact rr_38_0 S
theorem H_r0_1 {L : Nat} {q : am_Pq} {M : am_M} {h : Nat} (S : am_Sh L q M) (h0 : isH h) : am_R M (h) 1 = some (h + 2) := by
  rcases h0 with rfl | rfl
  · exact rr_4_1 S
  · exact rr_38_1 S
theorem H_r0_2 {L : Nat} {q : am_Pq} {M : am_M} {h : Nat} (S : am_Sh L q M) (h0 : isH h) : am_R M (h) 2 = some (h + 6) := by
  rcases h0 with rfl | rfl
  · exact rr_4_2 S
  · exact rr_38_2 S
theorem H_r0_3 {L : Nat} {q : am_Pq} {M : am_M} {h : Nat} (S : am_Sh L q M) (h0 : isH h) : am_R M (h) 3 = some (h + 7) := by
  rcases h0 with rfl | rfl
  · exact rr_4_3 S
  · exact rr_38_3 S
theorem H_r0_4 {L : Nat} {q : am_Pq} {M : am_M} {h : Nat} (S : am_Sh L q M) (h0 : isH h) : am_R M (h) 4 = some (h + 16) := by
  rcases h0 with rfl | rfl
  · exact rr_4_4 S
  · exact rr_38_4 S
theorem H_r0_5 {L : Nat} {q : am_Pq} {M : am_M} {h : Nat} (S : am_Sh L q M) (h0 : isH h) : am_R M (h) 5 = some (h + 17) := by
  rcases h0 with rfl | rfl
  · exact rr_4_5 S
  · exact rr_38_5 S
theorem H_r0_6 {L : Nat} {q : am_Pq} {M : am_M} {h : Nat} (S : am_Sh L q M) (h0 : isH h) : am_R M (h) 6 = some (h + 18) := by
  rcases h0 with rfl | rfl
  · exact rr_4_6 S
  · exact rr_38_6 S
theorem H_r0_15 {L : Nat} {q : am_Pq} {M : am_M} {h : Nat} (S : am_Sh L q M) (h0 : isH h) : am_R M (h) 15 = some (h + 24) := by
  rcases h0 with rfl | rfl
  · exact rr_4_15 S
  · exact rr_38_15 S
theorem H_k1 {L : Nat} {q : am_Pq} {M : am_M} {h : Nat} (S : am_Sh L q M) (h0 : isH h) : am_K M (h + 1) = (2, 3) := by
  rcases h0 with rfl | rfl
  · exact kk_5 S
  · exact kk_39 S
theorem H_k2 {L : Nat} {q : am_Pq} {M : am_M} {h : Nat} (S : am_Sh L q M) (h0 : isH h) : am_K M (h + 2) = (6, 3) := by
  rcases h0 with rfl | rfl
  · exact kk_6 S
  · exact kk_40 S
theorem H_r2 {L : Nat} {q : am_Pq} {M : am_M} {h : Nat} (S : am_Sh L q M) (h0 : isH h) {j : Nat} (hj : j < 3) : am_R M (h + 2) j = some (h + 3 + j) := by
  rcases h0 with rfl | rfl
  · match j, hj with
    | 0, _ => exact rr_6_0 S
    | 1, _ => exact rr_6_1 S
    | 2, _ => exact rr_6_2 S
    | j + 3, hj => omega
  · match j, hj with
    | 0, _ => exact rr_40_0 S
    | 1, _ => exact rr_40_1 S
    | 2, _ => exact rr_40_2 S
    | j + 3, hj => omega
theorem H_q2 {L : Nat} {q : am_Pq} {M : am_M} {h : Nat} (S : am_Sh L q M) (h0 : isH h) {j : Nat} (hj : j < 3) : am_K M (h + 3 + j) = (2, 8) := by
  rcases h0 with rfl | rfl
  · match j, hj with
    | 0, _ => exact kk_7 S
    | 1, _ => exact kk_8 S
    | 2, _ => exact kk_9 S
    | j + 3, hj => omega
  · match j, hj with
    | 0, _ => exact kk_41 S
    | 1, _ => exact kk_42 S
    | 2, _ => exact kk_43 S
    | j + 3, hj => omega
theorem H_k3 {L : Nat} {q : am_Pq} {M : am_M} {h : Nat} (S : am_Sh L q M) (h0 : isH h) : am_K M (h + 3) = (2, 8) := by
  rcases h0 with rfl | rfl
  · exact kk_7 S
  · exact kk_41 S
theorem H_k4 {L : Nat} {q : am_Pq} {M : am_M} {h : Nat} (S : am_Sh L q M) (h0 : isH h) : am_K M (h + 4) = (2, 8) := by
  rcases h0 with rfl | rfl
  · exact kk_8 S
  · exact kk_42 S
theorem H_k5 {L : Nat} {q : am_Pq} {M : am_M} {h : Nat} (S : am_Sh L q M) (h0 : isH h) : am_K M (h + 5) = (2, 8) := by
  rcases h0 with rfl | rfl
  · exact kk_9 S
  · exact kk_43 S
theorem H_k6 {L : Nat} {q : am_Pq} {M : am_M} {h : Nat} (S : am_Sh L q M) (h0 : isH h) : am_K M (h + 6) = (2, 8) := by
  rcases h0 with rfl | rfl
  · exact kk_10 S
  · exact kk_44 S
theorem H_k7 {L : Nat} {q : am_Pq} {M : am_M} {h : Nat} (S : am_Sh L q M) (h0 : isH h) : am_K M (h + 7) = (6, 8) := by
  rcases h0 with rfl | rfl
  · exact kk_11 S
  · exact kk_45 S
theorem H_r7 {L : Nat} {q : am_Pq} {M : am_M} {h : Nat} (S : am_Sh L q M) (h0 : isH h) {j : Nat} (hj : j < 8) : am_R M (h + 7) j = some (h + 8 + j) := by
  rcases h0 with rfl | rfl
  · match j, hj with
    | 0, _ => exact rr_11_0 S
    | 1, _ => exact rr_11_1 S
    | 2, _ => exact rr_11_2 S
    | 3, _ => exact rr_11_3 S
    | 4, _ => exact rr_11_4 S
    | 5, _ => exact rr_11_5 S
    | 6, _ => exact rr_11_6 S
    | 7, _ => exact rr_11_7 S
    | j + 8, hj => omega
  · match j, hj with
    | 0, _ => exact rr_45_0 S
    | 1, _ => exact rr_45_1 S
    | 2, _ => exact rr_45_2 S
    | 3, _ => exact rr_45_3 S
    | 4, _ => exact rr_45_4 S
    | 5, _ => exact rr_45_5 S
    | 6, _ => exact rr_45_6 S
    | 7, _ => exact rr_45_7 S
    | j + 8, hj => omega
theorem H_q7 {L : Nat} {q : am_Pq} {M : am_M} {h : Nat} (S : am_Sh L q M) (h0 : isH h) {j : Nat} (hj : j < 8) : am_K M (h + 8 + j) = (2, 6) := by
  rcases h0 with rfl | rfl
  · match j, hj with
    | 0, _ => exact kk_12 S
    | 1, _ => exact kk_13 S
    | 2, _ => exact kk_14 S
    | 3, _ => exact kk_15 S
    | 4, _ => exact kk_16 S
    | 5, _ => exact kk_17 S
    | 6, _ => exact kk_18 S
    | 7, _ => exact kk_19 S
    | j + 8, hj => omega
  · match j, hj with
    | 0, _ => exact kk_46 S
    | 1, _ => exact kk_47 S
    | 2, _ => exact kk_48 S
    | 3, _ => exact kk_49 S
    | 4, _ => exact kk_50 S
    | 5, _ => exact kk_51 S
    | 6, _ => exact kk_52 S
    | 7, _ => exact kk_53 S
    | j + 8, hj => omega
theorem H_k8 {L : Nat} {q : am_Pq} {M : am_M} {h : Nat} (S : am_Sh L q M) (h0 : isH h) : am_K M (h + 8) = (2, 6) := by
  rcases h0 with rfl | rfl
  · exact kk_12 S
  · exact kk_46 S
theorem H_k9 {L : Nat} {q : am_Pq} {M : am_M} {h : Nat} (S : am_Sh L q M) (h0 : isH h) : am_K M (h + 9) = (2, 6) := by
  rcases h0 with rfl | rfl
  · exact kk_13 S
  · exact kk_47 S
theorem H_k10 {L : Nat} {q : am_Pq} {M : am_M} {h : Nat} (S : am_Sh L q M) (h0 : isH h) : am_K M (h + 10) = (2, 6) := by
  rcases h0 with rfl | rfl
  · exact kk_14 S
  · exact kk_48 S
theorem H_k11 {L : Nat} {q : am_Pq} {M : am_M} {h : Nat} (S : am_Sh L q M) (h0 : isH h) : am_K M (h + 11) = (2, 6) := by
  rcases h0 with rfl | rfl
  · exact kk_15 S
  · exact kk_49 S
theorem H_k12 {L : Nat} {q : am_Pq} {M : am_M} {h : Nat} (S : am_Sh L q M) (h0 : isH h) : am_K M (h + 12) = (2, 6) := by
  rcases h0 with rfl | rfl
  · exact kk_16 S
  · exact kk_50 S
theorem H_k13 {L : Nat} {q : am_Pq} {M : am_M} {h : Nat} (S : am_Sh L q M) (h0 : isH h) : am_K M (h + 13) = (2, 6) := by
  rcases h0 with rfl | rfl
  · exact kk_17 S
  · exact kk_51 S
theorem H_k14 {L : Nat} {q : am_Pq} {M : am_M} {h : Nat} (S : am_Sh L q M) (h0 : isH h) : am_K M (h + 14) = (2, 6) := by
  rcases h0 with rfl | rfl
  · exact kk_18 S
  · exact kk_52 S
theorem H_k15 {L : Nat} {q : am_Pq} {M : am_M} {h : Nat} (S : am_Sh L q M) (h0 : isH h) : am_K M (h + 15) = (2, 6) := by
  rcases h0 with rfl | rfl
  · exact kk_19 S
  · exact kk_53 S
theorem H_k16 {L : Nat} {q : am_Pq} {M : am_M} {h : Nat} (S : am_Sh L q M) (h0 : isH h) : am_K M (h + 16) = (2, 5) := by
  rcases h0 with rfl | rfl
  · exact kk_20 S
  · exact kk_54 S
theorem H_k17 {L : Nat} {q : am_Pq} {M : am_M} {h : Nat} (S : am_Sh L q M) (h0 : isH h) : am_K M (h + 17) = (2, 5) := by
  rcases h0 with rfl | rfl
  · exact kk_21 S
  · exact kk_55 S
theorem H_k18 {L : Nat} {q : am_Pq} {M : am_M} {h : Nat} (S : am_Sh L q M) (h0 : isH h) : am_K M (h + 18) = (6, 5) := by
  rcases h0 with rfl | rfl
  · exact kk_22 S
  · exact kk_56 S
theorem H_r18 {L : Nat} {q : am_Pq} {M : am_M} {h : Nat} (S : am_Sh L q M) (h0 : isH h) {j : Nat} (hj : j < 5) : am_R M (h + 18) j = some (h + 19 + j) := by
  rcases h0 with rfl | rfl
  · match j, hj with
    | 0, _ => exact rr_22_0 S
    | 1, _ => exact rr_22_1 S
    | 2, _ => exact rr_22_2 S
    | 3, _ => exact rr_22_3 S
    | 4, _ => exact rr_22_4 S
    | j + 5, hj => omega
  · match j, hj with
    | 0, _ => exact rr_56_0 S
    | 1, _ => exact rr_56_1 S
    | 2, _ => exact rr_56_2 S
    | 3, _ => exact rr_56_3 S
    | 4, _ => exact rr_56_4 S
    | j + 5, hj => omega
theorem H_q18 {L : Nat} {q : am_Pq} {M : am_M} {h : Nat} (S : am_Sh L q M) (h0 : isH h) {j : Nat} (hj : j < 5) : am_K M (h + 19 + j) = (2, 6) := by
  rcases h0 with rfl | rfl
  · match j, hj with
    | 0, _ => exact kk_23 S
    | 1, _ => exact kk_24 S
    | 2, _ => exact kk_25 S
    | 3, _ => exact kk_26 S
    | 4, _ => exact kk_27 S
    | j + 5, hj => omega
  · match j, hj with
    | 0, _ => exact kk_57 S
    | 1, _ => exact kk_58 S
    | 2, _ => exact kk_59 S
    | 3, _ => exact kk_60 S
    | 4, _ => exact kk_61 S
    | j + 5, hj => omega
theorem H_k19 {L : Nat} {q : am_Pq} {M : am_M} {h : Nat} (S : am_Sh L q M) (h0 : isH h) : am_K M (h + 19) = (2, 6) := by
  rcases h0 with rfl | rfl
  · exact kk_23 S
  · exact kk_57 S
theorem H_k20 {L : Nat} {q : am_Pq} {M : am_M} {h : Nat} (S : am_Sh L q M) (h0 : isH h) : am_K M (h + 20) = (2, 6) := by
  rcases h0 with rfl | rfl
  · exact kk_24 S
  · exact kk_58 S
theorem H_k21 {L : Nat} {q : am_Pq} {M : am_M} {h : Nat} (S : am_Sh L q M) (h0 : isH h) : am_K M (h + 21) = (2, 6) := by
  rcases h0 with rfl | rfl
  · exact kk_25 S
  · exact kk_59 S
theorem H_k22 {L : Nat} {q : am_Pq} {M : am_M} {h : Nat} (S : am_Sh L q M) (h0 : isH h) : am_K M (h + 22) = (2, 6) := by
  rcases h0 with rfl | rfl
  · exact kk_26 S
  · exact kk_60 S
theorem H_k23 {L : Nat} {q : am_Pq} {M : am_M} {h : Nat} (S : am_Sh L q M) (h0 : isH h) : am_K M (h + 23) = (2, 6) := by
  rcases h0 with rfl | rfl
  · exact kk_27 S
  · exact kk_61 S
theorem H_k24 {L : Nat} {q : am_Pq} {M : am_M} {h : Nat} (S : am_Sh L q M) (h0 : isH h) : am_K M (h + 24) = (2, 1600) := by
  rcases h0 with rfl | rfl
  · exact kk_28 S
  · exact kk_62 S
def isMc (h : Nat) : Prop := h = 71 ∨ h = 83
theorem Mc_k0 {L : Nat} {q : am_Pq} {M : am_M} {h : Nat} (S : am_Sh L q M) (h0 : isMc h) : am_K M (h) = (1, 3) := by
  rcases h0 with rfl | rfl
  · exact kk_71 S
  · exact kk_83 S
theorem Mc_r0_0 {L : Nat} {q : am_Pq} {M : am_M} {h : Nat} (S : am_Sh L q M) (h0 : isMc h) : am_R M (h) 0 = some (h + 1) := by
  rcases h0 with rfl | rfl
  · exact rr_71_0 S
  · exact rr_83_0 S
theorem Mc_r0_1 {L : Nat} {q : am_Pq} {M : am_M} {h : Nat} (S : am_Sh L q M) (h0 : isMc h) : am_R M (h) 1 = some (h + 2) := by
  rcases h0 with rfl | rfl
  · exact rr_71_1 S
  · exact rr_83_1 S
theorem Mc_r0_2 {L : Nat} {q : am_Pq} {M : am_M} {h : Nat} (S : am_Sh L q M) (h0 : isMc h) : am_R M (h) 2 = some (h + 3) := by
  rcases h0 with rfl | rfl
  · exact rr_71_2 S
  · exact rr_83_2 S
theorem Mc_k1 {L : Nat} {q : am_Pq} {M : am_M} {h : Nat} (S : am_Sh L q M) (h0 : isMc h) : am_K M (h + 1) = (2, 64) := by
  rcases h0 with rfl | rfl
  · exact kk_72 S
  · exact kk_84 S
theorem Mc_k2 {L : Nat} {q : am_Pq} {M : am_M} {h : Nat} (S : am_Sh L q M) (h0 : isMc h) : am_K M (h + 2) = (2, 29) := by
  rcases h0 with rfl | rfl
  · exact kk_73 S
  · exact kk_85 S
theorem Mc_k3 {L : Nat} {q : am_Pq} {M : am_M} {h : Nat} (S : am_Sh L q M) (h0 : isMc h) : am_K M (h + 3) = (2, 6) := by
  rcases h0 with rfl | rfl
  · exact kk_74 S
  · exact kk_86 S
