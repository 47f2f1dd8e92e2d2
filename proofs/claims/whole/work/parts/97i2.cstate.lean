/-! The reference is made. -/
noncomputable def cv_b6 : List (Nat × List (Nat × am_E)) := [(144, am_c126_0), (280, am_c126_1), (415, am_c126_2), (551, am_c126_3), (685, am_c126_4), (821, am_c126_5), (967, am_c126_6), (1123, am_c126_7), (1258, am_c126_8), (1395, am_c126_9), (1529, am_c126_10), (1679, am_c126_11), (1680, am_c126_12)]
noncomputable def cv_f6 : Nat → Nat → Option am_E := fun m pc => bif Nat.beq m 126 then cv_fc cv_b6 pc else none
theorem cv_b6_jn : cv_jn cv_b6 = am_tb 126 := rfl
set_option maxRecDepth 100000 in
theorem cv_b6_ok : (cv_b6.all (fun c => c.2.all (fun e => Nat.blt e.1 c.1))) = true := by decide +kernel
theorem cv_f6_ok (m pc : Nat) (e : am_E) (h : cv_f6 m pc = some e) : am_find (am_tb m) pc = some e := by
  unfold cv_f6 at h
  cases hb : Nat.beq m 126 with
  | false => rw [hb] at h; cases h
  | true =>
    rw [hb] at h
    have := Nat.eq_of_beq_eq_true hb
    subst this
    rw [← cv_b6_jn]
    exact cv_fc_ok _ cv_b6_ok h
set_option maxRecDepth 100000 in
theorem cv_c6 : cv_run cv_f6 1251 126 599 0 (cv_pad [(3, 187)] (am_ml 126)) [] (cv_nw cvS2 (1, 6) 103) = some cvS4 := cv_chk_of (by decide +kernel)
