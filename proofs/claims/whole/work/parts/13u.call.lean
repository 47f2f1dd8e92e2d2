/-! Calls. -/
theorem am_in_all {ws : List Jvm.Cond} (h : ∀ w ∈ ws, w ∈ am_W) : GoodIn am_W ws := fun w hw => am_W_good w (h w hw)
theorem am_wm_in {a : Nat} (hk : am_kd (am_hd a) ≠ 3) : ∀ w ∈ am_wm a, w ∈ am_W := by
  intro w hw
  rcases List.mem_cons.mp hw with h | h
  · rw [h]; exact (am_sok_of hk).2.2.1
  · exact h
theorem am_wa_int : Cond.arrayClass .int ∈ am_W := am_inW (ws := [Cond.arrayClass .int]) (by decide +kernel) _ List.mem_cons_self
theorem am_wa_long : Cond.arrayClass .long ∈ am_W := am_inW (ws := [Cond.arrayClass .long]) (by decide +kernel) _ List.mem_cons_self
theorem am_wa_char : Cond.arrayClass .char ∈ am_W := am_inW (ws := [Cond.arrayClass .char]) (by decide +kernel) _ List.mem_cons_self
theorem am_wa_nat : Cond.native arraycopyName ∈ am_W := am_inW (ws := [Cond.native arraycopyName]) (by decide +kernel) _ List.mem_cons_self
theorem am_wa_stat : Cond.static arraycopyName ∈ am_W := am_inW (ws := [Cond.static arraycopyName]) (by decide +kernel) _ List.mem_cons_self
theorem am_wa_sys : Cond.initialized "java/lang/System" ∈ am_W := am_inW (ws := [Cond.initialized "java/lang/System"]) (by decide +kernel) _ List.mem_cons_self
theorem am_wa_obj : Cond.instanceMethod objectInit ∈ am_W := am_inW (ws := [Cond.instanceMethod objectInit]) (by decide +kernel) _ List.mem_cons_self
theorem am_wa_objc : Cond.code objectInit ⟨#[0xb1]⟩ 1 none ∈ am_W := am_inW (ws := [Cond.code objectInit ⟨#[0xb1]⟩ 1 none]) (by decide +kernel) _ List.mem_cons_self
theorem am_ty_of {a b : Nat} (ha : a < 7) (hb : b < am_nf a) : (am_ft a b = 1 → am_ty a b = .int) ∧ (am_ft a b = 2 → am_ty a b = .long) ∧ (am_ft a b = 4 → am_ty a b = .boolean) ∧ (am_ft a b = 3 → (∃ n, am_ty a b = .object n) ∨ ∃ t, am_ty a b = .array t) ∧ (am_ft a b = 1 ∨ am_ft a b = 2 ∨ am_ft a b = 3 ∨ am_ft a b = 4) := by
  have h := am_ctf_ok a ha b hb
  unfold am_ft
  generalize am_ty a b = t at h
  cases t <;> first | (cases h; done) | (simp [am_tf])
theorem am_any_of' {as : List Value} {r : Nat} {t : List Value} {ad : Nat → Nat} (h : as = .ref r :: t) : as.map (am_cv ad) = .ref (ad r) :: t.map (am_cv ad) := by rw [h]; rfl
section AMCL
variable {p : Program} {l : Launch} {e : Env} {R : Room} {s : State} {m : MethodId} {args : Array Value} {below : List Frame} {meth : Method} {c : Code} {H : Heap} {locs : List Loc} {cells slots : Nat}
variable {n mid pc d a b index : Nat} {ls : Array Slot} {st : List Value} {G : am_G} {M M1 : am_M} {v : Option Value}
theorem am_sum8 {ad : Nat → Nat} {t : List Value} (h : am_cat t ≤ 8) : ((t.map (am_cv ad)).map fun v => v.category).sum ≤ 8 := by
  rw [am_cat_sum]; exact h
theorem am_c_S (ih : am_Snd l n) (hF : am_Fx mid p s m args meth c) (hW : am_Wd G s) (hM : am_Mm G M H) (hsz : ls.size = am_ml mid) (hkd : am_kd (am_hd a) = 0) (hna : b = am_na (am_hd a)) (hl : Cond.methodLink (am_hd mid).1.cls index (am_hd a).1 ∈ am_W) (hco : b ≤ st.length ∧ am_cat (am_dp st b) ≤ 8 ∧ (am_loc (am_tk st b [])).length ≤ am_ml a)
    (hrun : am_run n a d 0 (am_lc a (am_tk st b [])) [] M = some (v, M1)) (hd : decode (am_hd mid).2.1 pc = .ok (.invokestatic index, 3)) (hfr : d + 1 ≤ R.frames) (hlc : 130 * (d + 1) ≤ R.locals) (hc : cells + (am_n M1 - am_n M) ≤ R.cells) (hs : slots + (am_s M1 - am_s M) ≤ R.slots) :
    va_Run p l e R s m args below meth c H locs cells slots (am_n M1 - am_n M) (am_s M1 - am_s M) (F0 m pc ls (st.map (am_cv (am_ga G)))) ((am_dp st b).map (am_cv (am_ga G))) (am_Qc G v M1 ((am_tk st b []).map (am_cv (am_ga G))).toArray) (am_fr G) := by
  obtain ⟨hx, hb, hml, hown, hts, hr, hlocks, hinit⟩ := hF
  have hk3 : am_kd (am_hd a) ≠ 3 := by rw [hkd]; decide
  obtain ⟨k1, k2, k3, k4, k5, k6, k7, k8⟩ := am_sok_of hk3
  have hm100 := am_sok_ml a
  obtain ⟨e1, e2⟩ := am_tk_st hco.1
  have hstk : st.map (am_cv (am_ga G)) = ((am_tk st b []).map (am_cv (am_ga G))).reverse ++ (am_dp st b).map (am_cv (am_ga G)) := by
    rw [← List.map_reverse, ← List.map_append, ← e1]
  refine va_runS (Ts := am_W) (own := (am_hd mid).1.cls) ⟨hx, hb, hml, hown, hts⟩ (am_met ih hrun hk3 hco.2.2 G) (n := b) (bytes := (am_hd a).2.1) (maxL := am_ml a) (ret := (am_hd a).2.2.2.1) (index := index)
    ⟨callB_of b hts (am_in_all (am_wm_in hk3)) rfl rfl rfl (hts _ k4) (hts _ hl) ⟨k2.1, k2.2, by rw [k5, if_pos hkd, hna]⟩ ⟨hfr, by show 8 + (am_ml a + 11) + 130 * d ≤ _; omega⟩, hts _ (k6 hkd)⟩ ⟨am_Pc_blind, am_Pc_at hM hW⟩ rfl (by rw [List.length_map, e2]) hsz hstk (lv_room (am_sum8 hco.2.1)) hd ⟨hc, hs⟩
theorem am_c_V (ih : am_Snd l n) (hF : am_Fx mid p s m args meth c) (hW : am_Wd G s) (hM : am_Mm G M H) (hsz : ls.size = am_ml mid) (hkd : am_kd (am_hd a) = 1) (hna : b = am_na (am_hd a)) (hl : Cond.methodLink (am_hd mid).1.cls index (am_hd a).1 ∈ am_W) (hco : b ≤ st.length ∧ am_cat (am_dp st b) ≤ 8 ∧ (am_loc (am_tk st b [])).length ≤ am_ml a)
    {r : Nat} {as : List Value} (hrc : am_tk st b [] = .ref r :: as) (hob : am_K M r = (1, am_ci (am_hd a)))
    (hrun : am_run n a d 0 (am_lc a (am_tk st b [])) [] M = some (v, M1)) (hd : decode (am_hd mid).2.1 pc = .ok (.invokevirtual index, 3)) (hfr : d + 1 ≤ R.frames) (hlc : 130 * (d + 1) ≤ R.locals) (hc : cells + (am_n M1 - am_n M) ≤ R.cells) (hs : slots + (am_s M1 - am_s M) ≤ R.slots) :
    va_Run p l e R s m args below meth c H locs cells slots (am_n M1 - am_n M) (am_s M1 - am_s M) (F0 m pc ls (st.map (am_cv (am_ga G)))) ((am_dp st b).map (am_cv (am_ga G))) (am_Qc G v M1 ((am_tk st b []).map (am_cv (am_ga G))).toArray) (am_fr G) := by
  obtain ⟨hx, hb, hml, hown, hts, hr, hlocks, hinit⟩ := hF
  have hk3 : am_kd (am_hd a) ≠ 3 := by rw [hkd]; decide
  obtain ⟨k1, k2, k3, k4, k5, k6, k7, k8⟩ := am_sok_of hk3
  obtain ⟨j1, j2, j3, j4, j5⟩ := k7 hkd
  have hm100 := am_sok_ml a
  obtain ⟨e1, e2⟩ := am_tk_st hco.1
  have hP := am_Pc_at (as := am_tk st b []) hM hW
  have hmet := am_met ih hrun hk3 hco.2.2 G
  rw [hrc] at e2
  rw [am_any_of' hrc] at hP
  have hstk : st.map (am_cv (am_ga G)) = (as.map (am_cv (am_ga G))).reverse ++ .ref (am_ga G r) :: (am_dp st b).map (am_cv (am_ga G)) := by
    rw [hrc] at e1
    have : st.map (am_cv (am_ga G)) = ((Value.ref r :: as).reverse ++ am_dp st b).map (am_cv (am_ga G)) := by rw [← e1]
    rw [this]
    simp [am_cv]
  have h2 := hM.ge hob
  obtain ⟨cell, q1, q2, q3, q4⟩ := (hM.2.2.2.2.2.2.2 r h2 (hM.lt (by rw [hob]; exact Nat.one_ne_zero))).1 (by rw [hob])
  rw [hob] at q2
  rw [am_any_of' hrc]
  have hlen : b = as.length + 1 := by simpa using e2.symm
  have hgw : GoodIn am_W (wsV (am_hd mid).1.cls index (am_hd a).1.cls (am_hd a).1 (am_wm a)) := am_in_all (fun w hw => by
    unfold wsV at hw
    rcases List.mem_append.mp hw with h | h
    · simp only [List.mem_cons, List.not_mem_nil, or_false] at h
      rcases h with h | h | h | h
      · rw [h]; exact hl
      · rw [h]; exact j2
      · rw [h]; exact j3
      · rw [h]; exact k4
    · exact am_wm_in hk3 w h)
  refine va_runV (Ts := am_W) (own := (am_hd mid).1.cls) (C := (am_hd a).1.cls) ⟨hx, hb, hml, hown, hts⟩ hmet (n := b - 1) (bytes := (am_hd a).2.1) (maxL := am_ml a) (ret := (am_hd a).2.2.2.1) (index := index)
    (cwV (b - 1) hts hgw rfl rfl rfl ⟨rfl, k2.1, k2.2, by rw [k5, if_neg (by rw [hkd]; decide), hna]⟩ ⟨hfr, by show 8 + (am_ml a + 11) + 130 * d ≤ _; omega⟩)
    ⟨am_Pc_blind, ⟨cell, q1, by rw [q3]; rfl, ?_⟩, hP⟩ rfl (by rw [List.length_map]; omega) hsz hstk (lv_room (am_sum8 hco.2.1)) hd ⟨hc, hs⟩
  rw [q2, ← j5]
  exact (hW.1.1 _ _ (am_cl_at _ j4)).2.1
theorem am_c_I (ih : am_Snd l n) (hF : am_Fx mid p s m args meth c) (hW : am_Wd G s) (hM : am_Mm G M H) (hsz : ls.size = am_ml mid) (hkd : am_kd (am_hd a) = 2) (hna : b = am_na (am_hd a)) (hl : Cond.methodLink (am_hd mid).1.cls index (am_hd a).1 ∈ am_W ∨ ∃ host, Cond.methodLinkNest (am_hd mid).1.cls index (am_hd a).1 host ∈ lw_tbl) (hco : b ≤ st.length ∧ am_cat (am_dp st b) ≤ 8 ∧ (am_loc (am_tk st b [])).length ≤ am_ml a)
    {r : Nat} {as : List Value} (hrc : am_tk st b [] = .ref r :: as)
    (hrun : am_run n a d 0 (am_lc a (am_tk st b [])) [] M = some (v, M1)) (hd : decode (am_hd mid).2.1 pc = .ok (.invokespecial index, 3)) (hfr : d + 1 ≤ R.frames) (hlc : 130 * (d + 1) ≤ R.locals) (hc : cells + (am_n M1 - am_n M) ≤ R.cells) (hs : slots + (am_s M1 - am_s M) ≤ R.slots) :
    va_Run p l e R s m args below meth c H locs cells slots (am_n M1 - am_n M) (am_s M1 - am_s M) (F0 m pc ls (st.map (am_cv (am_ga G)))) ((am_dp st b).map (am_cv (am_ga G))) (am_Qc G v M1 ((am_tk st b []).map (am_cv (am_ga G))).toArray) (am_fr G) := by
  obtain ⟨hx, hb, hml, hown, hts, hr, hlocks, hinit⟩ := hF
  have hk3 : am_kd (am_hd a) ≠ 3 := by rw [hkd]; decide
  obtain ⟨k1, k2, k3, k4, k5, k6, k7, k8⟩ := am_sok_of hk3
  obtain ⟨j1, j2, j3, j4⟩ := k8 hkd
  have hm100 := am_sok_ml a
  obtain ⟨e1, e2⟩ := am_tk_st hco.1
  have hP := am_Pc_at (as := am_tk st b []) hM hW
  have hmet := am_met ih hrun hk3 hco.2.2 G
  rw [hrc] at e2
  rw [am_any_of' hrc] at hP
  have hstk : st.map (am_cv (am_ga G)) = (as.map (am_cv (am_ga G))).reverse ++ .ref (am_ga G r) :: (am_dp st b).map (am_cv (am_ga G)) := by
    rw [hrc] at e1
    have : st.map (am_cv (am_ga G)) = ((Value.ref r :: as).reverse ++ am_dp st b).map (am_cv (am_ga G)) := by rw [← e1]
    rw [this]
    simp [am_cv]
  rw [am_any_of' hrc]
  have hlen : b = as.length + 1 := by simpa using e2.symm
  have hdd : (am_hd a).1.cls ≠ "java/lang/invoke/MethodHandle" ∧ (am_hd a).1.cls ≠ "java/lang/invoke/VarHandle" ∧ (parseMethodDescriptor (am_hd a).1.desc).map (fun d => d.parameters.length) = some (b - 1) := ⟨k2.1, k2.2, by rw [k5, if_neg (by rw [hkd]; decide), hna]⟩
  have hwm : am_wm a = Cond.code (am_hd a).1 (am_hd a).2.1 (am_ml a) none :: am_W := by unfold am_wm; rw [j4]
  rcases hl with hl | ⟨host, hl⟩
  · exact va_runI (Ts := am_W) (own := (am_hd mid).1.cls) ⟨hx, hb, hml, hown, hts⟩ hmet (n := b - 1) (bytes := (am_hd a).2.1) (maxL := am_ml a) (index := index)
      (cwI (b - 1) hts (am_in_all (am_wm_in hk3)) hwm rfl rfl (hts _ k4) (hts _ hl) (hts _ j2) j3 hdd ⟨hfr, by show 8 + (am_ml a + 11) + 130 * d ≤ _; omega⟩)
      ⟨am_Pc_blind, hP⟩ rfl (by rw [List.length_map]; omega) hsz hstk (lv_room (am_sum8 hco.2.1)) hd ⟨hc, hs⟩
  · exact va_runIN (Ts := am_W) (own := (am_hd mid).1.cls) (host := host) ⟨hx, hb, hml, hown, hts⟩ hmet (n := b - 1) (bytes := (am_hd a).2.1) (maxL := am_ml a) (index := index)
      ⟨va_cnB (b - 1) hts (am_in_all (am_wm_in hk3)) hwm rfl rfl (hW.2.2.2.2.1 _ _ _ _ hl) (hts _ k4) hdd ⟨hfr, by show 8 + (am_ml a + 11) + 130 * d ≤ _; omega⟩, j3, hts _ j2⟩
      ⟨am_Pc_blind, hP⟩ rfl (by rw [List.length_map]; omega) hsz hstk (lv_room (am_sum8 hco.2.1)) hd ⟨hc, hs⟩
end AMCL
