/-! The machine does what the abstract machine tells: step by step. -/
theorem am_find_mem {α : Type} : ∀ {l : List (Nat × α)} {k : Nat} {x : α}, am_find l k = some x → (k, x) ∈ l
  | [], _, _, h => by cases h
  | (a, y) :: l, k, x, h => by
    unfold am_find at h
    cases hb : Nat.beq a k with
    | true =>
      rw [hb] at h
      have : y = x := by simpa using h
      subst this
      rw [Nat.eq_of_beq_eq_true hb]
      exact List.mem_cons_self
    | false =>
      rw [hb] at h
      exact List.mem_cons_of_mem _ (am_find_mem h)
theorem am_beq {a b : Nat} (h : Nat.beq a b = true) : a = b := Nat.eq_of_beq_eq_true h
theorem am_cok_of {a b : Nat} {st : List Value} (h : am_cok a b st = true) : b ≤ st.length ∧ am_cat (am_dp st b) ≤ 8 ∧ (am_loc (am_tk st b [])).length ≤ am_ml a := by
  unfold am_cok at h
  simp only [Bool.and_eq_true] at h
  exact ⟨Nat.le_of_ble_eq_true h.1.1, Nat.le_of_ble_eq_true h.1.2, Nat.le_of_ble_eq_true h.2⟩
theorem am_br_of {q : Jvm.ClassFile.Cond} {x y : Int32} {t f : am_Q} {r : Option Value × am_M} (h : am_br q x y t f = some r) : (am_cm q x y = true ∧ t = some r) ∨ (am_cm q x y = false ∧ f = some r) := by
  unfold am_br at h
  cases q <;> (dsimp only at h; split at h) <;> simp_all [am_cm]
theorem am_int_of_toInt {x : Int32} {k : Int} (hk : (am_i k).toInt = k) (h : x.toInt = k) : x = am_i k := by
  apply Int32.toInt_inj.mp
  rw [h, hk]
theorem am_sw_hit {g : Nat → am_Q} {r : Option Value × am_M} {d : Nat} {x : Int32} : ∀ {l : List (Int × Nat)}, (∀ q ∈ l, (am_i q.1).toInt = q.1) → am_sw l d x g = some r → (∃ (i : Nat) (q : Int × Nat), l[i]? = some q ∧ x.toInt = q.1 ∧ g q.2 = some r) ∨ ((∀ q ∈ l, x.toInt ≠ q.1) ∧ g d = some r)
  | [], _, h => Or.inr ⟨fun q hq => (by cases hq), h⟩
  | (k, t) :: l, hl, h => by
    unfold am_sw at h
    have hk := hl _ List.mem_cons_self
    by_cases hx : x = am_i k
    · rw [if_pos hx] at h
      exact Or.inl ⟨0, (k, t), rfl, by rw [hx]; exact hk, h⟩
    · rw [if_neg hx] at h
      rcases am_sw_hit (fun q hq => hl q (List.mem_cons_of_mem _ hq)) h with ⟨i, q, h1, h2, h3⟩ | ⟨h1, h2⟩
      · exact Or.inl ⟨i + 1, q, by simpa using h1, h2, h3⟩
      · refine Or.inr ⟨fun q hq => ?_, h2⟩
        rcases List.mem_cons.mp hq with rfl | hq
        · intro e
          exact hx (am_int_of_toInt hk e)
        · exact h1 q hq
theorem am_any_of {as : List Value} {r : Nat} {t : List Value} (h : as = .ref r :: t) (ad : Nat → Nat) : as.map (am_cv ad) = .ref (ad r) :: t.map (am_cv ad) := by rw [h]; rfl
theorem am_b0 : narrow .boolean (.int (am_i 0)) = .int (am_i 0) := by decide +kernel
theorem am_b1 : narrow .boolean (.int (am_i 1)) = .int (am_i 1) := by decide +kernel
theorem am_bfit (x : Int32) : fits .boolean (.int x) = true → True := fun _ => trivial
set_option maxHeartbeats 16000000 in
set_option maxRecDepth 100000 in
theorem am_snd_step {l : Launch} {n : Nat} (ih : am_Snd l n) : am_Snd l (n + 1) := by
  intro mid d pc lA sA M v M' hrun p e R s m args below meth c H locs cells slots mc ms ls G hF hW hM hlo hls hdf hdl hce hse hmc hms
  have hF0 := hF
  obtain ⟨hx, hb, hml, hown, hts, hr, hlocks, hinit⟩ := hF0
  obtain ⟨hK, hX, hbz, hHz, hNst, hAO1, hAO2, hTx⟩ := id hW
  have hmono := am_mono (n + 1) mid d pc lA sA M v M' hrun
  have hrun : am_nx (am_run n) mid d pc lA sA M = some (v, M') := hrun
  unfold am_nx am_step at hrun
  cases hf : am_find (am_tb mid) pc with
  | none =>
    rw [hf] at hrun
    cases hrun
  | some E =>
    rw [hf] at hrun
    obtain ⟨ins, len, a, b, c1, e1, z, sw⟩ := E
    have hk := List.all_eq_true.mp (am_oks mid).2 _ (am_find_mem hf)
    dsimp only at hrun
    have K : ∀ {pc' : Nat} {lA' sA' : List Value} {M1 : am_M} {H1 : Heap} {locs1 : List Loc} {ls1 : Array Slot} {cells1 slots1 : Nat}, am_run n mid d pc' lA' sA' M1 = some (v, M') → am_Mm G M1 H1 → am_lo G locs1 → am_Ls (am_ga G) (am_ml mid) ls1 lA' → cells1 + am_n M' ≤ mc + am_n M1 → slots1 + am_s M' ≤ ms + am_s M1 →
        W p l e R s m args below meth c H1 locs1 cells1 slots1 (MQ below (am_Qc G v M') args s mc ms (am_fr G)) (F0 m pc' ls1 (sA'.map (am_cv (am_ga G)))) :=
      fun h hM1 hlo1 hls1 hc1 hs1 => ih mid d _ _ _ _ v M' h p e R s m args below meth c _ _ _ _ mc ms _ G hF hW hM1 hlo1 hls1 hdf hdl hc1 hs1 hmc hms
    have K0 : ∀ {pc' : Nat} {lA' sA' : List Value} {ls1 : Array Slot}, am_run n mid d pc' lA' sA' M = some (v, M') → am_Ls (am_ga G) (am_ml mid) ls1 lA' →
        W p l e R s m args below meth c H locs cells slots (MQ below (am_Qc G v M') args s mc ms (am_fr G)) (F0 m pc' ls1 (sA'.map (am_cv (am_ga G)))) :=
      fun h hls1 => K h hM hlo hls1 hce hse
    have Kw : ∀ {pc' : Nat} {lA' sA' : List Value} {M1 : am_M} {H1 : Heap} {locs1 : List Loc} {ls1 : Array Slot}, am_run n mid d pc' lA' sA' M1 = some (v, M') → am_n M1 = am_n M → am_s M1 = am_s M → am_Mm G M1 H1 → am_lo G locs1 → am_Ls (am_ga G) (am_ml mid) ls1 lA' →
        W p l e R s m args below meth c H1 locs1 cells slots (MQ below (am_Qc G v M') args s mc ms (am_fr G)) (F0 m pc' ls1 (sA'.map (am_cv (am_ga G)))) :=
      fun h e1 e2 hM1 hlo1 hls1 => K h hM1 hlo1 hls1 (by rw [e1]; exact hce) (by rw [e2]; exact hse)
    cases ins
    all_goals dsimp only at hrun
    all_goals first | (cases hrun; done) | skip
    all_goals unfold am_eok at hk
    all_goals dsimp only at hk
    all_goals simp only [Bool.and_eq_true, decide_eq_true_eq] at hk
    all_goals (try obtain ⟨hd, hk⟩ := hk)
    case iconst k =>
      obtain ⟨h1, h2⟩ := hk
      obtain rfl := am_beq h1
      exact lv_iconst hx hb hd h2 (K0 hrun hls)
    case bipush k =>
      obtain ⟨h1, h2⟩ := hk
      obtain rfl := am_beq h1
      exact lv_bipush hx hb hd h2 (K0 hrun hls)
    case sipush k =>
      obtain ⟨h1, h2⟩ := hk
      obtain rfl := am_beq h1
      exact lv_sipush hx hb hd h2 (K0 hrun hls)
    case ldc_w k =>
      obtain ⟨h1, h2⟩ := hk
      obtain rfl := am_beq h1
      exact lv_ldcw hx hb hown (hts _ (am_pl_in h2)) hd (K0 hrun hls)
    case ldc k =>
      obtain ⟨h1, h2⟩ := hk
      obtain rfl := am_beq h1
      by_cases hb1 : b = 1
      · rw [if_pos hb1] at hrun h2
        unfold am_pm at h2
        rw [decide_eq_true_eq] at h2
        exact am_r_lds hx hb hown hW (am_wt_in h2) hd (K0 hrun hls)
      · rw [if_neg hb1] at hrun h2
        exact lv_ldc hx hb hown (hts _ (am_pl_in h2)) hd (K0 hrun hls)
    case lconst k =>
      obtain ⟨h1, h2⟩ := hk
      obtain rfl := am_beq h1
      exact lv_lconst hx hb hd h2 (K0 hrun hls)
    case ldc2_w k =>
      obtain ⟨h1, h2⟩ := hk
      obtain rfl := am_beq h1
      exact lv_ldc2 hx hb hown (hts _ (am_pl_in h2)) hd (K0 hrun hls)
    case iload_n k =>
      obtain ⟨h1, h2⟩ := hk
      obtain rfl := am_beq h1
      obtain ⟨x, g1, g2⟩ := am_xI_of hrun
      exact lv_iload_n hx hb hd (am_beq h2) (hls.at g1 (by simp)) (K0 g2 hls)
    case iload k =>
      obtain ⟨h1, h2⟩ := hk
      obtain rfl := am_beq h1
      obtain rfl := am_beq h2
      obtain ⟨x, g1, g2⟩ := am_xI_of hrun
      exact lv_iload hx hb hd (hls.at g1 (by simp)) (K0 g2 hls)
    case lload_n k =>
      obtain ⟨h1, h2⟩ := hk
      obtain rfl := am_beq h1
      obtain ⟨x, g1, g2⟩ := am_xL_of hrun
      exact lv_lload_n hx hb hd (am_beq h2) (hls.at g1 (by simp)) (K0 g2 hls)
    case lload k =>
      obtain ⟨h1, h2⟩ := hk
      obtain rfl := am_beq h1
      obtain rfl := am_beq h2
      obtain ⟨x, g1, g2⟩ := am_xL_of hrun
      exact lv_lload hx hb hd (hls.at g1 (by simp)) (K0 g2 hls)
    case aload_n k =>
      obtain ⟨h1, h2⟩ := hk
      obtain rfl := am_beq h1
      obtain ⟨x, g1, g2⟩ := am_xR_of hrun
      exact lv_aload_n hx hb hd (am_beq h2) (hls.at g1 (by simp)) (K0 g2 hls)
    case aload k =>
      obtain ⟨h1, h2⟩ := hk
      obtain rfl := am_beq h1
      obtain rfl := am_beq h2
      obtain ⟨x, g1, g2⟩ := am_xR_of hrun
      exact lv_aload hx hb hd (hls.at g1 (by simp)) (K0 g2 hls)
    case istore_n k =>
      obtain ⟨⟨h1, h2⟩, h3⟩ := hk
      obtain rfl := am_beq h1
      obtain ⟨x, t, rfl, g2⟩ := am_tI_of hrun
      exact lv_istore_n hx hb hd (am_beq h2) hls.1 (Nat.le_of_ble_eq_true h3) rfl (fun ls' h' => K0 g2 (hls.st1 h'))
    case istore k =>
      obtain ⟨⟨h1, h2⟩, h3⟩ := hk
      obtain rfl := am_beq h1
      obtain rfl := am_beq h2
      obtain ⟨x, t, rfl, g2⟩ := am_tI_of hrun
      exact lv_istore hx hb hd hls.1 (Nat.le_of_ble_eq_true h3) rfl (fun ls' h' => K0 g2 (hls.st1 h'))
    case astore_n k =>
      obtain ⟨⟨h1, h2⟩, h3⟩ := hk
      obtain rfl := am_beq h1
      obtain ⟨x, t, rfl, g2⟩ := am_tR_of hrun
      exact lv_astore_n hx hb hd (am_beq h2) hls.1 (Nat.le_of_ble_eq_true h3) rfl (fun ls' h' => K0 g2 (hls.st1 h'))
    case astore k =>
      obtain ⟨⟨h1, h2⟩, h3⟩ := hk
      obtain rfl := am_beq h1
      obtain rfl := am_beq h2
      obtain ⟨x, t, rfl, g2⟩ := am_tR_of hrun
      exact lv_astore hx hb hd hls.1 (Nat.le_of_ble_eq_true h3) rfl (fun ls' h' => K0 g2 (hls.st1 h'))
    case lstore_n k =>
      obtain ⟨⟨h1, h2⟩, h3⟩ := hk
      obtain rfl := am_beq h1
      obtain ⟨x, t, rfl, g2⟩ := am_tL_of hrun
      exact lv_lstore_n hx hb hd (am_beq h2) hls.1 (Nat.le_of_ble_eq_true h3) rfl (fun ls' h' => K0 g2 (hls.st2 h'))
    case lstore k =>
      obtain ⟨⟨h1, h2⟩, h3⟩ := hk
      obtain rfl := am_beq h1
      obtain rfl := am_beq h2
      obtain ⟨x, t, rfl, g2⟩ := am_tL_of hrun
      exact lv_lstore hx hb hd hls.1 (Nat.le_of_ble_eq_true h3) rfl (fun ls' h' => K0 g2 (hls.st2 h'))
    case iinc k q =>
      obtain ⟨⟨⟨h1, h2⟩, h4⟩, h3⟩ := hk
      obtain rfl := am_beq h1
      obtain rfl := am_beq h2
      obtain ⟨x, g1, g2⟩ := am_xI_of hrun
      obtain ⟨j, hj⟩ := List.getElem?_of_mem (am_al_mem (ad := am_ga G) (k := 0) (q := (k, .int x)).mpr ⟨k, .int x, am_nth_get g1 (by simp), by simp, by rw [Nat.zero_add]; rfl⟩)
      exact lv_iinc hx hb hd hls.1 hj (by rw [h4]; rfl) (Nat.le_of_ble_eq_true h3) rfl (fun ls' h' => K0 g2 (hls.st1 h'))
    case iadd =>
      obtain rfl := am_beq hk
      obtain ⟨y, t, rfl, h1⟩ := am_tI_of hrun
      obtain ⟨x, t, rfl, h2⟩ := am_tI_of h1
      exact lv_iadd hx hb hd (K0 h2 hls)
    case isub =>
      obtain rfl := am_beq hk
      obtain ⟨y, t, rfl, h1⟩ := am_tI_of hrun
      obtain ⟨x, t, rfl, h2⟩ := am_tI_of h1
      exact lv_isub hx hb hd (K0 h2 hls)
    case imul =>
      obtain rfl := am_beq hk
      obtain ⟨y, t, rfl, h1⟩ := am_tI_of hrun
      obtain ⟨x, t, rfl, h2⟩ := am_tI_of h1
      exact lv_imul hx hb hd (K0 h2 hls)
    case iand =>
      obtain rfl := am_beq hk
      obtain ⟨y, t, rfl, h1⟩ := am_tI_of hrun
      obtain ⟨x, t, rfl, h2⟩ := am_tI_of h1
      exact lv_iand hx hb hd (K0 h2 hls)
    case ior =>
      obtain rfl := am_beq hk
      obtain ⟨y, t, rfl, h1⟩ := am_tI_of hrun
      obtain ⟨x, t, rfl, h2⟩ := am_tI_of h1
      exact lv_ior hx hb hd (K0 h2 hls)
    case ixor =>
      obtain rfl := am_beq hk
      obtain ⟨y, t, rfl, h1⟩ := am_tI_of hrun
      obtain ⟨x, t, rfl, h2⟩ := am_tI_of h1
      exact lv_ixor hx hb hd (K0 h2 hls)
    case ishl =>
      obtain rfl := am_beq hk
      obtain ⟨y, t, rfl, h1⟩ := am_tI_of hrun
      obtain ⟨x, t, rfl, h2⟩ := am_tI_of h1
      exact lv_ishl hx hb hd (K0 h2 hls)
    case ishr =>
      obtain rfl := am_beq hk
      obtain ⟨y, t, rfl, h1⟩ := am_tI_of hrun
      obtain ⟨x, t, rfl, h2⟩ := am_tI_of h1
      exact lv_ishr hx hb hd (K0 h2 hls)
    case iushr =>
      obtain rfl := am_beq hk
      obtain ⟨y, t, rfl, h1⟩ := am_tI_of hrun
      obtain ⟨x, t, rfl, h2⟩ := am_tI_of h1
      exact lv_iushr hx hb hd rfl (K0 h2 hls)
    case idiv =>
      obtain rfl := am_beq hk
      obtain ⟨y, t, rfl, h1⟩ := am_tI_of hrun
      obtain ⟨x, t, rfl, h2⟩ := am_tI_of h1
      obtain ⟨h3, h4⟩ := am_ite_no h2
      exact lv_idiv hx hb hd h3 (K0 h4 hls)
    case irem =>
      obtain rfl := am_beq hk
      obtain ⟨y, t, rfl, h1⟩ := am_tI_of hrun
      obtain ⟨x, t, rfl, h2⟩ := am_tI_of h1
      obtain ⟨h3, h4⟩ := am_ite_no h2
      exact lv_irem hx hb hd h3 (K0 h4 hls)
    case ladd =>
      obtain rfl := am_beq hk
      obtain ⟨y, t, rfl, h1⟩ := am_tL_of hrun
      obtain ⟨x, t, rfl, h2⟩ := am_tL_of h1
      exact lv_ladd hx hb hd (K0 h2 hls)
    case lsub =>
      obtain rfl := am_beq hk
      obtain ⟨y, t, rfl, h1⟩ := am_tL_of hrun
      obtain ⟨x, t, rfl, h2⟩ := am_tL_of h1
      exact lv_lsub hx hb hd (K0 h2 hls)
    case lmul =>
      obtain rfl := am_beq hk
      obtain ⟨y, t, rfl, h1⟩ := am_tL_of hrun
      obtain ⟨x, t, rfl, h2⟩ := am_tL_of h1
      exact lv_lmul hx hb hd (K0 h2 hls)
    case land =>
      obtain rfl := am_beq hk
      obtain ⟨y, t, rfl, h1⟩ := am_tL_of hrun
      obtain ⟨x, t, rfl, h2⟩ := am_tL_of h1
      exact lv_land hx hb hd (K0 h2 hls)
    case lor =>
      obtain rfl := am_beq hk
      obtain ⟨y, t, rfl, h1⟩ := am_tL_of hrun
      obtain ⟨x, t, rfl, h2⟩ := am_tL_of h1
      exact lv_lor hx hb hd (K0 h2 hls)
    case lxor =>
      obtain rfl := am_beq hk
      obtain ⟨y, t, rfl, h1⟩ := am_tL_of hrun
      obtain ⟨x, t, rfl, h2⟩ := am_tL_of h1
      exact lv_lxor hx hb hd (K0 h2 hls)
    case lshl =>
      obtain rfl := am_beq hk
      obtain ⟨y, t, rfl, h1⟩ := am_tI_of hrun
      obtain ⟨x, t, rfl, h2⟩ := am_tL_of h1
      exact lv_lshl hx hb hd rfl (K0 h2 hls)
    case ldiv =>
      obtain rfl := am_beq hk
      obtain ⟨y, t, rfl, h1⟩ := am_tL_of hrun
      obtain ⟨x, t, rfl, h2⟩ := am_tL_of h1
      obtain ⟨h3, h4⟩ := am_ite_no h2
      exact lv_ldiv hx hb hd h3 (K0 h4 hls)
    case lrem =>
      obtain rfl := am_beq hk
      obtain ⟨y, t, rfl, h1⟩ := am_tL_of hrun
      obtain ⟨x, t, rfl, h2⟩ := am_tL_of h1
      obtain ⟨h3, h4⟩ := am_ite_no h2
      exact lv_lrem hx hb hd h3 (K0 h4 hls)
    case lcmp =>
      obtain rfl := am_beq hk
      obtain ⟨y, t, rfl, h1⟩ := am_tL_of hrun
      obtain ⟨x, t, rfl, h2⟩ := am_tL_of h1
      exact W.lcmp hx hb hd (K0 h2 hls)
    case i2l =>
      obtain rfl := am_beq hk
      obtain ⟨x, t, rfl, h1⟩ := am_tI_of hrun
      exact lv_i2l hx hb hd rfl (K0 h1 hls)
    case l2i =>
      obtain rfl := am_beq hk
      obtain ⟨x, t, rfl, h1⟩ := am_tL_of hrun
      exact lv_l2i hx hb hd rfl (K0 h1 hls)
    case i2c =>
      obtain rfl := am_beq hk
      obtain ⟨x, t, rfl, h1⟩ := am_tI_of hrun
      exact lv_i2c hx hb hd rfl (K0 h1 hls)
    case goto off =>
      obtain ⟨h1, h2⟩ := hk
      exact lv_goto hx hb (by rw [hd, am_beq h1]) (of_decide_eq_true h2) (K0 hrun hls)
    case ifCond q off =>
      obtain ⟨h1, h2⟩ := hk
      obtain rfl := am_beq h1
      have ht := of_decide_eq_true h2
      obtain ⟨x, t, rfl, h3⟩ := am_tI_of hrun
      have hz : am_i 0 = 0 := by decide
      rw [hz] at h3
      unfold am_br at h3
      cases q <;> dsimp only at h3
      · refine lv_if_eq hx hb hd ht (fun e => ?_) (fun e => ?_)
        · rw [if_pos e] at h3; exact K0 h3 hls
        · rw [if_neg e] at h3; exact K0 h3 hls
      · refine lv_if_ne hx hb hd ht (fun e => ?_) (fun e => ?_)
        · rw [if_neg e] at h3; exact K0 h3 hls
        · rw [if_pos e] at h3; exact K0 h3 hls
      · refine lv_if_lt hx hb hd ht (fun e => ?_) (fun e => ?_)
        · rw [if_pos e] at h3; exact K0 h3 hls
        · rw [if_neg e] at h3; exact K0 h3 hls
      · refine lv_if_ge hx hb hd ht (fun e => ?_) (fun e => ?_)
        · rw [if_pos e] at h3; exact K0 h3 hls
        · rw [if_neg e] at h3; exact K0 h3 hls
      · refine lv_if_gt hx hb hd ht (fun e => ?_) (fun e => ?_)
        · rw [if_pos e] at h3; exact K0 h3 hls
        · rw [if_neg e] at h3; exact K0 h3 hls
      · refine lv_if_le hx hb hd ht (fun e => ?_) (fun e => ?_)
        · rw [if_pos e] at h3; exact K0 h3 hls
        · rw [if_neg e] at h3; exact K0 h3 hls
    case if_icmp q off =>
      obtain ⟨h1, h2⟩ := hk
      obtain rfl := am_beq h1
      have ht := of_decide_eq_true h2
      obtain ⟨y, t, rfl, h0⟩ := am_tI_of hrun
      obtain ⟨x, t, rfl, h3⟩ := am_tI_of h0
      unfold am_br at h3
      cases q <;> dsimp only at h3
      · refine lv_icmp_eq hx hb hd ht (fun e => ?_) (fun e => ?_)
        · rw [if_pos e] at h3; exact K0 h3 hls
        · rw [if_neg e] at h3; exact K0 h3 hls
      · refine lv_icmp_ne hx hb hd ht (fun e => ?_) (fun e => ?_)
        · rw [if_neg e] at h3; exact K0 h3 hls
        · rw [if_pos e] at h3; exact K0 h3 hls
      · refine lv_icmp_lt hx hb hd ht (fun e => ?_) (fun e => ?_)
        · rw [if_pos e] at h3; exact K0 h3 hls
        · rw [if_neg e] at h3; exact K0 h3 hls
      · refine lv_icmp_ge hx hb hd ht (fun e => ?_) (fun e => ?_)
        · rw [if_pos e] at h3; exact K0 h3 hls
        · rw [if_neg e] at h3; exact K0 h3 hls
      · refine lv_icmp_gt hx hb hd ht (fun e => ?_) (fun e => ?_)
        · rw [if_pos e] at h3; exact K0 h3 hls
        · rw [if_neg e] at h3; exact K0 h3 hls
      · refine lv_icmp_le hx hb hd ht (fun e => ?_) (fun e => ?_)
        · rw [if_pos e] at h3; exact K0 h3 hls
        · rw [if_neg e] at h3; exact K0 h3 hls
    case tableswitch dd lo hi offs =>
      obtain ⟨⟨⟨⟨h1, h2⟩, h3⟩, h4⟩, h5⟩ := hk
      have ht := of_decide_eq_true h1
      have hall : ∀ q ∈ sw, (am_i q.1).toInt = q.1 := fun q hq => of_decide_eq_true (List.all_eq_true.mp h5 q hq)
      obtain ⟨x, t, rfl, h6⟩ := am_tI_of hrun
      have hkey : ∀ (i : Nat) (q : Int × Nat), sw[i]? = some q → q.1 = lo + (i : Int) ∧ i < sw.length := by
        intro i q hq
        have hi : i < sw.length := (List.getElem?_eq_some_iff.mp hq).1
        have e1 : (sw.map (fun x => x.1))[i]? = some q.1 := by rw [List.getElem?_map, hq]; rfl
        rw [h3, List.getElem?_map, List.getElem?_range hi] at e1
        exact ⟨by simpa using e1.symm, hi⟩
      rcases am_sw_hit hall h6 with ⟨i, q, g1, g2, g3⟩ | ⟨g1, g2⟩
      · obtain ⟨k1, k2⟩ := hkey i q g1
        have e2 : offs.toList[i]? = some ((q.2 : Int) - pc) := by rw [← h2, List.getElem?_map, g1]; rfl
        refine lv_tableIn hx hb hd (by omega) (by omega) (off := (q.2 : Int) - pc) ?_ (tgt := q.2) (by omega) (K0 g3 hls)
        rw [g2, k1, show (lo + (i : Int) - lo).toNat = i by omega, ← Array.getElem?_toList]
        exact e2
      · refine lv_tableOut hx hb hd ?_ ht (K0 g2 hls)
        apply Classical.byContradiction
        intro hno
        have hno1 : ¬ x.toInt < lo := fun hh => hno (Or.inl hh)
        have hno2 : ¬ hi < x.toInt := fun hh => hno (Or.inr hh)
        have hi' : (x.toInt - lo).toNat < sw.length := by omega
        obtain ⟨q, hq⟩ : ∃ q, sw[(x.toInt - lo).toNat]? = some q := ⟨_, List.getElem?_eq_getElem hi'⟩
        obtain ⟨k1, -⟩ := hkey _ q hq
        exact g1 q (List.mem_of_getElem? hq) (by omega)
    case lookupswitch dd ps =>
      obtain ⟨⟨h1, h2⟩, h3⟩ := hk
      have ht := of_decide_eq_true h1
      obtain ⟨x, t, rfl, h6⟩ := am_tI_of hrun
      subst h3
      refine lv_lookup hx hb hd (off := dd) (by rw [h2]; rfl) (by rw [h2]; rfl) ht (K0 h6 hls)
    case dup =>
      obtain rfl := am_beq hk
      have hrun2 : ∃ (w : Value) (t : List Value), sA = w :: t ∧ w.category = 1 ∧ am_run n mid d (pc + 1) lA (w :: w :: t) M = some (v, M') := by
        unfold am_tI am_tR at hrun
        split at hrun
        · exact ⟨_, _, rfl, rfl, hrun⟩
        · split at hrun
          · exact ⟨_, _, rfl, rfl, hrun⟩
          · cases hrun
      obtain ⟨w, t, rfl, hc, h1⟩ := hrun2
      exact lv_dup hx hb hd (by rw [am_cv_cat]; exact hc) (K0 h1 hls)
    case pop =>
      obtain rfl := am_beq hk
      have hrun2 : ∃ (w : Value) (t : List Value), sA = w :: t ∧ w.category = 1 ∧ am_run n mid d (pc + 1) lA t M = some (v, M') := by
        unfold am_tI am_tR at hrun
        split at hrun
        · exact ⟨_, _, rfl, rfl, hrun⟩
        · split at hrun
          · exact ⟨_, _, rfl, rfl, hrun⟩
          · cases hrun
      obtain ⟨w, t, rfl, hc, h1⟩ := hrun2
      exact lv_pop hx hb hd (by rw [am_cv_cat]; exact hc) (K0 h1 hls)
    case dup2 =>
      obtain rfl := am_beq hk
      have hrun2 : (∃ (y : Int32) (x : Nat) (t : List Value), sA = .int y :: .ref x :: t ∧ am_run n mid d (pc + 1) lA (.int y :: .ref x :: .int y :: .ref x :: t) M = some (v, M')) ∨ (∃ (x : Int64) (t : List Value), sA = .long x :: t ∧ am_run n mid d (pc + 1) lA (.long x :: .long x :: t) M = some (v, M')) := by
        unfold am_tI at hrun
        split at hrun
        · obtain ⟨x, t, h1, h2⟩ := am_tR_of hrun
          exact Or.inl ⟨_, _, _, by rw [h1], h2⟩
        · obtain ⟨x, t, h1, h2⟩ := am_tL_of hrun
          exact Or.inr ⟨_, _, h1, h2⟩
      rcases hrun2 with ⟨y, x, t, rfl, h1⟩ | ⟨x, t, rfl, h1⟩
      · exact lv_dup2_11 hx hb hd rfl rfl (K0 h1 hls)
      · exact lv_dup2_2 hx hb hd rfl (K0 h1 hls)
    case iaload =>
      obtain rfl := am_beq hk
      obtain ⟨i, t, rfl, h1⟩ := am_tI_of hrun
      obtain ⟨r, t, rfl, h2⟩ := am_tR_of h1
      obtain ⟨h3, h4⟩ := am_ite_of h2
      exact am_r_iald hx hb hK hX hbz hM h3.1 h3.2 hd (K0 h4 hls)
    case caload =>
      obtain rfl := am_beq hk
      obtain ⟨i, t, rfl, h1⟩ := am_tI_of hrun
      obtain ⟨r, t, rfl, h2⟩ := am_tR_of h1
      obtain ⟨h3, h4⟩ := am_ite_of h2
      exact am_r_cald hx hb hK hM h3.1 h3.2 hd (K0 h4 hls)
    case laload =>
      obtain rfl := am_beq hk
      obtain ⟨i, t, rfl, h1⟩ := am_tI_of hrun
      obtain ⟨r, t, rfl, h2⟩ := am_tR_of h1
      obtain ⟨h3, h4⟩ := am_ite_of h2
      exact am_r_lald hx hb hK hM h3.1 h3.2 hd (K0 h4 hls)
    case aaload =>
      obtain rfl := am_beq hk
      obtain ⟨i, t, rfl, h1⟩ := am_tI_of hrun
      obtain ⟨r, t, rfl, h2⟩ := am_tR_of h1
      obtain ⟨h3, h4⟩ := am_ite_of h2
      obtain ⟨q, h5, h6⟩ := am_gr_of h4
      exact am_r_aald hx hb hK hM h3.1 h3.2 h5 hd (K0 h6 hls)
    case iastore =>
      obtain rfl := am_beq hk
      obtain ⟨w, t, rfl, h0⟩ := am_tI_of hrun
      obtain ⟨i, t, rfl, h1⟩ := am_tI_of h0
      obtain ⟨r, t, rfl, h2⟩ := am_tR_of h1
      obtain ⟨h3, h4⟩ := am_ite_of h2
      exact am_r_iast hx hb hK hM hlo h3.1 h3.2.1 h3.2.2 hd (fun H1 locs1 g1 g2 => Kw h4 rfl rfl g1 g2 hls)
    case castore =>
      obtain rfl := am_beq hk
      obtain ⟨w, t, rfl, h0⟩ := am_tI_of hrun
      obtain ⟨i, t, rfl, h1⟩ := am_tI_of h0
      obtain ⟨r, t, rfl, h2⟩ := am_tR_of h1
      obtain ⟨h3, h4⟩ := am_ite_of h2
      obtain ⟨h5, h6⟩ := am_ite_of h4
      exact am_r_cast hx hb hK hM hlo h3.1 h3.2.1 h3.2.2 h5 hd (fun H1 locs1 g1 g2 => Kw h6 rfl rfl g1 g2 hls)
    case lastore =>
      obtain rfl := am_beq hk
      obtain ⟨w, t, rfl, h0⟩ := am_tL_of hrun
      obtain ⟨i, t, rfl, h1⟩ := am_tI_of h0
      obtain ⟨r, t, rfl, h2⟩ := am_tR_of h1
      obtain ⟨h3, h4⟩ := am_ite_of h2
      exact am_r_last hx hb hK hM hlo h3.1 h3.2.1 h3.2.2 hd (fun H1 locs1 g1 g2 => Kw h4 rfl rfl g1 g2 hls)
    case aastore =>
      obtain rfl := am_beq hk
      obtain ⟨w, t, rfl, h0⟩ := am_tR_of hrun
      obtain ⟨i, t, rfl, h1⟩ := am_tI_of h0
      obtain ⟨r, t, rfl, h2⟩ := am_tR_of h1
      obtain ⟨h3, h4⟩ := am_ite_of h2
      obtain ⟨h5, h6⟩ := am_ite_of h4
      exact am_r_aast hx hb hK hM hlo h3.1 h3.2.1 h3.2.2 h5.1 hd (fun H1 locs1 g1 g2 => Kw h6 rfl rfl g1 g2 hls)
    case arraylength =>
      obtain rfl := am_beq hk
      obtain ⟨r, t, rfl, h1⟩ := am_tR_of hrun
      obtain ⟨h3, h4⟩ := am_ite_of h1
      exact am_r_alen hx hb hK hX hbz hM h3 hd (K0 h4 hls)
    case getfield k =>
      obtain ⟨⟨⟨⟨h1, h2⟩, h3⟩, h4⟩, h5⟩ := hk
      obtain rfl := am_beq h1
      have ha := Nat.le_of_ble_eq_true h2
      have hbn := Nat.le_of_ble_eq_true h3
      have hft := am_beq h4
      obtain ⟨r, t, rfl, h6⟩ := am_tR_of hrun
      obtain ⟨h7, h8⟩ := am_ite_of h6
      refine am_r_get hx hb hts hown hK hM h7 ha hbn (am_pl_in h5) hd ?_
      rcases (am_ty_of ha hbn).2.2.2.2 with g | g | g | g
      · rw [hft, g] at h8
        have e2 : am_fv (am_ga G) M r a b = .int (am_I M r b) := by unfold am_fv; rw [g]; rfl
        rw [e2]
        exact K0 h8 hls
      · rw [hft, g] at h8
        have e2 : am_fv (am_ga G) M r a b = .long (am_L M r b) := by unfold am_fv; rw [g]; rfl
        rw [e2]
        exact K0 h8 hls
      · rw [hft, g] at h8
        obtain ⟨q, h9, h10⟩ := am_gr_of h8
        have e2 : am_fv (am_ga G) M r a b = .ref (am_ga G q) := by unfold am_fv; rw [g, h9]; rfl
        rw [e2]
        exact K0 h10 hls
      · rw [hft, g] at h8
        have e2 : am_fv (am_ga G) M r a b = .int (am_I M r b) := by unfold am_fv; rw [g]; rfl
        rw [e2]
        exact K0 h8 hls
    case putfield k =>
      obtain ⟨⟨⟨⟨⟨h1, h2⟩, h3⟩, h4⟩, h5⟩, h6⟩ := hk
      obtain rfl := am_beq h1
      have ha := Nat.le_of_ble_eq_true h2
      have hbn := Nat.le_of_ble_eq_true h3
      have hft := am_beq h4
      have hfin : (am_cT a b).2.2.2 = false ∨ (meth.name = "<init>" ∧ (am_cT a b).1 = (am_hd mid).1.cls) := by
        cases hX : (am_cT a b).2.2.2 with
        | false => exact Or.inl rfl
        | true =>
          rw [hX] at h6
          simp only [Bool.not_true, Bool.false_or, Bool.and_eq_true, decide_eq_true_eq] at h6
          exact Or.inr ⟨hinit (am_beq h6.1), h6.2⟩
      obtain ⟨t1, t2, t4, t3, hor⟩ := am_ty_of ha hbn
      rcases hor with g | g | g | g
      · rw [hft, g] at hrun
        obtain ⟨w, t, rfl, h7⟩ := am_tI_of hrun
        obtain ⟨r, t, rfl, h8⟩ := am_tR_of h7
        obtain ⟨h9, h10⟩ := am_ite_of h8
        exact am_r_put hx hb hts hown hK hM hlo h9 ha hbn (am_pl_in h5) hfin (v := .int w) (by rw [t1 g]; rfl) (by rw [t1 g]; rfl) hd (fun H1 locs1 k1 k2 k3 k4 => Kw h10 rfl rfl (hM.putI h9 (by rw [g]; decide) k1 k2 k3) k4 hls)
      · rw [hft, g] at hrun
        obtain ⟨w, t, rfl, h7⟩ := am_tL_of hrun
        obtain ⟨r, t, rfl, h8⟩ := am_tR_of h7
        obtain ⟨h9, h10⟩ := am_ite_of h8
        exact am_r_put hx hb hts hown hK hM hlo h9 ha hbn (am_pl_in h5) hfin (v := .long w) (by rw [t2 g]; rfl) (by rw [t2 g]; rfl) hd (fun H1 locs1 k1 k2 k3 k4 => Kw h10 rfl rfl (hM.putL h9 g k1 k2 k3) k4 hls)
      · rw [hft, g] at hrun
        obtain ⟨w, t, rfl, h7⟩ := am_tR_of hrun
        obtain ⟨r, t, rfl, h8⟩ := am_tR_of h7
        obtain ⟨h9, h10⟩ := am_ite_of h8
        have hn1 : narrow (am_ty a b) (.ref (am_ga G w)) = .ref (am_ga G w) := by rcases t3 g with ⟨q, e2⟩ | ⟨q, e2⟩ <;> rw [e2] <;> rfl
        have hn2 : fits (am_ty a b) (.ref (am_ga G w)) = true := by rcases t3 g with ⟨q, e2⟩ | ⟨q, e2⟩ <;> rw [e2] <;> rfl
        exact am_r_put hx hb hts hown hK hM hlo h9 ha hbn (am_pl_in h5) hfin (v := .ref (am_ga G w)) hn1 hn2 hd (fun H1 locs1 k1 k2 k3 k4 => Kw h10 rfl rfl (hM.putR h9 g k1 k2 k3) k4 hls)
      · rw [hft, g] at hrun
        obtain ⟨w, t, rfl, h7⟩ := am_tI_of hrun
        obtain ⟨r, t, rfl, h8⟩ := am_tR_of h7
        obtain ⟨h9, h9b⟩ := am_ite_of h8
        obtain ⟨hw, h10⟩ := am_ite_of h9b
        have hn1 : narrow .boolean (.int w) = .int w := by rcases hw with e2 | e2 <;> rw [e2] <;> decide
        have hn2 : fits .boolean (.int w) = true := by rcases hw with e2 | e2 <;> rw [e2] <;> decide
        exact am_r_put hx hb hts hown hK hM hlo h9 ha hbn (am_pl_in h5) hfin (v := .int w) (by rw [t4 g]; exact hn1) (by rw [t4 g]; exact hn2) hd (fun H1 locs1 k1 k2 k3 k4 => Kw h10 rfl rfl (hM.putI h9 (by rw [g]; decide) k1 k2 k3) k4 hls)
    case new k =>
      obtain ⟨⟨⟨⟨⟨h1, h2⟩, h3⟩, h4⟩, h5⟩, h6⟩ := hk
      obtain rfl := am_beq h1
      have ha := Nat.le_of_ble_eq_true h2
      have hbn := am_beq h3
      subst hbn
      have hm := am_mono n mid d _ _ _ _ _ _ hrun
      have en : am_n (am_nw M (1, a) (am_nf a)) = am_n M + 1 := rfl
      have es : am_s (am_nw M (1, a) (am_nf a)) = am_s M + am_nf a := rfl
      rw [en, es] at hm
      exact am_r_new hx hb hts hown hK hM ha (am_pl_in h4) (List.mem_filter.mpr ⟨h5, rfl⟩) (List.mem_filter.mpr ⟨h6, rfl⟩) (by omega) (by omega) hd (fun H1 g => K hrun g hlo hls (by rw [en]; omega) (by rw [es]; omega))
    case newarray k =>
      obtain ⟨h1, h2⟩ := hk
      obtain rfl := am_beq h1
      obtain ⟨w, t, rfl, h3⟩ := am_tI_of hrun
      obtain ⟨h4, h5⟩ := am_ite_no h3
      have hm := am_mono n mid d _ _ _ _ _ _ h5
      have en : am_n (am_nw M (a, w.toNatClampNeg) w.toNatClampNeg) = am_n M + 1 := rfl
      have es : am_s (am_nw M (a, w.toNatClampNeg) w.toNatClampNeg) = am_s M + w.toNatClampNeg := rfl
      rw [en, es] at hm
      have hg : (k = .int ∧ a = 2) ∨ (k = .long ∧ a = 3) ∨ (k = .char ∧ a = 4) := by
        cases k <;> dsimp only at h2 <;> first | (cases h2; done) | skip
        · exact Or.inr (Or.inr ⟨rfl, am_beq h2⟩)
        · exact Or.inl ⟨rfl, am_beq h2⟩
        · exact Or.inr (Or.inl ⟨rfl, am_beq h2⟩)
      have hwd : Cond.arrayClass (newarray.typeOf k) ∈ am_W := by
        rcases hg with ⟨rfl, -⟩ | ⟨rfl, -⟩ | ⟨rfl, -⟩
        · exact am_wa_int
        · exact am_wa_long
        · exact am_wa_char
      exact am_r_newa hx hb hts hK hM hg hwd h4 (by omega) (by omega) hd (fun H1 g => K h5 g hlo hls (by rw [en]; omega) (by rw [es]; omega))
    case anewarray k =>
      obtain ⟨h1, h2⟩ := hk
      obtain rfl := am_beq h1
      obtain ⟨w, t, rfl, h3⟩ := am_tI_of hrun
      obtain ⟨h4, h5⟩ := am_ite_no h3
      have hm := am_mono n mid d _ _ _ _ _ _ h5
      have en : am_n (am_nw M (5, w.toNatClampNeg) w.toNatClampNeg) = am_n M + 1 := rfl
      have es : am_s (am_nw M (5, w.toNatClampNeg) w.toNatClampNeg) = am_s M + w.toNatClampNeg := rfl
      rw [en, es] at hm
      exact am_r_anew hx hb hts hown hK hM (am_pl_in h2) hAO1 h4 (by omega) (by omega) hd (fun H1 g => K h5 g hlo hls (by rw [en]; omega) (by rw [es]; omega))
    case multianewarray k q =>
      obtain ⟨⟨h1, h2⟩, h3⟩ := hk
      obtain rfl := am_beq h1
      subst h2
      obtain ⟨w2, t, rfl, h0⟩ := am_tI_of hrun
      obtain ⟨w, t, rfl, h3b⟩ := am_tI_of h0
      obtain ⟨h4, h5⟩ := am_ite_no h3b
      have hm := am_mono n mid d _ _ _ _ _ _ h5
      have en : am_n (am_nm M w.toNatClampNeg w2.toNatClampNeg) = am_n M + 1 + w.toNatClampNeg := rfl
      have es : am_s (am_nm M w.toNatClampNeg w2.toNatClampNeg) = am_s M + w.toNatClampNeg + w.toNatClampNeg * w2.toNatClampNeg := rfl
      rw [en, es] at hm
      exact am_r_mna hx hb hts hown hK hM (am_pl_in h3) hAO2 am_wa_int h4 (by omega) (by omega) hd (fun H1 g => K h5 g hlo hls (by rw [en]; omega) (by rw [es]; omega))
    case ireturn =>
      obtain ⟨⟨h1, h2⟩, h3⟩ := hk
      obtain rfl := am_beq h1
      have hrc := am_beq h2
      obtain ⟨x, t, rfl, h4⟩ := am_tI_of hrun
      obtain ⟨rfl, h5⟩ := am_e0_of h4
      have hret := am_sok_rc mid
      rw [← hrc] at hret
      have hfin : some (some (Value.int x), M) = some (v, M') ∧ ∃ ty, meth.sig.returnType = some ty ∧ narrow ty (.int x) = .int x := by
        rcases hret with ⟨e2, e3⟩ | ⟨e2, e3⟩ | ⟨e2, e3⟩ | ⟨e2, e3⟩
        · rw [e2] at h3; simp [Nat.beq] at h3
        · rw [e2] at h5
          exact ⟨h5, .int, by rw [hr, e3], rfl⟩
        · rw [e2] at h3; simp [Nat.beq] at h3
        · rw [e2] at h5
          obtain ⟨hw, h6⟩ := am_ite_of h5
          exact ⟨h6, .boolean, by rw [hr, e3], by rcases hw with e4 | e4 <;> rw [e4] <;> decide⟩
      obtain ⟨h6, ty, h7, h8⟩ := hfin
      cases h6
      exact W.widen (k := mc) (n := ms) (by omega) (by omega) (W.zret hx hb h7 h8 (fun t ht _ => ⟨rfl, by rw [ht]; exact hM⟩) hlo hd hlocks)
    case lreturn =>
      obtain ⟨h1, h2⟩ := hk
      obtain rfl := am_beq h1
      have hrc := am_beq h2
      obtain ⟨x, t, rfl, h4⟩ := am_tL_of hrun
      obtain ⟨rfl, h5⟩ := am_e0_of h4
      have hret : (am_hd mid).2.2.2.1 = some .long := by
        rcases am_sok_rc mid with ⟨e2, e3⟩ | ⟨e2, e3⟩ | ⟨e2, e3⟩ | ⟨e2, e3⟩
        · rw [hrc] at e2; cases e2
        · rw [hrc] at e2; cases e2
        · exact e3
        · rw [hrc] at e2; cases e2
      cases h5
      exact W.widen (k := mc) (n := ms) (by omega) (by omega) (W.lret hx hb (by rw [hr, hret]) (fun t ht _ => ⟨rfl, by rw [ht]; exact hM⟩) hlo hd hlocks)
    case return_ =>
      obtain ⟨h1, h2⟩ := hk
      obtain rfl := am_beq h1
      have hrc := am_beq h2
      obtain ⟨rfl, h5⟩ := am_e0_of hrun
      have hret : (am_hd mid).2.2.2.1 = none := by
        rcases am_sok_rc mid with ⟨e2, e3⟩ | ⟨e2, e3⟩ | ⟨e2, e3⟩ | ⟨e2, e3⟩
        · exact e3
        · rw [hrc] at e2; cases e2
        · rw [hrc] at e2; cases e2
        · rw [hrc] at e2; cases e2
      cases h5
      exact W.widen (k := mc) (n := ms) (by omega) (by omega) (W.vret hx hb (by rw [hr, hret]) (fun t ht _ => ⟨rfl, by rw [ht]; exact hM⟩) hlo hd hlocks)
    case invokespecial k =>
      obtain ⟨h1, h2⟩ := hk
      obtain rfl := am_beq h1
      cases d with
      | zero => cases hrun
      | succ d =>
        dsimp only at hrun
        split at hrun
        · try dsimp only at h2
          obtain ⟨r, t, rfl, h3⟩ := am_tR_of hrun
          obtain ⟨h4, h5⟩ := am_ite_of h3
          have h8 := am_sum8 (ad := am_ga G) h4
          exact W.objInit hx hb hown (hts _ (am_pl_in h2)) (hts _ am_wa_obj) (hts _ am_wa_objc) (g := F0 m pc ls (Value.ref (am_ga G r) :: t.map (am_cv (am_ga G)))) rfl (by rw [hml]; exact hls.1.1) rfl hd (by omega) (by show 2 * 0 + _ + 12 ≤ _; omega) (K0 h5 hls)
        · split at h2
          · contradiction
          · simp only [Bool.and_eq_true] at h2
            obtain ⟨⟨g1, g2⟩, g3⟩ := h2
            obtain ⟨hcok, h3⟩ := am_ite_of hrun
            obtain ⟨r, as, q1, h4⟩ := am_tR_of h3
            obtain ⟨M1, e2, e3⟩ := am_bV_of h4
            have hm1 := am_mono _ _ _ _ _ _ _ _ _ e2
            have hm2 := am_mono _ _ _ _ _ _ _ _ _ e3
            have hco := am_cok_of hcok
            have hl : Cond.methodLink (am_hd mid).1.cls k (am_hd a).1 ∈ am_W ∨ ∃ host, Cond.methodLinkNest (am_hd mid).1.cls k (am_hd a).1 host ∈ lw_tbl := by
              split at g3
              · exact Or.inl (am_pl_in g3)
              · unfold am_pm at g3
                exact Or.inr ⟨_, am_wt_in (of_decide_eq_true g3)⟩
            have hkd := am_beq g1
            have hna := am_beq g2
            exact am_r_ret (am_c_I ih hF hW hM hls.1.1 hkd hna hl hco q1 e2 hd (by omega) (by omega) (by omega) (by omega)) hlo (fun H1 locs1 k1 k2 => K e3 k1 k2 hls (by omega) (by omega))
    case invokestatic k =>
      obtain ⟨h1, h2⟩ := hk
      obtain rfl := am_beq h1
      cases d with
      | zero => cases hrun
      | succ d =>
        dsimp only at hrun
        split at hrun
        · try dsimp only at h2
          obtain ⟨w1, t, rfl, h3⟩ := am_tI_of hrun
          obtain ⟨w2, t, rfl, h4⟩ := am_tI_of h3
          obtain ⟨q, t, rfl, h5⟩ := am_tR_of h4
          obtain ⟨w3, t, rfl, h6⟩ := am_tI_of h5
          obtain ⟨r, t, rfl, h7⟩ := am_tR_of h6
          obtain ⟨⟨c2, c3, c4, c5, c6, c7, c8, c9, c10, c11, c12⟩, h8⟩ := am_ite_of h7
          have h9 := am_sum8 (ad := am_ga G) c12
          have hnw : nativeFrameWords "java/lang/System" "arraycopy" 5 + 11 ≤ 100 := by decide +kernel
          exact am_r_copy hx hb (by rw [hml]; exact hls.1.1.symm) hts hown hK hM hlo (am_pl_in h2) am_wa_nat am_wa_stat am_wa_sys c2 c3 c4 c5 c6 c7 c8 c9 c10 c11 (by omega) (by omega) hd (fun H1 locs1 k1 k2 => Kw h8 rfl rfl k1 k2 hls)
        · try dsimp only at h2
          simp only [Bool.and_eq_true] at h2
          obtain ⟨⟨⟨⟨g1, g2⟩, g3⟩, g4⟩, g5⟩ := h2
          obtain ⟨hcok, h3⟩ := am_ite_of hrun
          obtain ⟨x, M1, e2, e3⟩ := am_bL_of h3
          have hm1 := am_mono _ _ _ _ _ _ _ _ _ e2
          have hm2 := am_mono _ _ _ _ _ _ _ _ _ e3
          exact am_r_ret (am_c_S ih hF hW hM hls.1.1 (am_beq g1) (am_beq g2) (am_pl_in g5) (am_cok_of hcok) e2 hd (by omega) (by omega) (by omega) (by omega)) hlo (fun H1 locs1 k1 k2 => K e3 k1 k2 hls (by omega) (by omega))
        · split at h2
          · contradiction
          · simp only [Bool.and_eq_true] at h2
            obtain ⟨⟨⟨⟨g1, g2⟩, g3⟩, g4⟩, g5⟩ := h2
            obtain ⟨hcok, h3⟩ := am_ite_of hrun
            obtain ⟨x, M1, e2, e3⟩ := am_bI_of h3
            have hm1 := am_mono _ _ _ _ _ _ _ _ _ e2
            have hm2 := am_mono _ _ _ _ _ _ _ _ _ e3
            exact am_r_ret (am_c_S ih hF hW hM hls.1.1 (am_beq g1) (am_beq g2) (am_pl_in g5) (am_cok_of hcok) e2 hd (by omega) (by omega) (by omega) (by omega)) hlo (fun H1 locs1 k1 k2 => K e3 k1 k2 hls (by omega) (by omega))
    case invokevirtual k =>
      obtain ⟨h1, h2⟩ := hk
      obtain rfl := am_beq h1
      cases d with
      | zero => cases hrun
      | succ d =>
        dsimp only at hrun
        split at hrun
        · try dsimp only at h2
          obtain ⟨r, t, rfl, h3⟩ := am_tR_of hrun
          obtain ⟨⟨rfl, c2, c3⟩, h4⟩ := am_ite_of h3
          exact am_r_len hx hb hml hls.1.1 hts hown hW hM hlo (am_pl_in h2) (by omega) (by omega) (by omega) (by omega) (am_sum8 c3) hd (fun H1 locs1 k1 k2 => Kw h4 rfl rfl k1 k2 hls)
        · try dsimp only at h2
          obtain ⟨i, t, rfl, h3b⟩ := am_tI_of hrun
          obtain ⟨r, t, rfl, h3⟩ := am_tR_of h3b
          obtain ⟨⟨rfl, c2, c4, c3⟩, h4⟩ := am_ite_of h3
          exact am_r_chr hx hb hml hls.1.1 hts hown hW hM hlo (am_pl_in h2) (by omega) (by omega) (by omega) (by omega) c4 (am_sum8 c3) hd (fun H1 locs1 k1 k2 => Kw h4 rfl rfl k1 k2 hls)
        all_goals (try dsimp only at h2)
        all_goals (try split at h2)
        all_goals (try contradiction)
        all_goals (have h2' := h2)
        all_goals (simp only [Bool.and_eq_true] at h2'; obtain ⟨⟨⟨⟨g1, g2⟩, g3⟩, g4⟩, g5⟩ := h2')
        all_goals (obtain ⟨hcok, h3⟩ := am_ite_of hrun; obtain ⟨r, as, q1, h4⟩ := am_tR_of h3; obtain ⟨hob, h5⟩ := am_ite_of h4; rw [am_beq g4] at hob)
        · obtain ⟨M1, e2, e3⟩ := am_bV_of h5
          have hm1 := am_mono _ _ _ _ _ _ _ _ _ e2
          have hm2 := am_mono _ _ _ _ _ _ _ _ _ e3
          exact am_r_ret (am_c_V ih hF hW hM hls.1.1 (am_beq g1) (am_beq g2) (am_pl_in g5) (am_cok_of hcok) q1 hob e2 hd (by omega) (by omega) (by omega) (by omega)) hlo (fun H1 locs1 k1 k2 => K e3 k1 k2 hls (by omega) (by omega))
        · obtain ⟨x, M1, e2, e3⟩ := am_bL_of h5
          have hm1 := am_mono _ _ _ _ _ _ _ _ _ e2
          have hm2 := am_mono _ _ _ _ _ _ _ _ _ e3
          exact am_r_ret (am_c_V ih hF hW hM hls.1.1 (am_beq g1) (am_beq g2) (am_pl_in g5) (am_cok_of hcok) q1 hob e2 hd (by omega) (by omega) (by omega) (by omega)) hlo (fun H1 locs1 k1 k2 => K e3 k1 k2 hls (by omega) (by omega))
        · obtain ⟨x, M1, e2, e3⟩ := am_bR_of h5
          have hm1 := am_mono _ _ _ _ _ _ _ _ _ e2
          have hm2 := am_mono _ _ _ _ _ _ _ _ _ e3
          exact am_r_ret (am_c_V ih hF hW hM hls.1.1 (am_beq g1) (am_beq g2) (am_pl_in g5) (am_cok_of hcok) q1 hob e2 hd (by omega) (by omega) (by omega) (by omega)) hlo (fun H1 locs1 k1 k2 => K e3 k1 k2 hls (by omega) (by omega))
        · obtain ⟨x, M1, e2, e3⟩ := am_bI_of h5
          have hm1 := am_mono _ _ _ _ _ _ _ _ _ e2
          have hm2 := am_mono _ _ _ _ _ _ _ _ _ e3
          exact am_r_ret (am_c_V ih hF hW hM hls.1.1 (am_beq g1) (am_beq g2) (am_pl_in g5) (am_cok_of hcok) q1 hob e2 hd (by omega) (by omega) (by omega) (by omega)) hlo (fun H1 locs1 k1 k2 => K e3 k1 k2 hls (by omega) (by omega))
theorem am_snd (l : Launch) : ∀ n, am_Snd l n
  | 0 => fun mid d pc lA sA M v M' h => by cases h
  | n + 1 => am_snd_step (am_snd l n)
