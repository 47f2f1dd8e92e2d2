/-! The rows of the kit, over the abstract memory: rows of rows made, a stretch copied. -/
theorem am_outer (c : ClassId) (N h0 : Nat) : ∀ i : Nat, Jvm.Free.Multi.outerC c N h0 i = arrV c N (fun j => va_rf (if j < i then some (h0 + 1 + j) else none))
  | 0 => by
    show ({ cls := c, slots := Array.replicate N .null, vm := .none } : Cell) = _
    rw [arrV_new]
    refine congrArg (arrV c N) (funext fun j => ?_)
    simp [va_rf]
  | i + 1 => by
    show (Jvm.Free.Multi.outerC c N h0 i).setSlot i (.ref (h0 + 1 + i)) = _
    rw [am_outer c N h0 i, arrV_store]
    refine congrArg (arrV c N) (funext fun j => ?_)
    by_cases e : j = i
    · subst e
      simp [updV, va_rf]
    · by_cases h : j < i
      · simp [updV, e, h, Nat.lt_succ_of_lt h]
      · simp [updV, e, h, show ¬ j < i + 1 by omega]
theorem am_Mm.newm {G : am_G} {M : am_M} {H H1 : Heap} (h : am_Mm G M H) {n k : Nat} (hz : H1.size = H.size + 1 + n) (ho : ∀ x, x < H.size → H1[x]? = H[x]?)
    (hout : H1[H.size]? = some (arrV (am_gA G 6) n (fun j => va_rf (if j < n then some (H.size + 1 + j) else none)))) (hinn : ∀ j, j < n → H1[H.size + 1 + j]? = some (arrV (am_gA G 2) k (fun _ => .int 0))) : am_Mm G (am_nm M n k) H1 := by
  have htop := h.top
  obtain ⟨h1, h2, h3, h4, h5, h6, h7, h8⟩ := h
  have hnk : ∀ r, r < am_n M → am_K (am_nm M n k) r = am_K M r := fun r hr => by
    show (if r = am_n M then _ else if _ then _ else am_K M r) = _
    rw [if_neg (by omega), if_neg (by omega)]
  have hni : ∀ r, r < am_n M → am_I (am_nm M n k) r = am_I M r := fun r hr => funext fun j => if_neg (by omega)
  have hnl : ∀ r, r < am_n M → am_L (am_nm M n k) r = am_L M r := fun r hr => funext fun j => if_neg (by omega)
  have hnr : ∀ r, r < am_n M → am_R (am_nm M n k) r = am_R M r := fun r hr => funext fun j => by
    show (if r = am_n M then _ else if _ then _ else am_R M r j) = _
    rw [if_neg (by omega), if_neg (by omega)]
  have hn : am_n (am_nm M n k) = am_n M + 1 + n := rfl
  refine ⟨by rw [hz, hn]; omega, by rw [hn]; omega, fun r hr => ?_, ?_, fun j hj => ?_, ?_, fun x hx => ?_, fun r hr hrn => ?_⟩
  · rw [hn] at hr
    show ((if r = am_n M then (6, n) else if am_n M < r ∧ r < am_n M + 1 + n then (2, k) else am_K M r) : Nat × Nat).1 = 0
    rw [if_neg (by omega), if_neg (by omega)]
    exact h3 r (by omega)
  · rw [hnk 0 (by omega)]; exact h4
  · rw [hni 0 (by omega)]; exact h5 j hj
  · rw [hnk 1 (by omega)]; exact h6
  · rw [ho x (by omega)]; exact h7 x hx
  · rw [hn] at hrn
    have hg : am_ga G r = am_gz G + (r - 2) := by unfold am_ga; rw [am_ad_ge hr]
    by_cases e : r < am_n M
    · exact (h8 r hr e).kept (ho _ (by omega)) (hnk r e) (hni r e) (hnl r e) (hnr r e)
    · by_cases e2 : r = am_n M
      · subst e2
        have hk6 : am_K (am_nm M n k) (am_n M) = (6, n) := if_pos rfl
        refine am_at_6 (by rw [hk6]) ?_
        rw [htop, hk6, hout]
        have hR : ∀ j, am_R (am_nm M n k) (am_n M) j = if j < n then some (am_n M + 1 + j) else none := fun j => if_pos rfl
        rw [vp_cell_q]
        refine congrArg some (congrArg (arrV _ n) (funext fun j => ?_))
        show va_rf _ = va_rf (Option.map _ (am_R (am_nm M n k) (am_n M) j))
        rw [hR]
        by_cases hj : j < n
        · rw [if_pos hj, if_pos hj]
          have : am_ga G (am_n M + 1 + j) = H.size + 1 + j := by unfold am_ga; rw [am_ad_ge (by omega)]; omega
          rw [Option.map_some, this]
        · rw [if_neg hj, if_neg hj]; rfl
      · have hk2 : am_K (am_nm M n k) r = (2, k) := by
          show (if r = am_n M then _ else if _ then _ else am_K M r) = _
          rw [if_neg e2, if_pos (by omega)]
        refine am_at_2 (by rw [hk2]) ?_
        have hI : am_I (am_nm M n k) r = fun _ => 0 := funext fun j => if_pos (by omega)
        rw [hk2, hI, vp_cell_i, hg, show am_gz G + (r - 2) = H.size + 1 + (r - am_n M - 1) by omega]
        exact hinn _ (by omega)
theorem am_Mm.copy {G : am_G} {M : am_M} {H H1 : Heap} (h : am_Mm G M H) {r q sp dp n : Nat} (hq : 2 ≤ q) (hk : (am_K M q).1 = 2) (hne : r ≠ q) (hz : H1.size = H.size) (ho : ∀ x, x ≠ am_ga G q → H1[x]? = H[x]?)
    (hc : H1[am_ga G q]? = some (vp_cell (am_gA G 2) ((am_K M q).2, .inl (va_cpy (am_I M r) (am_I M q) sp dp n)))) : am_Mm G (am_cp M r sp q dp n) H1 := by
  refine h.set hq hz ho rfl rfl (fun x hx => ?_) (fun _ _ => rfl) (fun _ _ => rfl) ?_
  · funext k
    show (if x = q ∧ _ then _ else am_I M x k) = _
    rw [if_neg (fun z => hx z.1)]
  · refine am_at_2 hk ?_
    have e : am_I (am_cp M r sp q dp n) q = va_cpy (am_I M r) (am_I M q) sp dp n := by
      funext k
      show (if q = q ∧ dp ≤ k ∧ k < dp + n then _ else am_I M q k) = if dp ≤ k ∧ k < dp + n then _ else _
      by_cases hk : dp ≤ k ∧ k < dp + n
      · rw [if_pos ⟨rfl, hk⟩, if_pos hk]
      · rw [if_neg (fun z => hk z.2), if_neg hk]
    rw [e]
    exact hc
section AMR3
variable {p : Program} {l : Launch} {e : Env} {R : Room} {s : State} {m : MethodId} {args : Array Value} {below : List Frame} {meth : Method} {c : Code} {H : Heap} {locs : List Loc} {cells slots : Nat} {Q : State → Prop}
variable {cc : ByteArray} {pc : Nat} {ls : Array Slot} {rest : List Value} {G : am_G} {M : am_M} {own : String}
theorem am_r_mna (hx : p.tables.exec = Jvm.exec) (hb : c.code = cc) (hts : ∀ w ∈ am_W, w.before args s = true) (hown : s.vm.findClass own = some m.cls) (hK : am_Kn G s) (hM : am_Mm G M H) {index : Nat} (hcl : Cond.classLink own index ("[" ++ (FieldType.array .int).toString) ∈ am_W) (hov : am_AOA s) (har : Cond.arrayClass .int ∈ am_W) {n k : Int32} (hn : ¬ (n < 0 ∨ 65536 < n.toNatClampNeg ∨ k < 0 ∨ 65536 < k.toNatClampNeg))
    (hcells : cells + (1 + n.toNatClampNeg) ≤ R.cells) (hslots : slots + (n.toNatClampNeg + n.toNatClampNeg * k.toNatClampNeg) ≤ R.slots) (hdg : decode cc pc = .ok (.multianewarray index 2, 4))
    (kk : ∀ (H1 : Heap), am_Mm G (am_nm M n.toNatClampNeg k.toNatClampNeg) H1 → W p l e R s m args below meth c H1 locs (cells + 1 + n.toNatClampNeg) (slots + n.toNatClampNeg + n.toNatClampNeg * k.toNatClampNeg) Q (F0 m (pc + 4) ls (.ref (am_ga G (am_n M)) :: rest))) : W p l e R s m args below meth c H locs cells slots Q (F0 m pc ls (.int k :: .int n :: rest)) := by
  have n0 : ¬ n < 0 := fun h => hn (Or.inl h)
  have n1 : n.toNatClampNeg ≤ 65536 := Nat.not_lt.mp fun h => hn (Or.inr (Or.inl h))
  have k0 : ¬ k < 0 := fun h => hn (Or.inr (Or.inr (Or.inl h)))
  have k1 : k.toNatClampNeg ≤ 65536 := Nat.not_lt.mp fun h => hn (Or.inr (Or.inr (Or.inr h)))
  rw [hM.top] at kk
  intro T hT X
  have hb4 : componentBytes .int = 4 := rfl
  obtain ⟨vm₁, cA, comp, -, fA, fC, hO, -, X', step⟩ := X.multianewarray2F hx hown (hts _ hcl) (show (Cond.arrayOver (.array .int)).before args s = true from hov) (hts _ har) (g := F0 m pc ls (.int k :: .int n :: rest)) rfl (by rw [hb]; exact hdg) rfl n0 k0 (by omega) (by rw [hb4]; omega) (by omega) rfl rfl hcells hslots
  have ec : am_gA G 2 = comp := Option.some.inj ((show s.vm.findClass _ = some (am_gA G 2) from (hK.2 0 _ rfl).2).symm.trans fC)
  have ea : am_gA G 6 = cA := Option.some.inj ((show s.vm.findClass _ = some (am_gA G 6) from (hK.2 4 _ rfl).2).symm.trans fA)
  have hTh : (T.setVm vm₁).heap = H := hT
  generalize hF : Jvm.Free.Multi.fill (T.setVm vm₁) cA comp n.toNatClampNeg k.toNatClampNeg (defaultValue .int) n.toNatClampNeg = F at X' step
  obtain ⟨f1, f2, -, -⟩ := Jvm.Free.Multi.fill_facts (T.setVm vm₁) cA comp n.toNatClampNeg k.toNatClampNeg (defaultValue .int) n.toNatClampNeg
  rw [hF, hTh] at f1 f2
  have hold : ∀ x : Nat, x < H.size → F.heap[x]? = H[x]? := fun x hx => by
    have := Jvm.Free.Multi.fill_old (T.setVm vm₁) cA comp n.toNatClampNeg k.toNatClampNeg (defaultValue .int) (a := x) (by rw [hTh]; exact hx) n.toNatClampNeg
    rw [hF, hTh] at this
    exact this
  have hrow : ∀ j : Nat, j < n.toNatClampNeg → F.heap[H.size + 1 + j]? = some (arrV (am_gA G 2) k.toNatClampNeg (fun _ => .int 0)) := fun j hj => by
    have := Jvm.Free.Multi.fill_inner (T.setVm vm₁) cA comp n.toNatClampNeg k.toNatClampNeg (defaultValue .int) n.toNatClampNeg j hj
    rw [hF, hTh] at this
    rw [this, ec]
    exact congrArg some (arrV_new _ _ _)
  rw [am_outer, ← ea] at f2
  obtain ⟨t, a1, b1⟩ := kk F.heap (hM.newm f1 hold f2 hrow) F rfl X'
  refine ⟨t, step t ?_, b1⟩
  have e : T.heap.size = H.size := by rw [hT]
  rw [e]
  exact a1
theorem am_r_copy (hx : p.tables.exec = Jvm.exec) (hb : c.code = cc) (hml : c.maxLocals = ls.size) (hts : ∀ w ∈ am_W, w.before args s = true) (hown : s.vm.findClass own = some m.cls) (hK : am_Kn G s) (hM : am_Mm G M H) (hlo : am_lo G locs) {index : Nat} (hlink : Cond.methodLink own index arraycopyName ∈ am_W) (hnat : Cond.native arraycopyName ∈ am_W) (hstat : Cond.static arraycopyName ∈ am_W) (hini : Cond.initialized "java/lang/System" ∈ am_W)
    {r q : Nat} {sp dp n : Int32} (hr : 2 ≤ r) (hq : 2 ≤ q) (hne : r ≠ q) (hkr : (am_K M r).1 = 2) (hkq : (am_K M q).1 = 2) (h3 : ¬ n < 0) (h2 : ¬ dp < 0) (h1 : ¬ sp < 0) (h4 : sp.toNatClampNeg + n.toNatClampNeg ≤ (am_K M r).2) (h5 : dp.toNatClampNeg + n.toNatClampNeg ≤ (am_K M q).2)
    (hframes : 1 ≤ R.frames) (hlocals : (rest.map fun v => v.category).sum + (nativeFrameWords "java/lang/System" "arraycopy" 5 + 11) ≤ R.locals) (hdg : decode cc pc = .ok (.invokestatic index, 3))
    (kk : ∀ (H1 : Heap) (locs1 : List Loc), am_Mm G (am_cp M r sp.toNatClampNeg q dp.toNatClampNeg n.toNatClampNeg) H1 → am_lo G locs1 → W p l e R s m args below meth c H1 locs1 cells slots Q (F0 m (pc + 3) ls rest)) : W p l e R s m args below meth c H locs cells slots Q (F0 m pc ls (.int n :: .int dp :: .ref (am_ga G q) :: .int sp :: .ref (am_ga G r) :: rest)) := by
  have nn : ∀ z : Int32, ¬ z < 0 → z.toInt = (z.toNatClampNeg : Int) := by
    intro z hz
    have hz0 : (0 : Int) ≤ z.toInt := by
      have := Int32.not_lt.mp hz
      simpa using Int32.le_iff_toInt_le.mp this
    show z.toInt = ((z.toInt.toNat : Nat) : Int)
    omega
  intro T hT X
  have hc0 := (hM.2.2.2.2.2.2.2 r hr (hM.lt (by rw [hkr]; decide))).2.1 hkr
  have hc1 := (hM.2.2.2.2.2.2.2 q hq (hM.lt (by rw [hkq]; decide))).2.1 hkq
  generalize (am_K M r).2 = n0 at hc0 h4
  generalize hn1 : (am_K M q).2 = n1 at hc1 h5
  generalize hff : am_I M r = f at hc0
  generalize hgg : am_I M q = g at hc1
  obtain ⟨-, k0, hk0, cm0, hkk0⟩ := (hK.2 0 _ rfl).1 n0 (fun j => .int (f j))
  obtain ⟨-, k1, hk1, cm1, hkk1⟩ := (hK.2 0 _ rfl).1 n1 (fun j => .int (g j))
  obtain ⟨vm', X', step⟩ := X.arraycopy hx hown (hts _ hlink) (hts _ hnat) (hts _ hstat) (hts _ hini) (src := am_ga G r) (dst := am_ga G q) (cs := vp_cell (am_gA G 2) (n0, .inl f)) (cd := vp_cell (am_gA G 2) (n1, .inl g)) (srcPos := sp) (destPos := dp) (n := n) (by rw [hT]; exact hc0) (by rw [hT]; exact hc1)
    (fun _ h => by cases h) (fun _ h => by cases h) (fun h => by cases h) (fun h => by cases h) hk0 hk1 hkk0 hkk1 (by rfl) h1 h2 h3
    (by rw [nn sp h1, nn n h3]; show ¬ _ > ((arrV _ n0 (fun j => .int (f j))).slots.size : Int); rw [arrV_size]; omega)
    (by rw [nn dp h2, nn n h3]; show ¬ _ > ((arrV _ n1 (fun j => .int (g j))).slots.size : Int); rw [arrV_size]; omega)
    (fun vm₁ _ i hi => by
      have e : (vp_cell (am_gA G 2) (n0, .inl f)).slots.getD (sp.toNatClampNeg + i) .null = .int (f (sp.toNatClampNeg + i)) := by
        show (arrV _ n0 (fun j => .int (f j))).slots.getD _ _ = _
        rw [Array.getD_eq_getD_getElem?, arrV_read _ _ (by omega)]
        rfl
      refine ⟨?_, ?_⟩
      · rw [e]
        rfl
      · rw [e]
        exact trivial)
    (g := F0 m pc ls (.int n :: .int dp :: .ref (am_ga G q) :: .int sp :: .ref (am_ga G r) :: rest)) rfl (by rw [hml]) (rest := rest) rfl (by rw [hb]; exact hdg) hframes (by show 2 * 0 + _ + _ ≤ _; omega)
  have e1 : copied (vp_cell (am_gA G 2) (n0, .inl f)) (vp_cell (am_gA G 2) (n1, .inl g)) sp dp n = vp_cell (am_gA G 2) (n1, .inl (va_cpy f g sp.toNatClampNeg dp.toNatClampNeg n.toNatClampNeg)) := va_copied (fun z => .int z) _ _ f g h4
  rw [e1] at X' step
  have hl : am_ga G q < H.size := (Array.getElem?_eq_some_iff.mp hc1).1
  generalize hcell : vp_cell (am_gA G 2) (n1, .inl (va_cpy f g sp.toNatClampNeg dp.toNatClampNeg n.toNatClampNeg)) = cell at X' step
  have hheap : ((T.setVm vm').setCell (am_ga G q) cell).heap = H.setIfInBounds (am_ga G q) cell := by rw [← hT]; rfl
  have oq : ∀ x : Nat, x ≠ am_ga G q → (H.setIfInBounds (am_ga G q) cell)[x]? = H[x]? := fun x hx => by simp [Array.getElem?_setIfInBounds, Ne.symm hx]
  obtain ⟨t, a1, b1⟩ := kk _ _ (hM.copy (r := r) (sp := sp.toNatClampNeg) (dp := dp.toNatClampNeg) (n := n.toNatClampNeg) hq hkq hne (by simp) oq (by
      rw [hff, hgg, hn1, hcell]
      simp [Array.getElem?_setIfInBounds, hl])) (fun x hx => by
    rcases List.mem_append.mp hx with h | h
    · exact hlo x h
    · obtain ⟨z, -, hz⟩ := List.mem_map.mp h
      rw [← hz]
      show am_gz G ≤ am_ga G q
      unfold am_ga
      rw [am_ad_ge hq]
      omega) _ hheap X'
  exact ⟨t, step t a1, b1⟩
end AMR3
