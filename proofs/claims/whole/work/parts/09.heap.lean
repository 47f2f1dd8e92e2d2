/-! The rows of the kit, over the abstract memory: cells read and written. -/
def am_tys (cA : Nat → ClassId) : List (ClassId × FieldType) := [(cA 2, .int), (cA 3, .long), (cA 4, .char), (cA 5, .object RX0), (cA 6, .array .int)]
/-- the classes are what the tables say -/
abbrev am_Kn (G : am_G) (s : State) : Prop := va_K (am_gD G) vwCl (am_tys (am_gA G)) s
/-- what was written lies among what was made -/
def am_lo (G : am_G) (locs : List Loc) : Prop := ∀ q ∈ locs, am_gz G ≤ q.base
theorem am_lo.put {G : am_G} {locs : List Loc} {r k : Nat} (h : am_lo G locs) (hr : 2 ≤ r) : am_lo G (locs ++ [⟨am_ga G r, k⟩]) := by
  intro q hq
  rcases List.mem_append.mp hq with h1 | h1
  · exact h q h1
  · rw [List.mem_singleton.mp h1]
    show am_gz G ≤ am_ga G r
    unfold am_ga
    rw [am_ad_ge hr]
    omega
section AMR
variable {p : Program} {l : Launch} {e : Env} {R : Room} {s : State} {m : MethodId} {args : Array Value} {below : List Frame} {meth : Method} {c : Code} {H : Heap} {locs : List Loc} {cells slots : Nat} {Q : State → Prop}
variable {cc : ByteArray} {pc : Nat} {ls : Array Slot} {rest : List Value} {G : am_G} {M : am_M} {own : String}
theorem am_r_get (hx : p.tables.exec = Jvm.exec) (hb : c.code = cc) (hts : ∀ w ∈ am_W, w.before args s = true) (hown : s.vm.findClass own = some m.cls) (hK : am_Kn G s) (hM : am_Mm G M H) {r a b index : Nat} (hk : am_K M r = (1, a)) (ha : a < 7) (hbn : b < am_nf a)
    (hl : Cond.fieldLink own index (am_cT a b).1 (am_cT a b).2.1 (am_cT a b).2.2.1 ∈ am_W) (hdg : decode cc pc = .ok (.getfield index, 3))
    (kk : W p l e R s m args below meth c H locs cells slots Q (F0 m (pc + 3) ls (am_fv (am_ga G) M r a b :: rest))) : W p l e R s m args below meth c H locs cells slots Q (F0 m pc ls (.ref (am_ga G r) :: rest)) := by
  have h2 := hM.ge hk
  have hlt := hM.lt (r := r) (by rw [hk]; exact Nat.one_ne_zero)
  obtain ⟨cell, q1, q2, q3, q4⟩ := (hM.2.2.2.2.2.2.2 r h2 hlt).1 (by rw [hk])
  rw [hk] at q2 q4
  obtain ⟨hS, hfc, kC, hkC, hkind⟩ := hK.1 a _ (am_cl_at a ha)
  obtain ⟨cf, kf, fi, f, hi, hsl⟩ := hS b hbn
  refine W.getf hx hb hown (hts _ hl) hi (u_facts hfc hkC (u_lays hts (am_cin a ha) hbn) hi).1 q1 (by rw [q3]; exact fun h => by cases h) (v := am_fv (am_ga G) M r a b) ?_ rfl rfl hdg kk
  rw [hsl]
  exact q4 b hbn
theorem am_r_put (hx : p.tables.exec = Jvm.exec) (hb : c.code = cc) (hts : ∀ w ∈ am_W, w.before args s = true) (hown : s.vm.findClass own = some m.cls) (hK : am_Kn G s) (hM : am_Mm G M H) (hlo : am_lo G locs) {r a b index : Nat} (hk : am_K M r = (1, a)) (ha : a < 7) (hbn : b < am_nf a)
    (hl : Cond.fieldLink own index (am_cT a b).1 (am_cT a b).2.1 (am_cT a b).2.2.1 ∈ am_W) (hfin : (am_cT a b).2.2.2 = false ∨ (meth.name = "<init>" ∧ (am_cT a b).1 = own)) {v : Value} (hn : narrow (am_ty a b) v = v) (hfit : fits (am_ty a b) v = true) (hdg : decode cc pc = .ok (.putfield index, 3))
    (kk : ∀ (H1 : Heap) (locs1 : List Loc), H1.size = H.size → (∀ q, q ≠ am_ga G r → H1[q]? = H[q]?) → t_OB (am_ga G r) ((am_gD G).1 a) (am_nf a) ((am_gD G).2 a) H1 (updV (am_fv (am_ga G) M r a) b v) → am_lo G locs1 →
      W p l e R s m args below meth c H1 locs1 cells slots Q (F0 m (pc + 3) ls rest)) : W p l e R s m args below meth c H locs cells slots Q (F0 m pc ls (v :: .ref (am_ga G r) :: rest)) := by
  have h2 := hM.ge hk
  have hlt := hM.lt (r := r) (by rw [hk]; exact Nat.one_ne_zero)
  have hap := va_apart (own := own) hts (am_cin a ha) (am_ty a) (am_cty a ha) (am_cnm a ha) hK (am_cl_at a ha)
  obtain ⟨cell, q1, q2, q3, q4⟩ := (hM.2.2.2.2.2.2.2 r h2 hlt).1 (by rw [hk])
  rw [hk] at q2 q4
  obtain ⟨hS, hfc, kC, hkC, hkind⟩ := hK.1 a _ (am_cl_at a ha)
  obtain ⟨cf, kf, fi, f, hi, hsl⟩ := hS b hbn
  have hlay := hts _ (am_cin a ha _ (u_in_lay hbn))
  have hst := (u_facts hfc hkC (u_lays hts (am_cin a ha) hbn) hi).1
  have hd := am_cty a ha b hbn
  unfold u_lay at hlay
  by_cases hf : (am_cT a b).2.2.2 = true
  · rw [if_pos hf] at hlay
    rcases hfin with h | ⟨hin, hdecl⟩
    · rw [hf] at h; cases h
    · have hcf : m.cls = cf := by
        obtain ⟨_, _, c', _, _, _, -, -, hf', -, -, -, hown2, -⟩ := Cond.laysFinal_spec hlay
        have e1 : c' = cf := by have := hi.symm.trans hf'; simp at this; exact this.1.symm
        rw [hdecl] at hown2
        rw [← e1]; exact Option.some.inj (hown.symm.trans hown2)
      have h6 := u_fits hfc hkC hkind (Or.inr hlay) hi hd hn hfit
      refine W.putFinK hx hb hown (hts _ hl) hi hst hcf hin (by rw [q2]; exact h6) q1 q3 (by rw [hsl]; exact k2_hasslot (q4 b hbn)) rfl rfl hdg fun H' e1 e2 e3 => ?_
      rw [hsl] at e1 ⊢
      exact kk H' _ e2 e3 ⟨_, e1, q2, q3, t_set q4 hap hbn v⟩ (hlo.put h2)
  · rw [if_neg hf] at hlay
    have h6 := u_store hfc hkC hkind hlay hi hd hn hfit
    refine W.putK hx hb (f := f) ⟨hown, hts _ hl, ⟨_, _, _, hi⟩, hst⟩ (by rw [q2]; exact h6) q1 q3 (by rw [hsl]; exact k2_hasslot (q4 b hbn)) rfl rfl hdg fun H' e1 e2 e3 => ?_
    rw [hsl] at e1 ⊢
    exact kk H' _ e2 e3 ⟨_, e1, q2, q3, t_set q4 hap hbn v⟩ (hlo.put h2)
theorem am_r_iald (hx : p.tables.exec = Jvm.exec) (hb : c.code = cc) (hK : am_Kn G s) (hX : va_X (am_gb G) (am_gl G) (am_gx G) s (am_gH G)) (hbz : am_gb G < am_gz G) (hM : am_Mm G M H) {r : Nat} {i : Int32} (hk : (am_K M r).1 = 2) (hin : ¬ (i < 0 ∨ (am_K M r).2 ≤ i.toNatClampNeg)) (hdg : decode cc pc = .ok (.iaload, 1))
    (kk : W p l e R s m args below meth c H locs cells slots Q (F0 m (pc + 1) ls (.int (am_I M r i.toNatClampNeg) :: rest))) : W p l e R s m args below meth c H locs cells slots Q (F0 m pc ls (.int i :: .ref (am_ga G r) :: rest)) := by
  have hlt : i.toNatClampNeg < (am_K M r).2 := Nat.not_le.mp fun q => hin (Or.inr q)
  have hr := hM.lt (r := r) (by rw [hk]; decide)
  by_cases h2 : 2 ≤ r
  · have hc := (hM.2.2.2.2.2.2.2 r h2 hr).2.1 hk
    exact W.iald (v := .int (am_I M r i.toNatClampNeg)) hx hb hc ((hK.2 0 _ rfl).1 _ (fun j => .int (am_I M r j))) (fun q => by cases q) (by show ¬ (i < 0 ∨ (arrV _ _ _).slots.size ≤ _); rw [arrV_size]; exact hin) (by show (arrV _ _ _).slots[_]? = _; rw [arrV_read _ _ hlt]) rfl rfl hdg kk
  · have h0 : r = 0 := by
      rcases (show r = 0 ∨ r = 1 by omega) with h | h
      · exact h
      · rw [h, hM.2.2.2.2.2.1] at hk; cases hk
    subst h0
    rw [hM.2.2.2.1] at hin hlt
    obtain ⟨scr, g1, g2, g3, g4, g5⟩ := hX
    have e1 : am_I M 0 i.toNatClampNeg = am_gx G i.toNatClampNeg := hM.2.2.2.2.1 _ hlt
    rw [e1] at kk
    exact W.iald hx hb (a := am_gb G) (by rw [hM.2.2.2.2.2.2.1 _ hbz]; exact g1) g2 g3 (by rw [g4]; exact hin) (g5 _ hlt) rfl rfl hdg kk
theorem am_r_cald (hx : p.tables.exec = Jvm.exec) (hb : c.code = cc) (hK : am_Kn G s) (hM : am_Mm G M H) {r : Nat} {i : Int32} (hk : (am_K M r).1 = 4) (hin : ¬ (i < 0 ∨ (am_K M r).2 ≤ i.toNatClampNeg)) (hdg : decode cc pc = .ok (.caload, 1))
    (kk : W p l e R s m args below meth c H locs cells slots Q (F0 m (pc + 1) ls (.int (am_I M r i.toNatClampNeg) :: rest))) : W p l e R s m args below meth c H locs cells slots Q (F0 m pc ls (.int i :: .ref (am_ga G r) :: rest)) := by
  have hr := hM.lt (r := r) (by rw [hk]; decide)
  have h2 := hM.ge2 (r := r) (by rw [hk]; decide) (by rw [hk]; decide)
  have hc := (hM.2.2.2.2.2.2.2 r h2 hr).2.2.2.1 hk
  exact va_cald (ws := [(am_ga G r, .inl (am_gA G 4, (am_K M r).2, .inl (am_I M r)))]) (D := am_gD G) (cl := vwCl) hx hb hK (fun k q h => by
    have : k < 1 := (List.getElem?_eq_some_iff.mp h).1
    rw [show k = 0 by omega] at h
    cases h
    exact hc) 0 2 rfl rfl hin hdg kk
theorem am_r_lald (hx : p.tables.exec = Jvm.exec) (hb : c.code = cc) (hK : am_Kn G s) (hM : am_Mm G M H) {r : Nat} {i : Int32} (hk : (am_K M r).1 = 3) (hin : ¬ (i < 0 ∨ (am_K M r).2 ≤ i.toNatClampNeg)) (hdg : decode cc pc = .ok (.laload, 1))
    (kk : W p l e R s m args below meth c H locs cells slots Q (F0 m (pc + 1) ls (.long (am_L M r i.toNatClampNeg) :: rest))) : W p l e R s m args below meth c H locs cells slots Q (F0 m pc ls (.int i :: .ref (am_ga G r) :: rest)) := by
  have hr := hM.lt (r := r) (by rw [hk]; decide)
  have h2 := hM.ge2 (r := r) (by rw [hk]; decide) (by rw [hk]; decide)
  have hc := (hM.2.2.2.2.2.2.2 r h2 hr).2.2.1 hk
  exact va_lald (ws := [(am_ga G r, .inl (am_gA G 3, (am_K M r).2, .inr (.inl (am_L M r))))]) (D := am_gD G) (cl := vwCl) hx hb hK (fun k q h => by
    have : k < 1 := (List.getElem?_eq_some_iff.mp h).1
    rw [show k = 0 by omega] at h
    cases h
    exact hc) 0 1 rfl rfl hin hdg kk
theorem am_r_aald (hx : p.tables.exec = Jvm.exec) (hb : c.code = cc) (hK : am_Kn G s) (hM : am_Mm G M H) {r q : Nat} {i : Int32} (hk : (am_K M r).1 = 5 ∨ (am_K M r).1 = 6) (hin : ¬ (i < 0 ∨ (am_K M r).2 ≤ i.toNatClampNeg)) (hq : am_R M r i.toNatClampNeg = some q) (hdg : decode cc pc = .ok (.aaload, 1))
    (kk : W p l e R s m args below meth c H locs cells slots Q (F0 m (pc + 1) ls (.ref (am_ga G q) :: rest))) : W p l e R s m args below meth c H locs cells slots Q (F0 m pc ls (.int i :: .ref (am_ga G r) :: rest)) := by
  have hlt : i.toNatClampNeg < (am_K M r).2 := Nat.not_le.mp fun q => hin (Or.inr q)
  have hr := hM.lt (r := r) (by rcases hk with h | h <;> rw [h] <;> decide)
  have h2 := hM.ge2 (r := r) (by rcases hk with h | h <;> rw [h] <;> decide) (by rcases hk with h | h <;> rw [h] <;> decide)
  have hv : va_rf ((am_R M r i.toNatClampNeg).map (am_ga G)) = .ref (am_ga G q) := by rw [hq]; rfl
  rcases hk with hk | hk
  · have hc := (hM.2.2.2.2.2.2.2 r h2 hr).2.2.2.2.1 hk
    exact W.aald (v := .ref (am_ga G q)) (ty := .object RX0) hx hb hc ((hK.2 3 _ rfl).1 _ (fun j => va_rf ((am_R M r j).map (am_ga G)))) rfl (fun q => by cases q) (by show ¬ (i < 0 ∨ (arrV _ _ _).slots.size ≤ _); rw [arrV_size]; exact hin) (by show (arrV _ _ _).slots[_]? = _; rw [arrV_read _ _ hlt, hv]) rfl rfl hdg kk
  · have hc := (hM.2.2.2.2.2.2.2 r h2 hr).2.2.2.2.2 hk
    exact W.aald (v := .ref (am_ga G q)) (ty := .array .int) hx hb hc ((hK.2 4 _ rfl).1 _ (fun j => va_rf ((am_R M r j).map (am_ga G)))) rfl (fun q => by cases q) (by show ¬ (i < 0 ∨ (arrV _ _ _).slots.size ≤ _); rw [arrV_size]; exact hin) (by show (arrV _ _ _).slots[_]? = _; rw [arrV_read _ _ hlt, hv]) rfl rfl hdg kk
theorem am_r_alen (hx : p.tables.exec = Jvm.exec) (hb : c.code = cc) (hK : am_Kn G s) (hX : va_X (am_gb G) (am_gl G) (am_gx G) s (am_gH G)) (hbz : am_gb G < am_gz G) (hM : am_Mm G M H) {r : Nat} (hk : 2 ≤ (am_K M r).1 ∧ (am_K M r).1 ≤ 6) (hdg : decode cc pc = .ok (.arraylength, 1))
    (kk : W p l e R s m args below meth c H locs cells slots Q (F0 m (pc + 1) ls (.int (nI (am_K M r).2) :: rest))) : W p l e R s m args below meth c H locs cells slots Q (F0 m pc ls (.ref (am_ga G r) :: rest)) := by
  have hr := hM.lt (r := r) (by omega)
  by_cases h2 : 2 ≤ r
  · have ha := hM.2.2.2.2.2.2.2 r h2 hr
    have go : ∀ {cA : ClassId} {x : vp_A} {ty : FieldType} {t0 : Nat}, H[am_ga G r]? = some (vp_cell cA x) → (am_tys (am_gA G))[t0]? = some (cA, ty) → x.1 = (am_K M r).2 → W p l e R s m args below meth c H locs cells slots Q (F0 m pc ls (.ref (am_ga G r) :: rest)) := by
      intro cA x ty t0 hc ht hx1
      exact va_alen (ws := [(am_ga G r, .inl (cA, x))]) (D := am_gD G) (cl := vwCl) hx hb hK (fun k q h => by
        have : k < 1 := (List.getElem?_eq_some_iff.mp h).1
        rw [show k = 0 by omega] at h
        cases h
        exact hc) 0 t0 rfl ht (v := nI (am_K M r).2) (by rw [hx1]; rfl) hdg kk
    rcases (show (am_K M r).1 = 2 ∨ (am_K M r).1 = 3 ∨ (am_K M r).1 = 4 ∨ (am_K M r).1 = 5 ∨ (am_K M r).1 = 6 by omega) with h | h | h | h | h
    · exact go (ha.2.1 h) (t0 := 0) rfl rfl
    · exact go (ha.2.2.1 h) (t0 := 1) rfl rfl
    · exact go (ha.2.2.2.1 h) (t0 := 2) rfl rfl
    · exact go (ha.2.2.2.2.1 h) (t0 := 3) rfl rfl
    · exact go (ha.2.2.2.2.2 h) (t0 := 4) rfl rfl
  · have h0 : r = 0 := by
      rcases (show r = 0 ∨ r = 1 by omega) with h | h
      · exact h
      · rw [h, hM.2.2.2.2.2.1] at hk; exact absurd hk.1 (by decide)
    subst h0
    obtain ⟨scr, g1, g2, g3, g4, g5⟩ := hX
    rw [hM.2.2.2.1] at kk
    exact W.alen hx hb (a := am_gb G) (by rw [hM.2.2.2.2.2.2.1 _ hbz]; exact g1) g2 (n := nI (am_gl G)) (by rw [g4]; rfl) rfl rfl hdg kk
end AMR
