/-! The rows of the kit, over the abstract memory: rows written, cells made. -/
theorem am_at_2 {D : va_G} {cA : Nat → ClassId} {ad : Nat → Nat} {M : am_M} {r : Nat} {H : Heap} (hk : (am_K M r).1 = 2) (h : H[ad r]? = some (vp_cell (cA 2) ((am_K M r).2, .inl (am_I M r)))) : am_at D cA ad M r H :=
  ⟨fun e => absurd (hk.symm.trans e) (by decide), fun _ => h, fun e => absurd (hk.symm.trans e) (by decide), fun e => absurd (hk.symm.trans e) (by decide), fun e => absurd (hk.symm.trans e) (by decide), fun e => absurd (hk.symm.trans e) (by decide)⟩
theorem am_at_3 {D : va_G} {cA : Nat → ClassId} {ad : Nat → Nat} {M : am_M} {r : Nat} {H : Heap} (hk : (am_K M r).1 = 3) (h : H[ad r]? = some (vp_cell (cA 3) ((am_K M r).2, .inr (.inl (am_L M r))))) : am_at D cA ad M r H :=
  ⟨fun e => absurd (hk.symm.trans e) (by decide), fun e => absurd (hk.symm.trans e) (by decide), fun _ => h, fun e => absurd (hk.symm.trans e) (by decide), fun e => absurd (hk.symm.trans e) (by decide), fun e => absurd (hk.symm.trans e) (by decide)⟩
theorem am_at_4 {D : va_G} {cA : Nat → ClassId} {ad : Nat → Nat} {M : am_M} {r : Nat} {H : Heap} (hk : (am_K M r).1 = 4) (h : H[ad r]? = some (vp_cell (cA 4) ((am_K M r).2, .inl (am_I M r)))) : am_at D cA ad M r H :=
  ⟨fun e => absurd (hk.symm.trans e) (by decide), fun e => absurd (hk.symm.trans e) (by decide), fun e => absurd (hk.symm.trans e) (by decide), fun _ => h, fun e => absurd (hk.symm.trans e) (by decide), fun e => absurd (hk.symm.trans e) (by decide)⟩
theorem am_at_5 {D : va_G} {cA : Nat → ClassId} {ad : Nat → Nat} {M : am_M} {r : Nat} {H : Heap} (hk : (am_K M r).1 = 5) (h : H[ad r]? = some (vp_cell (cA 5) ((am_K M r).2, .inr (.inr (.inr (.inr (fun j => (am_R M r j).map ad))))))) : am_at D cA ad M r H :=
  ⟨fun e => absurd (hk.symm.trans e) (by decide), fun e => absurd (hk.symm.trans e) (by decide), fun e => absurd (hk.symm.trans e) (by decide), fun e => absurd (hk.symm.trans e) (by decide), fun _ => h, fun e => absurd (hk.symm.trans e) (by decide)⟩
theorem am_at_6 {D : va_G} {cA : Nat → ClassId} {ad : Nat → Nat} {M : am_M} {r : Nat} {H : Heap} (hk : (am_K M r).1 = 6) (h : H[ad r]? = some (vp_cell (cA 6) ((am_K M r).2, .inr (.inr (.inr (.inr (fun j => (am_R M r j).map ad))))))) : am_at D cA ad M r H :=
  ⟨fun e => absurd (hk.symm.trans e) (by decide), fun e => absurd (hk.symm.trans e) (by decide), fun e => absurd (hk.symm.trans e) (by decide), fun e => absurd (hk.symm.trans e) (by decide), fun e => absurd (hk.symm.trans e) (by decide), fun _ => h⟩
theorem am_at_1 {D : va_G} {cA : Nat → ClassId} {ad : Nat → Nat} {M : am_M} {r a : Nat} {H : Heap} (hk : am_K M r = (1, a)) (h : t_OB (ad r) (D.1 a) (am_nf a) (D.2 a) H (am_fv ad M r a)) : am_at D cA ad M r H := by
  have hk1 : (am_K M r).1 = 1 := by rw [hk]
  refine ⟨fun _ => ?_, fun e => absurd (hk1.symm.trans e) (by decide), fun e => absurd (hk1.symm.trans e) (by decide), fun e => absurd (hk1.symm.trans e) (by decide), fun e => absurd (hk1.symm.trans e) (by decide), fun e => absurd (hk1.symm.trans e) (by decide)⟩
  rw [hk]
  exact h
/-- a field is written: what the memory tells then -/
theorem am_Mm.putI {G : am_G} {M : am_M} {H H1 : Heap} (h : am_Mm G M H) {r a b : Nat} {v : Int32} (hk : am_K M r = (1, a)) (hty : am_ft a b ≠ 2 ∧ am_ft a b ≠ 3) (hz : H1.size = H.size) (ho : ∀ q, q ≠ am_ga G r → H1[q]? = H[q]?) (hob : t_OB (am_ga G r) ((am_gD G).1 a) (am_nf a) ((am_gD G).2 a) H1 (updV (am_fv (am_ga G) M r a) b (.int v))) : am_Mm G (am_sI M r b v) H1 := by
  refine h.set (h.ge hk) hz ho rfl rfl (fun q hq => am_w_ne hq) (fun _ _ => rfl) (fun _ _ => rfl) (am_at_1 (a := a) hk (hob.to (fun j _ => ?_)))
  unfold updV
  by_cases hj : j = b
  · subst hj
    rw [if_pos rfl]
    have e : am_I (am_sI M r j v) r j = v := by show am_w _ _ _ _ _ _ = _; rw [am_w_eq, if_pos rfl]
    unfold am_fv
    rw [e]
    split
    · rename_i h2; exact absurd h2 hty.1
    · rename_i h2; exact absurd h2 hty.2
    · rfl
  · rw [if_neg hj]
    have e : am_I (am_sI M r b v) r j = am_I M r j := by show am_w _ _ _ _ _ _ = _; rw [am_w_eq, if_neg hj]
    unfold am_fv
    rw [e]
    rfl
theorem am_Mm.putL {G : am_G} {M : am_M} {H H1 : Heap} (h : am_Mm G M H) {r a b : Nat} {v : Int64} (hk : am_K M r = (1, a)) (hty : am_ft a b = 2) (hz : H1.size = H.size) (ho : ∀ q, q ≠ am_ga G r → H1[q]? = H[q]?) (hob : t_OB (am_ga G r) ((am_gD G).1 a) (am_nf a) ((am_gD G).2 a) H1 (updV (am_fv (am_ga G) M r a) b (.long v))) : am_Mm G (am_sL M r b v) H1 := by
  refine h.set (h.ge hk) hz ho rfl rfl (fun _ _ => rfl) (fun q hq => am_w_ne hq) (fun _ _ => rfl) (am_at_1 (a := a) hk (hob.to (fun j _ => ?_)))
  unfold updV
  by_cases hj : j = b
  · subst hj
    rw [if_pos rfl]
    have e : am_L (am_sL M r j v) r j = v := by show am_w _ _ _ _ _ _ = _; rw [am_w_eq, if_pos rfl]
    unfold am_fv
    rw [e, hty]
    rfl
  · rw [if_neg hj]
    have e : am_L (am_sL M r b v) r j = am_L M r j := by show am_w _ _ _ _ _ _ = _; rw [am_w_eq, if_neg hj]
    unfold am_fv
    rw [e]
    rfl
theorem am_Mm.putR {G : am_G} {M : am_M} {H H1 : Heap} (h : am_Mm G M H) {r a b v : Nat} (hk : am_K M r = (1, a)) (hty : am_ft a b = 3) (hz : H1.size = H.size) (ho : ∀ q, q ≠ am_ga G r → H1[q]? = H[q]?) (hob : t_OB (am_ga G r) ((am_gD G).1 a) (am_nf a) ((am_gD G).2 a) H1 (updV (am_fv (am_ga G) M r a) b (.ref (am_ga G v)))) : am_Mm G (am_sR M r b v) H1 := by
  refine h.set (h.ge hk) hz ho rfl rfl (fun _ _ => rfl) (fun _ _ => rfl) (fun q hq => am_w_ne hq) (am_at_1 (a := a) hk (hob.to (fun j _ => ?_)))
  unfold updV
  by_cases hj : j = b
  · subst hj
    rw [if_pos rfl]
    have e : am_R (am_sR M r j v) r j = some v := by show am_w _ _ _ _ _ _ = _; rw [am_w_eq, if_pos rfl]
    unfold am_fv
    rw [e, hty]
    rfl
  · rw [if_neg hj]
    have e : am_R (am_sR M r b v) r j = am_R M r j := by show am_w _ _ _ _ _ _ = _; rw [am_w_eq, if_neg hj]
    unfold am_fv
    rw [e]
    rfl
theorem am_Mm.rowI {G : am_G} {M : am_M} {H H1 : Heap} (h : am_Mm G M H) {r k : Nat} {v : Int32} (hr : 2 ≤ r) (hk : (am_K M r).1 = 2 ∨ (am_K M r).1 = 4) (hz : H1.size = H.size) (ho : ∀ q, q ≠ am_ga G r → H1[q]? = H[q]?)
    (hc : H1[am_ga G r]? = some ((arrV (am_gA G (am_K M r).1) (am_K M r).2 (fun j => .int (am_I M r j))).setSlot k (.int v))) : am_Mm G (am_sI M r k v) H1 := by
  have e : (arrV (am_gA G (am_K M r).1) (am_K M r).2 (fun j => .int (am_I M r j))).setSlot k (.int v) = vp_cell (am_gA G (am_K M r).1) ((am_K M r).2, .inl (am_I (am_sI M r k v) r)) := by
    rw [arrV_store, vp_cell_i]
    congr 1
    funext j
    show updV _ _ _ _ = Value.int (am_w _ _ _ _ _ _)
    rw [am_w_eq]
    unfold updV
    by_cases hj : j = k
    · rw [if_pos hj, if_pos hj]
    · rw [if_neg hj, if_neg hj]
  rw [e] at hc
  refine h.set hr hz ho rfl rfl (fun q hq => am_w_ne hq) (fun _ _ => rfl) (fun _ _ => rfl) ?_
  rcases hk with hk | hk
  · rw [hk] at hc
    exact am_at_2 hk hc
  · rw [hk] at hc
    exact am_at_4 hk hc
theorem am_Mm.rowL {G : am_G} {M : am_M} {H H1 : Heap} (h : am_Mm G M H) {r k : Nat} {v : Int64} (hr : 2 ≤ r) (hk : (am_K M r).1 = 3) (hz : H1.size = H.size) (ho : ∀ q, q ≠ am_ga G r → H1[q]? = H[q]?)
    (hc : H1[am_ga G r]? = some ((arrV (am_gA G 3) (am_K M r).2 (fun j => .long (am_L M r j))).setSlot k (.long v))) : am_Mm G (am_sL M r k v) H1 := by
  have e : (arrV (am_gA G 3) (am_K M r).2 (fun j => .long (am_L M r j))).setSlot k (.long v) = vp_cell (am_gA G 3) ((am_K M r).2, .inr (.inl (am_L (am_sL M r k v) r))) := by
    rw [arrV_store, vp_cell_l]
    congr 1
    funext j
    show updV _ _ _ _ = Value.long (am_w _ _ _ _ _ _)
    rw [am_w_eq]
    unfold updV
    by_cases hj : j = k
    · rw [if_pos hj, if_pos hj]
    · rw [if_neg hj, if_neg hj]
  rw [e] at hc
  exact h.set hr hz ho rfl rfl (fun _ _ => rfl) (fun q hq => am_w_ne hq) (fun _ _ => rfl) (am_at_3 hk hc)
theorem am_Mm.rowR {G : am_G} {M : am_M} {H H1 : Heap} (h : am_Mm G M H) {r k v : Nat} (hr : 2 ≤ r) (hk : (am_K M r).1 = 5) (hz : H1.size = H.size) (ho : ∀ q, q ≠ am_ga G r → H1[q]? = H[q]?)
    (hc : H1[am_ga G r]? = some ((arrV (am_gA G 5) (am_K M r).2 (fun j => va_rf ((am_R M r j).map (am_ga G)))).setSlot k (.ref (am_ga G v)))) : am_Mm G (am_sR M r k v) H1 := by
  have e : (arrV (am_gA G 5) (am_K M r).2 (fun j => va_rf ((am_R M r j).map (am_ga G)))).setSlot k (.ref (am_ga G v)) = vp_cell (am_gA G 5) ((am_K M r).2, .inr (.inr (.inr (.inr (fun j => (am_R (am_sR M r k v) r j).map (am_ga G)))))) := by
    rw [arrV_store, vp_cell_q]
    congr 1
    funext j
    show updV _ _ _ _ = va_rf (Option.map _ (am_w _ _ _ _ _ _))
    rw [am_w_eq]
    unfold updV
    by_cases hj : j = k
    · rw [if_pos hj, if_pos hj]; rfl
    · rw [if_neg hj, if_neg hj]
  rw [e] at hc
  exact h.set hr hz ho rfl rfl (fun _ _ => rfl) (fun _ _ => rfl) (fun q hq => am_w_ne hq) (am_at_5 hk hc)
/-- a cell is made -/
theorem am_Mm.new {G : am_G} {M : am_M} {H H1 : Heap} (h : am_Mm G M H) {q : Nat × Nat} {w : Nat} (hz : H1.size = H.size + 1) (ho : ∀ x, x < H.size → H1[x]? = H[x]?) (hat : am_at (am_gD G) (am_gA G) (am_ga G) (am_nw M q w) (am_n M) H1) : am_Mm G (am_nw M q w) H1 := by
  obtain ⟨h1, h2, h3, h4, h5, h6, h7, h8⟩ := h
  have hnk : ∀ r, r ≠ am_n M → am_K (am_nw M q w) r = am_K M r := fun r hr => if_neg hr
  have hni : ∀ r, r ≠ am_n M → am_I (am_nw M q w) r = am_I M r := fun r hr => funext fun k => if_neg hr
  have hnl : ∀ r, r ≠ am_n M → am_L (am_nw M q w) r = am_L M r := fun r hr => funext fun k => if_neg hr
  have hnr : ∀ r, r ≠ am_n M → am_R (am_nw M q w) r = am_R M r := fun r hr => funext fun k => if_neg hr
  have hn : am_n (am_nw M q w) = am_n M + 1 := rfl
  refine ⟨by rw [hz, hn]; omega, by rw [hn]; omega, fun r hr => ?_, ?_, fun j hj => ?_, ?_, fun x hx => ?_, fun r hr hrn => ?_⟩
  · rw [hn] at hr
    rw [hnk r (by omega)]
    exact h3 r (by omega)
  · rw [hnk 0 (by omega)]; exact h4
  · rw [hni 0 (by omega)]; exact h5 j hj
  · rw [hnk 1 (by omega)]; exact h6
  · rw [ho x (by omega)]; exact h7 x hx
  · rw [hn] at hrn
    by_cases e : r = am_n M
    · rw [e]; exact hat
    · refine (h8 r hr (by omega)).kept (ho _ ?_) (hnk r e) (hni r e) (hnl r e) (hnr r e)
      unfold am_ga
      rw [am_ad_ge hr]
      omega
theorem am_Mm.top {G : am_G} {M : am_M} {H : Heap} (h : am_Mm G M H) : am_ga G (am_n M) = H.size := by
  unfold am_ga
  rw [am_ad_ge h.2.1]
  have := h.1
  have := h.2.1
  omega
theorem am_nw_I {M : am_M} {q : Nat × Nat} {w : Nat} : am_I (am_nw M q w) (am_n M) = fun _ => 0 := funext fun _ => if_pos rfl
theorem am_nw_L {M : am_M} {q : Nat × Nat} {w : Nat} : am_L (am_nw M q w) (am_n M) = fun _ => 0 := funext fun _ => if_pos rfl
theorem am_nw_R {M : am_M} {q : Nat × Nat} {w : Nat} : am_R (am_nw M q w) (am_n M) = fun _ => none := funext fun _ => if_pos rfl
theorem am_nw_K {M : am_M} {q : Nat × Nat} {w : Nat} : am_K (am_nw M q w) (am_n M) = q := if_pos rfl
/-- the sorts of fields that there are -/
def am_ctf : FieldType → Bool
  | .int => true
  | .long => true
  | .boolean => true
  | .object _ => true
  | .array _ => true
  | _ => false
theorem am_ctf_ok : ∀ a, a < 7 → ∀ j, j < am_nf a → am_ctf (am_ty a j) = true := by decide +kernel
section AMR2
variable {p : Program} {l : Launch} {e : Env} {R : Room} {s : State} {m : MethodId} {args : Array Value} {below : List Frame} {meth : Method} {c : Code} {H : Heap} {locs : List Loc} {cells slots : Nat} {Q : State → Prop}
variable {cc : ByteArray} {pc : Nat} {ls : Array Slot} {rest : List Value} {G : am_G} {M : am_M} {own : String}
theorem am_r_iast (hx : p.tables.exec = Jvm.exec) (hb : c.code = cc) (hK : am_Kn G s) (hM : am_Mm G M H) (hlo : am_lo G locs) {r : Nat} {i x : Int32} (h2 : 2 ≤ r) (hk : (am_K M r).1 = 2) (hin : ¬ (i < 0 ∨ (am_K M r).2 ≤ i.toNatClampNeg)) (hdg : decode cc pc = .ok (.iastore, 1))
    (kk : ∀ (H1 : Heap) (locs1 : List Loc), am_Mm G (am_sI M r i.toNatClampNeg x) H1 → am_lo G locs1 → W p l e R s m args below meth c H1 locs1 cells slots Q (F0 m (pc + 1) ls rest)) : W p l e R s m args below meth c H locs cells slots Q (F0 m pc ls (.int x :: .int i :: .ref (am_ga G r) :: rest)) := by
  have hc := (hM.2.2.2.2.2.2.2 r h2 (hM.lt (by rw [hk]; decide))).2.1 hk
  refine W.iast hx hb hc ((hK.2 0 _ rfl).1 _ (fun j => .int (am_I M r j))) (fun q => by cases q) (by show ¬ (i < 0 ∨ (arrV _ _ _).slots.size ≤ _); rw [arrV_size]; exact hin) rfl rfl hdg fun H1 e z oq => ?_
  exact kk H1 _ (hM.rowI h2 (Or.inl hk) z oq (by rw [hk]; exact e)) (hlo.put h2)
theorem am_r_cast (hx : p.tables.exec = Jvm.exec) (hb : c.code = cc) (hK : am_Kn G s) (hM : am_Mm G M H) (hlo : am_lo G locs) {r : Nat} {i x : Int32} (h2 : 2 ≤ r) (hk : (am_K M r).1 = 4) (hin : ¬ (i < 0 ∨ (am_K M r).2 ≤ i.toNatClampNeg)) (hnar : vp_nar .char x = x) (hdg : decode cc pc = .ok (.castore, 1))
    (kk : ∀ (H1 : Heap) (locs1 : List Loc), am_Mm G (am_sI M r i.toNatClampNeg x) H1 → am_lo G locs1 → W p l e R s m args below meth c H1 locs1 cells slots Q (F0 m (pc + 1) ls rest)) : W p l e R s m args below meth c H locs cells slots Q (F0 m pc ls (.int x :: .int i :: .ref (am_ga G r) :: rest)) := by
  have hc := (hM.2.2.2.2.2.2.2 r h2 (hM.lt (by rw [hk]; decide))).2.2.2.1 hk
  refine W.cast hx hb hc ((hK.2 2 _ rfl).1 _ (fun j => .int (am_I M r j))) (fun q => by cases q) (by show ¬ (i < 0 ∨ (arrV _ _ _).slots.size ≤ _); rw [arrV_size]; exact hin) rfl rfl hdg fun H1 e z oq => ?_
  have hn : narrow .char (.int x) = .int x := by
    have : narrow .char (.int x) = .int (vp_nar .char x) := rfl
    rw [this, hnar]
  rw [hn] at e
  exact kk H1 _ (hM.rowI h2 (Or.inr hk) z oq (by rw [hk]; exact e)) (hlo.put h2)
theorem am_r_last (hx : p.tables.exec = Jvm.exec) (hb : c.code = cc) (hK : am_Kn G s) (hM : am_Mm G M H) (hlo : am_lo G locs) {r : Nat} {i : Int32} {x : Int64} (h2 : 2 ≤ r) (hk : (am_K M r).1 = 3) (hin : ¬ (i < 0 ∨ (am_K M r).2 ≤ i.toNatClampNeg)) (hdg : decode cc pc = .ok (.lastore, 1))
    (kk : ∀ (H1 : Heap) (locs1 : List Loc), am_Mm G (am_sL M r i.toNatClampNeg x) H1 → am_lo G locs1 → W p l e R s m args below meth c H1 locs1 cells slots Q (F0 m (pc + 1) ls rest)) : W p l e R s m args below meth c H locs cells slots Q (F0 m pc ls (.long x :: .int i :: .ref (am_ga G r) :: rest)) := by
  have hc := (hM.2.2.2.2.2.2.2 r h2 (hM.lt (by rw [hk]; decide))).2.2.1 hk
  refine W.last hx hb hc ((hK.2 1 _ rfl).1 _ (fun j => .long (am_L M r j))) (fun q => by cases q) (by show ¬ (i < 0 ∨ (arrV _ _ _).slots.size ≤ _); rw [arrV_size]; exact hin) rfl rfl hdg fun H1 e z oq => ?_
  exact kk H1 _ (hM.rowL h2 hk z oq e) (hlo.put h2)
theorem am_r_aast (hx : p.tables.exec = Jvm.exec) (hb : c.code = cc) (hK : am_Kn G s) (hM : am_Mm G M H) (hlo : am_lo G locs) {r v : Nat} {i : Int32} (h2 : 2 ≤ r) (hk : (am_K M r).1 = 5) (hin : ¬ (i < 0 ∨ (am_K M r).2 ≤ i.toNatClampNeg)) (hv : am_K M v = (1, 0)) (hdg : decode cc pc = .ok (.aastore, 1))
    (kk : ∀ (H1 : Heap) (locs1 : List Loc), am_Mm G (am_sR M r i.toNatClampNeg v) H1 → am_lo G locs1 → W p l e R s m args below meth c H1 locs1 cells slots Q (F0 m (pc + 1) ls rest)) : W p l e R s m args below meth c H locs cells slots Q (F0 m pc ls (.ref (am_ga G v) :: .int i :: .ref (am_ga G r) :: rest)) := by
  have hlt : i.toNatClampNeg < (am_K M r).2 := Nat.not_le.mp fun q => hin (Or.inr q)
  have h0 : ¬ i < 0 := fun q => hin (Or.inl q)
  have hc := (hM.2.2.2.2.2.2.2 r h2 (hM.lt (by rw [hk]; decide))).2.2.2.2.1 hk
  obtain ⟨cellV, g1, g2, g3, -⟩ := (hM.2.2.2.2.2.2.2 v (hM.ge hv) (hM.lt (by rw [hv]; exact Nat.one_ne_zero))).1 (by rw [hv])
  rw [hv] at g2
  have hcls := (hK.1 0 _ (am_cl_at 0 (by decide))).2
  obtain ⟨kA, comp, k1, k2, k3, -⟩ := (hK.2 3 _ rfl).2
  have hcomp : comp = (am_gD G).1 0 := Option.some.inj (k3.symm.trans hcls.1)
  subst hcomp
  obtain ⟨kC, hkC, -⟩ := hcls.2
  refine W.aast hx hb hc (fun q h => by cases h) (fun h => by cases h) k1 k2 rfl hkC ⟨h0, by show _ < (arrV _ _ _).slots.size; rw [arrV_size]; exact hlt⟩ g1 (fun q h => by rw [g3] at h; cases h) (by rw [g2]; exact hkC) (by rw [g2]; exact va_assign hcls) rfl rfl hdg fun H1 e z oq => ?_
  exact kk H1 _ (hM.rowR h2 hk z oq e) (hlo.put h2)
theorem am_r_new (hx : p.tables.exec = Jvm.exec) (hb : c.code = cc) (hts : ∀ w ∈ am_W, w.before args s = true) (hown : s.vm.findClass own = some m.cls) (hK : am_Kn G s) (hM : am_Mm G M H) {a index : Nat} (ha : a < 7) (hcl : Cond.classLink own index (am_cR a) ∈ am_W) (hin : Cond.instantiable (am_cR a) (am_nf a) ∈ am_W) (hini : Cond.initialized (am_cR a) ∈ am_W) (hcells : cells + 1 ≤ R.cells) (hslots : slots + am_nf a ≤ R.slots) (hdg : decode cc pc = .ok (.new index, 3))
    (kk : ∀ (H1 : Heap), am_Mm G (am_nw M (1, a) (am_nf a)) H1 → W p l e R s m args below meth c H1 locs (cells + 1) (slots + am_nf a) Q (F0 m (pc + 3) ls (.ref (am_ga G (am_n M)) :: rest))) : W p l e R s m args below meth c H locs cells slots Q (F0 m pc ls rest) := by
  have hKn := hK.1 a _ (am_cl_at a ha)
  refine W.newcK hx hb hown (hts _ hcl) (hts _ hin) (hts _ hini) rfl hdg hcells hslots hKn.2.1 rfl fun H1 kC hkC e1 z1 o1 => ?_
  have hob := u_born (am_ty a) hts (am_cin a ha) hKn hkC e1 (am_cty a ha)
  have kk1 := kk H1 (hM.new z1 o1 (am_at_1 (a := a) am_nw_K (by
    rw [hM.top]
    refine hob.to (fun j hj => ?_)
    unfold am_fv
    rw [am_nw_I, am_nw_L, am_nw_R]
    show defaultValue (am_ty a j) = _
    unfold am_ft
    have hok := am_ctf_ok a ha j hj
    generalize am_ty a j = t at hok
    cases t <;> first | rfl | cases hok)))
  rw [hM.top] at kk1
  exact kk1
theorem am_r_newa (hx : p.tables.exec = Jvm.exec) (hb : c.code = cc) (hts : ∀ w ∈ am_W, w.before args s = true) (hK : am_Kn G s) (hM : am_Mm G M H) {at_ : ArrayType} {g : Nat} (hg : (at_ = .int ∧ g = 2) ∨ (at_ = .long ∧ g = 3) ∨ (at_ = .char ∧ g = 4)) (hw : Cond.arrayClass (newarray.typeOf at_) ∈ am_W) {n : Int32} (hn : ¬ (n < 0 ∨ 65536 < n.toNatClampNeg)) (hcells : cells + 1 ≤ R.cells) (hslots : slots + n.toNatClampNeg ≤ R.slots) (hdg : decode cc pc = .ok (.newarray at_, 2))
    (kk : ∀ (H1 : Heap), am_Mm G (am_nw M (g, n.toNatClampNeg) n.toNatClampNeg) H1 → W p l e R s m args below meth c H1 locs (cells + 1) (slots + n.toNatClampNeg) Q (F0 m (pc + 2) ls (.ref (am_ga G (am_n M)) :: rest))) : W p l e R s m args below meth c H locs cells slots Q (F0 m pc ls (.int n :: rest)) := by
  have h0 : ¬ n < 0 := fun h => hn (Or.inl h)
  have h1 : n.toNatClampNeg ≤ 65536 := Nat.not_lt.mp fun h => hn (Or.inr h)
  rw [hM.top] at kk
  have hbyt : n.toNatClampNeg * componentBytes (newarray.typeOf at_) ≤ 536870912 := by
    have : componentBytes (newarray.typeOf at_) ≤ 8 := by cases at_ <;> decide
    calc n.toNatClampNeg * componentBytes (newarray.typeOf at_) ≤ 65536 * 8 := Nat.mul_le_mul h1 this
      _ ≤ 536870912 := by decide
  refine va_newaK hx hb (hts _ hw) rfl hdg rfl h0 rfl hbyt hcells hslots rfl fun H1 cA e1 z1 o1 hAr hNm => ?_
  refine kk H1 (hM.new z1 o1 ?_)
  rcases hg with ⟨rfl, rfl⟩ | ⟨rfl, rfl⟩ | ⟨rfl, rfl⟩
  · have hc : am_gA G 2 = cA := Option.some.inj ((show s.vm.findClass _ = some (am_gA G 2) from (hK.2 0 _ rfl).2).symm.trans hNm)
    refine am_at_2 (by rw [am_nw_K]) ?_
    rw [hM.top, am_nw_K, am_nw_I, hc]
    exact e1
  · have hc : am_gA G 3 = cA := Option.some.inj ((show s.vm.findClass _ = some (am_gA G 3) from (hK.2 1 _ rfl).2).symm.trans hNm)
    refine am_at_3 (by rw [am_nw_K]) ?_
    rw [hM.top, am_nw_K, am_nw_L, hc]
    exact e1
  · have hc : am_gA G 4 = cA := Option.some.inj ((show s.vm.findClass _ = some (am_gA G 4) from (hK.2 2 _ rfl).2).symm.trans hNm)
    refine am_at_4 (by rw [am_nw_K]) ?_
    rw [hM.top, am_nw_K, am_nw_I, hc]
    exact e1
theorem am_r_anew (hx : p.tables.exec = Jvm.exec) (hb : c.code = cc) (hts : ∀ w ∈ am_W, w.before args s = true) (hown : s.vm.findClass own = some m.cls) (hK : am_Kn G s) (hM : am_Mm G M H) {index : Nat} (hcl : Cond.classLink own index RX0 ∈ am_W) (hov : va_AO RX0 s) {n : Int32} (hn : ¬ (n < 0 ∨ 65536 < n.toNatClampNeg)) (hcells : cells + 1 ≤ R.cells) (hslots : slots + n.toNatClampNeg ≤ R.slots) (hdg : decode cc pc = .ok (.anewarray index, 3))
    (kk : ∀ (H1 : Heap), am_Mm G (am_nw M (5, n.toNatClampNeg) n.toNatClampNeg) H1 → W p l e R s m args below meth c H1 locs (cells + 1) (slots + n.toNatClampNeg) Q (F0 m (pc + 3) ls (.ref (am_ga G (am_n M)) :: rest))) : W p l e R s m args below meth c H locs cells slots Q (F0 m pc ls (.int n :: rest)) := by
  have h0 : ¬ n < 0 := fun h => hn (Or.inl h)
  have h1 : n.toNatClampNeg ≤ 65536 := Nat.not_lt.mp fun h => hn (Or.inr h)
  rw [hM.top] at kk
  refine W.anew hx hb hown (hts _ hcl) (va_AO.use hov) rfl hdg rfl h0 (by omega) hcells hslots fun cA kA comp f1 f2 f3 f4 => ?_
  generalize hH1 : H.push ({ cls := cA, slots := Array.replicate n.toNatClampNeg .null, vm := .none } : Cell) = H1
  have z1 : H1.size = H.size + 1 := by rw [← hH1, Array.size_push]
  have e1 : H1[H.size]? = some (arrV cA n.toNatClampNeg (fun _ => .null)) := by rw [← hH1, Array.getElem?_push_size, ← arrV_new]
  have o1 : ∀ q : Nat, q < H.size → H1[q]? = H[q]? := fun q hq => by rw [← hH1, Array.getElem?_push, if_neg (Nat.ne_of_lt hq)]
  refine kk H1 (hM.new z1 o1 (am_at_5 (by rw [am_nw_K]) ?_))
  have hc : am_gA G 5 = cA := by
    obtain ⟨_, _, -, -, -, k4⟩ := (hK.2 3 _ rfl).2
    exact Option.some.inj (k4.symm.trans f1)
  rw [hM.top, am_nw_K, am_nw_R, hc]
  exact e1
end AMR2
