/-! What a run keeps: kinds, the script; of what sort it answers. -/
def am_Pk (M M' : am_M) : Prop := (2 ≤ am_n M ∧ (am_K M 0).1 = 2) → am_n M ≤ am_n M' ∧ (∀ r, r < am_n M → am_K M' r = am_K M r) ∧ ∀ k, am_I M' 0 k = am_I M 0 k
theorem am_Pk_rf (M : am_M) : am_Pk M M := fun _ => ⟨Nat.le_refl _, fun _ _ => rfl, fun _ => rfl⟩
theorem am_Pk_tr {M M1 M' : am_M} (h1 : am_Pk M M1) (h2 : am_Pk M1 M') : am_Pk M M' := by
  intro h
  obtain ⟨a1, a2, a3⟩ := h1 h
  obtain ⟨b1, b2, b3⟩ := h2 ⟨by omega, by rw [a2 0 (by omega)]; exact h.2⟩
  exact ⟨by omega, fun r hr => (b2 r (by omega)).trans (a2 r hr), fun k => (b3 k).trans (a3 k)⟩
theorem am_Pk_w {M : am_M} {r j : Nat} {v : Int32} (h : r = 0 → (am_K M 0).1 ≠ 2) : am_Pk M (am_sI M r j v) := by
  intro g
  refine ⟨Nat.le_refl _, fun _ _ => rfl, fun k => ?_⟩
  show (if 0 = r ∧ k = j then v else am_I M 0 k) = am_I M 0 k
  rw [if_neg (fun e => h e.1.symm g.2)]
theorem am_Pk_cp {M : am_M} {r sp q dp n : Nat} (h : 2 ≤ q) : am_Pk M (am_cp M r sp q dp n) := by
  intro g
  refine ⟨Nat.le_refl _, fun _ _ => rfl, fun k => ?_⟩
  show (if 0 = q ∧ dp ≤ k ∧ k < dp + n then am_I M r (sp + (k - dp)) else am_I M 0 k) = am_I M 0 k
  rw [if_neg (by omega)]
theorem am_Pk_nw {M : am_M} {q : Nat × Nat} {w : Nat} : am_Pk M (am_nw M q w) := by
  intro g
  refine ⟨Nat.le_succ _, fun r hr => ?_, fun k => ?_⟩
  · show (if r = am_n M then q else am_K M r) = am_K M r
    rw [if_neg (by omega)]
  · show (if 0 = am_n M then 0 else am_I M 0 k) = am_I M 0 k
    rw [if_neg (by omega)]
theorem am_Pk_nm {M : am_M} {n k : Nat} : am_Pk M (am_nm M n k) := by
  intro g
  refine ⟨Nat.le_trans (Nat.le_succ _) (Nat.le_add_right _ _), fun r hr => ?_, fun j => ?_⟩
  · show (if r = am_n M then (6, n) else if am_n M < r ∧ r < am_n M + 1 + n then (2, k) else am_K M r) = am_K M r
    rw [if_neg (by omega), if_neg (by omega)]
  · show (if am_n M ≤ 0 ∧ 0 < am_n M + 1 + n then 0 else am_I M 0 j) = am_I M 0 j
    rw [if_neg (by omega)]
theorem am_m_iteh {C : Prop} {r : Option Value × am_M} {p : Prop} [Decidable p] {t s : am_Q} (h : p → t = some r → C) (hs : s = some r → C) : (if p then t else s) = some r → C := by
  split
  · exact h ‹p›
  · exact hs
theorem am_ob_0 {M : am_M} {r a : Nat} (h : am_K M r = (1, a)) : r = 0 → (am_K M 0).1 ≠ 2 := by
  intro e
  subst e
  rw [h]
  show (1 : Nat) ≠ 2
  decide
theorem am_iw_0 {M : am_M} {r : Nat} {X : Prop} (h : 2 ≤ r ∧ X) : r = 0 → (am_K M 0).1 ≠ 2 := fun e => absurd h.1 (by omega)
set_option maxHeartbeats 8000000 in
set_option maxRecDepth 100000 in
theorem am_keep_nx {k : am_F} (hk : ∀ m d pc ls st M v M', k m d pc ls st M = some (v, M') → am_Pk M M') (m d pc : Nat) (ls st : List Value) (M : am_M) (v : Option Value) (M' : am_M) : am_nx k m d pc ls st M = some (v, M') → am_Pk M M' := by
  have bI : ∀ {m d a M f}, (∀ x M1, f x M1 = some (v, M') → am_Pk M1 M') → am_bI (k m d 0 (am_lc m a) [] M) f = some (v, M') → am_Pk M M' := by
    intro m d a M f hf h
    obtain ⟨x, M1, e1, e2⟩ := am_bI_of h
    exact am_Pk_tr (hk _ _ _ _ _ _ _ _ e1) (hf _ _ e2)
  have bL : ∀ {m d a M f}, (∀ x M1, f x M1 = some (v, M') → am_Pk M1 M') → am_bL (k m d 0 (am_lc m a) [] M) f = some (v, M') → am_Pk M M' := by
    intro m d a M f hf h
    obtain ⟨x, M1, e1, e2⟩ := am_bL_of h
    exact am_Pk_tr (hk _ _ _ _ _ _ _ _ e1) (hf _ _ e2)
  have bR : ∀ {m d a M f}, (∀ x M1, f x M1 = some (v, M') → am_Pk M1 M') → am_bR (k m d 0 (am_lc m a) [] M) f = some (v, M') → am_Pk M M' := by
    intro m d a M f hf h
    obtain ⟨x, M1, e1, e2⟩ := am_bR_of h
    exact am_Pk_tr (hk _ _ _ _ _ _ _ _ e1) (hf _ _ e2)
  have bV : ∀ {m d a M f}, (∀ M1, f M1 = some (v, M') → am_Pk M1 M') → am_bV (k m d 0 (am_lc m a) [] M) f = some (v, M') → am_Pk M M' := by
    intro m d a M f hf h
    obtain ⟨M1, e1, e2⟩ := am_bV_of h
    exact am_Pk_tr (hk _ _ _ _ _ _ _ _ e1) (hf _ e2)
  unfold am_nx am_step
  generalize am_find (am_tb m) pc = o
  rcases o with _ | ⟨ins, len, a, b, c, e, z, sw⟩
  · exact am_m_none
  · cases ins
    all_goals dsimp only
    all_goals (repeat (first
      | exact am_m_none
      | exact hk _ _ _ _ _ _ _ _
      | exact fun h => am_Pk_tr am_Pk_nw (hk _ _ _ _ _ _ _ _ h)
      | exact fun h => am_Pk_tr am_Pk_nm (hk _ _ _ _ _ _ _ _ h)
      | exact fun h => am_Pk_tr (am_Pk_w (am_ob_0 (by assumption))) (hk _ _ _ _ _ _ _ _ h)
      | exact fun h => am_Pk_tr (am_Pk_w (am_iw_0 (by assumption))) (hk _ _ _ _ _ _ _ _ h)
      | exact fun h => am_Pk_tr (am_Pk_cp (by omega)) (hk _ _ _ _ _ _ _ _ h)
      | exact fun h => by cases h; exact am_Pk_rf _
      | (refine am_m_tI (fun _ _ => ?_) ?_)
      | (refine am_m_tL (fun _ _ => ?_) ?_)
      | (refine am_m_tR (fun _ _ => ?_) ?_)
      | (refine am_m_xI (fun _ => ?_) ?_)
      | (refine am_m_xL (fun _ => ?_) ?_)
      | (refine am_m_xR (fun _ => ?_) ?_)
      | (refine am_m_e0 ?_ ?_)
      | (refine am_m_gr (fun _ => ?_) ?_)
      | (refine am_m_sw (fun _ => ?_) _ _ _)
      | (refine am_m_br ?_ ?_)
      | (refine bI (fun _ _ => ?_))
      | (refine bL (fun _ _ => ?_))
      | (refine bR (fun _ _ => ?_))
      | (refine bV (fun _ => ?_))
      | (refine am_m_iteh (fun _ => ?_) ?_)
      | (unfold am_if; refine am_m_iteh (fun _ => ?_) ?_)
      | (unfold am_ob; refine am_m_iteh (fun _ => ?_) ?_)
      | (unfold am_ix; refine am_m_iteh (fun _ => ?_) ?_)
      | (unfold am_iw; refine am_m_iteh (fun _ => ?_) ?_)
      | (unfold am_iq; refine am_m_iteh (fun _ => ?_) ?_)
      | (unfold am_tr; refine am_m_iteh (fun _ => ?_) ?_)
      | split))
theorem am_keep : ∀ (n m d pc : Nat) (ls st : List Value) (M : am_M) (v : Option Value) (M' : am_M), am_run n m d pc ls st M = some (v, M') → am_Pk M M'
  | 0, _, _, _, _, _, _, _, _ => fun h => by cases h
  | n + 1, m, d, pc, ls, st, M, v, M' => am_keep_nx (am_keep n) m d pc ls st M v M'
theorem am_keep_cl {m d : Nat} {a : List Value} {M M' : am_M} {v : Option Value} (h : am_cl m d a M = some (v, M')) : am_Pk M M' := by
  obtain ⟨n, hn⟩ := am_ev_some.mp h
  exact am_keep n _ _ _ _ _ _ _ _ hn
/-! no long is answered, no int -/
def nlr (l : List (Nat × am_E)) : Bool := l.all (fun e => match e.2.1 with
  | .lreturn => false
  | _ => true)
def nir (l : List (Nat × am_E)) : Bool := l.all (fun e => match e.2.1 with
  | .ireturn => false
  | _ => true)
def nLg (v : Option Value) : Prop := ∀ z, v ≠ some (.long z)
def nIt (v : Option Value) : Prop := ∀ z, v ≠ some (.int z)
set_option maxHeartbeats 8000000 in
set_option maxRecDepth 100000 in
theorem am_noL_nx {k : am_F} {m : Nat} (hno : nlr (am_tb m) = true) {v : Option Value} {M' : am_M} (hk : ∀ d pc ls st M, k m d pc ls st M = some (v, M') → nLg v) (d pc : Nat) (ls st : List Value) (M : am_M) : am_nx k m d pc ls st M = some (v, M') → nLg v := by
  have bI : ∀ {m d a M f}, (∀ x M1, f x M1 = some (v, M') → nLg v) → am_bI (k m d 0 (am_lc m a) [] M) f = some (v, M') → nLg v := by
    intro m d a M f hf h
    obtain ⟨x, M1, e1, e2⟩ := am_bI_of h
    exact hf _ _ e2
  have bL : ∀ {m d a M f}, (∀ x M1, f x M1 = some (v, M') → nLg v) → am_bL (k m d 0 (am_lc m a) [] M) f = some (v, M') → nLg v := by
    intro m d a M f hf h
    obtain ⟨x, M1, e1, e2⟩ := am_bL_of h
    exact hf _ _ e2
  have bR : ∀ {m d a M f}, (∀ x M1, f x M1 = some (v, M') → nLg v) → am_bR (k m d 0 (am_lc m a) [] M) f = some (v, M') → nLg v := by
    intro m d a M f hf h
    obtain ⟨x, M1, e1, e2⟩ := am_bR_of h
    exact hf _ _ e2
  have bV : ∀ {m d a M f}, (∀ M1, f M1 = some (v, M') → nLg v) → am_bV (k m d 0 (am_lc m a) [] M) f = some (v, M') → nLg v := by
    intro m d a M f hf h
    obtain ⟨M1, e1, e2⟩ := am_bV_of h
    exact hf _ e2
  have hmem : ∀ x, am_find (am_tb m) pc = some x → (match x.1 with
      | .lreturn => false
      | _ => true) = true := fun x hx => by
    exact (List.all_eq_true.mp hno) _ (am_find_mem hx)
  unfold am_nx am_step
  revert hmem
  generalize am_find (am_tb m) pc = o
  intro hmem
  rcases o with _ | ⟨ins, len, a, b, c, e, z, sw⟩
  · exact am_m_none
  · have hins := hmem _ rfl
    clear hmem
    cases ins
    all_goals dsimp only at hins ⊢
    all_goals (repeat (first
      | exact am_m_none
      | exact absurd hins (by decide)
      | exact hk _ _ _ _ _
      | exact fun h => by cases h; intro z hz; cases hz
      | (refine am_m_tI (fun _ _ => ?_) ?_)
      | (refine am_m_tL (fun _ _ => ?_) ?_)
      | (refine am_m_tR (fun _ _ => ?_) ?_)
      | (refine am_m_xI (fun _ => ?_) ?_)
      | (refine am_m_xL (fun _ => ?_) ?_)
      | (refine am_m_xR (fun _ => ?_) ?_)
      | (refine am_m_e0 ?_ ?_)
      | (refine am_m_gr (fun _ => ?_) ?_)
      | (refine am_m_sw (fun _ => ?_) _ _ _)
      | (refine am_m_br ?_ ?_)
      | (refine bI (fun _ _ => ?_))
      | (refine bL (fun _ _ => ?_))
      | (refine bR (fun _ _ => ?_))
      | (refine bV (fun _ => ?_))
      | (refine am_m_ite ?_ ?_)
      | (unfold am_if; refine am_m_ite ?_ ?_)
      | (unfold am_ob; refine am_m_ite ?_ ?_)
      | (unfold am_ix; refine am_m_ite ?_ ?_)
      | (unfold am_iw; refine am_m_ite ?_ ?_)
      | (unfold am_iq; refine am_m_ite ?_ ?_)
      | (unfold am_tr; refine am_m_ite ?_ ?_)
      | split))
theorem am_noL {m : Nat} (hno : nlr (am_tb m) = true) {v : Option Value} {M' : am_M} : ∀ (n d pc : Nat) (ls st : List Value) (M : am_M), am_run n m d pc ls st M = some (v, M') → nLg v
  | 0, _, _, _, _, _ => fun h => by cases h
  | n + 1, d, pc, ls, st, M => am_noL_nx hno (am_noL hno n) d pc ls st M
theorem am_noL_cl {m d : Nat} {a : List Value} {M M' : am_M} {v : Option Value} (hno : nlr (am_tb m) = true) (h : am_cl m d a M = some (v, M')) : nLg v := by
  obtain ⟨n, hn⟩ := am_ev_some.mp h
  exact am_noL hno n _ _ _ _ _ hn
set_option maxHeartbeats 8000000 in
set_option maxRecDepth 100000 in
theorem am_noI_nx {k : am_F} {m : Nat} (hno : nir (am_tb m) = true) {v : Option Value} {M' : am_M} (hk : ∀ d pc ls st M, k m d pc ls st M = some (v, M') → nIt v) (d pc : Nat) (ls st : List Value) (M : am_M) : am_nx k m d pc ls st M = some (v, M') → nIt v := by
  have bI : ∀ {m d a M f}, (∀ x M1, f x M1 = some (v, M') → nIt v) → am_bI (k m d 0 (am_lc m a) [] M) f = some (v, M') → nIt v := by
    intro m d a M f hf h
    obtain ⟨x, M1, e1, e2⟩ := am_bI_of h
    exact hf _ _ e2
  have bL : ∀ {m d a M f}, (∀ x M1, f x M1 = some (v, M') → nIt v) → am_bL (k m d 0 (am_lc m a) [] M) f = some (v, M') → nIt v := by
    intro m d a M f hf h
    obtain ⟨x, M1, e1, e2⟩ := am_bL_of h
    exact hf _ _ e2
  have bR : ∀ {m d a M f}, (∀ x M1, f x M1 = some (v, M') → nIt v) → am_bR (k m d 0 (am_lc m a) [] M) f = some (v, M') → nIt v := by
    intro m d a M f hf h
    obtain ⟨x, M1, e1, e2⟩ := am_bR_of h
    exact hf _ _ e2
  have bV : ∀ {m d a M f}, (∀ M1, f M1 = some (v, M') → nIt v) → am_bV (k m d 0 (am_lc m a) [] M) f = some (v, M') → nIt v := by
    intro m d a M f hf h
    obtain ⟨M1, e1, e2⟩ := am_bV_of h
    exact hf _ e2
  have hmem : ∀ x, am_find (am_tb m) pc = some x → (match x.1 with
      | .ireturn => false
      | _ => true) = true := fun x hx => by
    exact (List.all_eq_true.mp hno) _ (am_find_mem hx)
  unfold am_nx am_step
  revert hmem
  generalize am_find (am_tb m) pc = o
  intro hmem
  rcases o with _ | ⟨ins, len, a, b, c, e, z, sw⟩
  · exact am_m_none
  · have hins := hmem _ rfl
    clear hmem
    cases ins
    all_goals dsimp only at hins ⊢
    all_goals (repeat (first
      | exact am_m_none
      | exact absurd hins (by decide)
      | exact hk _ _ _ _ _
      | exact fun h => by cases h; intro z hz; cases hz
      | (refine am_m_tI (fun _ _ => ?_) ?_)
      | (refine am_m_tL (fun _ _ => ?_) ?_)
      | (refine am_m_tR (fun _ _ => ?_) ?_)
      | (refine am_m_xI (fun _ => ?_) ?_)
      | (refine am_m_xL (fun _ => ?_) ?_)
      | (refine am_m_xR (fun _ => ?_) ?_)
      | (refine am_m_e0 ?_ ?_)
      | (refine am_m_gr (fun _ => ?_) ?_)
      | (refine am_m_sw (fun _ => ?_) _ _ _)
      | (refine am_m_br ?_ ?_)
      | (refine bI (fun _ _ => ?_))
      | (refine bL (fun _ _ => ?_))
      | (refine bR (fun _ _ => ?_))
      | (refine bV (fun _ => ?_))
      | (refine am_m_ite ?_ ?_)
      | (unfold am_if; refine am_m_ite ?_ ?_)
      | (unfold am_ob; refine am_m_ite ?_ ?_)
      | (unfold am_ix; refine am_m_ite ?_ ?_)
      | (unfold am_iw; refine am_m_ite ?_ ?_)
      | (unfold am_iq; refine am_m_ite ?_ ?_)
      | (unfold am_tr; refine am_m_ite ?_ ?_)
      | split))
theorem am_noI {m : Nat} (hno : nir (am_tb m) = true) {v : Option Value} {M' : am_M} : ∀ (n d pc : Nat) (ls st : List Value) (M : am_M), am_run n m d pc ls st M = some (v, M') → nIt v
  | 0, _, _, _, _, _ => fun h => by cases h
  | n + 1, d, pc, ls, st, M => am_noI_nx hno (am_noI hno n) d pc ls st M
theorem am_noI_cl {m d : Nat} {a : List Value} {M M' : am_M} {v : Option Value} (hno : nir (am_tb m) = true) (h : am_cl m d a M = some (v, M')) : nIt v := by
  obtain ⟨n, hn⟩ := am_ev_some.mp h
  exact am_noI hno n _ _ _ _ _ hn
