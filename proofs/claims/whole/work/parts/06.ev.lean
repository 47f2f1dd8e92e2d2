/-! What the abstract machine tells without a count of steps. -/
def am_le (x y : am_Q) : Prop := ∀ r, x = some r → y = some r
theorem am_le_rf (x : am_Q) : am_le x x := fun _ h => h
theorem am_bI_of {q : am_Q} {f : Int32 → am_M → am_Q} {r : Option Value × am_M} (h : am_bI q f = some r) : ∃ x M, q = some (some (.int x), M) ∧ f x M = some r := by
  unfold am_bI at h
  split at h
  · exact ⟨_, _, rfl, h⟩
  · cases h
theorem am_bL_of {q : am_Q} {f : Int64 → am_M → am_Q} {r : Option Value × am_M} (h : am_bL q f = some r) : ∃ x M, q = some (some (.long x), M) ∧ f x M = some r := by
  unfold am_bL at h
  split at h
  · exact ⟨_, _, rfl, h⟩
  · cases h
theorem am_bR_of {q : am_Q} {f : Nat → am_M → am_Q} {r : Option Value × am_M} (h : am_bR q f = some r) : ∃ x M, q = some (some (.ref x), M) ∧ f x M = some r := by
  unfold am_bR at h
  split at h
  · exact ⟨_, _, rfl, h⟩
  · cases h
theorem am_bV_of {q : am_Q} {f : am_M → am_Q} {r : Option Value × am_M} (h : am_bV q f = some r) : ∃ M, q = some (none, M) ∧ f M = some r := by
  unfold am_bV at h
  split at h
  · exact ⟨_, rfl, h⟩
  · cases h
theorem am_nx_mono {k k' : am_F} (h : ∀ m d pc ls st M, am_le (k m d pc ls st M) (k' m d pc ls st M)) (m d pc : Nat) (ls st : List Value) (M : am_M) : am_le (am_nx k m d pc ls st M) (am_nx k' m d pc ls st M) := by
  unfold am_nx
  refine am_par am_le (am_le_rf _) (fun _ _ => am_le_rf _) h ?_ ?_ ?_ ?_ m d pc ls st M
  · intro m d a M f f' hf r hr
    obtain ⟨x, M', h1, h2⟩ := am_bI_of hr
    rw [h _ _ _ _ _ _ _ h1]
    exact hf _ _ _ h2
  · intro m d a M f f' hf r hr
    obtain ⟨x, M', h1, h2⟩ := am_bL_of hr
    rw [h _ _ _ _ _ _ _ h1]
    exact hf _ _ _ h2
  · intro m d a M f f' hf r hr
    obtain ⟨x, M', h1, h2⟩ := am_bR_of hr
    rw [h _ _ _ _ _ _ _ h1]
    exact hf _ _ _ h2
  · intro m d a M f f' hf r hr
    obtain ⟨M', h1, h2⟩ := am_bV_of hr
    rw [h _ _ _ _ _ _ _ h1]
    exact hf _ _ h2
theorem am_run_succ : ∀ (n : Nat) (m d pc : Nat) (ls st : List Value) (M : am_M), am_le (am_run n m d pc ls st M) (am_run (n + 1) m d pc ls st M)
  | 0, _, _, _, _, _, _ => fun r h => by cases h
  | n + 1, m, d, pc, ls, st, M => am_nx_mono (am_run_succ n) m d pc ls st M
theorem am_run_mono {n n' : Nat} (h : n ≤ n') (m d pc : Nat) (ls st : List Value) (M : am_M) : am_le (am_run n m d pc ls st M) (am_run n' m d pc ls st M) := by
  induction h with
  | refl => exact am_le_rf _
  | step _ ih => exact fun r hr => am_run_succ _ _ _ _ _ _ _ _ (ih r hr)
/-- what comes out in the end, if anything does -/
noncomputable def am_ev : am_F := fun m d pc ls st M => @dite _ (∃ r, ∃ n, am_run n m d pc ls st M = some r) (Classical.propDecidable _) (fun h => some (Classical.choose h)) (fun _ => none)
theorem am_ev_some {m d pc : Nat} {ls st : List Value} {M : am_M} {r : Option Value × am_M} : am_ev m d pc ls st M = some r ↔ ∃ n, am_run n m d pc ls st M = some r := by
  unfold am_ev
  by_cases h : ∃ r, ∃ n, am_run n m d pc ls st M = some r
  · rw [dif_pos h]
    obtain ⟨n, hn⟩ := Classical.choose_spec h
    constructor
    · intro e
      cases e
      exact ⟨n, hn⟩
    · rintro ⟨n', hn'⟩
      have h1 := am_run_mono (Nat.le_max_left n n') _ _ _ _ _ _ _ hn
      have h2 := am_run_mono (Nat.le_max_right n n') _ _ _ _ _ _ _ hn'
      rw [h1] at h2
      exact h2
  · rw [dif_neg h]
    constructor
    · intro e
      cases e
    · rintro ⟨n, hn⟩
      exact absurd ⟨r, n, hn⟩ h
theorem am_ev_of {n m d pc : Nat} {ls st : List Value} {M : am_M} : am_le (am_run n m d pc ls st M) (am_ev m d pc ls st M) := fun _ h => am_ev_some.mpr ⟨n, h⟩
def am_Rw (x : am_Q) (y : Nat → am_Q) : Prop := ∀ r, x = some r → ∃ n0, ∀ n, n0 ≤ n → y n = some r
theorem am_step_at (n : Nat) (m d pc : Nat) (ls st : List Value) (M : am_M) : am_step (X := Nat → am_Q) (fun v M _ => some (v, M)) (fun m d pc ls st M n => am_run n m d pc ls st M)
    (fun m d a M f n => am_bI (am_run n m d 0 (am_lc m a) [] M) (fun x M => f x M n)) (fun m d a M f n => am_bL (am_run n m d 0 (am_lc m a) [] M) (fun x M => f x M n)) (fun m d a M f n => am_bR (am_run n m d 0 (am_lc m a) [] M) (fun x M => f x M n)) (fun m d a M f n => am_bV (am_run n m d 0 (am_lc m a) [] M) (fun M => f M n)) (fun _ => none) m d pc ls st M n = am_run (n + 1) m d pc ls st M := by
  show _ = am_nx (am_run n) m d pc ls st M
  unfold am_nx
  refine am_par (X := Nat → am_Q) (Y := am_Q) (fun y x => y n = x) rfl (fun _ _ => rfl) (fun _ _ _ _ _ _ => rfl) ?_ ?_ ?_ ?_ m d pc ls st M
  · intro m d a M f f' hf
    exact congrArg _ (funext fun x => funext fun M => hf x M)
  · intro m d a M f f' hf
    exact congrArg _ (funext fun x => funext fun M => hf x M)
  · intro m d a M f f' hf
    exact congrArg _ (funext fun x => funext fun M => hf x M)
  · intro m d a M f f' hf
    exact congrArg _ (funext fun M => hf M)
theorem am_ev_eq (m d pc : Nat) (ls st : List Value) (M : am_M) : am_ev m d pc ls st M = am_nx am_ev m d pc ls st M := by
  have h1 : am_le (am_ev m d pc ls st M) (am_nx am_ev m d pc ls st M) := by
    intro r hr
    obtain ⟨n, hn⟩ := am_ev_some.mp hr
    cases n with
    | zero => cases hn
    | succ n => exact am_nx_mono (fun _ _ _ _ _ _ => am_ev_of) _ _ _ _ _ _ _ hn
  have h2 : am_le (am_nx am_ev m d pc ls st M) (am_ev m d pc ls st M) := by
    intro r hr
    have key : am_Rw (am_nx am_ev m d pc ls st M) (am_step (X := Nat → am_Q) (fun v M _ => some (v, M)) (fun m d pc ls st M n => am_run n m d pc ls st M)
        (fun m d a M f n => am_bI (am_run n m d 0 (am_lc m a) [] M) (fun x M => f x M n)) (fun m d a M f n => am_bL (am_run n m d 0 (am_lc m a) [] M) (fun x M => f x M n)) (fun m d a M f n => am_bR (am_run n m d 0 (am_lc m a) [] M) (fun x M => f x M n)) (fun m d a M f n => am_bV (am_run n m d 0 (am_lc m a) [] M) (fun M => f M n)) (fun _ => none) m d pc ls st M) := by
      unfold am_nx
      have ev : ∀ (m d pc : Nat) (ls st : List Value) (M : am_M), am_Rw (am_ev m d pc ls st M) (fun n => am_run n m d pc ls st M) := by
        intro m d pc ls st M r hr
        obtain ⟨n, hn⟩ := am_ev_some.mp hr
        exact ⟨n, fun n' h => am_run_mono h _ _ _ _ _ _ _ hn⟩
      refine am_par am_Rw (fun r h => by cases h) (fun v M r h => ⟨0, fun _ _ => h⟩) ev ?_ ?_ ?_ ?_ m d pc ls st M
      · intro m d a M f f' hf r hr
        obtain ⟨x, M', e1, e2⟩ := am_bI_of hr
        obtain ⟨n1, h1⟩ := ev _ _ _ _ _ _ _ e1
        obtain ⟨n2, h2⟩ := hf _ _ _ e2
        exact ⟨max n1 n2, fun n hn => by
          show am_bI (am_run n _ _ _ _ _ _) _ = _
          have h3 := h1 n (Nat.le_trans (Nat.le_max_left _ _) hn)
          dsimp only at h3
          rw [h3]
          exact h2 n (Nat.le_trans (Nat.le_max_right _ _) hn)⟩
      · intro m d a M f f' hf r hr
        obtain ⟨x, M', e1, e2⟩ := am_bL_of hr
        obtain ⟨n1, h1⟩ := ev _ _ _ _ _ _ _ e1
        obtain ⟨n2, h2⟩ := hf _ _ _ e2
        exact ⟨max n1 n2, fun n hn => by
          show am_bL (am_run n _ _ _ _ _ _) _ = _
          have h3 := h1 n (Nat.le_trans (Nat.le_max_left _ _) hn)
          dsimp only at h3
          rw [h3]
          exact h2 n (Nat.le_trans (Nat.le_max_right _ _) hn)⟩
      · intro m d a M f f' hf r hr
        obtain ⟨x, M', e1, e2⟩ := am_bR_of hr
        obtain ⟨n1, h1⟩ := ev _ _ _ _ _ _ _ e1
        obtain ⟨n2, h2⟩ := hf _ _ _ e2
        exact ⟨max n1 n2, fun n hn => by
          show am_bR (am_run n _ _ _ _ _ _) _ = _
          have h3 := h1 n (Nat.le_trans (Nat.le_max_left _ _) hn)
          dsimp only at h3
          rw [h3]
          exact h2 n (Nat.le_trans (Nat.le_max_right _ _) hn)⟩
      · intro m d a M f f' hf r hr
        obtain ⟨M', e1, e2⟩ := am_bV_of hr
        obtain ⟨n1, h1⟩ := ev _ _ _ _ _ _ _ e1
        obtain ⟨n2, h2⟩ := hf _ _ e2
        exact ⟨max n1 n2, fun n hn => by
          show am_bV (am_run n _ _ _ _ _ _) _ = _
          have h3 := h1 n (Nat.le_trans (Nat.le_max_left _ _) hn)
          dsimp only at h3
          rw [h3]
          exact h2 n (Nat.le_trans (Nat.le_max_right _ _) hn)⟩
    obtain ⟨n0, h0⟩ := key r hr
    have := h0 n0 (Nat.le_refl _)
    rw [am_step_at] at this
    exact am_ev_of _ this
  cases h : am_ev m d pc ls st M with
  | some r => exact (h1 r h).symm
  | none =>
    cases h' : am_nx am_ev m d pc ls st M with
    | none => rfl
    | some r =>
      have := h2 r h'
      rw [h] at this
      cases this
/-- steps, up to a place where to stop -/
noncomputable def am_un (cut : Nat → Bool) : Nat → am_F
  | 0 => am_ev
  | n + 1 => am_step (fun v M => some (v, M)) (fun m d pc ls st M => bif cut pc then am_ev m d pc ls st M else am_un cut n m d pc ls st M)
      (fun m d a M f => am_bI (am_ev m d 0 (am_lc m a) [] M) f) (fun m d a M f => am_bL (am_ev m d 0 (am_lc m a) [] M) f) (fun m d a M f => am_bR (am_ev m d 0 (am_lc m a) [] M) f) (fun m d a M f => am_bV (am_ev m d 0 (am_lc m a) [] M) f) none
theorem am_un_eq (cut : Nat → Bool) : ∀ n, am_un cut n = am_ev
  | 0 => rfl
  | n + 1 => by
    have e : (fun m d pc ls st M => bif cut pc then am_ev m d pc ls st M else am_un cut n m d pc ls st M) = am_ev := by
      funext m d pc ls st M
      rw [am_un_eq cut n]
      cases cut pc <;> rfl
    funext m d pc ls st M
    rw [am_ev_eq]
    unfold am_un
    rw [e]
    rfl
/-- a method, called -/
noncomputable def am_cl (m d : Nat) (a : List Value) (M : am_M) : am_Q := am_ev m d 0 (am_lc m a) [] M
theorem am_tree {cut : Nat → Bool} (n : Nat) {m d pc : Nat} {ls st : List Value} {M : am_M} {t : am_Q} (h : am_un cut n m d pc ls st M = t) : am_ev m d pc ls st M = t := by
  rw [am_un_eq] at h
  exact h
