/-! What a step has done, read backwards; what is made is never less. -/
theorem am_tI_of {st : List Value} {f : Int32 → List Value → am_Q} {r : Option Value × am_M} (h : am_tI st f none = some r) : ∃ x t, st = .int x :: t ∧ f x t = some r := by
  unfold am_tI at h
  split at h
  · exact ⟨_, _, rfl, h⟩
  · cases h
theorem am_tL_of {st : List Value} {f : Int64 → List Value → am_Q} {r : Option Value × am_M} (h : am_tL st f none = some r) : ∃ x t, st = .long x :: t ∧ f x t = some r := by
  unfold am_tL at h
  split at h
  · exact ⟨_, _, rfl, h⟩
  · cases h
theorem am_tR_of {st : List Value} {f : Nat → List Value → am_Q} {r : Option Value × am_M} (h : am_tR st f none = some r) : ∃ x t, st = .ref x :: t ∧ f x t = some r := by
  unfold am_tR at h
  split at h
  · exact ⟨_, _, rfl, h⟩
  · cases h
theorem am_xI_of {w : Value} {f : Int32 → am_Q} {r : Option Value × am_M} (h : am_xI w f none = some r) : ∃ x, w = .int x ∧ f x = some r := by
  unfold am_xI at h
  split at h
  · exact ⟨_, rfl, h⟩
  · cases h
theorem am_xL_of {w : Value} {f : Int64 → am_Q} {r : Option Value × am_M} (h : am_xL w f none = some r) : ∃ x, w = .long x ∧ f x = some r := by
  unfold am_xL at h
  split at h
  · exact ⟨_, rfl, h⟩
  · cases h
theorem am_xR_of {w : Value} {f : Nat → am_Q} {r : Option Value × am_M} (h : am_xR w f none = some r) : ∃ x, w = .ref x ∧ f x = some r := by
  unfold am_xR at h
  split at h
  · exact ⟨_, rfl, h⟩
  · cases h
theorem am_e0_of {st : List Value} {f : am_Q} {r : Option Value × am_M} (h : am_e0 st f none = some r) : st = [] ∧ f = some r := by
  unfold am_e0 at h
  split at h
  · exact ⟨rfl, h⟩
  · cases h
theorem am_gr_of {o : Option Nat} {f : Nat → am_Q} {r : Option Value × am_M} (h : am_gr o f none = some r) : ∃ q, o = some q ∧ f q = some r := by
  unfold am_gr at h
  split at h
  · exact ⟨_, rfl, h⟩
  · cases h
theorem am_ite_of {p : Prop} [Decidable p] {t : am_Q} {r : Option Value × am_M} (h : (if p then t else none) = some r) : p ∧ t = some r := by
  split at h
  · exact ⟨‹p›, h⟩
  · cases h
theorem am_ite_no {p : Prop} [Decidable p] {t : am_Q} {r : Option Value × am_M} (h : (if p then none else t) = some r) : ¬ p ∧ t = some r := by
  split at h
  · cases h
  · exact ⟨‹¬ p›, h⟩
section
variable {C : Prop} {r : Option Value × am_M}
theorem am_m_none : ((none : am_Q) = some r → C) := fun h => by cases h
theorem am_m_tI {st : List Value} {f : Int32 → List Value → am_Q} {s : am_Q} (h : ∀ x t, f x t = some r → C) (hs : s = some r → C) : am_tI st f s = some r → C := by
  unfold am_tI
  split
  · exact h _ _
  · exact hs
theorem am_m_tL {st : List Value} {f : Int64 → List Value → am_Q} {s : am_Q} (h : ∀ x t, f x t = some r → C) (hs : s = some r → C) : am_tL st f s = some r → C := by
  unfold am_tL
  split
  · exact h _ _
  · exact hs
theorem am_m_tR {st : List Value} {f : Nat → List Value → am_Q} {s : am_Q} (h : ∀ x t, f x t = some r → C) (hs : s = some r → C) : am_tR st f s = some r → C := by
  unfold am_tR
  split
  · exact h _ _
  · exact hs
theorem am_m_xI {w : Value} {f : Int32 → am_Q} {s : am_Q} (h : ∀ x, f x = some r → C) (hs : s = some r → C) : am_xI w f s = some r → C := by
  unfold am_xI
  split
  · exact h _
  · exact hs
theorem am_m_xL {w : Value} {f : Int64 → am_Q} {s : am_Q} (h : ∀ x, f x = some r → C) (hs : s = some r → C) : am_xL w f s = some r → C := by
  unfold am_xL
  split
  · exact h _
  · exact hs
theorem am_m_xR {w : Value} {f : Nat → am_Q} {s : am_Q} (h : ∀ x, f x = some r → C) (hs : s = some r → C) : am_xR w f s = some r → C := by
  unfold am_xR
  split
  · exact h _
  · exact hs
theorem am_m_e0 {st : List Value} {f : am_Q} {s : am_Q} (h : f = some r → C) (hs : s = some r → C) : am_e0 st f s = some r → C := by
  unfold am_e0
  split
  · exact h
  · exact hs
theorem am_m_gr {o : Option Nat} {f : Nat → am_Q} {s : am_Q} (h : ∀ x, f x = some r → C) (hs : s = some r → C) : am_gr o f s = some r → C := by
  unfold am_gr
  split
  · exact h _
  · exact hs
theorem am_m_ite {p : Prop} [Decidable p] {t s : am_Q} (h : t = some r → C) (hs : s = some r → C) : (if p then t else s) = some r → C := by
  split
  · exact h
  · exact hs
theorem am_m_br {q : Jvm.ClassFile.Cond} {x y : Int32} {t s : am_Q} (h : t = some r → C) (hs : s = some r → C) : am_br q x y t s = some r → C := by
  unfold am_br
  cases q <;> first | exact am_m_ite h hs | exact am_m_ite hs h
theorem am_m_sw {g : Nat → am_Q} (h : ∀ q, g q = some r → C) (d : Nat) (x : Int32) : ∀ l : List (Int × Nat), am_sw l d x g = some r → C
  | [] => h d
  | (k, t) :: l => by
    unfold am_sw
    exact am_m_ite (h t) (am_m_sw h d x l)
end
set_option maxHeartbeats 4000000 in
set_option maxRecDepth 100000 in
theorem am_mono_nx {k : am_F} (hk : ∀ m d pc ls st M v M', k m d pc ls st M = some (v, M') → am_n M ≤ am_n M' ∧ am_s M ≤ am_s M') (m d pc : Nat) (ls st : List Value) (M : am_M) (v : Option Value) (M' : am_M) : am_nx k m d pc ls st M = some (v, M') → am_n M ≤ am_n M' ∧ am_s M ≤ am_s M' := by
  have hn : ∀ {q : Nat × Nat} {w : Nat}, am_n (am_nw M q w) ≤ am_n M' ∧ am_s (am_nw M q w) ≤ am_s M' → am_n M ≤ am_n M' ∧ am_s M ≤ am_s M' := by
    intro q w h
    exact ⟨Nat.le_trans (Nat.le_succ _) h.1, Nat.le_trans (Nat.le_add_right _ _) h.2⟩
  have hn2 : ∀ {q w : Nat}, am_n (am_nm M q w) ≤ am_n M' ∧ am_s (am_nm M q w) ≤ am_s M' → am_n M ≤ am_n M' ∧ am_s M ≤ am_s M' := by
    intro q w h
    exact ⟨Nat.le_trans (Nat.le_trans (Nat.le_succ _) (Nat.le_add_right _ _)) h.1, Nat.le_trans (Nat.le_trans (Nat.le_add_right _ _) (Nat.le_add_right _ _)) h.2⟩
  have bI : ∀ {m d a M f}, (∀ x M1, f x M1 = some (v, M') → am_n M1 ≤ am_n M' ∧ am_s M1 ≤ am_s M') → am_bI (k m d 0 (am_lc m a) [] M) f = some (v, M') → am_n M ≤ am_n M' ∧ am_s M ≤ am_s M' := by
    intro m d a M f hf h
    obtain ⟨x, M1, e1, e2⟩ := am_bI_of h
    have := hk _ _ _ _ _ _ _ _ e1
    have := hf _ _ e2
    omega
  have bL : ∀ {m d a M f}, (∀ x M1, f x M1 = some (v, M') → am_n M1 ≤ am_n M' ∧ am_s M1 ≤ am_s M') → am_bL (k m d 0 (am_lc m a) [] M) f = some (v, M') → am_n M ≤ am_n M' ∧ am_s M ≤ am_s M' := by
    intro m d a M f hf h
    obtain ⟨x, M1, e1, e2⟩ := am_bL_of h
    have := hk _ _ _ _ _ _ _ _ e1
    have := hf _ _ e2
    omega
  have bR : ∀ {m d a M f}, (∀ x M1, f x M1 = some (v, M') → am_n M1 ≤ am_n M' ∧ am_s M1 ≤ am_s M') → am_bR (k m d 0 (am_lc m a) [] M) f = some (v, M') → am_n M ≤ am_n M' ∧ am_s M ≤ am_s M' := by
    intro m d a M f hf h
    obtain ⟨x, M1, e1, e2⟩ := am_bR_of h
    have := hk _ _ _ _ _ _ _ _ e1
    have := hf _ _ e2
    omega
  have bV : ∀ {m d a M f}, (∀ M1, f M1 = some (v, M') → am_n M1 ≤ am_n M' ∧ am_s M1 ≤ am_s M') → am_bV (k m d 0 (am_lc m a) [] M) f = some (v, M') → am_n M ≤ am_n M' ∧ am_s M ≤ am_s M' := by
    intro m d a M f hf h
    obtain ⟨M1, e1, e2⟩ := am_bV_of h
    have := hk _ _ _ _ _ _ _ _ e1
    have := hf _ e2
    omega
  unfold am_nx am_step
  generalize am_find (am_tb m) pc = o
  rcases o with _ | ⟨ins, len, a, b, c, e, z, sw⟩
  · exact am_m_none
  · cases ins
    all_goals dsimp only
    all_goals (repeat (first
      | exact am_m_none
      | exact hk _ _ _ _ _ _ _ _
      | exact fun h => hn (hk _ _ _ _ _ _ _ _ h)
      | exact fun h => hn2 (hk _ _ _ _ _ _ _ _ h)
      | exact fun h => by cases h; exact ⟨Nat.le_refl _, Nat.le_refl _⟩
      | (refine am_m_tI (fun _ _ => ?_) ?_)
      | (refine am_m_tL (fun _ _ => ?_) ?_)
      | (refine am_m_tR (fun _ _ => ?_) ?_)
      | (refine am_m_xI (fun _ => ?_) ?_)
      | (refine am_m_xL (fun _ => ?_) ?_)
      | (refine am_m_xR (fun _ => ?_) ?_)
      | (refine am_m_e0 ?_ ?_)
      | (refine am_m_gr (fun _ => ?_) ?_)
      | (refine am_m_sw (fun _ => ?_) _ _ _)
      | (refine am_m_br ?_ ?_)
      | (refine bI (fun _ _ => ?_))
      | (refine bL (fun _ _ => ?_))
      | (refine bR (fun _ _ => ?_))
      | (refine bV (fun _ => ?_))
      | (refine am_m_ite ?_ ?_)
      | (unfold am_if; refine am_m_ite ?_ ?_)
      | (unfold am_ob; refine am_m_ite ?_ ?_)
      | (unfold am_ix; refine am_m_ite ?_ ?_)
      | (unfold am_iw; refine am_m_ite ?_ ?_)
      | (unfold am_iq; refine am_m_ite ?_ ?_)
      | (unfold am_tr; refine am_m_ite ?_ ?_)
      | split))
theorem am_mono : ∀ (n m d pc : Nat) (ls st : List Value) (M : am_M) (v : Option Value) (M' : am_M), am_run n m d pc ls st M = some (v, M') → am_n M ≤ am_n M' ∧ am_s M ≤ am_s M'
  | 0, _, _, _, _, _, _, _, _ => fun h => by cases h
  | n + 1, m, d, pc, ls, st, M, v, M' => am_mono_nx (am_mono n) m d pc ls st M v M'
