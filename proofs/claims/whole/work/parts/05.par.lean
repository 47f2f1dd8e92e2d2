/-! What two readings of one step have in common: a relation that holds of all that is given holds of the step. -/
theorem am_p_tI.{u, v} {X : Sort u} {Y : Sort v} (Rl : X → Y → Prop) {st : List Value} {f : Int32 → List Value → X} {f' : Int32 → List Value → Y} {s : X} {s' : Y} (h : ∀ x t, Rl (f x t) (f' x t)) (hs : Rl s s') : Rl (am_tI st f s) (am_tI st f' s') := by
  unfold am_tI
  rcases st with _ | ⟨v, t⟩
  · exact hs
  · cases v <;> first | exact hs | exact h _ _
theorem am_p_tL.{u, v} {X : Sort u} {Y : Sort v} (Rl : X → Y → Prop) {st : List Value} {f : Int64 → List Value → X} {f' : Int64 → List Value → Y} {s : X} {s' : Y} (h : ∀ x t, Rl (f x t) (f' x t)) (hs : Rl s s') : Rl (am_tL st f s) (am_tL st f' s') := by
  unfold am_tL
  rcases st with _ | ⟨v, t⟩
  · exact hs
  · cases v <;> first | exact hs | exact h _ _
theorem am_p_tR.{u, v} {X : Sort u} {Y : Sort v} (Rl : X → Y → Prop) {st : List Value} {f : Nat → List Value → X} {f' : Nat → List Value → Y} {s : X} {s' : Y} (h : ∀ x t, Rl (f x t) (f' x t)) (hs : Rl s s') : Rl (am_tR st f s) (am_tR st f' s') := by
  unfold am_tR
  rcases st with _ | ⟨v, t⟩
  · exact hs
  · cases v <;> first | exact hs | exact h _ _
theorem am_p_xI.{u, v} {X : Sort u} {Y : Sort v} (Rl : X → Y → Prop) {w : Value} {f : Int32 → X} {f' : Int32 → Y} {s : X} {s' : Y} (h : ∀ x, Rl (f x) (f' x)) (hs : Rl s s') : Rl (am_xI w f s) (am_xI w f' s') := by
  unfold am_xI
  cases w <;> first | exact hs | exact h _
theorem am_p_xL.{u, v} {X : Sort u} {Y : Sort v} (Rl : X → Y → Prop) {w : Value} {f : Int64 → X} {f' : Int64 → Y} {s : X} {s' : Y} (h : ∀ x, Rl (f x) (f' x)) (hs : Rl s s') : Rl (am_xL w f s) (am_xL w f' s') := by
  unfold am_xL
  cases w <;> first | exact hs | exact h _
theorem am_p_xR.{u, v} {X : Sort u} {Y : Sort v} (Rl : X → Y → Prop) {w : Value} {f : Nat → X} {f' : Nat → Y} {s : X} {s' : Y} (h : ∀ x, Rl (f x) (f' x)) (hs : Rl s s') : Rl (am_xR w f s) (am_xR w f' s') := by
  unfold am_xR
  cases w <;> first | exact hs | exact h _
theorem am_p_e0.{u, v} {X : Sort u} {Y : Sort v} (Rl : X → Y → Prop) {st : List Value} {f : X} {f' : Y} {s : X} {s' : Y} (h : Rl f f') (hs : Rl s s') : Rl (am_e0 st f s) (am_e0 st f' s') := by
  unfold am_e0
  cases st <;> first | exact hs | exact h
theorem am_p_gr.{u, v} {X : Sort u} {Y : Sort v} (Rl : X → Y → Prop) {w : Option Nat} {f : Nat → X} {f' : Nat → Y} {s : X} {s' : Y} (h : ∀ x, Rl (f x) (f' x)) (hs : Rl s s') : Rl (am_gr w f s) (am_gr w f' s') := by
  unfold am_gr
  cases w <;> first | exact hs | exact h _
theorem am_p_sw.{u, v} {X : Sort u} {Y : Sort v} (Rl : X → Y → Prop) {g : Nat → X} {g' : Nat → Y} (h : ∀ q, Rl (g q) (g' q)) (d : Nat) (x : Int32) : ∀ l : List (Int × Nat), Rl (am_sw l d x g) (am_sw l d x g')
  | [] => h d
  | (k, t) :: r => by
    unfold am_sw
    by_cases hx : x = am_i k
    · rw [if_pos hx, if_pos hx]; exact h t
    · rw [if_neg hx, if_neg hx]; exact am_p_sw Rl h d x r
theorem am_p_ite.{u, v} {X : Sort u} {Y : Sort v} (Rl : X → Y → Prop) {p : Prop} [Decidable p] {t s : X} {t' s' : Y} (h : Rl t t') (hs : Rl s s') : Rl (if p then t else s) (if p then t' else s') := by
  by_cases hp : p
  · rw [if_pos hp, if_pos hp]; exact h
  · rw [if_neg hp, if_neg hp]; exact hs
theorem am_p_br.{u, v} {X : Sort u} {Y : Sort v} (Rl : X → Y → Prop) {q : Jvm.ClassFile.Cond} {x y : Int32} {t f : X} {t' f' : Y} (h : Rl t t') (hf : Rl f f') : Rl (am_br q x y t f) (am_br q x y t' f') := by
  unfold am_br
  cases q <;> first | exact am_p_ite Rl h hf | exact am_p_ite Rl hf h
set_option maxHeartbeats 4000000 in
set_option maxRecDepth 100000 in
theorem am_par.{u, v} {X : Sort u} {Y : Sort v} (Rl : X → Y → Prop) {ret : Option Value → am_M → X} {go : Nat → Nat → Nat → List Value → List Value → am_M → X} {cI : Nat → Nat → List Value → am_M → (Int32 → am_M → X) → X} {cL : Nat → Nat → List Value → am_M → (Int64 → am_M → X) → X} {cR : Nat → Nat → List Value → am_M → (Nat → am_M → X) → X} {cV : Nat → Nat → List Value → am_M → (am_M → X) → X} {s : X}
    {ret' : Option Value → am_M → Y} {go' : Nat → Nat → Nat → List Value → List Value → am_M → Y} {cI' : Nat → Nat → List Value → am_M → (Int32 → am_M → Y) → Y} {cL' : Nat → Nat → List Value → am_M → (Int64 → am_M → Y) → Y} {cR' : Nat → Nat → List Value → am_M → (Nat → am_M → Y) → Y} {cV' : Nat → Nat → List Value → am_M → (am_M → Y) → Y} {s' : Y}
    (hs : Rl s s') (hret : ∀ v M, Rl (ret v M) (ret' v M)) (hgo : ∀ m d pc ls st M, Rl (go m d pc ls st M) (go' m d pc ls st M))
    (hI : ∀ m d a M f f', (∀ x M, Rl (f x M) (f' x M)) → Rl (cI m d a M f) (cI' m d a M f')) (hL : ∀ m d a M f f', (∀ x M, Rl (f x M) (f' x M)) → Rl (cL m d a M f) (cL' m d a M f'))
    (hR : ∀ m d a M f f', (∀ x M, Rl (f x M) (f' x M)) → Rl (cR m d a M f) (cR' m d a M f')) (hV : ∀ m d a M f f', (∀ M, Rl (f M) (f' M)) → Rl (cV m d a M f) (cV' m d a M f'))
    (mid d pc : Nat) (ls st : List Value) (M : am_M) : Rl (am_step ret go cI cL cR cV s mid d pc ls st M) (am_step ret' go' cI' cL' cR' cV' s' mid d pc ls st M) := by
  unfold am_step
  generalize am_find (am_tb mid) pc = o
  rcases o with _ | ⟨ins, len, a, b, c, e, z, sw⟩
  · exact hs
  · cases ins
    all_goals dsimp only
    all_goals (repeat (first
      | exact hs
      | exact hgo _ _ _ _ _ _
      | exact hret _ _
      | (refine am_p_tI Rl (fun _ _ => ?_) ?_)
      | (refine am_p_tL Rl (fun _ _ => ?_) ?_)
      | (refine am_p_tR Rl (fun _ _ => ?_) ?_)
      | (refine am_p_xI Rl (fun _ => ?_) ?_)
      | (refine am_p_xL Rl (fun _ => ?_) ?_)
      | (refine am_p_xR Rl (fun _ => ?_) ?_)
      | (refine am_p_e0 Rl ?_ ?_)
      | (refine am_p_gr Rl (fun _ => ?_) ?_)
      | (refine am_p_sw Rl (fun _ => ?_) _ _ _)
      | (refine am_p_br Rl ?_ ?_)
      | (refine hI _ _ _ _ _ _ (fun _ _ => ?_))
      | (refine hL _ _ _ _ _ _ (fun _ _ => ?_))
      | (refine hR _ _ _ _ _ _ (fun _ _ => ?_))
      | (refine hV _ _ _ _ _ _ (fun _ => ?_))
      | (refine am_p_ite Rl ?_ ?_)
      | (unfold am_if; refine am_p_ite Rl ?_ ?_)
      | (unfold am_ob; refine am_p_ite Rl ?_ ?_)
      | (unfold am_ix; refine am_p_ite Rl ?_ ?_)
      | (unfold am_iw; refine am_p_ite Rl ?_ ?_)
      | (unfold am_iq; refine am_p_ite Rl ?_ ?_)
      | (unfold am_tr; refine am_p_ite Rl ?_ ?_)
      | split))
