/-! What is read is a good formula, within its room. -/
/-- how the reading goes on: codes behind those there are, no more than bytes, of a sort b where nd more lie on the pile at most -/
def Gd (Z : Nat → Nat → Int) (n B j : Nat) (p : am_PS → am_PS) (nd : Nat) (b : Bool) : Prop := (∀ e, p (.inl e) = .inl e) ∧ ∀ s t l, s ≤ n → B + l.length ≤ s → ∀ s' t' l', p (.inr (s, t, l)) = .inr (s', t', l') → ∃ F, l' = l ++ F ∧ s + F.length ≤ s' ∧ s < s' ∧ s' ≤ n ∧ ∀ T : List Bool, T.length + nd ≤ 60 → tys (alw j) (decide (j = 3)) F T = some (b :: T)
theorem tys_app {al : Nat → Bool} {of : Bool} : ∀ {F G : List Int} {T T1 : List Bool}, tys al of F T = some T1 → tys al of (F ++ G) T = tys al of G T1
  | [], G, T, T1, h => by
    have h : some T = some T1 := h
    rw [Option.some.injEq] at h
    subst h
    rfl
  | c :: F, G, T, T1, h => by
    obtain ⟨T2, h1, h2⟩ := tys_cons h
    rw [show tys al of (c :: F ++ G) T = (match ty1 al of T c with | none => none | some t' => tys al of (F ++ G) t') from rfl, h1]
    exact tys_app h2
theorem tys_1 {al : Nat → Bool} {of : Bool} {c : Int} {T T1 : List Bool} (h : ty1 al of T c = some T1) : tys al of [c] T = some T1 := by
  unfold tys
  rw [h]
  rfl
theorem ty_num {al : Nat → Bool} {of : Bool} {T : List Bool} {v : Int} (h : T.length < 60) (h0 : 0 ≤ v) (h1 : v ≤ 9999) : ty1 al of T (1000 + v) = some (false :: T) := by
  unfold ty1
  rw [if_pos (by omega), if_pos ⟨by omega, h⟩]
theorem ty_of {al : Nat → Bool} {T : List Bool} : ty1 al true (false :: T) 60 = some (false :: T) := rfl
theorem ty_f2 {al : Nat → Bool} {of : Bool} {T : List Bool} {c : Int} (h : 1 ≤ c ∧ c ≤ 6) : ty1 al of (false :: false :: T) c = some (false :: T) := by
  unfold ty1
  rw [if_neg (by omega), if_neg (by omega), if_neg (by omega), if_neg (by omega), if_neg (by omega), if_neg (by omega), if_neg (by omega), if_pos h]
theorem ty_c {al : Nat → Bool} {of : Bool} {T : List Bool} {c : Int} (h : 7 ≤ c ∧ c ≤ 9) : ty1 al of (false :: false :: T) c = some (true :: T) := by
  unfold ty1
  rw [if_neg (by omega), if_neg (by omega), if_neg (by omega), if_neg (by omega), if_neg (by omega), if_neg (by omega), if_pos h]
theorem ty_b2 {al : Nat → Bool} {of : Bool} {T : List Bool} {c : Int} (h : 10 ≤ c ∧ c ≤ 11) : ty1 al of (true :: true :: T) c = some (true :: T) := by
  unfold ty1
  rw [if_neg (by omega), if_neg (by omega), if_neg (by omega), if_neg (by omega), if_neg (by omega), if_pos h]
theorem ty_n {al : Nat → Bool} {of : Bool} {T : List Bool} : ty1 al of (true :: T) 12 = some (true :: T) := rfl
theorem ty_a {al : Nat → Bool} {of : Bool} {T : List Bool} (h : T.length < 60) : ty1 al of T 13 = some (true :: T) := by
  unfold ty1
  rw [if_neg (by omega), if_neg (by omega), if_neg (by omega), if_pos rfl, if_pos h]
theorem fcd_bd {j : Nat} (hj : j ≤ 3) {w : Int} (h : fcd j w ≠ 0) : 40 ≤ fcd j w ∧ fcd j w < 48 ∧ alw j (fcd j w - 40).toNat = true := by
  have hj2 : j = 0 ∨ j = 1 ∨ j = 2 ∨ j = 3 := by omega
  unfold fcd at h ⊢
  repeat' split at h
  all_goals first
    | exact absurd rfl h
    | skip
  all_goals rcases hj2 with rfl | rfl | rfl | rfl
  all_goals simp_all <;> decide
theorem ty_w {j : Nat} {of : Bool} (hj : j ≤ 3) {T : List Bool} {w : Int} (h : fcd j w ≠ 0) (hT : T.length < 60) : ty1 (alw j) of T (fcd j w) = some (false :: T) := by
  have := fcd_bd hj h
  unfold ty1
  rw [if_neg (by omega), if_neg (by omega), if_pos (by omega), if_pos ⟨by omega, this.2.2, hT⟩]
theorem kd_lt {Z : Nat → Nat → Int} {n s : Nat} {t : Bool} (h : 1 ≤ kd Z n s t) : s < n := by
  by_cases g : s < n
  · exact g
  · have := (kd_kinds Z n s t).2.2.2.mpr g
    omega
theorem isG_lt {Z : Nat → Nat → Int} {n s : Nat} {t : Bool} {l : List Int} {c : Int} (h : isG Z n c (.inr (s, t, l)) = true) : s < n := kd_lt (by have := (of_decide_eq_true h).1; rw [this]; omega : 1 ≤ kd Z n s t)
theorem isW_lt {Z : Nat → Nat → Int} {n s : Nat} {t : Bool} {l : List Int} {c : Int} (h : isW Z n c (.inr (s, t, l)) = true) : s < n := kd_lt (by have := (of_decide_eq_true h).1; rw [this]; omega : 1 ≤ kd Z n s t)
theorem pt_inr {B : Nat} {c : Int} {s : Nat} {t : Bool} {l : List Int} (h : B + l.length < 1600) : pt B c (.inr (s, t, l)) = .inr (s, t, l ++ [c]) := by
  show Sum.inr (s, t, if B + l.length < 1600 then l ++ [c] else l) = _
  rw [if_pos h]
/-- one is put behind a good reading -/
theorem Gd_sg {Z : Nat → Nat → Int} {n : Nat} {c : Int} {st : am_PS} {s' : Nat} {t' : Bool} {l' : List Int} (h : tkG Z n c st = .inr (s', t', l')) : ∃ s t, st = .inr (s, t, l') ∧ isG Z n c st = true ∧ s' = ns Z n s ∧ t' = nt Z n s := by
  match st, h with
  | .inr (s, t, l), h =>
    unfold tkG at h
    by_cases g : isG Z n c (.inr (s, t, l)) = true
    · rw [if_pos g] at h
      have h : (Sum.inr (ns Z n s, nt Z n s, l) : am_PS) = .inr (s', t', l') := h
      rw [Sum.inr.injEq, Prod.mk.injEq, Prod.mk.injEq] at h
      obtain ⟨h1, h2, h3⟩ := h
      subst h3
      exact ⟨s, t, rfl, g, h1.symm, h2.symm⟩
    · rw [if_neg g] at h
      cases h
theorem Gd_pt {B : Nat} {c : Int} {st : am_PS} {s' : Nat} {t' : Bool} {l' : List Int} (h : pt B c st = .inr (s', t', l')) : ∃ l, st = .inr (s', t', l) ∧ l' = if B + l.length < 1600 then l ++ [c] else l := by
  match st, h with
  | .inr (s, t, l), h =>
    have h : (Sum.inr (s, t, if B + l.length < 1600 then l ++ [c] else l) : am_PS) = .inr (s', t', l') := h
    rw [Sum.inr.injEq, Prod.mk.injEq, Prod.mk.injEq] at h
    obtain ⟨h1, h2, h3⟩ := h
    subst h1
    subst h2
    exact ⟨l, rfl, h3.symm⟩
theorem lpG_inl (Z : Nat → Nat → Int) (n B : Nat) (c1 c2 k1 k2 : Int) (p : am_PS → am_PS) (e : Int × Int) : ∀ m, lpG Z n B c1 c2 k1 k2 p m (.inl e) = .inl e
  | 0 => rfl
  | m + 1 => rfl
theorem lpW_inl (Z : Nat → Nat → Int) (n B : Nat) (w k : Int) (p : am_PS → am_PS) (e : Int × Int) : ∀ m, lpW Z n B w k p m (.inl e) = .inl e
  | 0 => rfl
  | m + 1 => rfl
/-- a row of good readings with signs between them -/
theorem Gd_lpG {Z : Nat → Nat → Int} {n B j : Nat} {c1 c2 k1 k2 : Int} {p : am_PS → am_PS} {nd : Nat} (hn : n ≤ 1600) (hk1 : 1 ≤ k1 ∧ k1 ≤ 6) (hk2 : 1 ≤ k2 ∧ k2 ≤ 6) (HP : Gd Z n B j p nd false) : ∀ m s t l l0 F0 s0, l = l0 ++ F0 → s0 + F0.length ≤ s → s0 < s → s ≤ n → B + l0.length ≤ s0 → (∀ T : List Bool, T.length + nd + 1 ≤ 60 → tys (alw j) (decide (j = 3)) F0 T = some (false :: T)) → n < m + s → ∀ s' t' l', lpG Z n B c1 c2 k1 k2 p m (.inr (s, t, l)) = .inr (s', t', l') → (∃ F, l' = l0 ++ F ∧ s0 + F.length ≤ s' ∧ s0 < s' ∧ s' ≤ n ∧ ∀ T : List Bool, T.length + nd + 1 ≤ 60 → tys (alw j) (decide (j = 3)) F T = some (false :: T)) ∧ ¬ isG Z n c1 (.inr (s', t', l')) = true ∧ ¬ isG Z n c2 (.inr (s', t', l')) = true := by
  intro m
  induction m with
  | zero =>
    intro s t l l0 F0 s0 hl hs0 hs1 hs hB hT hm
    omega
  | succ m ih =>
    intro s t l l0 F0 s0 hl hs0 hs1 hs hB hT hm s' t' l' h
    have go : ∀ c k : Int, 1 ≤ k ∧ k ≤ 6 → isG Z n c (.inr (s, t, l)) = true → lpG Z n B c1 c2 k1 k2 p m (pt B k (p (nx Z n (.inr (s, t, l))))) = .inr (s', t', l') → (∃ F, l' = l0 ++ F ∧ s0 + F.length ≤ s' ∧ s0 < s' ∧ s' ≤ n ∧ ∀ T : List Bool, T.length + nd + 1 ≤ 60 → tys (alw j) (decide (j = 3)) F T = some (false :: T)) ∧ ¬ isG Z n c1 (.inr (s', t', l')) = true ∧ ¬ isG Z n c2 (.inr (s', t', l')) = true := by
      intro c k hk hg h
      have hb := ns_bd (Z := Z) (isG_lt hg)
      rw [nx_inr] at h
      cases hp : p (.inr (ns Z n s, nt Z n s, l)) with
      | inl e =>
        rw [hp] at h
        rw [show pt B k (Sum.inl e) = Sum.inl e from rfl, lpG_inl] at h
        cases h
      | inr x =>
        obtain ⟨s2, t2, l2⟩ := x
        have hlen : l.length = l0.length + F0.length := by rw [hl, List.length_append]
        obtain ⟨F, e1, e2, e3, e4, e5⟩ := HP.2 _ _ _ hb.2 (by omega) _ _ _ hp
        have hlen2 : l2.length = l.length + F.length := by rw [e1, List.length_append]
        rw [hp, pt_inr (by omega)] at h
        refine ih s2 t2 (l2 ++ [k]) l0 (F0 ++ F ++ [k]) s0 (by rw [e1, hl]; simp) ?_ (by omega) e4 hB ?_ (by omega) _ _ _ h
        · rw [List.length_append, List.length_append, List.length_singleton]
          omega
        · intro T hT2
          have h1 := hT T hT2
          have h2 := e5 (false :: T) (by rw [List.length_cons]; omega)
          rw [List.append_assoc, tys_app h1, tys_app h2]
          exact tys_1 (ty_f2 hk)
    unfold lpG at h
    by_cases g1 : isG Z n c1 (.inr (s, t, l)) = true
    · rw [if_pos g1] at h
      exact go c1 k1 hk1 g1 h
    · rw [if_neg g1] at h
      by_cases g2 : isG Z n c2 (.inr (s, t, l)) = true
      · rw [if_pos g2] at h
        exact go c2 k2 hk2 g2 h
      · rw [if_neg g2] at h
        rw [Sum.inr.injEq, Prod.mk.injEq, Prod.mk.injEq] at h
        obtain ⟨h1, h2, h3⟩ := h
        subst h1
        subst h2
        subst h3
        exact ⟨⟨F0, hl, hs0, hs1, hs, hT⟩, g1, g2⟩
theorem Gd_row {Z : Nat → Nat → Int} {n B j : Nat} {c1 c2 k1 k2 : Int} {p : am_PS → am_PS} {nd : Nat} (hn : n ≤ 1600) (hk1 : 1 ≤ k1 ∧ k1 ≤ 6) (hk2 : 1 ≤ k2 ∧ k2 ≤ 6) (HP : Gd Z n B j p nd false) : Gd Z n B j (fun st => lpG Z n B c1 c2 k1 k2 p (n + 1) (p st)) (nd + 1) false ∧ ∀ s t l, s ≤ n → B + l.length ≤ s → ∀ s' t' l', lpG Z n B c1 c2 k1 k2 p (n + 1) (p (.inr (s, t, l))) = .inr (s', t', l') → ¬ isG Z n c1 (.inr (s', t', l')) = true ∧ ¬ isG Z n c2 (.inr (s', t', l')) = true := by
  have key : ∀ s t l, s ≤ n → B + l.length ≤ s → ∀ s' t' l', lpG Z n B c1 c2 k1 k2 p (n + 1) (p (.inr (s, t, l))) = .inr (s', t', l') → (∃ F, l' = l ++ F ∧ s + F.length ≤ s' ∧ s < s' ∧ s' ≤ n ∧ ∀ T : List Bool, T.length + nd + 1 ≤ 60 → tys (alw j) (decide (j = 3)) F T = some (false :: T)) ∧ ¬ isG Z n c1 (.inr (s', t', l')) = true ∧ ¬ isG Z n c2 (.inr (s', t', l')) = true := by
    intro s t l hs hB s' t' l' h
    cases hp : p (.inr (s, t, l)) with
    | inl e =>
      rw [hp, lpG_inl] at h
      cases h
    | inr x =>
      obtain ⟨s2, t2, l2⟩ := x
      obtain ⟨F, e1, e2, e3, e4, e5⟩ := HP.2 _ _ _ hs hB _ _ _ hp
      rw [hp] at h
      exact Gd_lpG hn hk1 hk2 HP (n + 1) s2 t2 l2 l F s e1 e2 e3 e4 hB (fun T hT => e5 T (by omega)) (by omega) _ _ _ h
  exact ⟨⟨fun e => by show lpG Z n B c1 c2 k1 k2 p (n + 1) (p (.inl e)) = _; rw [HP.1, lpG_inl], fun s t l hs hB s' t' l' h => (key s t l hs hB s' t' l' h).1⟩, fun s t l hs hB s' t' l' h => (key s t l hs hB s' t' l' h).2⟩
theorem Gd_lpW {Z : Nat → Nat → Int} {n B j : Nat} {c1 k1 : Int} {p : am_PS → am_PS} {nd : Nat} (hn : n ≤ 1600) (hk1 : 10 ≤ k1 ∧ k1 ≤ 11) (HP : Gd Z n B j p nd true) : ∀ m s t l l0 F0 s0, l = l0 ++ F0 → s0 + F0.length ≤ s → s0 < s → s ≤ n → B + l0.length ≤ s0 → (∀ T : List Bool, T.length + nd + 1 ≤ 60 → tys (alw j) (decide (j = 3)) F0 T = some (true :: T)) → n < m + s → ∀ s' t' l', lpW Z n B c1 k1 p m (.inr (s, t, l)) = .inr (s', t', l') → (∃ F, l' = l0 ++ F ∧ s0 + F.length ≤ s' ∧ s0 < s' ∧ s' ≤ n ∧ ∀ T : List Bool, T.length + nd + 1 ≤ 60 → tys (alw j) (decide (j = 3)) F T = some (true :: T)) ∧ ¬ isW Z n c1 (.inr (s', t', l')) = true := by
  intro m
  induction m with
  | zero =>
    intro s t l l0 F0 s0 hl hs0 hs1 hs hB hT hm
    omega
  | succ m ih =>
    intro s t l l0 F0 s0 hl hs0 hs1 hs hB hT hm s' t' l' h
    have go : ∀ c k : Int, 10 ≤ k ∧ k ≤ 11 → isW Z n c (.inr (s, t, l)) = true → lpW Z n B c1 k1 p m (pt B k (p (nx Z n (.inr (s, t, l))))) = .inr (s', t', l') → (∃ F, l' = l0 ++ F ∧ s0 + F.length ≤ s' ∧ s0 < s' ∧ s' ≤ n ∧ ∀ T : List Bool, T.length + nd + 1 ≤ 60 → tys (alw j) (decide (j = 3)) F T = some (true :: T)) ∧ ¬ isW Z n c1 (.inr (s', t', l')) = true := by
      intro c k hk hg h
      have hb := ns_bd (Z := Z) (isW_lt hg)
      rw [nx_inr] at h
      cases hp : p (.inr (ns Z n s, nt Z n s, l)) with
      | inl e =>
        rw [hp] at h
        rw [show pt B k (Sum.inl e) = Sum.inl e from rfl, lpW_inl] at h
        cases h
      | inr x =>
        obtain ⟨s2, t2, l2⟩ := x
        have hlen : l.length = l0.length + F0.length := by rw [hl, List.length_append]
        obtain ⟨F, e1, e2, e3, e4, e5⟩ := HP.2 _ _ _ hb.2 (by omega) _ _ _ hp
        have hlen2 : l2.length = l.length + F.length := by rw [e1, List.length_append]
        rw [hp, pt_inr (by omega)] at h
        refine ih s2 t2 (l2 ++ [k]) l0 (F0 ++ F ++ [k]) s0 (by rw [e1, hl]; simp) ?_ (by omega) e4 hB ?_ (by omega) _ _ _ h
        · rw [List.length_append, List.length_append, List.length_singleton]
          omega
        · intro T hT2
          have h1 := hT T hT2
          have h2 := e5 (true :: T) (by rw [List.length_cons]; omega)
          rw [List.append_assoc, tys_app h1, tys_app h2]
          exact tys_1 (ty_b2 hk)
    unfold lpW at h
    by_cases g1 : isW Z n c1 (.inr (s, t, l)) = true
    · rw [if_pos g1] at h
      exact go c1 k1 hk1 g1 h
    · rw [if_neg g1] at h
      rw [Sum.inr.injEq, Prod.mk.injEq, Prod.mk.injEq] at h
      obtain ⟨h1, h2, h3⟩ := h
      subst h1
      subst h2
      subst h3
      exact ⟨⟨F0, hl, hs0, hs1, hs, hT⟩, g1⟩
theorem Gd_rowW {Z : Nat → Nat → Int} {n B j : Nat} {c1 k1 : Int} {p : am_PS → am_PS} {nd : Nat} (hn : n ≤ 1600) (hk1 : 10 ≤ k1 ∧ k1 ≤ 11) (HP : Gd Z n B j p nd true) : Gd Z n B j (fun st => lpW Z n B c1 k1 p (n + 1) (p st)) (nd + 1) true ∧ ∀ s t l, s ≤ n → B + l.length ≤ s → ∀ s' t' l', lpW Z n B c1 k1 p (n + 1) (p (.inr (s, t, l))) = .inr (s', t', l') → ¬ isW Z n c1 (.inr (s', t', l')) = true := by
  have key : ∀ s t l, s ≤ n → B + l.length ≤ s → ∀ s' t' l', lpW Z n B c1 k1 p (n + 1) (p (.inr (s, t, l))) = .inr (s', t', l') → (∃ F, l' = l ++ F ∧ s + F.length ≤ s' ∧ s < s' ∧ s' ≤ n ∧ ∀ T : List Bool, T.length + nd + 1 ≤ 60 → tys (alw j) (decide (j = 3)) F T = some (true :: T)) ∧ ¬ isW Z n c1 (.inr (s', t', l')) = true := by
    intro s t l hs hB s' t' l' h
    cases hp : p (.inr (s, t, l)) with
    | inl e =>
      rw [hp, lpW_inl] at h
      cases h
    | inr x =>
      obtain ⟨s2, t2, l2⟩ := x
      obtain ⟨F, e1, e2, e3, e4, e5⟩ := HP.2 _ _ _ hs hB _ _ _ hp
      rw [hp] at h
      exact Gd_lpW hn hk1 HP (n + 1) s2 t2 l2 l F s e1 e2 e3 e4 hB (fun T hT => e5 T (by omega)) (by omega) _ _ _ h
  exact ⟨⟨fun e => by show lpW Z n B c1 k1 p (n + 1) (p (.inl e)) = _; rw [HP.1, lpW_inl], fun s t l hs hB s' t' l' h => (key s t l hs hB s' t' l' h).1⟩, fun s t l hs hB s' t' l' h => (key s t l hs hB s' t' l' h).2⟩
/-- what is opened -/
def Hop (Z : Nat → Nat → Int) (n : Nat) (op : (am_PS → am_PS) → am_PS → am_PS) (Q : Prop) : Prop := (∀ p e, op p (.inl e) = .inl e) ∧ ∀ p st x, op p st = .inr x → Q ∧ ∃ s t l, st = .inr (s, t, l) ∧ p (nx Z n (.inr (s, t, l))) = .inr x
theorem Hop_0 (Z : Nat → Nat → Int) (n : Nat) : Hop Z n op0 False := ⟨fun p e => rfl, fun p st x h => by
  match st, h with
  | .inr (s, t, l), h => cases h⟩
theorem Hop_1 (Z : Nat → Nat → Int) (n : Nat) : Hop Z n (op1 Z n) True := ⟨fun p e => rfl, fun p st x h => by
  match st, h with
  | .inr (s, t, l), h => exact ⟨trivial, s, t, l, rfl, h⟩⟩
theorem tkN_inr {Z : Nat → Nat → Int} {n s : Nat} {t : Bool} {l : List Int} {lo hi : Int} {s' : Nat} {t' : Bool} {l' : List Int} (h : (tkN Z n lo hi (.inr (s, t, l))).1 = .inr (s', t', l')) : kd Z n s t = 2 ∧ s' = ns Z n s ∧ t' = nt Z n s ∧ l' = l ∧ lo ≤ (tkN Z n lo hi (.inr (s, t, l))).2 ∧ (tkN Z n lo hi (.inr (s, t, l))).2 ≤ hi ∧ (tkN Z n lo hi (.inr (s, t, l))).2 = nv Z s (te Z n s - s) := by
  have hF : tkN Z n lo hi (.inr (s, t, l)) = (if kd Z n s t = 2 then (if te Z n s - s ≤ 4 then (if lo ≤ nv Z s (te Z n s - s) ∧ nv Z s (te Z n s - s) ≤ hi then (nx Z n (.inr (s, t, l)), nv Z s (te Z n s - s)) else (.inl (2, (s : Int)), lo)) else (.inl (1, (s : Int) + 4), lo)) else (.inl (1, (s : Int)), lo)) := rfl
  rw [hF] at h ⊢
  by_cases g1 : kd Z n s t = 2
  · rw [if_pos g1] at h ⊢
    by_cases g2 : te Z n s - s ≤ 4
    · rw [if_pos g2] at h ⊢
      by_cases g3 : lo ≤ nv Z s (te Z n s - s) ∧ nv Z s (te Z n s - s) ≤ hi
      · rw [if_pos g3] at h ⊢
        have h : (Sum.inr (ns Z n s, nt Z n s, l) : am_PS) = .inr (s', t', l') := h
        rw [Sum.inr.injEq, Prod.mk.injEq, Prod.mk.injEq] at h
        exact ⟨g1, h.1.symm, h.2.1.symm, h.2.2.symm, g3.1, g3.2, rfl⟩
      · rw [if_neg g3] at h
        cases h
    · rw [if_neg g2] at h
      cases h
  · rw [if_neg g1] at h
    cases h
theorem fl_ne {c : Int} {st : am_PS} {x : Nat × Bool × List Int} : fl c st ≠ .inr x := by
  match st with
  | .inl e => exact fun h => by cases h
  | .inr (s, t, l) => exact fun h => by cases h
theorem Gd_part {Z : Nat → Nat → Int} {n B j : Nat} (hn : n ≤ 1600) (hj : j ≤ 3) {op : (am_PS → am_PS) → am_PS → am_PS} {ps pp : am_PS → am_PS} {Q : Prop} {nd : Nat} (hop : Hop Z n op Q) (HS : Q → Gd Z n B j ps (nd + 2) false) (HP : Q → Gd Z n B j pp nd false) : Gd Z n B j (gPart Z n B j op ps pp) (nd + 3) false := by
  constructor
  · intro e
    unfold gPart
    rw [if_neg (by show ¬ false = true; decide), if_neg (by show ¬ false = true; decide), if_neg (by show ¬ (false = true ∨ false = true); decide), if_neg (by show ¬ (false = true ∧ j = 3); simp), if_neg (by show ¬ ((0 : Int) ≠ 0); decide)]
    rfl
  · intro s t l hs hB s' t' l' h
    unfold gPart at h
    by_cases g0 : isN Z n (.inr (s, t, l)) = true
    · rw [if_pos g0] at h
      obtain ⟨l1, h1, h2⟩ := Gd_pt h
      obtain ⟨k1, k2, k3, k4, k5, k6, -⟩ := tkN_inr h1
      have hb := ns_bd (Z := Z) (n := n) (s := s) (kd_lt (show 1 ≤ kd Z n s t by omega))
      subst k4
      rw [if_pos (by omega)] at h2
      exact ⟨_, h2, by rw [List.length_singleton]; omega, by omega, by omega, fun T hT => tys_1 (ty_num (by omega) k5 k6)⟩
    · rw [if_neg g0] at h
      by_cases g1 : isG Z n 40 (.inr (s, t, l)) = true
      · rw [if_pos g1] at h
        obtain ⟨q, s1, t1, l1, e1, h1⟩ := hop.2 _ _ _ h
        rw [Sum.inr.injEq, Prod.mk.injEq, Prod.mk.injEq] at e1
        obtain ⟨rfl, rfl, rfl⟩ := e1
        have hb := ns_bd (Z := Z) (isG_lt g1)
        obtain ⟨s2, t2, e2, g2, e3, e4⟩ := Gd_sg h1
        rw [nx_inr] at e2 g2
        obtain ⟨F, f1, f2, f3, f4, f5⟩ := (HS q).2 _ _ _ hb.2 (by omega) _ _ _ e2
        rw [e2] at g2
        have hb2 := ns_bd (Z := Z) (isG_lt g2)
        exact ⟨F, f1, by omega, by omega, by omega, fun T hT => f5 T (by omega)⟩
      · rw [if_neg g1] at h
        by_cases g2 : isW Z n 27 (.inr (s, t, l)) = true ∨ isW Z n 28 (.inr (s, t, l)) = true
        · rw [if_pos g2] at h
          obtain ⟨q, s1, t1, l1, e1, h1⟩ := hop.2 _ _ _ h
          have hb := ns_bd (Z := Z) (n := n) (s := s) (g2.elim isW_lt isW_lt)
          by_cases g3 : isG Z n 40 (nx Z n (.inr (s, t, l))) = true
          · rw [if_pos g3, nx_inr, Sum.inr.injEq, Prod.mk.injEq, Prod.mk.injEq] at e1
            obtain ⟨rfl, rfl, rfl⟩ := e1
            rw [nx_inr] at g3
            have hb1 := ns_bd (Z := Z) (isG_lt g3)
            obtain ⟨l2, h2, h3⟩ := Gd_pt h1
            obtain ⟨s3, t3, e3, g4, e4, e5⟩ := Gd_sg h2
            -- the second sum, the comma, the first
            rw [e3] at g4
            have hb3 := ns_bd (Z := Z) (isG_lt g4)
            cases hc : tkG Z n 44 (ps (nx Z n (.inr (ns Z n s, nt Z n s, l)))) with
            | inl e => rw [hc, (HS q).1] at e3; cases e3
            | inr x =>
              obtain ⟨s5, t5, l5⟩ := x
              rw [hc] at e3
              obtain ⟨s6, t6, e6, g6, e7, e8⟩ := Gd_sg hc
              rw [nx_inr] at e6 g6
              obtain ⟨F, f1, f2, f3, f4, f5⟩ := (HS q).2 _ _ _ hb1.2 (by omega) _ _ _ e6
              rw [e6] at g6
              have hb6 := ns_bd (Z := Z) (isG_lt g6)
              have hlen : l5.length = l.length + F.length := by rw [f1, List.length_append]
              obtain ⟨F2, i1, i2, i3, i4, i5⟩ := (HS q).2 _ _ _ (by omega) (by omega) _ _ _ e3
              have hlen2 : l2.length = l5.length + F2.length := by rw [i1, List.length_append]
              rw [if_pos (by omega)] at h3
              refine ⟨F ++ F2 ++ [if isW Z n 27 (.inr (s, t, l)) = true then 5 else 6], by rw [h3, i1, f1]; simp, by rw [List.length_append, List.length_append, List.length_singleton]; omega, by omega, by omega, fun T hT => ?_⟩
              rw [List.append_assoc, tys_app (f5 T (by omega)), tys_app (i5 (false :: T) (by rw [List.length_cons]; omega))]
              refine tys_1 (ty_f2 ?_)
              split <;> omega
          · rw [if_neg g3] at e1
            exact absurd e1 fl_ne
        · rw [if_neg g2] at h
          by_cases g3 : isW Z n 18 (.inr (s, t, l)) = true ∧ j = 3
          · rw [if_pos g3] at h
            obtain ⟨q, s1, t1, l1, e1, h1⟩ := hop.2 _ _ _ h
            rw [Sum.inr.injEq, Prod.mk.injEq, Prod.mk.injEq] at e1
            obtain ⟨rfl, rfl, rfl⟩ := e1
            have hb := ns_bd (Z := Z) (isW_lt g3.1)
            obtain ⟨l2, h2, h3⟩ := Gd_pt h1
            rw [nx_inr] at h2
            obtain ⟨F, f1, f2, f3, f4, f5⟩ := (HP q).2 _ _ _ hb.2 (by omega) _ _ _ h2
            have hlen : l2.length = l.length + F.length := by rw [f1, List.length_append]
            rw [if_pos (by omega)] at h3
            refine ⟨F ++ [60], by rw [h3, f1]; simp, by rw [List.length_append, List.length_singleton]; omega, by omega, by omega, fun T hT => ?_⟩
            rw [tys_app (f5 T (by omega)), decide_eq_true g3.2]
            exact tys_1 ty_of
          · rw [if_neg g3] at h
            by_cases g4 : fch Z n j (.inr (s, t, l)) ≠ 0
            · rw [if_pos g4] at h
              have hk : kd Z n s t = 1 := by
                by_cases g5 : kd Z n s t = 1
                · exact g5
                · exact absurd (if_neg g5) g4
              have hb := ns_bd (Z := Z) (n := n) (s := s) (kd_lt (show 1 ≤ kd Z n s t by omega))
              rw [pt_inr (by omega), nx_inr, Sum.inr.injEq, Prod.mk.injEq, Prod.mk.injEq] at h
              obtain ⟨rfl, rfl, rfl⟩ := h
              refine ⟨_, rfl, by rw [List.length_singleton]; omega, by omega, by omega, fun T hT => tys_1 ?_⟩
              have hF : fch Z n j (.inr (s, t, l)) = fcd j (wno Z s (te Z n s)) := if_pos hk
              rw [hF] at g4 ⊢
              exact ty_w hj g4 (by omega)
            · rw [if_neg g4] at h
              exact absurd h fl_ne
theorem Gd_le {Z : Nat → Nat → Int} {n B j : Nat} {p : am_PS → am_PS} {nd nd' : Nat} {b : Bool} (H : Gd Z n B j p nd b) (h : nd ≤ nd') : Gd Z n B j p nd' b := ⟨H.1, fun s t l hs hB s' t' l' e => by
  obtain ⟨F, f1, f2, f3, f4, f5⟩ := H.2 s t l hs hB s' t' l' e
  exact ⟨F, f1, f2, f3, f4, fun T hT => f5 T (by omega)⟩⟩
theorem Gd_fact {Z : Nat → Nat → Int} {n B j : Nat} (hn : n ≤ 1600) {op : (am_PS → am_PS) → am_PS → am_PS} {sm pf pt' : am_PS → am_PS} {Q : Prop} {nd : Nat} (hop : Hop Z n op Q) (HS : Gd Z n B j sm nd false) (HF : Q → Gd Z n B j pf (nd + 1) true) (HT : Q → Gd Z n B j pt' (nd + 1) true) : Gd Z n B j (gFact Z n B op sm pf pt') (nd + 1) true := by
  constructor
  · intro e
    unfold gFact
    rw [if_neg (by show ¬ false = true; decide), if_neg (by show ¬ false = true; decide), if_neg (by show ¬ false = true; decide), HS.1]
    unfold gCmp
    rw [show (if cmpc Z n (Sum.inl e) = 9 ∧ ¬ isG Z n 61 (Sum.inl e) = true then fl 1 (Sum.inl e) else (Sum.inl e : am_PS)) = Sum.inl e by split <;> rfl, show nx Z n (Sum.inl e) = Sum.inl e from rfl, HS.1]
    rfl
  · intro s t l hs hB s' t' l' h
    unfold gFact at h
    by_cases g1 : isW Z n 25 (.inr (s, t, l)) = true
    · rw [if_pos g1] at h
      obtain ⟨q, s1, t1, l1, e1, h1⟩ := hop.2 _ _ _ h
      rw [Sum.inr.injEq, Prod.mk.injEq, Prod.mk.injEq] at e1
      obtain ⟨rfl, rfl, rfl⟩ := e1
      have hb := ns_bd (Z := Z) (isW_lt g1)
      obtain ⟨l2, h2, h3⟩ := Gd_pt h1
      rw [nx_inr] at h2
      obtain ⟨F, f1, f2, f3, f4, f5⟩ := (HF q).2 _ _ _ hb.2 (by omega) _ _ _ h2
      have hlen : l2.length = l.length + F.length := by rw [f1, List.length_append]
      rw [if_pos (by omega)] at h3
      refine ⟨F ++ [12], by rw [h3, f1]; simp, by rw [List.length_append, List.length_singleton]; omega, by omega, by omega, fun T hT => ?_⟩
      rw [tys_app (f5 T hT)]
      exact tys_1 ty_n
    · rw [if_neg g1] at h
      by_cases g2 : isG Z n 91 (.inr (s, t, l)) = true
      · rw [if_pos g2] at h
        obtain ⟨q, s1, t1, l1, e1, h1⟩ := hop.2 _ _ _ h
        rw [Sum.inr.injEq, Prod.mk.injEq, Prod.mk.injEq] at e1
        obtain ⟨rfl, rfl, rfl⟩ := e1
        have hb := ns_bd (Z := Z) (isG_lt g2)
        obtain ⟨s2, t2, e2, g3, e3, e4⟩ := Gd_sg h1
        rw [nx_inr] at e2 g3
        obtain ⟨F, f1, f2, f3, f4, f5⟩ := (HT q).2 _ _ _ hb.2 (by omega) _ _ _ e2
        rw [e2] at g3
        have hb2 := ns_bd (Z := Z) (isG_lt g3)
        exact ⟨F, f1, by omega, by omega, by omega, fun T hT => f5 T hT⟩
      · rw [if_neg g2] at h
        by_cases g3 : isW Z n 26 (.inr (s, t, l)) = true
        · rw [if_pos g3] at h
          have hb := ns_bd (Z := Z) (isW_lt g3)
          rw [nx_inr, pt_inr (by omega), Sum.inr.injEq, Prod.mk.injEq, Prod.mk.injEq] at h
          obtain ⟨rfl, rfl, rfl⟩ := h
          exact ⟨_, rfl, by rw [List.length_singleton]; omega, by omega, by omega, fun T hT => tys_1 (ty_a (by omega))⟩
        · rw [if_neg g3] at h
          unfold gCmp at h
          obtain ⟨l2, h2, h3⟩ := Gd_pt h
          have hcb : 7 ≤ cmpc Z n (sm (.inr (s, t, l))) ∧ cmpc Z n (sm (.inr (s, t, l))) ≤ 9 := by
            unfold cmpc
            split
            · omega
            · split <;> omega
          obtain ⟨c, hc⟩ : ∃ c, c = cmpc Z n (sm (.inr (s, t, l))) := ⟨_, rfl⟩
          rw [← hc] at hcb h3 h2
          cases hp : sm (.inr (s, t, l)) with
          | inl e =>
            rw [hp] at h2
            rw [show (if c = 9 ∧ ¬ isG Z n 61 (Sum.inl e) = true then fl 1 (Sum.inl e) else (Sum.inl e : am_PS)) = Sum.inl e by split <;> rfl, show nx Z n (Sum.inl e) = Sum.inl e from rfl, HS.1] at h2
            cases h2
          | inr x =>
            obtain ⟨s5, t5, l5⟩ := x
            rw [hp] at h2 hc
            obtain ⟨F, f1, f2, f3, f4, f5⟩ := HS.2 _ _ _ hs hB _ _ _ hp
            have hlen : l5.length = l.length + F.length := by rw [f1, List.length_append]
            by_cases g4 : c = 9 ∧ ¬ isG Z n 61 (.inr (s5, t5, l5)) = true
            · rw [if_pos g4] at h2
              rw [show nx Z n (fl 1 (Sum.inr (s5, t5, l5))) = Sum.inl (1, (s5 : Int)) from rfl, HS.1] at h2
              cases h2
            · rw [if_neg g4] at h2
              have hlt : s5 < n := by
                by_cases g5 : isG Z n 60 (.inr (s5, t5, l5)) = true
                · exact isG_lt g5
                · by_cases g6 : isG Z n 62 (.inr (s5, t5, l5)) = true
                  · exact isG_lt g6
                  · unfold cmpc at hc
                    rw [if_neg g5, if_neg g6] at hc
                    by_cases g7 : isG Z n 61 (.inr (s5, t5, l5)) = true
                    · exact isG_lt g7
                    · exact absurd ⟨hc, g7⟩ g4
              have hb5 := ns_bd (Z := Z) hlt
              rw [nx_inr] at h2
              obtain ⟨F2, i1, i2, i3, i4, i5⟩ := HS.2 _ _ _ hb5.2 (by omega) _ _ _ h2
              have hlen2 : l2.length = l5.length + F2.length := by rw [i1, List.length_append]
              rw [if_pos (by omega)] at h3
              refine ⟨F ++ F2 ++ [c], by rw [h3, i1, f1]; simp, by rw [List.length_append, List.length_append, List.length_singleton]; omega, by omega, by omega, fun T hT => ?_⟩
              rw [List.append_assoc, tys_app (f5 T (by omega)), tys_app (i5 (false :: T) (by rw [List.length_cons]; omega))]
              exact tys_1 (ty_c hcb)
/-- all of them are good -/
theorem Gd_gr {Z : Nat → Nat → Int} {n B j : Nat} (hn : n ≤ 1600) (hj : j ≤ 3) : ∀ k, Gd Z n B j (gr2 Z n B j k).1 (3 * k + 3) false ∧ Gd Z n B j (gr2 Z n B j k).2 (3 * k + 6) true
  | 0 => by
    have hP : Gd Z n B j (gPart Z n B j op0 id id) 3 false := Gd_part hn hj (nd := 0) (Hop_0 Z n) (fun h => h.elim) (fun h => h.elim)
    have hS := (Gd_row (c1 := 43) (c2 := 45) (k1 := 1) (k2 := 2) hn (by omega) (by omega) (Gd_row (c1 := 42) (c2 := 47) (k1 := 3) (k2 := 4) hn (by omega) (by omega) hP).1).1
    exact ⟨hP, Gd_fact hn (nd := 5) (Hop_0 Z n) hS (fun h => h.elim) (fun h => h.elim)⟩
  | k + 1 => by
    obtain ⟨h1, h2⟩ := Gd_gr (Z := Z) (n := n) (B := B) hn hj k
    have hS0 := (Gd_row (c1 := 43) (c2 := 45) (k1 := 1) (k2 := 2) hn (by omega) (by omega) (Gd_row (c1 := 42) (c2 := 47) (k1 := 3) (k2 := 4) hn (by omega) (by omega) h1).1).1
    have hT0 := (Gd_rowW (c1 := 23) (k1 := 11) hn (by omega) (Gd_rowW (c1 := 24) (k1 := 10) hn (by omega) h2).1).1
    have hP : Gd Z n B j (gPart Z n B j (op1 Z n) (gSum Z n B (gr2 Z n B j k).1) (gr2 Z n B j k).1) (3 * (k + 1) + 3) false := Gd_part hn hj (nd := 3 * k + 3) (Hop_1 Z n) (fun _ => hS0) (fun _ => h1)
    have hS := (Gd_row (c1 := 43) (c2 := 45) (k1 := 1) (k2 := 2) hn (by omega) (by omega) (Gd_row (c1 := 42) (c2 := 47) (k1 := 3) (k2 := 4) hn (by omega) (by omega) hP).1).1
    exact ⟨hP, Gd_fact hn (nd := 3 * (k + 1) + 5) (Hop_1 Z n) hS (fun _ => Gd_le h2 (by omega)) (fun _ => Gd_le hT0 (by omega))⟩
theorem Gd_rSum {Z : Nat → Nat → Int} {n B j : Nat} (hn : n ≤ 1600) (hj : j ≤ 3) (k : Nat) : Gd Z n B j (rSum Z n B j k) (3 * k + 5) false ∧ ∀ s t l, s ≤ n → B + l.length ≤ s → ∀ s' t' l', rSum Z n B j k (.inr (s, t, l)) = .inr (s', t', l') → ¬ isG Z n 43 (.inr (s', t', l')) = true ∧ ¬ isG Z n 45 (.inr (s', t', l')) = true := Gd_row (c1 := 43) (c2 := 45) (k1 := 1) (k2 := 2) hn (by omega) (by omega) (Gd_row (c1 := 42) (c2 := 47) (k1 := 3) (k2 := 4) hn (by omega) (by omega) (Gd_gr hn hj k).1).1
theorem Gd_rTest {Z : Nat → Nat → Int} {n B j : Nat} (hn : n ≤ 1600) (hj : j ≤ 3) (k : Nat) : Gd Z n B j (rTest Z n B j k) (3 * k + 8) true := (Gd_rowW (c1 := 23) (k1 := 11) hn (by omega) (Gd_rowW (c1 := 24) (k1 := 10) hn (by omega) (Gd_gr hn hj k).2).1).1
