/-! The reference's way: one part behind the other, with what waits on a pile. -/
/-- a fault, or: mode (0 a part is asked, 1 a part has ended, 2 behind a part, 3 all is read), place, does it touch, codes, what waits, how many are open -/
abbrev am_Cf : Type := Sum (Int × Int) (Nat × Nat × Bool × List Int × List Int × Nat)
def nb (c : Int) : Bool := decide (¬ (20 ≤ c ∧ c ≤ 24))
def tT (c : Int) : Bool := decide (c = 3 ∨ c = 4)
def tS (c : Int) : Bool := decide (1 ≤ c ∧ c ≤ 4)
def brk (w : List Int) : Int := (w.dropWhile nb).headD (-1)
def stA (Z : Nat → Nat → Int) (n j s : Nat) (t : Bool) (l w : List Int) (o : Nat) : am_Cf :=
  if isG Z n 40 (.inr (s, t, [])) = true then (if o = 6 then .inl (4, (s : Int)) else .inr (0, ns Z n s, nt Z n s, l, 20 :: w, o + 1))
  else if isW Z n 27 (.inr (s, t, [])) = true ∨ isW Z n 28 (.inr (s, t, [])) = true then
    (if isG Z n 40 (.inr (ns Z n s, nt Z n s, [])) = true then (if o = 6 then .inl (4, (ns Z n s : Int)) else .inr (0, ns Z n (ns Z n s), nt Z n (ns Z n s), l, (if isW Z n 27 (.inr (s, t, [])) = true then 21 else 22) :: w, o + 1)) else .inl (1, (ns Z n s : Int)))
  else if isW Z n 18 (.inr (s, t, [])) = true ∧ j = 3 then (if o = 6 then .inl (4, (s : Int)) else .inr (0, ns Z n s, nt Z n s, l, 60 :: w, o + 1))
  else if fch Z n j (.inr (s, t, [])) ≠ 0 then .inr (1, ns Z n s, nt Z n s, l ++ [fch Z n j (.inr (s, t, []))], w, o)
  else match tkN Z n 0 9999 (.inr (s, t, [])) with
    | (.inl e, _) => .inl e
    | (.inr (s', t', _), v) => .inr (1, s', t', l ++ [1000 + v], w, o)
def stE (s : Nat) (t : Bool) (l w : List Int) (o : Nat) : am_Cf := match w with
  | [] => .inr (2, s, t, l, [], o)
  | c :: w' => if 60 ≤ c then .inr (1, s, t, l ++ [c], w', o - 1) else .inr (2, s, t, l, c :: w', o)
def stB (Z : Nat → Nat → Int) (n s : Nat) (t : Bool) (l w : List Int) (o : Nat) : am_Cf :=
  if isG Z n 41 (.inr (s, t, [])) = true ∧ (brk w = 20 ∨ brk w = 23 ∨ brk w = 24) then
    .inr (1, ns Z n s, nt Z n s, l ++ w.takeWhile nb ++ (if brk w = 20 then [] else [if brk w = 23 then 5 else 6]), (w.dropWhile nb).tail, o - 1)
  else if isG Z n 42 (.inr (s, t, [])) = true then .inr (0, ns Z n s, nt Z n s, l ++ w.takeWhile tT, 3 :: w.dropWhile tT, o)
  else if isG Z n 47 (.inr (s, t, [])) = true then .inr (0, ns Z n s, nt Z n s, l ++ w.takeWhile tT, 4 :: w.dropWhile tT, o)
  else if isG Z n 43 (.inr (s, t, [])) = true then .inr (0, ns Z n s, nt Z n s, l ++ w.takeWhile tS, 1 :: w.dropWhile tS, o)
  else if isG Z n 45 (.inr (s, t, [])) = true then .inr (0, ns Z n s, nt Z n s, l ++ w.takeWhile tS, 2 :: w.dropWhile tS, o)
  else if brk w = 21 ∨ brk w = 22 then (if isG Z n 44 (.inr (s, t, [])) = true then .inr (0, ns Z n s, nt Z n s, l ++ w.takeWhile nb, (brk w + 2) :: (w.dropWhile nb).tail, o) else .inl (1, (s : Int)))
  else if brk w ≠ -1 then .inl (1, (s : Int))
  else .inr (3, s, t, l ++ w, [], o)
def stp (Z : Nat → Nat → Int) (n j : Nat) : am_Cf → am_Cf
  | .inl e => .inl e
  | .inr (0, s, t, l, w, o) => stA Z n j s t l w o
  | .inr (1, s, t, l, w, o) => stE s t l w o
  | .inr (2, s, t, l, w, o) => stB Z n s t l w o
  | .inr (m + 3, x) => .inr (m + 3, x)
def itr (Z : Nat → Nat → Int) (n j : Nat) : Nat → am_Cf → am_Cf
  | 0, x => x
  | m + 1, x => itr Z n j m (stp Z n j x)
def rch (Z : Nat → Nat → Int) (n j : Nat) (x y : am_Cf) : Prop := ∃ m, itr Z n j m x = y
theorem rch_rf (Z : Nat → Nat → Int) (n j : Nat) (x : am_Cf) : rch Z n j x x := ⟨0, rfl⟩
theorem itr_add (Z : Nat → Nat → Int) (n j : Nat) : ∀ a b x, itr Z n j (a + b) x = itr Z n j b (itr Z n j a x)
  | 0, b, x => by rw [Nat.zero_add]; rfl
  | a + 1, b, x => by
    rw [show a + 1 + b = (a + b) + 1 by omega]
    exact itr_add Z n j a b (stp Z n j x)
theorem rch_tr {Z : Nat → Nat → Int} {n j : Nat} {x y z : am_Cf} (h : rch Z n j x y) (h' : rch Z n j y z) : rch Z n j x z := by
  obtain ⟨a, ha⟩ := h
  obtain ⟨b, hb⟩ := h'
  exact ⟨a + b, by rw [itr_add, ha, hb]⟩
theorem rch_1 {Z : Nat → Nat → Int} {n j : Nat} {x y : am_Cf} (h : stp Z n j x = y) : rch Z n j x y := ⟨1, h⟩
theorem rch_s {Z : Nat → Nat → Int} {n j : Nat} {x z : am_Cf} (h : rch Z n j (stp Z n j x) z) : rch Z n j x z := rch_tr (rch_1 rfl) h
theorem rch_rf' {Z : Nat → Nat → Int} {n j : Nat} {x y : am_Cf} (h : x = y) : rch Z n j x y := ⟨0, h⟩
/-- what is read, as a place of the pile's way -/
def rsl (m : Nat) (w : List Int) (o : Nat) : am_PS → am_Cf
  | .inl e => .inl e
  | .inr (s, t, l) => .inr (m, s, t, l, w, o)
/-- a part is read -/
def PaR (Z : Nat → Nat → Int) (n B j k : Nat) (p : am_PS → am_PS) : Prop := ∀ s t l w o, o + k = 6 → s ≤ n → B + l.length ≤ s → rch Z n j (.inr (0, s, t, l, w, o)) (rsl 1 w o (p (.inr (s, t, l))))
/-- what lies below -/
def oT3 (w : List Int) : Prop := ∀ c w', w = c :: w' → c ≠ 3 ∧ c ≠ 4 ∧ c < 60
def oS3 (w : List Int) : Prop := ∀ c w', w = c :: w' → 20 ≤ c ∧ c < 60
/-- a product, a sum is read: what is done behind it -/
def RoR (Z : Nat → Nat → Int) (n B j k : Nat) (ok : List Int → Prop) (p : am_PS → am_PS) : Prop := ∀ s t l w o, o + k = 6 → s ≤ n → B + l.length ≤ s → ok w → rch Z n j (.inr (0, s, t, l, w, o)) (stp Z n j (rsl 2 w o (p (.inr (s, t, l)))))
theorem tk_ok {f : Int → Bool} {pe w : List Int} (h : ∀ c ∈ pe, f c = true) (h' : ∀ c w', w = c :: w' → f c = false) : (pe ++ w).takeWhile f = pe ∧ (pe ++ w).dropWhile f = w := by
  induction pe with
  | nil =>
    cases w with
    | nil => exact ⟨rfl, rfl⟩
    | cons c w' =>
      have := h' c w' rfl
      exact ⟨by simp [List.takeWhile_cons, this], by simp [List.dropWhile_cons, this]⟩
  | cons a pe ih =>
    have ha := h a List.mem_cons_self
    obtain ⟨h1, h2⟩ := ih (fun c hc => h c (List.mem_cons_of_mem _ hc))
    rw [List.cons_append]
    exact ⟨by rw [List.takeWhile_cons, ha]; simp [h1], by rw [List.dropWhile_cons, ha]; simp [h2]⟩
theorem tk_app {f : Int → Bool} {pe w : List Int} (h : ∀ c ∈ pe, f c = true) : (pe ++ w).takeWhile f = pe ++ w.takeWhile f ∧ (pe ++ w).dropWhile f = w.dropWhile f := by
  induction pe with
  | nil => exact ⟨rfl, rfl⟩
  | cons a pe ih =>
    have ha := h a List.mem_cons_self
    obtain ⟨h1, h2⟩ := ih (fun c hc => h c (List.mem_cons_of_mem _ hc))
    rw [List.cons_append]
    exact ⟨by rw [List.takeWhile_cons, ha]; simp [h1], by rw [List.dropWhile_cons, ha]; simp [h2]⟩
/-- a code that waits is told at once, where no sign that binds as much follows -/
theorem stB_pe {Z : Nat → Nat → Int} {n s : Nat} {t : Bool} {l pe w : List Int} {o : Nat} (h1 : ¬ isG Z n 42 (.inr (s, t, [])) = true) (h2 : ¬ isG Z n 47 (.inr (s, t, [])) = true) (hp : ∀ c ∈ pe, 1 ≤ c ∧ c ≤ 4) : stB Z n s t l (pe ++ w) o = stB Z n s t (l ++ pe) w o := by
  have hnb := tk_app (f := nb) (pe := pe) (w := w) (fun c hc => decide_eq_true (by have := hp c hc; omega))
  have hts := tk_app (f := tS) (pe := pe) (w := w) (fun c hc => decide_eq_true (hp c hc))
  have hbr : brk (pe ++ w) = brk w := by unfold brk; rw [hnb.2]
  unfold stB
  rw [hbr, hnb.1, hnb.2, hts.1, hts.2, if_neg h1, if_neg h1, if_neg h2, if_neg h2]
  simp only [List.append_assoc]
theorem stp_inl (Z : Nat → Nat → Int) (n j : Nat) (e : Int × Int) : stp Z n j (.inl e) = .inl e := rfl
theorem isG_ne {Z : Nat → Nat → Int} {n s : Nat} {t : Bool} {l l' : List Int} {c c' : Int} (h : isG Z n c (.inr (s, t, l)) = true) (hc : c ≠ c') : ¬ isG Z n c' (.inr (s, t, l')) = true := fun h' => hc ((of_decide_eq_true h).2.symm.trans (of_decide_eq_true h').2)
/-- products -/
theorem RoR_prod {Z : Nat → Nat → Int} {n B j k : Nat} {p : am_PS → am_PS} {nd : Nat} (hn : n ≤ 1600) (HG : Gd Z n B j p nd false) (HP : PaR Z n B j k p) : RoR Z n B j k oT3 (gProd Z n B p) := by
  have lp : ∀ m s t l pe w o, o + k = 6 → (pe = [] ∨ pe = [3] ∨ pe = [4]) → oT3 w → s ≤ n → B + (l ++ pe).length ≤ s → n < m + s → rch Z n j (stp Z n j (.inr (2, s, t, l, pe ++ w, o))) (stp Z n j (rsl 2 w o (lpG Z n B 42 47 3 4 p m (.inr (s, t, l ++ pe))))) := by
    intro m
    induction m with
    | zero => intro s t l pe w o ho hpe hw hs hB hm; omega
    | succ m ih =>
      intro s t l pe w o ho hpe hw hs hB hm
      have hpT : ∀ c ∈ pe, tT c = true := by
        rcases hpe with rfl | rfl | rfl
        · intro c hc; cases hc
        · intro c hc; rw [List.mem_singleton.mp hc]; rfl
        · intro c hc; rw [List.mem_singleton.mp hc]; rfl
      have hwT : ∀ c w', w = c :: w' → tT c = false := fun c w' h => by
        have := hw c w' h
        exact decide_eq_false (by omega)
      obtain ⟨q1, q2⟩ := tk_ok hpT hwT
      -- one more part
      have go : ∀ c k' : Int, (k' = 3 ∨ k' = 4) → isG Z n c (.inr (s, t, l ++ pe)) = true → stp Z n j (.inr (2, s, t, l, pe ++ w, o)) = .inr (0, ns Z n s, nt Z n s, l ++ pe, k' :: w, o) → rch Z n j (stp Z n j (.inr (2, s, t, l, pe ++ w, o))) (stp Z n j (rsl 2 w o (lpG Z n B 42 47 3 4 p m (pt B k' (p (nx Z n (.inr (s, t, l ++ pe)))))))) := by
        intro c k' hk hg hst
        have hb := ns_bd (Z := Z) (isG_lt hg)
        rw [hst, nx_inr]
        refine rch_tr (HP _ (nt Z n s) _ (k' :: w) o ho hb.2 (by omega)) ?_
        cases hp : p (.inr (ns Z n s, nt Z n s, l ++ pe)) with
        | inl e =>
          rw [show pt B k' (Sum.inl e) = Sum.inl e from rfl, lpG_inl]
          exact rch_rf _ _ _ _
        | inr x =>
          obtain ⟨s2, t2, l2⟩ := x
          obtain ⟨F, e1, e2, e3, e4, e5⟩ := HG.2 _ _ _ hb.2 (by omega) _ _ _ hp
          have hlen : l2.length = (l ++ pe).length + F.length := by rw [e1, List.length_append]
          rw [pt_inr (by omega)]
          refine rch_s (rch_s ?_)
          have : stp Z n j (rsl 1 (k' :: w) o (.inr (s2, t2, l2))) = .inr (2, s2, t2, l2, [k'] ++ w, o) := by
            show stE s2 t2 l2 (k' :: w) o = _
            exact if_neg (show ¬ (60 : Int) ≤ k' by omega)
          rw [this]
          exact ih s2 t2 l2 [k'] w o ho (by rcases hk with rfl | rfl; exact Or.inr (Or.inl rfl); exact Or.inr (Or.inr rfl)) hw e4 (by rw [List.length_append, List.length_singleton]; omega) (by omega)
      unfold lpG
      by_cases g1 : isG Z n 42 (.inr (s, t, l ++ pe)) = true
      · rw [if_pos g1]
        refine go 42 3 (Or.inl rfl) g1 ?_
        show stB Z n s t l (pe ++ w) o = _
        unfold stB
        rw [if_neg (fun h => isG_ne g1 (by decide : (42 : Int) ≠ 41) h.1), if_pos (show isG Z n 42 (.inr (s, t, [])) = true from g1), q1, q2]
      · rw [if_neg g1]
        by_cases g2 : isG Z n 47 (.inr (s, t, l ++ pe)) = true
        · rw [if_pos g2]
          refine go 47 4 (Or.inr rfl) g2 ?_
          show stB Z n s t l (pe ++ w) o = _
          unfold stB
          rw [if_neg (fun h => isG_ne g2 (by decide : (47 : Int) ≠ 41) h.1), if_neg (show ¬ isG Z n 42 (.inr (s, t, [])) = true from g1), if_pos (show isG Z n 47 (.inr (s, t, [])) = true from g2), q1, q2]
        · rw [if_neg g2]
          refine rch_rf' ?_
          exact stB_pe g1 g2 (fun c hc => by have := of_decide_eq_true (hpT c hc); omega)
  intro s t l w o ho hs hB hw
  refine rch_tr (HP s t l w o ho hs hB) ?_
  unfold gProd
  cases hp : p (.inr (s, t, l)) with
  | inl e =>
    rw [lpG_inl]
    exact rch_rf _ _ _ _
  | inr x =>
    obtain ⟨s2, t2, l2⟩ := x
    obtain ⟨F, e1, e2, e3, e4, e5⟩ := HG.2 _ _ _ hs hB _ _ _ hp
    have hlen : l2.length = l.length + F.length := by rw [e1, List.length_append]
    have h1 : stp Z n j (rsl 1 w o (.inr (s2, t2, l2))) = .inr (2, s2, t2, l2, [] ++ w, o) := by
      show stE s2 t2 l2 w o = _
      unfold stE
      cases w with
      | nil => rfl
      | cons c w' =>
        have := hw c w' rfl
        show (if 60 ≤ c then _ else _) = _
        rw [if_neg (by omega)]
        rfl
    refine rch_s (rch_s ?_)
    rw [h1]
    have := lp (n + 1) s2 t2 l2 [] w o ho (Or.inl rfl) hw e4 (by rw [List.append_nil]; omega) (by omega)
    rw [List.append_nil] at this
    exact this
/-- behind a sum no sign of a sum stands -/
def NoS (Z : Nat → Nat → Int) (n : Nat) (st : am_PS) : Prop := ¬ isG Z n 42 st = true ∧ ¬ isG Z n 47 st = true ∧ ¬ isG Z n 43 st = true ∧ ¬ isG Z n 45 st = true
/-- what was behind a product is behind the row of them -/
theorem lpG_keep {Z : Nat → Nat → Int} {n B j : Nat} {c1 c2 k1 k2 : Int} {p : am_PS → am_PS} {nd : Nat} (hn : n ≤ 1600) (HG : Gd Z n B j p nd false) {Q : Nat → Bool → Prop} (HQ : ∀ s t l, s ≤ n → B + l.length ≤ s → ∀ s' t' l', p (.inr (s, t, l)) = .inr (s', t', l') → Q s' t') : ∀ m s t l, Q s t → s ≤ n → B + l.length ≤ s → ∀ s' t' l', lpG Z n B c1 c2 k1 k2 p m (.inr (s, t, l)) = .inr (s', t', l') → Q s' t' := by
  intro m
  induction m with
  | zero =>
    intro s t l hQ hs hB s' t' l' h
    have h : (Sum.inr (s, t, l) : am_PS) = .inr (s', t', l') := h
    rw [Sum.inr.injEq, Prod.mk.injEq, Prod.mk.injEq] at h
    obtain ⟨rfl, rfl, rfl⟩ := h
    exact hQ
  | succ m ih =>
    intro s t l hQ hs hB s' t' l' h
    have go : ∀ c k : Int, isG Z n c (.inr (s, t, l)) = true → lpG Z n B c1 c2 k1 k2 p m (pt B k (p (nx Z n (.inr (s, t, l))))) = .inr (s', t', l') → Q s' t' := by
      intro c k hg h
      have hb := ns_bd (Z := Z) (isG_lt hg)
      rw [nx_inr] at h
      cases hp : p (.inr (ns Z n s, nt Z n s, l)) with
      | inl e =>
        rw [hp, show pt B k (Sum.inl e) = Sum.inl e from rfl, lpG_inl] at h
        cases h
      | inr x =>
        obtain ⟨s2, t2, l2⟩ := x
        obtain ⟨F, e1, e2, e3, e4, e5⟩ := HG.2 _ _ _ hb.2 (by omega) _ _ _ hp
        have hlen : l2.length = l.length + F.length := by rw [e1, List.length_append]
        rw [hp, pt_inr (by omega)] at h
        exact ih s2 t2 _ (HQ _ _ _ hb.2 (by omega) _ _ _ hp) e4 (by rw [List.length_append, List.length_singleton]; omega) _ _ _ h
    unfold lpG at h
    by_cases g1 : isG Z n c1 (.inr (s, t, l)) = true
    · rw [if_pos g1] at h
      exact go c1 k1 g1 h
    · rw [if_neg g1] at h
      by_cases g2 : isG Z n c2 (.inr (s, t, l)) = true
      · rw [if_pos g2] at h
        exact go c2 k2 g2 h
      · rw [if_neg g2, Sum.inr.injEq, Prod.mk.injEq, Prod.mk.injEq] at h
        obtain ⟨rfl, rfl, rfl⟩ := h
        exact hQ
theorem gProd_no {Z : Nat → Nat → Int} {n B j : Nat} {p : am_PS → am_PS} {nd : Nat} (hn : n ≤ 1600) (HG : Gd Z n B j p nd false) : ∀ s t l, s ≤ n → B + l.length ≤ s → ∀ s' t' l', gProd Z n B p (.inr (s, t, l)) = .inr (s', t', l') → ¬ isG Z n 42 (.inr (s', t', [])) = true ∧ ¬ isG Z n 47 (.inr (s', t', [])) = true := fun s t l hs hB s' t' l' h => (Gd_row (c1 := 42) (c2 := 47) (k1 := 3) (k2 := 4) hn (by omega) (by omega) HG).2 s t l hs hB s' t' l' h
theorem gSum_no {Z : Nat → Nat → Int} {n B j : Nat} {p : am_PS → am_PS} {nd : Nat} (hn : n ≤ 1600) (HG : Gd Z n B j p nd false) : ∀ s t l, s ≤ n → B + l.length ≤ s → ∀ s' t' l', gSum Z n B p (.inr (s, t, l)) = .inr (s', t', l') → NoS Z n (.inr (s', t', [])) := by
  intro s t l hs hB s' t' l' h
  have HP := (Gd_row (c1 := 42) (c2 := 47) (k1 := 3) (k2 := 4) hn (by omega) (by omega) HG).1
  have h2 := (Gd_row (c1 := 43) (c2 := 45) (k1 := 1) (k2 := 2) hn (by omega) (by omega) HP).2 s t l hs hB s' t' l' h
  unfold gSum at h
  cases hp : gProd Z n B p (.inr (s, t, l)) with
  | inl e =>
    rw [hp, lpG_inl] at h
    cases h
  | inr x =>
    obtain ⟨s2, t2, l2⟩ := x
    obtain ⟨F, e1, e2, e3, e4, e5⟩ := HP.2 _ _ _ hs hB _ _ _ hp
    have hlen : l2.length = l.length + F.length := by rw [e1, List.length_append]
    rw [hp] at h
    have h1 := lpG_keep (Q := fun s' t' => ¬ isG Z n 42 (.inr (s', t', [])) = true ∧ ¬ isG Z n 47 (.inr (s', t', [])) = true) hn HP (gProd_no hn HG) (n + 1) s2 t2 l2 (gProd_no hn HG _ _ _ hs hB _ _ _ hp) e4 (by omega) _ _ _ h
    exact ⟨h1.1, h1.2, h2.1, h2.2⟩
/-- sums -/
theorem RoR_sum {Z : Nat → Nat → Int} {n B j k : Nat} {p : am_PS → am_PS} {nd : Nat} (hn : n ≤ 1600) (HG0 : Gd Z n B j p nd false) (HP0 : PaR Z n B j k p) : RoR Z n B j k oS3 (gSum Z n B p) := by
  have HP := RoR_prod hn HG0 HP0
  have HG := (Gd_row (c1 := 42) (c2 := 47) (k1 := 3) (k2 := 4) hn (by omega) (by omega) HG0).1
  have hno := gProd_no hn HG0
  have lp : ∀ m s t l pe w o, o + k = 6 → (pe = [] ∨ pe = [1] ∨ pe = [2]) → oS3 w → s ≤ n → B + (l ++ pe).length ≤ s → n < m + s → ¬ isG Z n 42 (.inr (s, t, [])) = true → ¬ isG Z n 47 (.inr (s, t, [])) = true → rch Z n j (stp Z n j (.inr (2, s, t, l, pe ++ w, o))) (stp Z n j (rsl 2 w o (lpG Z n B 43 45 1 2 (gProd Z n B p) m (.inr (s, t, l ++ pe))))) := by
    intro m
    induction m with
    | zero => intro s t l pe w o ho hpe hw hs hB hm; omega
    | succ m ih =>
      intro s t l pe w o ho hpe hw hs hB hm hn1 hn2
      have hp4 : ∀ c ∈ pe, 1 ≤ c ∧ c ≤ 4 := by
        rcases hpe with rfl | rfl | rfl
        · intro c hc; cases hc
        · intro c hc; rw [List.mem_singleton.mp hc]; omega
        · intro c hc; rw [List.mem_singleton.mp hc]; omega
      have hwT : ∀ c w', w = c :: w' → tS c = false := fun c w' h => by
        have := hw c w' h
        exact decide_eq_false (by omega)
      obtain ⟨q1, q2⟩ := tk_ok (f := tS) (fun c hc => decide_eq_true (hp4 c hc)) hwT
      have go : ∀ c k' : Int, (k' = 1 ∨ k' = 2) → isG Z n c (.inr (s, t, l ++ pe)) = true → stp Z n j (.inr (2, s, t, l, pe ++ w, o)) = .inr (0, ns Z n s, nt Z n s, l ++ pe, k' :: w, o) → rch Z n j (stp Z n j (.inr (2, s, t, l, pe ++ w, o))) (stp Z n j (rsl 2 w o (lpG Z n B 43 45 1 2 (gProd Z n B p) m (pt B k' (gProd Z n B p (nx Z n (.inr (s, t, l ++ pe)))))))) := by
        intro c k' hk hg hst
        have hb := ns_bd (Z := Z) (isG_lt hg)
        rw [hst, nx_inr]
        refine rch_tr (HP _ (nt Z n s) _ (k' :: w) o ho hb.2 (by omega) (fun c' w' e => by
          rw [List.cons.injEq] at e
          omega)) ?_
        cases hp : gProd Z n B p (.inr (ns Z n s, nt Z n s, l ++ pe)) with
        | inl e =>
          rw [show pt B k' (Sum.inl e) = Sum.inl e from rfl, lpG_inl]
          exact rch_rf _ _ _ _
        | inr x =>
          obtain ⟨s2, t2, l2⟩ := x
          obtain ⟨F, e1, e2, e3, e4, e5⟩ := HG.2 _ _ _ hb.2 (by omega) _ _ _ hp
          have hlen : l2.length = (l ++ pe).length + F.length := by rw [e1, List.length_append]
          have hq := hno _ _ _ hb.2 (by omega) _ _ _ hp
          rw [pt_inr (by omega)]
          exact ih s2 t2 l2 [k'] w o ho (by rcases hk with rfl | rfl; exact Or.inr (Or.inl rfl); exact Or.inr (Or.inr rfl)) hw e4 (by rw [List.length_append, List.length_singleton]; omega) (by omega) hq.1 hq.2
      unfold lpG
      by_cases g1 : isG Z n 43 (.inr (s, t, l ++ pe)) = true
      · rw [if_pos g1]
        refine go 43 1 (Or.inl rfl) g1 ?_
        show stB Z n s t l (pe ++ w) o = _
        unfold stB
        rw [if_neg (fun h => isG_ne g1 (by decide : (43 : Int) ≠ 41) h.1), if_neg hn1, if_neg hn2, if_pos (show isG Z n 43 (.inr (s, t, [])) = true from g1), q1, q2]
      · rw [if_neg g1]
        by_cases g2 : isG Z n 45 (.inr (s, t, l ++ pe)) = true
        · rw [if_pos g2]
          refine go 45 2 (Or.inr rfl) g2 ?_
          show stB Z n s t l (pe ++ w) o = _
          unfold stB
          rw [if_neg (fun h => isG_ne g2 (by decide : (45 : Int) ≠ 41) h.1), if_neg hn1, if_neg hn2, if_neg (show ¬ isG Z n 43 (.inr (s, t, [])) = true from g1), if_pos (show isG Z n 45 (.inr (s, t, [])) = true from g2), q1, q2]
        · rw [if_neg g2]
          exact rch_rf' (stB_pe hn1 hn2 hp4)
  intro s t l w o ho hs hB hw
  refine rch_tr (HP s t l w o ho hs hB (fun c w' e => by have := hw c w' e; omega)) ?_
  unfold gSum
  cases hp : gProd Z n B p (.inr (s, t, l)) with
  | inl e =>
    rw [lpG_inl]
    exact rch_rf _ _ _ _
  | inr x =>
    obtain ⟨s2, t2, l2⟩ := x
    obtain ⟨F, e1, e2, e3, e4, e5⟩ := HG.2 _ _ _ hs hB _ _ _ hp
    have hlen : l2.length = l.length + F.length := by rw [e1, List.length_append]
    have hq := hno _ _ _ hs hB _ _ _ hp
    have := lp (n + 1) s2 t2 l2 [] w o ho (Or.inl rfl) hw e4 (by rw [List.append_nil]; omega) (by omega) hq.1 hq.2
    rw [List.append_nil] at this
    exact this
/-- a bracket stands on the pile -/
theorem brk_c {c : Int} {w : List Int} (h : 20 ≤ c ∧ c ≤ 24) : brk (c :: w) = c ∧ (c :: w).takeWhile nb = [] ∧ (c :: w).dropWhile nb = c :: w := by
  have hf : nb c = false := decide_eq_false (fun g => g h)
  have h2 : (c :: w).dropWhile nb = c :: w := by rw [List.dropWhile_cons, hf]; rfl
  refine ⟨by unfold brk; rw [h2]; rfl, by rw [List.takeWhile_cons, hf]; rfl, h2⟩
theorem PaR_part {Z : Nat → Nat → Int} {n B j k : Nat} (hn : n ≤ 1600) (hj : j ≤ 3) {op : (am_PS → am_PS) → am_PS → am_PS} {ps pp : am_PS → am_PS} {nd : Nat} (hop : (k = 0 ∧ op = op0) ∨ (0 < k ∧ op = op1 Z n ∧ RoR Z n B j (k - 1) oS3 ps ∧ PaR Z n B j (k - 1) pp ∧ Gd Z n B j ps nd false ∧ Gd Z n B j pp nd false ∧ ∀ s t l, s ≤ n → B + l.length ≤ s → ∀ s' t' l', ps (.inr (s, t, l)) = .inr (s', t', l') → NoS Z n (.inr (s', t', [])))) : PaR Z n B j k (gPart Z n B j op ps pp) := by
  intro s t l w o ho hs hB
  have hst : stp Z n j (.inr (0, s, t, l, w, o)) = stA Z n j s t l w o := rfl
  -- a sum that stands behind an open bracket
  have sum : 0 < k → RoR Z n B j (k - 1) oS3 ps → ∀ (s : Nat) (t : Bool) (l : List Int) (c : Int), 20 ≤ c ∧ c ≤ 24 → s ≤ n → B + l.length ≤ s → rch Z n j (.inr (0, s, t, l, c :: w, o + 1)) (stp Z n j (rsl 2 (c :: w) (o + 1) (ps (.inr (s, t, l))))) := fun hk HS s t l c hc hs hB => HS s t l (c :: w) (o + 1) (by omega) hs hB (fun c' w' e => by
    rw [List.cons.injEq] at e
    omega)
  -- the bracket's end
  have clo : ∀ (c : Int) (cd : List Int), (c = 20 ∧ cd = []) ∨ (c = 23 ∧ cd = [5]) ∨ (c = 24 ∧ cd = [6]) → ∀ s2 t2 l2, NoS Z n (.inr (s2, t2, [])) → stp Z n j (.inr (2, s2, t2, l2, c :: w, o + 1)) = if isG Z n 41 (.inr (s2, t2, [])) = true then .inr (1, ns Z n s2, nt Z n s2, l2 ++ cd, w, o) else .inl (1, (s2 : Int)) := by
    intro c cd hc s2 t2 l2 hno
    obtain ⟨b1, b2, b3⟩ := brk_c (c := c) (w := w) (by omega)
    show stB Z n s2 t2 l2 (c :: w) (o + 1) = _
    unfold stB
    rw [b1, b2, b3]
    by_cases g : isG Z n 41 (.inr (s2, t2, [])) = true
    · rw [if_pos ⟨g, by omega⟩, if_pos g, List.append_nil, List.tail_cons]
      rcases hc with ⟨rfl, rfl⟩ | ⟨rfl, rfl⟩ | ⟨rfl, rfl⟩ <;> rfl
    · rw [if_neg (fun h => g h.1), if_neg g, if_neg hno.1, if_neg hno.2.1, if_neg hno.2.2.1, if_neg hno.2.2.2, if_neg (by omega), if_pos (by omega)]
  unfold gPart
  by_cases g0 : isN Z n (.inr (s, t, l)) = true
  · have hk : kd Z n s t = 2 := of_decide_eq_true g0
    have n1 : ∀ c l', ¬ isG Z n c (.inr (s, t, l')) = true := fun c l' h => by have := (of_decide_eq_true h).1; omega
    have n2 : ∀ c l', ¬ isW Z n c (.inr (s, t, l')) = true := fun c l' h => by have := (of_decide_eq_true h).1; omega
    have n3 : fch Z n j (.inr (s, t, [])) = 0 := if_neg (by omega)
    have hT : ∀ l', tkN Z n 0 9999 (.inr (s, t, l')) = (if kd Z n s t = 2 then (if te Z n s - s ≤ 4 then (if 0 ≤ nv Z s (te Z n s - s) ∧ nv Z s (te Z n s - s) ≤ 9999 then (nx Z n (.inr (s, t, l')), nv Z s (te Z n s - s)) else (.inl (2, (s : Int)), 0)) else (.inl (1, (s : Int) + 4), 0)) else (.inl (1, (s : Int)), 0)) := fun l' => rfl
    rw [if_pos g0]
    refine rch_1 ?_
    rw [hst]
    unfold stA
    rw [if_neg (n1 _ _), if_neg (fun h => h.elim (n2 _ _) (n2 _ _)), if_neg (fun h => n2 _ _ h.1), if_neg (fun h => h n3), hT, hT, if_pos hk, if_pos hk]
    by_cases c1 : te Z n s - s ≤ 4
    · rw [if_pos c1, if_pos c1]
      by_cases c2 : 0 ≤ nv Z s (te Z n s - s) ∧ nv Z s (te Z n s - s) ≤ 9999
      · rw [if_pos c2, if_pos c2, nx_inr, nx_inr]
        have hb := ns_bd (Z := Z) (n := n) (s := s) (kd_lt (show 1 ≤ kd Z n s t by omega))
        rw [pt_inr (by omega)]
        rfl
      · rw [if_neg c2, if_neg c2]
        rfl
    · rw [if_neg c1, if_neg c1]
      rfl
  · rw [if_neg g0]
    by_cases g1 : isG Z n 40 (.inr (s, t, l)) = true
    · rw [if_pos g1]
      have hb := ns_bd (Z := Z) (isG_lt g1)
      have hA : stA Z n j s t l w o = if o = 6 then .inl (4, (s : Int)) else .inr (0, ns Z n s, nt Z n s, l, 20 :: w, o + 1) := by
        unfold stA
        rw [if_pos (show isG Z n 40 (.inr (s, t, [])) = true from g1)]
      refine rch_s ?_
      rw [hst, hA]
      rcases hop with ⟨rfl, rfl⟩ | ⟨hk, rfl, HS, HP, HGs, HGp, hno⟩
      · rw [if_pos (by omega)]
        exact rch_rf _ _ _ _
      · rw [if_neg (by omega)]
        show rch Z n j _ (rsl 1 w o (tkG Z n 41 (ps (nx Z n (.inr (s, t, l))))))
        rw [nx_inr]
        refine rch_tr (sum hk HS _ _ _ 20 (by omega) hb.2 (by omega)) ?_
        cases hp : ps (.inr (ns Z n s, nt Z n s, l)) with
        | inl e => exact rch_rf _ _ _ _
        | inr x =>
          obtain ⟨s2, t2, l2⟩ := x
          refine rch_rf' ?_
          rw [show rsl 2 (20 :: w) (o + 1) (Sum.inr (s2, t2, l2)) = (.inr (2, s2, t2, l2, 20 :: w, o + 1) : am_Cf) from rfl, clo 20 [] (Or.inl ⟨rfl, rfl⟩) _ _ _ (hno _ _ _ hb.2 (by omega) _ _ _ hp), List.append_nil]
          unfold tkG
          by_cases g : isG Z n 41 (.inr (s2, t2, l2)) = true
          · rw [if_pos g, if_pos (show isG Z n 41 (.inr (s2, t2, [])) = true from g)]
            rfl
          · rw [if_neg g, if_neg (show ¬ isG Z n 41 (.inr (s2, t2, [])) = true from g)]
            rfl
    · rw [if_neg g1]
      by_cases g2 : isW Z n 27 (.inr (s, t, l)) = true ∨ isW Z n 28 (.inr (s, t, l)) = true
      · rw [if_pos g2]
        have hb := ns_bd (Z := Z) (n := n) (s := s) (g2.elim isW_lt isW_lt)
        obtain ⟨cb, hcb⟩ : ∃ cb : Int, cb = if isW Z n 27 (.inr (s, t, [])) = true then 21 else 22 := ⟨_, rfl⟩
        have hcb2 : cb = 21 ∨ cb = 22 := by rw [hcb]; split; exact Or.inl rfl; exact Or.inr rfl
        have hA : stA Z n j s t l w o = if isG Z n 40 (.inr (ns Z n s, nt Z n s, [])) = true then (if o = 6 then .inl (4, (ns Z n s : Int)) else .inr (0, ns Z n (ns Z n s), nt Z n (ns Z n s), l, cb :: w, o + 1)) else .inl (1, (ns Z n s : Int)) := by
          unfold stA
          rw [if_neg (show ¬ isG Z n 40 (.inr (s, t, [])) = true from g1), if_pos (show isW Z n 27 (.inr (s, t, [])) = true ∨ isW Z n 28 (.inr (s, t, [])) = true from g2), ← hcb]
        refine rch_s ?_
        rw [hst, hA]
        by_cases g3 : isG Z n 40 (nx Z n (.inr (s, t, l))) = true
        · rw [if_pos g3, if_pos (show isG Z n 40 (.inr (ns Z n s, nt Z n s, [])) = true from g3)]
          have hb1 := ns_bd (Z := Z) (n := n) (s := ns Z n s) (isG_lt (show isG Z n 40 (.inr (ns Z n s, nt Z n s, [])) = true from g3))
          rcases hop with ⟨rfl, rfl⟩ | ⟨hk, rfl, HS, HP, HGs, HGp, hno⟩
          · rw [if_pos (by omega)]
            exact rch_rf _ _ _ _
          · rw [if_neg (by omega)]
            show rch Z n j _ (rsl 1 w o (pt B (if isW Z n 27 (.inr (s, t, l)) = true then 5 else 6) (tkG Z n 41 (ps (tkG Z n 44 (ps (nx Z n (nx Z n (.inr (s, t, l))))))))))
            rw [nx_inr, nx_inr]
            refine rch_tr (sum hk HS _ _ _ cb (by omega) hb1.2 (by omega)) ?_
            cases hp : ps (.inr (ns Z n (ns Z n s), nt Z n (ns Z n s), l)) with
            | inl e =>
              rw [show tkG Z n 44 (Sum.inl e) = Sum.inl e from rfl, HGs.1]
              exact rch_rf _ _ _ _
            | inr x =>
              obtain ⟨s2, t2, l2⟩ := x
              have hq := hno _ _ _ hb1.2 (by omega) _ _ _ hp
              obtain ⟨F, e1, e2, e3, e4, e5⟩ := HGs.2 _ _ _ hb1.2 (by omega) _ _ _ hp
              have hlen : l2.length = l.length + F.length := by rw [e1, List.length_append]
              obtain ⟨b1, b2, b3⟩ := brk_c (c := cb) (w := w) (by omega)
              have hC : stp Z n j (rsl 2 (cb :: w) (o + 1) (.inr (s2, t2, l2))) = if isG Z n 44 (.inr (s2, t2, [])) = true then .inr (0, ns Z n s2, nt Z n s2, l2, (cb + 2) :: w, o + 1) else .inl (1, (s2 : Int)) := by
                show stB Z n s2 t2 l2 (cb :: w) (o + 1) = _
                unfold stB
                rw [b1, b2, b3, if_neg (fun h => by omega), if_neg hq.1, if_neg hq.2.1, if_neg hq.2.2.1, if_neg hq.2.2.2, if_pos hcb2, List.append_nil, List.tail_cons]
              rw [hC]
              by_cases g4 : isG Z n 44 (.inr (s2, t2, l2)) = true
              · have hb2 := ns_bd (Z := Z) (isG_lt g4)
                rw [if_pos (show isG Z n 44 (.inr (s2, t2, [])) = true from g4), show tkG Z n 44 (Sum.inr (s2, t2, l2)) = nx Z n (Sum.inr (s2, t2, l2)) from if_pos g4, nx_inr]
                refine rch_tr (sum hk HS _ _ _ (cb + 2) (by omega) hb2.2 (by omega)) ?_
                cases hp2 : ps (.inr (ns Z n s2, nt Z n s2, l2)) with
                | inl e => exact rch_rf _ _ _ _
                | inr y =>
                  obtain ⟨s3, t3, l3⟩ := y
                  obtain ⟨F2, i1, i2, i3, i4, i5⟩ := HGs.2 _ _ _ hb2.2 (by omega) _ _ _ hp2
                  have hlen2 : l3.length = l2.length + F2.length := by rw [i1, List.length_append]
                  refine rch_rf' ?_
                  rw [show rsl 2 ((cb + 2) :: w) (o + 1) (Sum.inr (s3, t3, l3)) = (.inr (2, s3, t3, l3, (cb + 2) :: w, o + 1) : am_Cf) from rfl, clo (cb + 2) [if isW Z n 27 (.inr (s, t, l)) = true then 5 else 6] (by
                    rw [hcb]
                    by_cases g5 : isW Z n 27 (.inr (s, t, l)) = true
                    · rw [if_pos g5, if_pos (show isW Z n 27 (.inr (s, t, [])) = true from g5)]
                      exact Or.inr (Or.inl ⟨rfl, rfl⟩)
                    · rw [if_neg g5, if_neg (show ¬ isW Z n 27 (.inr (s, t, [])) = true from g5)]
                      exact Or.inr (Or.inr ⟨rfl, rfl⟩)) _ _ _ (hno _ _ _ hb2.2 (by omega) _ _ _ hp2)]
                  unfold tkG
                  by_cases g : isG Z n 41 (.inr (s3, t3, l3)) = true
                  · have hb3 := ns_bd (Z := Z) (isG_lt g)
                    rw [if_pos g, if_pos (show isG Z n 41 (.inr (s3, t3, [])) = true from g), nx_inr, pt_inr (by omega)]
                    rfl
                  · rw [if_neg g, if_neg (show ¬ isG Z n 41 (.inr (s3, t3, [])) = true from g)]
                    rfl
              · rw [if_neg (show ¬ isG Z n 44 (.inr (s2, t2, [])) = true from g4), show tkG Z n 44 (Sum.inr (s2, t2, l2)) = Sum.inl (1, (s2 : Int)) from if_neg g4, HGs.1]
                exact rch_rf _ _ _ _
        · rw [if_neg g3, if_neg (show ¬ isG Z n 40 (.inr (ns Z n s, nt Z n s, [])) = true from g3)]
          rcases hop with ⟨rfl, rfl⟩ | ⟨hk, rfl, -⟩
          · exact rch_rf _ _ _ _
          · exact rch_rf _ _ _ _
      · rw [if_neg g2]
        by_cases g3 : isW Z n 18 (.inr (s, t, l)) = true ∧ j = 3
        · rw [if_pos g3]
          have hb := ns_bd (Z := Z) (isW_lt g3.1)
          have hA : stA Z n j s t l w o = if o = 6 then .inl (4, (s : Int)) else .inr (0, ns Z n s, nt Z n s, l, 60 :: w, o + 1) := by
            unfold stA
            rw [if_neg (show ¬ isG Z n 40 (.inr (s, t, [])) = true from g1), if_neg (show ¬ (isW Z n 27 (.inr (s, t, [])) = true ∨ isW Z n 28 (.inr (s, t, [])) = true) from g2), if_pos (show isW Z n 18 (.inr (s, t, [])) = true ∧ j = 3 from g3)]
          refine rch_s ?_
          rw [hst, hA]
          rcases hop with ⟨rfl, rfl⟩ | ⟨hk, rfl, HS, HP, HGs, HGp, hno⟩
          · rw [if_pos (by omega)]
            exact rch_rf _ _ _ _
          · rw [if_neg (by omega)]
            show rch Z n j _ (rsl 1 w o (pt B 60 (pp (nx Z n (.inr (s, t, l))))))
            rw [nx_inr]
            refine rch_tr (HP _ _ _ (60 :: w) (o + 1) (by omega) hb.2 (by omega)) ?_
            cases hp : pp (.inr (ns Z n s, nt Z n s, l)) with
            | inl e => exact rch_rf _ _ _ _
            | inr x =>
              obtain ⟨s2, t2, l2⟩ := x
              obtain ⟨F, e1, e2, e3, e4, e5⟩ := HGp.2 _ _ _ hb.2 (by omega) _ _ _ hp
              have hlen : l2.length = l.length + F.length := by rw [e1, List.length_append]
              rw [pt_inr (by omega)]
              refine rch_1 ?_
              show stE s2 t2 l2 (60 :: w) (o + 1) = _
              exact if_pos (e := (.inr (2, s2, t2, l2, 60 :: w, o + 1) : am_Cf)) (show (60 : Int) ≤ 60 by omega)
        · rw [if_neg g3]
          have hA : stA Z n j s t l w o = if fch Z n j (.inr (s, t, [])) ≠ 0 then .inr (1, ns Z n s, nt Z n s, l ++ [fch Z n j (.inr (s, t, []))], w, o) else .inl (1, (s : Int)) := by
            unfold stA
            rw [if_neg (show ¬ isG Z n 40 (.inr (s, t, [])) = true from g1), if_neg (show ¬ (isW Z n 27 (.inr (s, t, [])) = true ∨ isW Z n 28 (.inr (s, t, [])) = true) from g2), if_neg (show ¬ (isW Z n 18 (.inr (s, t, [])) = true ∧ j = 3) from g3)]
            have hk : ¬ kd Z n s t = 2 := fun h => g0 (decide_eq_true h)
            have : tkN Z n 0 9999 (.inr (s, t, [])) = (.inl (1, (s : Int)), 0) := if_neg hk
            rw [this]
          refine rch_1 ?_
          rw [hst, hA]
          by_cases g4 : fch Z n j (.inr (s, t, l)) ≠ 0
          · have hk : kd Z n s t = 1 := by
              by_cases g5 : kd Z n s t = 1
              · exact g5
              · exact absurd (if_neg g5) g4
            have hb := ns_bd (Z := Z) (n := n) (s := s) (kd_lt (show 1 ≤ kd Z n s t by omega))
            rw [if_pos g4, if_pos (show fch Z n j (.inr (s, t, [])) ≠ 0 from g4), pt_inr (by omega), nx_inr]
            rfl
          · rw [if_neg g4, if_neg (show ¬ fch Z n j (.inr (s, t, [])) ≠ 0 from g4)]
            rfl
/-- every part, every sum -/
theorem PaR_gr {Z : Nat → Nat → Int} {n B j : Nat} (hn : n ≤ 1600) (hj : j ≤ 3) : ∀ k, PaR Z n B j k (gr2 Z n B j k).1
  | 0 => PaR_part (nd := 0) hn hj (Or.inl ⟨rfl, rfl⟩)
  | k + 1 => by
    have ih := PaR_gr (Z := Z) (n := n) (B := B) hn hj k
    have hG := (Gd_gr (Z := Z) (n := n) (B := B) hn hj k).1
    have hS := RoR_sum hn hG ih
    exact PaR_part (nd := 3 * k + 5) hn hj (Or.inr ⟨by omega, rfl, hS, ih, (Gd_rSum hn hj k).1, Gd_le hG (by omega), gSum_no hn hG⟩)
theorem rSum_no {Z : Nat → Nat → Int} {n B j : Nat} (hn : n ≤ 1600) (hj : j ≤ 3) (k : Nat) : ∀ s t l, s ≤ n → B + l.length ≤ s → ∀ s' t' l', rSum Z n B j k (.inr (s, t, l)) = .inr (s', t', l') → NoS Z n (.inr (s', t', [])) := gSum_no hn (Gd_gr hn hj k).1
/-- a sum from an empty pile on to its end -/
theorem rSum_all {Z : Nat → Nat → Int} {n B j k o : Nat} (hn : n ≤ 1600) (hj : j ≤ 3) (ho : o + k = 6) {s : Nat} {t : Bool} {l : List Int} (hs : s ≤ n) (hB : B + l.length ≤ s) : rch Z n j (.inr (0, s, t, l, [], o)) (rsl 3 [] o (rSum Z n B j k (.inr (s, t, l)))) := by
  have h := RoR_sum hn (Gd_gr (Z := Z) (n := n) (B := B) hn hj k).1 (PaR_gr hn hj k) s t l [] o ho hs hB (fun c w' e => by cases e)
  refine rch_tr h ?_
  show rch Z n j (stp Z n j (rsl 2 [] o (rSum Z n B j k (.inr (s, t, l))))) _
  cases hp : rSum Z n B j k (.inr (s, t, l)) with
  | inl e => exact rch_rf _ _ _ _
  | inr x =>
    obtain ⟨s2, t2, l2⟩ := x
    have hq := rSum_no hn hj k _ _ _ hs hB _ _ _ hp
    refine rch_rf' ?_
    show stB Z n s2 t2 l2 [] o = _
    unfold stB
    rw [if_neg (fun h => by have : brk [] = -1 := rfl; omega), if_neg hq.1, if_neg hq.2.1, if_neg hq.2.2.1, if_neg hq.2.2.2, if_neg (by have : brk [] = -1 := rfl; omega), if_neg (fun h => h rfl), List.append_nil]
    rfl
