/-! Tests, the reference's way. -/
def n25 (c : Int) : Bool := decide (c ≠ 25)
def w10 (c : Int) : Bool := decide (c = 10)
def w11 (c : Int) : Bool := decide (c = 10 ∨ c = 11)
/-- a fact without a not ahead of it -/
def qF (Z : Nat → Nat → Int) (n B j k : Nat) (st : am_PS) : am_PS := if isW Z n 26 st = true then pt B 13 (nx Z n st) else gCmp Z n B (rSum Z n B j k) (rSum Z n B j k st)
def uA' (Z : Nat → Nat → Int) (n B j s : Nat) (t : Bool) (l w : List Int) (o : Nat) : am_Cf :=
  if isG Z n 91 (.inr (s, t, [])) = true then (if o = 6 then .inl (4, (s : Int)) else .inr (0, ns Z n s, nt Z n s, l, 25 :: w, o + 1))
  else if isW Z n 25 (.inr (s, t, [])) = true then (if o = 6 then .inl (4, (s : Int)) else .inr (0, ns Z n s, nt Z n s, l, 12 :: w, o + 1))
  else rsl 1 w o (qF Z n B j (6 - o) (.inr (s, t, l)))
def uE (s : Nat) (t : Bool) (l w : List Int) (o : Nat) : am_Cf := match w with
  | [] => .inr (2, s, t, l, [], o)
  | c :: w' => if c = 12 then .inr (1, s, t, l ++ [c], w', o - 1) else .inr (2, s, t, l, c :: w', o)
def uB (Z : Nat → Nat → Int) (n s : Nat) (t : Bool) (l w : List Int) (o : Nat) : am_Cf :=
  if isG Z n 93 (.inr (s, t, [])) = true ∧ 25 ∈ w then .inr (1, ns Z n s, nt Z n s, l ++ w.takeWhile n25, (w.dropWhile n25).tail, o - 1)
  else if isW Z n 24 (.inr (s, t, [])) = true then .inr (0, ns Z n s, nt Z n s, l ++ w.takeWhile w10, 10 :: w.dropWhile w10, o)
  else if isW Z n 23 (.inr (s, t, [])) = true then .inr (0, ns Z n s, nt Z n s, l ++ w.takeWhile w11, 11 :: w.dropWhile w11, o)
  else if 25 ∈ w then .inl (1, (s : Int))
  else .inr (3, s, t, l ++ w, [], o)
def utp (Z : Nat → Nat → Int) (n B j : Nat) : am_Cf → am_Cf
  | .inl e => .inl e
  | .inr (0, s, t, l, w, o) => uA' Z n B j s t l w o
  | .inr (1, s, t, l, w, o) => uE s t l w o
  | .inr (2, s, t, l, w, o) => uB Z n s t l w o
  | .inr (m + 3, x) => .inr (m + 3, x)
def utr (Z : Nat → Nat → Int) (n B j : Nat) : Nat → am_Cf → am_Cf
  | 0, x => x
  | m + 1, x => utr Z n B j m (utp Z n B j x)
def uch (Z : Nat → Nat → Int) (n B j : Nat) (x y : am_Cf) : Prop := ∃ m, utr Z n B j m x = y
theorem uch_rf (Z : Nat → Nat → Int) (n B j : Nat) (x : am_Cf) : uch Z n B j x x := ⟨0, rfl⟩
theorem utr_add (Z : Nat → Nat → Int) (n B j : Nat) : ∀ a b x, utr Z n B j (a + b) x = utr Z n B j b (utr Z n B j a x)
  | 0, b, x => by rw [Nat.zero_add]; rfl
  | a + 1, b, x => by
    rw [show a + 1 + b = (a + b) + 1 by omega]
    exact utr_add Z n B j a b (utp Z n B j x)
theorem uch_tr {Z : Nat → Nat → Int} {n B j : Nat} {x y z : am_Cf} (h : uch Z n B j x y) (h' : uch Z n B j y z) : uch Z n B j x z := by
  obtain ⟨a, ha⟩ := h
  obtain ⟨b, hb⟩ := h'
  exact ⟨a + b, by rw [utr_add, ha, hb]⟩
theorem uch_1 {Z : Nat → Nat → Int} {n B j : Nat} {x y : am_Cf} (h : utp Z n B j x = y) : uch Z n B j x y := ⟨1, h⟩
theorem uch_s {Z : Nat → Nat → Int} {n B j : Nat} {x z : am_Cf} (h : uch Z n B j (utp Z n B j x) z) : uch Z n B j x z := uch_tr (uch_1 rfl) h
theorem uch_rf' {Z : Nat → Nat → Int} {n B j : Nat} {x y : am_Cf} (h : x = y) : uch Z n B j x y := ⟨0, h⟩
def FaR (Z : Nat → Nat → Int) (n B j k : Nat) (p : am_PS → am_PS) : Prop := ∀ s t l w o, o + k = 6 → s ≤ n → B + l.length ≤ s → uch Z n B j (.inr (0, s, t, l, w, o)) (rsl 1 w o (p (.inr (s, t, l))))
def ok10 (w : List Int) : Prop := ∀ c w', w = c :: w' → c ≠ 10 ∧ c ≠ 12
def ok11 (w : List Int) : Prop := ∀ c w', w = c :: w' → c ≠ 10 ∧ c ≠ 11 ∧ c ≠ 12
def RoF (Z : Nat → Nat → Int) (n B j k : Nat) (ok : List Int → Prop) (p : am_PS → am_PS) : Prop := ∀ s t l w o, o + k = 6 → s ≤ n → B + l.length ≤ s → ok w → uch Z n B j (.inr (0, s, t, l, w, o)) (utp Z n B j (rsl 2 w o (p (.inr (s, t, l)))))
theorem mem_app {pe w : List Int} (h : ∀ c ∈ pe, c ≠ 25) : 25 ∈ pe ++ w ↔ 25 ∈ w := by
  rw [List.mem_append]
  constructor
  · intro g
    rcases g with g | g
    · exact absurd rfl (h 25 g)
    · exact g
  · exact Or.inr
/-- a code that waits is told at once, where no word that binds as much follows -/
theorem uB_pe {Z : Nat → Nat → Int} {n s : Nat} {t : Bool} {l pe w : List Int} {o : Nat} (h1 : ¬ isW Z n 24 (.inr (s, t, [])) = true) (hp : ∀ c ∈ pe, c = 10 ∨ c = 11) : uB Z n s t l (pe ++ w) o = uB Z n s t (l ++ pe) w o := by
  have hnb := tk_app (f := n25) (pe := pe) (w := w) (fun c hc => decide_eq_true (by have := hp c hc; omega))
  have hts := tk_app (f := w11) (pe := pe) (w := w) (fun c hc => decide_eq_true (hp c hc))
  unfold uB
  simp only [mem_app (pe := pe) (w := w) (fun c hc => by have := hp c hc; omega)]
  rw [hnb.1, hnb.2, hts.1, hts.2, if_neg h1, if_neg h1]
  simp only [List.append_assoc]
theorem isW_ne {Z : Nat → Nat → Int} {n s : Nat} {t : Bool} {l l' : List Int} {c c' : Int} (h : isW Z n c (.inr (s, t, l)) = true) (hc : c ≠ c') : ¬ isW Z n c' (.inr (s, t, l')) = true := fun h' => hc ((of_decide_eq_true h).2.symm.trans (of_decide_eq_true h').2)
theorem isWG_ne {Z : Nat → Nat → Int} {n s : Nat} {t : Bool} {l l' : List Int} {c c' : Int} (h : isW Z n c (.inr (s, t, l)) = true) : ¬ isG Z n c' (.inr (s, t, l')) = true := fun h' => by
  have h1 := (of_decide_eq_true h).1
  have h2 := (of_decide_eq_true h').1
  omega
/-- rows of facts -/
theorem RoF_row {Z : Nat → Nat → Int} {n B j k : Nat} {p : am_PS → am_PS} {nd : Nat} (hn : n ≤ 1600) (HG : Gd Z n B j p nd true) (HP : FaR Z n B j k p) : RoF Z n B j k ok10 (gBoth Z n B p) := by
  have lp : ∀ m s t l pe w o, o + k = 6 → (pe = [] ∨ pe = [10]) → ok10 w → s ≤ n → B + (l ++ pe).length ≤ s → n < m + s → uch Z n B j (utp Z n B j (.inr (2, s, t, l, pe ++ w, o))) (utp Z n B j (rsl 2 w o (lpW Z n B 24 10 p m (.inr (s, t, l ++ pe))))) := by
    intro m
    induction m with
    | zero => intro s t l pe w o ho hpe hw hs hB hm; omega
    | succ m ih =>
      intro s t l pe w o ho hpe hw hs hB hm
      have hpT : ∀ c ∈ pe, w10 c = true := by
        rcases hpe with rfl | rfl
        · intro c hc; cases hc
        · intro c hc; rw [List.mem_singleton.mp hc]; rfl
      have hwT : ∀ c w', w = c :: w' → w10 c = false := fun c w' h => by
        have := hw c w' h
        exact decide_eq_false (by omega)
      obtain ⟨q1, q2⟩ := tk_ok hpT hwT
      unfold lpW
      by_cases g1 : isW Z n 24 (.inr (s, t, l ++ pe)) = true
      · rw [if_pos g1]
        have hb := ns_bd (Z := Z) (isW_lt g1)
        have hst : utp Z n B j (.inr (2, s, t, l, pe ++ w, o)) = .inr (0, ns Z n s, nt Z n s, l ++ pe, 10 :: w, o) := by
          show uB Z n s t l (pe ++ w) o = _
          unfold uB
          rw [if_neg (fun h => isWG_ne g1 h.1), if_pos (show isW Z n 24 (.inr (s, t, [])) = true from g1), q1, q2]
        rw [hst, nx_inr]
        refine uch_tr (HP _ (nt Z n s) _ (10 :: w) o ho hb.2 (by omega)) ?_
        cases hp : p (.inr (ns Z n s, nt Z n s, l ++ pe)) with
        | inl e =>
          rw [show pt B 10 (Sum.inl e) = Sum.inl e from rfl, lpW_inl]
          exact uch_rf _ _ _ _ _
        | inr x =>
          obtain ⟨s2, t2, l2⟩ := x
          obtain ⟨F, e1, e2, e3, e4, e5⟩ := HG.2 _ _ _ hb.2 (by omega) _ _ _ hp
          have hlen : l2.length = (l ++ pe).length + F.length := by rw [e1, List.length_append]
          rw [pt_inr (by omega)]
          refine uch_s (uch_s ?_)
          have : utp Z n B j (rsl 1 (10 :: w) o (.inr (s2, t2, l2))) = .inr (2, s2, t2, l2, [10] ++ w, o) := by
            show uE s2 t2 l2 (10 :: w) o = _
            exact if_neg (t := (.inr (1, s2, t2, l2 ++ [10], w, o - 1) : am_Cf)) (show ¬ (10 : Int) = 12 by omega)
          rw [this]
          exact ih s2 t2 l2 [10] w o ho (Or.inr rfl) hw e4 (by rw [List.length_append, List.length_singleton]; omega) (by omega)
      · rw [if_neg g1]
        refine uch_rf' ?_
        exact uB_pe g1 (fun c hc => Or.inl (of_decide_eq_true (hpT c hc)))
  intro s t l w o ho hs hB hw
  refine uch_tr (HP s t l w o ho hs hB) ?_
  unfold gBoth
  cases hp : p (.inr (s, t, l)) with
  | inl e =>
    rw [lpW_inl]
    exact uch_rf _ _ _ _ _
  | inr x =>
    obtain ⟨s2, t2, l2⟩ := x
    obtain ⟨F, e1, e2, e3, e4, e5⟩ := HG.2 _ _ _ hs hB _ _ _ hp
    have hlen : l2.length = l.length + F.length := by rw [e1, List.length_append]
    have h1 : utp Z n B j (rsl 1 w o (.inr (s2, t2, l2))) = .inr (2, s2, t2, l2, [] ++ w, o) := by
      show uE s2 t2 l2 w o = _
      unfold uE
      cases w with
      | nil => rfl
      | cons c w' =>
        have := hw c w' rfl
        show (if c = 12 then _ else _) = _
        rw [if_neg (by omega)]
        rfl
    refine uch_s (uch_s ?_)
    rw [h1]
    have := lp (n + 1) s2 t2 l2 [] w o ho (Or.inl rfl) hw e4 (by rw [List.append_nil]; omega) (by omega)
    rw [List.append_nil] at this
    exact this
theorem lpW_keep {Z : Nat → Nat → Int} {n B j : Nat} {c1 k1 : Int} {p : am_PS → am_PS} {nd : Nat} (hn : n ≤ 1600) (HG : Gd Z n B j p nd true) {Q : Nat → Bool → Prop} (HQ : ∀ s t l, s ≤ n → B + l.length ≤ s → ∀ s' t' l', p (.inr (s, t, l)) = .inr (s', t', l') → Q s' t') : ∀ m s t l, Q s t → s ≤ n → B + l.length ≤ s → ∀ s' t' l', lpW Z n B c1 k1 p m (.inr (s, t, l)) = .inr (s', t', l') → Q s' t' := by
  intro m
  induction m with
  | zero =>
    intro s t l hQ hs hB s' t' l' h
    have h : (Sum.inr (s, t, l) : am_PS) = .inr (s', t', l') := h
    rw [Sum.inr.injEq, Prod.mk.injEq, Prod.mk.injEq] at h
    obtain ⟨rfl, rfl, rfl⟩ := h
    exact hQ
  | succ m ih =>
    intro s t l hQ hs hB s' t' l' h
    unfold lpW at h
    by_cases g1 : isW Z n c1 (.inr (s, t, l)) = true
    · rw [if_pos g1] at h
      have hb := ns_bd (Z := Z) (isW_lt g1)
      rw [nx_inr] at h
      cases hp : p (.inr (ns Z n s, nt Z n s, l)) with
      | inl e =>
        rw [hp, show pt B k1 (Sum.inl e) = Sum.inl e from rfl, lpW_inl] at h
        cases h
      | inr x =>
        obtain ⟨s2, t2, l2⟩ := x
        obtain ⟨F, e1, e2, e3, e4, e5⟩ := HG.2 _ _ _ hb.2 (by omega) _ _ _ hp
        have hlen : l2.length = l.length + F.length := by rw [e1, List.length_append]
        rw [hp, pt_inr (by omega)] at h
        exact ih s2 t2 _ (HQ _ _ _ hb.2 (by omega) _ _ _ hp) e4 (by rw [List.length_append, List.length_singleton]; omega) _ _ _ h
    · rw [if_neg g1, Sum.inr.injEq, Prod.mk.injEq, Prod.mk.injEq] at h
      obtain ⟨rfl, rfl, rfl⟩ := h
      exact hQ
theorem gBoth_no {Z : Nat → Nat → Int} {n B j : Nat} {p : am_PS → am_PS} {nd : Nat} (hn : n ≤ 1600) (HG : Gd Z n B j p nd true) : ∀ s t l, s ≤ n → B + l.length ≤ s → ∀ s' t' l', gBoth Z n B p (.inr (s, t, l)) = .inr (s', t', l') → ¬ isW Z n 24 (.inr (s', t', [])) = true := fun s t l hs hB s' t' l' h => (Gd_rowW (c1 := 24) (k1 := 10) hn (by omega) HG).2 s t l hs hB s' t' l' h
theorem gTest_no {Z : Nat → Nat → Int} {n B j : Nat} {p : am_PS → am_PS} {nd : Nat} (hn : n ≤ 1600) (HG : Gd Z n B j p nd true) : ∀ s t l, s ≤ n → B + l.length ≤ s → ∀ s' t' l', gTest Z n B p (.inr (s, t, l)) = .inr (s', t', l') → ¬ isW Z n 24 (.inr (s', t', [])) = true ∧ ¬ isW Z n 23 (.inr (s', t', [])) = true := by
  intro s t l hs hB s' t' l' h
  have HP := (Gd_rowW (c1 := 24) (k1 := 10) hn (by omega) HG).1
  have h2 := (Gd_rowW (c1 := 23) (k1 := 11) hn (by omega) HP).2 s t l hs hB s' t' l' h
  unfold gTest at h
  cases hp : gBoth Z n B p (.inr (s, t, l)) with
  | inl e =>
    rw [hp, lpW_inl] at h
    cases h
  | inr x =>
    obtain ⟨s2, t2, l2⟩ := x
    obtain ⟨F, e1, e2, e3, e4, e5⟩ := HP.2 _ _ _ hs hB _ _ _ hp
    have hlen : l2.length = l.length + F.length := by rw [e1, List.length_append]
    rw [hp] at h
    exact ⟨lpW_keep (Q := fun s' t' => ¬ isW Z n 24 (.inr (s', t', [])) = true) hn HP (gBoth_no hn HG) (n + 1) s2 t2 l2 (gBoth_no hn HG _ _ _ hs hB _ _ _ hp) e4 (by omega) _ _ _ h, h2⟩
theorem RoF_test {Z : Nat → Nat → Int} {n B j k : Nat} {p : am_PS → am_PS} {nd : Nat} (hn : n ≤ 1600) (HG0 : Gd Z n B j p nd true) (HP0 : FaR Z n B j k p) : RoF Z n B j k ok11 (gTest Z n B p) := by
  have HP := RoF_row hn HG0 HP0
  have HG := (Gd_rowW (c1 := 24) (k1 := 10) hn (by omega) HG0).1
  have hno := gBoth_no hn HG0
  have lp : ∀ m s t l pe w o, o + k = 6 → (pe = [] ∨ pe = [11]) → ok11 w → s ≤ n → B + (l ++ pe).length ≤ s → n < m + s → ¬ isW Z n 24 (.inr (s, t, [])) = true → uch Z n B j (utp Z n B j (.inr (2, s, t, l, pe ++ w, o))) (utp Z n B j (rsl 2 w o (lpW Z n B 23 11 (gBoth Z n B p) m (.inr (s, t, l ++ pe))))) := by
    intro m
    induction m with
    | zero => intro s t l pe w o ho hpe hw hs hB hm; omega
    | succ m ih =>
      intro s t l pe w o ho hpe hw hs hB hm hn1
      have hp4 : ∀ c ∈ pe, c = 10 ∨ c = 11 := by
        rcases hpe with rfl | rfl
        · intro c hc; cases hc
        · intro c hc; rw [List.mem_singleton.mp hc]; omega
      have hwT : ∀ c w', w = c :: w' → w11 c = false := fun c w' h => by
        have := hw c w' h
        exact decide_eq_false (by omega)
      obtain ⟨q1, q2⟩ := tk_ok (f := w11) (fun c hc => decide_eq_true (hp4 c hc)) hwT
      unfold lpW
      by_cases g1 : isW Z n 23 (.inr (s, t, l ++ pe)) = true
      · rw [if_pos g1]
        have hb := ns_bd (Z := Z) (isW_lt g1)
        have hst : utp Z n B j (.inr (2, s, t, l, pe ++ w, o)) = .inr (0, ns Z n s, nt Z n s, l ++ pe, 11 :: w, o) := by
          show uB Z n s t l (pe ++ w) o = _
          unfold uB
          rw [if_neg (fun h => isWG_ne g1 h.1), if_neg hn1, if_pos (show isW Z n 23 (.inr (s, t, [])) = true from g1), q1, q2]
        rw [hst, nx_inr]
        refine uch_tr (HP _ (nt Z n s) _ (11 :: w) o ho hb.2 (by omega) (fun c' w' e => by
          rw [List.cons.injEq] at e
          omega)) ?_
        cases hp : gBoth Z n B p (.inr (ns Z n s, nt Z n s, l ++ pe)) with
        | inl e =>
          rw [show pt B 11 (Sum.inl e) = Sum.inl e from rfl, lpW_inl]
          exact uch_rf _ _ _ _ _
        | inr x =>
          obtain ⟨s2, t2, l2⟩ := x
          obtain ⟨F, e1, e2, e3, e4, e5⟩ := HG.2 _ _ _ hb.2 (by omega) _ _ _ hp
          have hlen : l2.length = (l ++ pe).length + F.length := by rw [e1, List.length_append]
          have hq := hno _ _ _ hb.2 (by omega) _ _ _ hp
          rw [pt_inr (by omega)]
          exact ih s2 t2 l2 [11] w o ho (Or.inr rfl) hw e4 (by rw [List.length_append, List.length_singleton]; omega) (by omega) hq
      · rw [if_neg g1]
        exact uch_rf' (uB_pe hn1 hp4)
  intro s t l w o ho hs hB hw
  refine uch_tr (HP s t l w o ho hs hB (fun c w' e => by have := hw c w' e; omega)) ?_
  unfold gTest
  cases hp : gBoth Z n B p (.inr (s, t, l)) with
  | inl e =>
    rw [lpW_inl]
    exact uch_rf _ _ _ _ _
  | inr x =>
    obtain ⟨s2, t2, l2⟩ := x
    obtain ⟨F, e1, e2, e3, e4, e5⟩ := HG.2 _ _ _ hs hB _ _ _ hp
    have hlen : l2.length = l.length + F.length := by rw [e1, List.length_append]
    have hq := hno _ _ _ hs hB _ _ _ hp
    have := lp (n + 1) s2 t2 l2 [] w o ho (Or.inl rfl) hw e4 (by rw [List.append_nil]; omega) (by omega) hq
    rw [List.append_nil] at this
    exact this
theorem FaR_fact {Z : Nat → Nat → Int} {n B j k : Nat} (hn : n ≤ 1600) (hj : j ≤ 3) {op : (am_PS → am_PS) → am_PS → am_PS} {pf pt' : am_PS → am_PS} {nd : Nat} (hop : (k = 0 ∧ op = op0) ∨ (0 < k ∧ op = op1 Z n ∧ FaR Z n B j (k - 1) pf ∧ RoF Z n B j (k - 1) ok11 pt' ∧ Gd Z n B j pf nd true ∧ Gd Z n B j pt' nd true ∧ ∀ s t l, s ≤ n → B + l.length ≤ s → ∀ s' t' l', pt' (.inr (s, t, l)) = .inr (s', t', l') → ¬ isW Z n 24 (.inr (s', t', [])) = true ∧ ¬ isW Z n 23 (.inr (s', t', [])) = true)) : FaR Z n B j k (gFact Z n B op (rSum Z n B j k) pf pt') := by
  intro s t l w o ho hs hB
  have hst : utp Z n B j (.inr (0, s, t, l, w, o)) = uA' Z n B j s t l w o := rfl
  have hk6 : 6 - o = k := by omega
  unfold gFact
  by_cases g2 : isW Z n 25 (.inr (s, t, l)) = true
  · rw [if_pos g2]
    have hb := ns_bd (Z := Z) (isW_lt g2)
    have hA : uA' Z n B j s t l w o = if o = 6 then .inl (4, (s : Int)) else .inr (0, ns Z n s, nt Z n s, l, 12 :: w, o + 1) := by
      unfold uA'
      rw [if_neg (isWG_ne g2), if_pos (show isW Z n 25 (.inr (s, t, [])) = true from g2)]
    refine uch_s ?_
    rw [hst, hA]
    rcases hop with ⟨rfl, rfl⟩ | ⟨hk, rfl, HF, HT, HGf, HGt, hno⟩
    · rw [if_pos (by omega)]
      exact uch_rf _ _ _ _ _
    · rw [if_neg (by omega)]
      show uch Z n B j _ (rsl 1 w o (pt B 12 (pf (nx Z n (.inr (s, t, l))))))
      rw [nx_inr]
      refine uch_tr (HF _ _ _ (12 :: w) (o + 1) (by omega) hb.2 (by omega)) ?_
      cases hp : pf (.inr (ns Z n s, nt Z n s, l)) with
      | inl e => exact uch_rf _ _ _ _ _
      | inr x =>
        obtain ⟨s2, t2, l2⟩ := x
        obtain ⟨F, e1, e2, e3, e4, e5⟩ := HGf.2 _ _ _ hb.2 (by omega) _ _ _ hp
        have hlen : l2.length = l.length + F.length := by rw [e1, List.length_append]
        rw [pt_inr (by omega)]
        refine uch_1 ?_
        show uE s2 t2 l2 (12 :: w) (o + 1) = _
        exact if_pos (e := (.inr (2, s2, t2, l2, 12 :: w, o + 1) : am_Cf)) (show (12 : Int) = 12 from rfl)
  · rw [if_neg g2]
    by_cases g1 : isG Z n 91 (.inr (s, t, l)) = true
    · rw [if_pos g1]
      have hb := ns_bd (Z := Z) (isG_lt g1)
      have hA : uA' Z n B j s t l w o = if o = 6 then .inl (4, (s : Int)) else .inr (0, ns Z n s, nt Z n s, l, 25 :: w, o + 1) := by
        unfold uA'
        rw [if_pos (show isG Z n 91 (.inr (s, t, [])) = true from g1)]
      refine uch_s ?_
      rw [hst, hA]
      rcases hop with ⟨rfl, rfl⟩ | ⟨hk, rfl, HF, HT, HGf, HGt, hno⟩
      · rw [if_pos (by omega)]
        exact uch_rf _ _ _ _ _
      · rw [if_neg (by omega)]
        show uch Z n B j _ (rsl 1 w o (tkG Z n 93 (pt' (nx Z n (.inr (s, t, l))))))
        rw [nx_inr]
        refine uch_tr (HT _ _ _ (25 :: w) (o + 1) (by omega) hb.2 (by omega) (fun c' w' e => by
          rw [List.cons.injEq] at e
          omega)) ?_
        cases hp : pt' (.inr (ns Z n s, nt Z n s, l)) with
        | inl e => exact uch_rf _ _ _ _ _
        | inr x =>
          obtain ⟨s2, t2, l2⟩ := x
          have hq := hno _ _ _ hb.2 (by omega) _ _ _ hp
          have d1 : (25 :: w).takeWhile n25 = [] := by rw [List.takeWhile_cons, show n25 25 = false from rfl]; rfl
          have d2 : (25 :: w).dropWhile n25 = 25 :: w := by rw [List.dropWhile_cons, show n25 25 = false from rfl]; rfl
          refine uch_rf' ?_
          show uB Z n s2 t2 l2 (25 :: w) (o + 1) = _
          unfold uB
          rw [d1, d2]
          unfold tkG
          by_cases g : isG Z n 93 (.inr (s2, t2, l2)) = true
          · rw [if_pos g, if_pos ⟨show isG Z n 93 (.inr (s2, t2, [])) = true from g, List.mem_cons_self⟩, List.append_nil]
            rfl
          · rw [if_neg g, if_neg (fun h => g h.1), if_neg hq.1, if_neg hq.2, if_pos List.mem_cons_self]
            rfl
    · rw [if_neg g1]
      refine uch_1 ?_
      rw [hst]
      unfold uA'
      rw [if_neg (show ¬ isG Z n 91 (.inr (s, t, [])) = true from g1), if_neg (show ¬ isW Z n 25 (.inr (s, t, [])) = true from g2), hk6]
      rfl
theorem FaR_gr {Z : Nat → Nat → Int} {n B j : Nat} (hn : n ≤ 1600) (hj : j ≤ 3) : ∀ k, FaR Z n B j k (gr2 Z n B j k).2
  | 0 => FaR_fact (nd := 0) hn hj (Or.inl ⟨rfl, rfl⟩)
  | k + 1 => by
    have ih := FaR_gr (Z := Z) (n := n) (B := B) hn hj k
    have hG := (Gd_gr (Z := Z) (n := n) (B := B) hn hj k).2
    exact FaR_fact (nd := 3 * k + 8) hn hj (Or.inr ⟨by omega, rfl, ih, RoF_test hn hG ih, Gd_le hG (by omega), Gd_rTest hn hj k, gTest_no hn hG⟩)
theorem rTest_all {Z : Nat → Nat → Int} {n B j k o : Nat} (hn : n ≤ 1600) (hj : j ≤ 3) (ho : o + k = 6) {s : Nat} {t : Bool} {l : List Int} (hs : s ≤ n) (hB : B + l.length ≤ s) : uch Z n B j (.inr (0, s, t, l, [], o)) (rsl 3 [] o (rTest Z n B j k (.inr (s, t, l)))) := by
  have hG := (Gd_gr (Z := Z) (n := n) (B := B) hn hj k).2
  have h := RoF_test hn hG (FaR_gr hn hj k) s t l [] o ho hs hB (fun c w' e => by cases e)
  refine uch_tr h ?_
  show uch Z n B j (utp Z n B j (rsl 2 [] o (rTest Z n B j k (.inr (s, t, l))))) _
  cases hp : rTest Z n B j k (.inr (s, t, l)) with
  | inl e => exact uch_rf _ _ _ _ _
  | inr x =>
    obtain ⟨s2, t2, l2⟩ := x
    have hq := gTest_no hn hG _ _ _ hs hB _ _ _ hp
    refine uch_rf' ?_
    show uB Z n s2 t2 l2 [] o = _
    unfold uB
    rw [if_neg (fun h => by cases h.2), if_neg hq.1, if_neg hq.2, if_neg (fun h => by cases h), List.append_nil]
    rfl
