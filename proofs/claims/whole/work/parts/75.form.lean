/-! Formulas, read apart from any machine: parts, sums, facts, tests, k more may be opened. -/
def op0 (_ : am_PS → am_PS) (st : am_PS) : am_PS := fl 4 st
def op1 (Z : Nat → Nat → Int) (n : Nat) (p : am_PS → am_PS) : am_PS → am_PS
  | .inl e => .inl e
  | .inr x => p (nx Z n (.inr x))
/-- the code of a word that may be asked in j; 0 none -/
def fcd (j : Nat) (w : Int) : Int := if w = 16 then 40 else if w = 17 then (if j ≤ 1 then 41 else 0) else if w = 18 then (if j = 0 then 42 else 0) else if w = 2 then (if 2 ≤ j then 43 else 0) else if w = 19 then (if 2 ≤ j then 44 else 0) else if w = 20 then (if 2 ≤ j then 45 else 0) else if w = 21 then (if j = 3 then 47 else 0) else if w = 22 then (if j = 3 then 46 else 0) else 0
def fch (Z : Nat → Nat → Int) (n j : Nat) : am_PS → Int
  | .inl _ => 0
  | .inr (s, t, _) => if kd Z n s t = 1 then fcd j (wno Z s (te Z n s)) else 0
def gPart (Z : Nat → Nat → Int) (n B j : Nat) (op : (am_PS → am_PS) → am_PS → am_PS) (ps pp : am_PS → am_PS) (st : am_PS) : am_PS :=
  if isN Z n st = true then pt B (1000 + (tkN Z n 0 9999 st).2) (tkN Z n 0 9999 st).1
  else if isG Z n 40 st = true then op (fun x => tkG Z n 41 (ps x)) st
  else if isW Z n 27 st = true ∨ isW Z n 28 st = true then op (fun x => pt B (if isW Z n 27 st = true then 5 else 6) (tkG Z n 41 (ps (tkG Z n 44 (ps x))))) (if isG Z n 40 (nx Z n st) = true then nx Z n st else fl 1 (nx Z n st))
  else if isW Z n 18 st = true ∧ j = 3 then op (fun x => pt B 60 (pp x)) st
  else if fch Z n j st ≠ 0 then nx Z n (pt B (fch Z n j st) st)
  else fl 1 st
def lpG (Z : Nat → Nat → Int) (n B : Nat) (c1 c2 k1 k2 : Int) (p : am_PS → am_PS) : Nat → am_PS → am_PS
  | 0, st => st
  | m + 1, st => if isG Z n c1 st = true then lpG Z n B c1 c2 k1 k2 p m (pt B k1 (p (nx Z n st))) else if isG Z n c2 st = true then lpG Z n B c1 c2 k1 k2 p m (pt B k2 (p (nx Z n st))) else st
def lpW (Z : Nat → Nat → Int) (n B : Nat) (w k : Int) (p : am_PS → am_PS) : Nat → am_PS → am_PS
  | 0, st => st
  | m + 1, st => if isW Z n w st = true then lpW Z n B w k p m (pt B k (p (nx Z n st))) else st
def gProd (Z : Nat → Nat → Int) (n B : Nat) (p : am_PS → am_PS) (st : am_PS) : am_PS := lpG Z n B 42 47 3 4 p (n + 1) (p st)
def gSum (Z : Nat → Nat → Int) (n B : Nat) (p : am_PS → am_PS) (st : am_PS) : am_PS := lpG Z n B 43 45 1 2 (gProd Z n B p) (n + 1) (gProd Z n B p st)
def cmpc (Z : Nat → Nat → Int) (n : Nat) (st : am_PS) : Int := if isG Z n 60 st = true then 7 else if isG Z n 62 st = true then 8 else 9
def gCmp (Z : Nat → Nat → Int) (n B : Nat) (sum : am_PS → am_PS) (st : am_PS) : am_PS := pt B (cmpc Z n st) (sum (nx Z n (if cmpc Z n st = 9 ∧ ¬ isG Z n 61 st = true then fl 1 st else st)))
def gFact (Z : Nat → Nat → Int) (n B : Nat) (op : (am_PS → am_PS) → am_PS → am_PS) (sum pf pt' : am_PS → am_PS) (st : am_PS) : am_PS :=
  if isW Z n 25 st = true then op (fun x => pt B 12 (pf x)) st
  else if isG Z n 91 st = true then op (fun x => tkG Z n 93 (pt' x)) st
  else if isW Z n 26 st = true then pt B 13 (nx Z n st)
  else gCmp Z n B sum (sum st)
def gBoth (Z : Nat → Nat → Int) (n B : Nat) (f : am_PS → am_PS) (st : am_PS) : am_PS := lpW Z n B 24 10 f (n + 1) (f st)
def gTest (Z : Nat → Nat → Int) (n B : Nat) (f : am_PS → am_PS) (st : am_PS) : am_PS := lpW Z n B 23 11 (gBoth Z n B f) (n + 1) (gBoth Z n B f st)
/-- part and fact, where k more may be opened -/
def gr2 (Z : Nat → Nat → Int) (n B j : Nat) : Nat → (am_PS → am_PS) × (am_PS → am_PS)
  | 0 => (gPart Z n B j op0 id id, gFact Z n B op0 (gSum Z n B (gPart Z n B j op0 id id)) id id)
  | k + 1 => (gPart Z n B j (op1 Z n) (gSum Z n B (gr2 Z n B j k).1) (gr2 Z n B j k).1, gFact Z n B (op1 Z n) (gSum Z n B (gPart Z n B j (op1 Z n) (gSum Z n B (gr2 Z n B j k).1) (gr2 Z n B j k).1)) (gr2 Z n B j k).2 (gTest Z n B (gr2 Z n B j k).2))
def rSum (Z : Nat → Nat → Int) (n B j k : Nat) : am_PS → am_PS := gSum Z n B (gr2 Z n B j k).1
def rTest (Z : Nat → Nat → Int) (n B j k : Nat) : am_PS → am_PS := gTest Z n B (gr2 Z n B j k).2
/-! The class reads them so. -/
def jf (j : Nat) (fm : Int) : Prop := (j = 0 ∧ fm = 9) ∨ (j = 1 ∧ fm = 10) ∨ (j = 2 ∧ fm = 11) ∨ (j = 3 ∧ 29 ≤ fm ∧ fm < 35)
/-- a method of the class's reader does F, with o open, where the depth is D at least -/
def Cd (L : Nat) (q : am_Pq) (Z : Nat → Nat → Int) (n B : Nat) (fm : Int) (mid : Nat) (o D : Nat) (F : am_PS → am_PS) : Prop := ∀ (M : am_M) (st : am_PS), rS L q Z n B fm o M st → ∀ d, D ≤ d → ∃ M', am_cl mid d [.ref 3] M = some (none, M') ∧ rS L q Z n B fm o M' (F st) ∧ fr (pRd q B) M M'
theorem c_prod {L : Nat} {q : am_Pq} {Z : Nat → Nat → Int} {n B : Nat} {fm : Int} {o : Nat} {p : am_PS → am_PS} {D : Nat} (hD : 2 ≤ D) (HP : Cd L q Z n B fm 123 o D p) : Cd L q Z n B fm 122 o (D + 1) (fun st => lpG Z n B 42 47 3 4 p (n + 1) (p st)) := by
  intro M st H d hd
  obtain ⟨d, rfl⟩ : ∃ d', d = d' + 1 := ⟨d - 1, by omega⟩
  obtain ⟨d, rfl⟩ : ∃ d', d = d' + 1 := ⟨d - 1, by omega⟩
  have hn : n ≤ 1600 := H.1.2.2.1
  have lp : ∀ m i : Nat, i + m = n + 1 → ∀ (M1 : am_M) (st1 : am_PS) (v : Value), rS L q Z n B fm o M1 st1 → ∃ M', am_ev 122 (d + 1 + 1) 6 [.ref 3, .int (am_i (i : Int)), v] [] M1 = some (none, M') ∧ rS L q Z n B fm o M' (lpG Z n B 42 47 3 4 p m st1) ∧ fr (pRd q B) M1 M' := by
    intro m
    induction m with
    | zero =>
      intro i hi M1 st1 v H1
      refine ⟨M1, ?_, H1, fr_rfl _ _⟩
      rw [t122_6, am_ob_p (kk_3 H1.1.1), H1.1.2.2.2.2.2.1, am_br_gt (by omega) (by omega) (by omega) (by omega), if_pos (by omega)]
    | succ m ih =>
      intro i hi M1 st1 v H1
      have S1 := H1.1.1
      have e1 := c_isG H1 (c := 42) (by omega) (d + 1)
      have e2 := c_isG H1 (c := 47) (by omega) (d + 1)
      have go : ∀ k : Int, (isG Z n 42 st1 = true ∨ isG Z n 47 st1 = true) → ∃ M', am_ev 122 (d + 1 + 1) 50 [.ref 3, .int (am_i (i : Int)), v] [.int (am_i (cc k))] M1 = some (none, M') ∧ rS L q Z n B fm o M' (lpG Z n B 42 47 3 4 p m (pt B k (p (nx Z n st1)))) ∧ fr (pRd q B) M1 M' := by
        intro k hk
        obtain ⟨M2, r2, H2, f2⟩ := c_nx H1 (hk.elim tok3_G tok3_G) d
        obtain ⟨M3, r3, H3, f3⟩ := HP M2 _ H2 (d + 1) (by omega)
        obtain ⟨M4, r4, H4, f4⟩ := c_pt H3 (c := k) (x := cc k) (fun _ => rfl) (d + 1)
        obtain ⟨M5, r5, H5, f5⟩ := ih (i + 1) (by omega) M4 _ (.int (am_i (cc k))) H4
        refine ⟨M5, ?_, H5, fr_tr f2 (fr_tr f3 (fr_tr f4 f5))⟩
        rw [t122_50, am_ob_p (kk_3 S1), r2, am_bV_p, am_ob_p (kk_3 H2.1.1), r3, am_bV_p, am_ob_p (kk_3 H3.1.1), r4, am_bV_p, am_i_add]
        exact r5
      rw [t122_6, am_ob_p (kk_3 S1), H1.1.2.2.2.2.2.1, am_br_gt (by omega) (by omega) (by omega) (by omega), if_neg (by omega)]
      simp only [am_ob_p (kk_3 S1), e1, e2, am_bI_p]
      unfold lpG
      by_cases g1 : isG Z n 42 st1 = true
      · rw [if_pos g1, if_pos g1, am_br_ne (by omega) (by omega) (by omega) (by omega), if_neg (by omega), am_br_eq (by omega) (by omega) (by omega) (by omega), if_neg (by omega)]
        exact go 3 (Or.inl g1)
      · rw [if_neg g1, if_neg g1, am_br_ne (by omega) (by omega) (by omega) (by omega), if_pos rfl]
        by_cases g2 : isG Z n 47 st1 = true
        · rw [if_pos g2, if_pos g2, am_br_eq (by omega) (by omega) (by omega) (by omega), if_neg (by omega), am_br_eq (by omega) (by omega) (by omega) (by omega), if_pos rfl]
          exact go 4 (Or.inr g2)
        · rw [if_neg g2, if_neg g2, am_br_eq (by omega) (by omega) (by omega) (by omega), if_pos rfl]
          exact ⟨M1, rfl, H1, fr_rfl _ _⟩
  obtain ⟨M1, r1, H1, f1⟩ := HP M st H (d + 1) (by omega)
  obtain ⟨M2, r2, H2, f2⟩ := lp (n + 1) 0 (by omega) M1 _ .null H1
  refine ⟨M2, ?_, H2, fr_tr f1 f2⟩
  rw [t122, am_ob_p (kk_3 H.1.1), r1, am_bV_p]
  exact r2
theorem c_sum {L : Nat} {q : am_Pq} {Z : Nat → Nat → Int} {n B : Nat} {fm : Int} {o : Nat} {p : am_PS → am_PS} {D : Nat} (hD : 2 ≤ D) (HP : Cd L q Z n B fm 122 o D p) : Cd L q Z n B fm 121 o (D + 1) (fun st => lpG Z n B 43 45 1 2 p (n + 1) (p st)) := by
  intro M st H d hd
  obtain ⟨d, rfl⟩ : ∃ d', d = d' + 1 := ⟨d - 1, by omega⟩
  obtain ⟨d, rfl⟩ : ∃ d', d = d' + 1 := ⟨d - 1, by omega⟩
  have hn : n ≤ 1600 := H.1.2.2.1
  have lp : ∀ m i : Nat, i + m = n + 1 → ∀ (M1 : am_M) (st1 : am_PS) (v : Value), rS L q Z n B fm o M1 st1 → ∃ M', am_ev 121 (d + 1 + 1) 6 [.ref 3, .int (am_i (i : Int)), v] [] M1 = some (none, M') ∧ rS L q Z n B fm o M' (lpG Z n B 43 45 1 2 p m st1) ∧ fr (pRd q B) M1 M' := by
    intro m
    induction m with
    | zero =>
      intro i hi M1 st1 v H1
      refine ⟨M1, ?_, H1, fr_rfl _ _⟩
      rw [t121_6, am_ob_p (kk_3 H1.1.1), H1.1.2.2.2.2.2.1, am_br_gt (by omega) (by omega) (by omega) (by omega), if_pos (by omega)]
    | succ m ih =>
      intro i hi M1 st1 v H1
      have S1 := H1.1.1
      have e1 := c_isG H1 (c := 43) (by omega) (d + 1)
      have e2 := c_isG H1 (c := 45) (by omega) (d + 1)
      have go : ∀ k : Int, (isG Z n 43 st1 = true ∨ isG Z n 45 st1 = true) → ∃ M', am_ev 121 (d + 1 + 1) 50 [.ref 3, .int (am_i (i : Int)), v] [.int (am_i (cc k))] M1 = some (none, M') ∧ rS L q Z n B fm o M' (lpG Z n B 43 45 1 2 p m (pt B k (p (nx Z n st1)))) ∧ fr (pRd q B) M1 M' := by
        intro k hk
        obtain ⟨M2, r2, H2, f2⟩ := c_nx H1 (hk.elim tok3_G tok3_G) d
        obtain ⟨M3, r3, H3, f3⟩ := HP M2 _ H2 (d + 1) (by omega)
        obtain ⟨M4, r4, H4, f4⟩ := c_pt H3 (c := k) (x := cc k) (fun _ => rfl) (d + 1)
        obtain ⟨M5, r5, H5, f5⟩ := ih (i + 1) (by omega) M4 _ (.int (am_i (cc k))) H4
        refine ⟨M5, ?_, H5, fr_tr f2 (fr_tr f3 (fr_tr f4 f5))⟩
        rw [t121_50, am_ob_p (kk_3 S1), r2, am_bV_p, am_ob_p (kk_3 H2.1.1), r3, am_bV_p, am_ob_p (kk_3 H3.1.1), r4, am_bV_p, am_i_add]
        exact r5
      rw [t121_6, am_ob_p (kk_3 S1), H1.1.2.2.2.2.2.1, am_br_gt (by omega) (by omega) (by omega) (by omega), if_neg (by omega)]
      simp only [am_ob_p (kk_3 S1), e1, e2, am_bI_p]
      unfold lpG
      by_cases g1 : isG Z n 43 st1 = true
      · rw [if_pos g1, if_pos g1, am_br_ne (by omega) (by omega) (by omega) (by omega), if_neg (by omega), am_br_eq (by omega) (by omega) (by omega) (by omega), if_neg (by omega)]
        exact go 1 (Or.inl g1)
      · rw [if_neg g1, if_neg g1, am_br_ne (by omega) (by omega) (by omega) (by omega), if_pos rfl]
        by_cases g2 : isG Z n 45 st1 = true
        · rw [if_pos g2, if_pos g2, am_br_eq (by omega) (by omega) (by omega) (by omega), if_neg (by omega), am_br_eq (by omega) (by omega) (by omega) (by omega), if_pos rfl]
          exact go 2 (Or.inr g2)
        · rw [if_neg g2, if_neg g2, am_br_eq (by omega) (by omega) (by omega) (by omega), if_pos rfl]
          exact ⟨M1, rfl, H1, fr_rfl _ _⟩
  obtain ⟨M1, r1, H1, f1⟩ := HP M st H (d + 1) (by omega)
  obtain ⟨M2, r2, H2, f2⟩ := lp (n + 1) 0 (by omega) M1 _ .null H1
  refine ⟨M2, ?_, H2, fr_tr f1 f2⟩
  rw [t121, am_ob_p (kk_3 H.1.1), r1, am_bV_p]
  exact r2
theorem c_both {L : Nat} {q : am_Pq} {Z : Nat → Nat → Int} {n B : Nat} {fm : Int} {o : Nat} {p : am_PS → am_PS} {D : Nat} (hD : 2 ≤ D) (HP : Cd L q Z n B fm 120 o D p) : Cd L q Z n B fm 119 o (D + 1) (fun st => lpW Z n B 24 10 p (n + 1) (p st)) := by
  intro M st H d hd
  obtain ⟨d, rfl⟩ : ∃ d', d = d' + 1 := ⟨d - 1, by omega⟩
  obtain ⟨d, rfl⟩ : ∃ d', d = d' + 1 := ⟨d - 1, by omega⟩
  have hn : n ≤ 1600 := H.1.2.2.1
  have lp : ∀ m i : Nat, i + m = n + 1 → ∀ (M1 : am_M) (st1 : am_PS), rS L q Z n B fm o M1 st1 → ∃ M', am_ev 119 (d + 1 + 1) 6 [.ref 3, .int (am_i (i : Int))] [] M1 = some (none, M') ∧ rS L q Z n B fm o M' (lpW Z n B 24 10 p m st1) ∧ fr (pRd q B) M1 M' := by
    intro m
    induction m with
    | zero =>
      intro i hi M1 st1 H1
      refine ⟨M1, ?_, H1, fr_rfl _ _⟩
      rw [t119_6, am_ob_p (kk_3 H1.1.1), H1.1.2.2.2.2.2.1, am_br_gt (by omega) (by omega) (by omega) (by omega), if_pos (by omega)]
    | succ m ih =>
      intro i hi M1 st1 H1
      have S1 := H1.1.1
      have e1 := c_isW H1 (c := 24) (by omega) (d + 1)
      rw [t119_6, am_ob_p (kk_3 S1), H1.1.2.2.2.2.2.1, am_br_gt (by omega) (by omega) (by omega) (by omega), if_neg (by omega), am_ob_p (kk_3 S1), e1, am_bI_p]
      unfold lpW
      by_cases g1 : isW Z n 24 st1 = true
      · obtain ⟨M2, r2, H2, f2⟩ := c_nx H1 (tok3_W g1) d
        obtain ⟨M3, r3, H3, f3⟩ := HP M2 _ H2 (d + 1) (by omega)
        obtain ⟨M4, r4, H4, f4⟩ := c_pt H3 (c := 10) (x := cc 10) (fun _ => rfl) (d + 1)
        obtain ⟨M5, r5, H5, f5⟩ := ih (i + 1) (by omega) M4 _ H4
        rw [if_pos g1, if_pos g1]
        refine ⟨M5, ?_, H5, fr_tr f2 (fr_tr f3 (fr_tr f4 f5))⟩
        rw [am_br_eq (by omega) (by omega) (by omega) (by omega), if_neg (by omega), am_ob_p (kk_3 S1), r2, am_bV_p, am_ob_p (kk_3 H2.1.1), r3, am_bV_p, am_ob_p (kk_3 H3.1.1)]
        refine (congrArg (fun y => am_bV y _) r4).trans ?_
        rw [am_bV_p, am_i_add]
        exact r5
      · rw [if_neg g1, if_neg g1, am_br_eq (by omega) (by omega) (by omega) (by omega), if_pos rfl]
        exact ⟨M1, rfl, H1, fr_rfl _ _⟩
  obtain ⟨M1, r1, H1, f1⟩ := HP M st H (d + 1) (by omega)
  obtain ⟨M2, r2, H2, f2⟩ := lp (n + 1) 0 (by omega) M1 _ H1
  refine ⟨M2, ?_, H2, fr_tr f1 f2⟩
  rw [t119, am_ob_p (kk_3 H.1.1), r1, am_bV_p]
  exact r2
theorem c_test {L : Nat} {q : am_Pq} {Z : Nat → Nat → Int} {n B : Nat} {fm : Int} {o : Nat} {p : am_PS → am_PS} {D : Nat} (hD : 2 ≤ D) (HP : Cd L q Z n B fm 119 o D p) : Cd L q Z n B fm 118 o (D + 1) (fun st => lpW Z n B 23 11 p (n + 1) (p st)) := by
  intro M st H d hd
  obtain ⟨d, rfl⟩ : ∃ d', d = d' + 1 := ⟨d - 1, by omega⟩
  obtain ⟨d, rfl⟩ : ∃ d', d = d' + 1 := ⟨d - 1, by omega⟩
  have hn : n ≤ 1600 := H.1.2.2.1
  have lp : ∀ m i : Nat, i + m = n + 1 → ∀ (M1 : am_M) (st1 : am_PS), rS L q Z n B fm o M1 st1 → ∃ M', am_ev 118 (d + 1 + 1) 6 [.ref 3, .int (am_i (i : Int))] [] M1 = some (none, M') ∧ rS L q Z n B fm o M' (lpW Z n B 23 11 p m st1) ∧ fr (pRd q B) M1 M' := by
    intro m
    induction m with
    | zero =>
      intro i hi M1 st1 H1
      refine ⟨M1, ?_, H1, fr_rfl _ _⟩
      rw [t118_6, am_ob_p (kk_3 H1.1.1), H1.1.2.2.2.2.2.1, am_br_gt (by omega) (by omega) (by omega) (by omega), if_pos (by omega)]
    | succ m ih =>
      intro i hi M1 st1 H1
      have S1 := H1.1.1
      have e1 := c_isW H1 (c := 23) (by omega) (d + 1)
      rw [t118_6, am_ob_p (kk_3 S1), H1.1.2.2.2.2.2.1, am_br_gt (by omega) (by omega) (by omega) (by omega), if_neg (by omega), am_ob_p (kk_3 S1), e1, am_bI_p]
      unfold lpW
      by_cases g1 : isW Z n 23 st1 = true
      · obtain ⟨M2, r2, H2, f2⟩ := c_nx H1 (tok3_W g1) d
        obtain ⟨M3, r3, H3, f3⟩ := HP M2 _ H2 (d + 1) (by omega)
        obtain ⟨M4, r4, H4, f4⟩ := c_pt H3 (c := 11) (x := cc 11) (fun _ => rfl) (d + 1)
        obtain ⟨M5, r5, H5, f5⟩ := ih (i + 1) (by omega) M4 _ H4
        rw [if_pos g1, if_pos g1]
        refine ⟨M5, ?_, H5, fr_tr f2 (fr_tr f3 (fr_tr f4 f5))⟩
        rw [am_br_eq (by omega) (by omega) (by omega) (by omega), if_neg (by omega), am_ob_p (kk_3 S1), r2, am_bV_p, am_ob_p (kk_3 H2.1.1), r3, am_bV_p, am_ob_p (kk_3 H3.1.1)]
        refine (congrArg (fun y => am_bV y _) r4).trans ?_
        rw [am_bV_p, am_i_add]
        exact r5
      · rw [if_neg g1, if_neg g1, am_br_eq (by omega) (by omega) (by omega) (by omega), if_pos rfl]
        exact ⟨M1, rfl, H1, fr_rfl _ _⟩
  obtain ⟨M1, r1, H1, f1⟩ := HP M st H (d + 1) (by omega)
  obtain ⟨M2, r2, H2, f2⟩ := lp (n + 1) 0 (by omega) M1 _ H1
  refine ⟨M2, ?_, H2, fr_tr f1 f2⟩
  rw [t118, am_ob_p (kk_3 H.1.1), r1, am_bV_p]
  exact r2
