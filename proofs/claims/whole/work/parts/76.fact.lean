/-! The class's reader: what is opened; parts and facts. -/
theorem rC_o {L : Nat} {q : am_Pq} {Z : Nat → Nat → Int} {n B : Nat} {fm : Int} {o : Nat} {M : am_M} (H : rC L q Z n B fm o M) (o' : Nat) : rC L q Z n B fm o' (am_sI M 3 16 (am_i (o' : Int))) := by
  obtain ⟨S, hq, hn, hT, hw, e6, eF, eo, hB, hz⟩ := H
  exact ⟨S.sI _ _ _, hq, hn, fun k hk => by rw [am_I_ne1 (by decide)]; exact hT k hk, hw, by rw [am_I_ne2 (by decide)]; exact e6, by rw [am_I_ne2 (by decide)]; exact eF, am_I_same _ _ _ _, hB, hz⟩
theorem rT_16 {q : am_Pq} {Z : Nat → Nat → Int} {n B : Nat} {M : am_M} {st : am_PS} (hq : q.2.1 = 29 ∨ q.2.1 = 28 ∨ q.2.1 = 62) (H : rT q Z n B M st) (k : Nat) (hk : k = 13 ∨ k = 16 ∨ k = 3) (v : Int32) : rT q Z n B (am_sI M 3 k v) st := by
  have f : ∀ j, j ≠ k → am_I (am_sI M 3 k v) 3 j = am_I M 3 j := fun j hj => am_I_ne2 hj
  match st, H with
  | .inl e, ⟨h1, h2, h3, h4, c, h5, h6, h7⟩ => exact ⟨h1, (f _ (by omega)).trans h2, (f _ (by omega)).trans h3, (f _ (by omega)).trans h4, c, h5, h6, (f _ (by omega)).trans h7⟩
  | .inr (s, t, l), ⟨h1, h2, h3, ⟨h4, h5, h6, h7⟩, h8, h9, h10⟩ => exact ⟨h1, (f _ (by omega)).trans h2, (f _ (by omega)).trans h3, ⟨(f _ (by omega)).trans h4, (f _ (by omega)).trans h5, (f _ (by omega)).trans h6, fun hk => ⟨(h7 hk).1, (f _ (by omega)).trans (h7 hk).2⟩⟩, h8, (f _ (by omega)).trans h9, fun i hi => by rw [am_I_ne1 (by omega)]; exact h10 i hi⟩
theorem rS_o {L : Nat} {q : am_Pq} {Z : Nat → Nat → Int} {n B : Nat} {fm : Int} {o : Nat} {M : am_M} {st : am_PS} (H : rS L q Z n B fm o M st) (o' : Nat) : rS L q Z n B fm o' (am_sI M 3 16 (am_i (o' : Int))) st := ⟨rC_o H.1 o', rT_16 H.1.2.1 H.2 16 (by omega) _⟩
/-- what is opened: 1 where it may be -/
def oks (o : Nat) : am_PS → Int
  | .inl _ => 0
  | .inr _ => if o < 6 then 1 else 0
theorem c_opn {L : Nat} {q : am_Pq} {Z : Nat → Nat → Int} {n B : Nat} {fm : Int} {o : Nat} {M : am_M} {st : am_PS} (H : rS L q Z n B fm o M st) (ho : o ≤ 6) (hk : tok3 Z n st) (d : Nat) : ∃ M', am_cl 117 (d + 2) [.ref 3] M = some (some (.int (am_i (oks o st))), M') ∧ (oks o st = 0 → rS L q Z n B fm o M' (fl 4 st)) ∧ (oks o st = 1 → rS L q Z n B fm (o + 1) M' (nx Z n st)) ∧ fr (pRd q B) M M' := by
  have S := H.1.1
  have eo := H.1.2.2.2.2.2.2.2.1
  by_cases g : o < 6
  · match st, H, hk with
    | .inl e, H, hk =>
      refine ⟨M, ?_, fun _ => H, fun h => absurd h (by show ¬ (0 : Int) = 1; decide), fr_rfl _ _⟩
      have e0 := H.2.2.1
      have he := H.2.1
      rw [t117, am_ob_p (kk_3 S), eo, am_br_lt (by omega) (by omega) (by omega) (by omega), if_pos (by omega), t117_18, am_ob_p (kk_3 S), e0, am_br_eq (by omega) (by omega) (by omega) (by omega), if_neg (by omega), am_tr_0]
      rfl
    | .inr (s, t, l), H, hk =>
      have e0 := H.2.2.1
      have H2 := rS_o H (o + 1)
      obtain ⟨M', r, H', f'⟩ := c_nx H2 hk d
      have ho1 : oks o (.inr (s, t, l)) = 1 := if_pos g
      refine ⟨M', ?_, fun h => absurd (ho1.symm.trans h) (by decide), fun _ => H', fr_tr (fr_sI (Or.inl ⟨rfl, by omega⟩)) f'⟩
      rw [t117, am_ob_p (kk_3 S), eo, am_br_lt (by omega) (by omega) (by omega) (by omega), if_pos (by omega), t117_18, am_ob_p (kk_3 S), e0, am_br_eq (by omega) (by omega) (by omega) (by omega), if_pos rfl, am_ob_p (kk_3 S), am_ob_p (kk_3 S), eo, am_i_add, am_lt, show ((o : Int) + 1) = ((o + 1 : Nat) : Int) by omega, am_ob_p (kk_3 H2.1.1), r, am_bV_p, am_tr_1, ho1]
  · obtain ⟨M', r, H', f'⟩ := c_fl H (c := 4) (by omega) (d + 1)
    have ho1 : oks o st = 0 := by
      match st with
      | .inl e => rfl
      | .inr x => exact if_neg g
    refine ⟨M', ?_, fun _ => H', fun h => absurd (ho1.symm.trans h) (by decide), f'⟩
    have e0 : ∃ f : Int, (1 ≤ f ∧ f ≤ 5) ∧ am_I M' 3 0 = am_i f := by
      match st, H' with
      | .inl e, H' => exact ⟨e.1, H'.2.1, H'.2.2.1⟩
      | .inr (s, t, l), H' => exact ⟨4, by omega, H'.2.2.1⟩
    obtain ⟨f, hf, e0⟩ := e0
    rw [t117, am_ob_p (kk_3 S), eo, am_br_lt (by omega) (by omega) (by omega) (by omega), if_neg (by omega), am_ob_p (kk_3 S), am_ob_p (kk_3 S), r, am_bV_p, t117_18, am_ob_p (kk_3 H'.1.1), e0, am_br_eq (by omega) (by omega) (by omega) (by omega), if_neg (by omega), am_tr_0, ho1]
/-- what is opened, done and closed: op at o -/
def opA (Z : Nat → Nat → Int) (n o : Nat) (p : am_PS → am_PS) (st : am_PS) : am_PS := if o < 6 then op1 Z n p st else op0 p st
theorem opA_0 {Z : Nat → Nat → Int} {n o : Nat} {p : am_PS → am_PS} {st : am_PS} (ho : o ≤ 6) (h : oks o st = 0) : opA Z n o p st = fl 4 st := by
  unfold opA
  match st, h with
  | .inl e, h => by_cases g : o < 6; · rw [if_pos g]; rfl
                 · rw [if_neg g]; rfl
  | .inr x, h =>
    by_cases g : o < 6
    · exact absurd ((if_pos g).symm.trans h) (by decide)
    · rw [if_neg g]; rfl
theorem opA_1 {Z : Nat → Nat → Int} {n o : Nat} {p : am_PS → am_PS} {st : am_PS} (h : oks o st = 1) : opA Z n o p st = p (nx Z n st) := by
  unfold opA
  match st, h with
  | .inl e, h => exact absurd h (by show ¬ (0 : Int) = 1; decide)
  | .inr x, h =>
    by_cases g : o < 6
    · rw [if_pos g]; rfl
    · exact absurd ((if_neg g).symm.trans h) (by decide)
theorem oks_01 (o : Nat) (st : am_PS) : oks o st = 0 ∨ oks o st = 1 := by
  match st with
  | .inl e => exact Or.inl rfl
  | .inr x => show (if o < 6 then (1 : Int) else 0) = 0 ∨ (if o < 6 then (1 : Int) else 0) = 1; split <;> omega
theorem am_si_same (k : Int) (x : Int32) (t : am_Q) : am_si k x t t = t := by unfold am_si; exact ite_self t
theorem tkN_lo {Z : Nat → Nat → Int} {n : Nat} {lo hi : Int} {st : am_PS} : lo ≤ (tkN Z n lo hi st).2 := by
  match st with
  | .inl e => exact Int.le_refl lo
  | .inr (s, t, l) =>
    have hF : tkN Z n lo hi (.inr (s, t, l)) = (if kd Z n s t = 2 then (if te Z n s - s ≤ 4 then (if lo ≤ nv Z s (te Z n s - s) ∧ nv Z s (te Z n s - s) ≤ hi then (nx Z n (.inr (s, t, l)), nv Z s (te Z n s - s)) else (.inl (2, (s : Int)), lo)) else (.inl (1, (s : Int) + 4), lo)) else (.inl (1, (s : Int)), lo)) := rfl
    rw [hF]
    split
    · split
      · split
        · rename_i h1; exact h1.1
        · exact Int.le_refl lo
      · exact Int.le_refl lo
    · exact Int.le_refl lo
theorem c_isFc {L : Nat} {q : am_Pq} {Z : Nat → Nat → Int} {n B : Nat} {fm : Int} {j o : Nat} (hj : jf j fm) {M : am_M} {s : Nat} {t : Bool} {l : List Int} (H : rS L q Z n B fm o M (.inr (s, t, l))) (hk : kd Z n s t = 1) (d : Nat) : am_cl 125 d [.ref 3] M = some (some (.int (am_i (if fcd j (wno Z s (te Z n s)) ≠ 0 then 1 else 0))), M) := by
  have S := H.1.1
  have eF := H.1.2.2.2.2.2.2.1
  have e12 := (H.2.2.2.2.1.2.2.2 hk).2
  obtain ⟨w, hw⟩ : ∃ w, w = wno Z s (te Z n s) := ⟨_, rfl⟩
  have hwb := wno_bd Z s (te Z n s)
  rw [← hw] at e12 hwb ⊢
  clear hw
  have hfm : 9 ≤ fm ∧ fm < 35 := by rcases hj with h | h | h | h <;> omega
  have hc : w = 2 ∨ w = 16 ∨ w = 17 ∨ w = 18 ∨ w = 19 ∨ w = 20 ∨ w = 21 ∨ w = 22 ∨ (w ≠ 2 ∧ w ≠ 16 ∧ w ≠ 17 ∧ w ≠ 18 ∧ w ≠ 19 ∧ w ≠ 20 ∧ w ≠ 21 ∧ w ≠ 22) := by omega
  rw [t125, am_ob_p (kk_3 S), e12]
  simp only [am_ob_p (kk_3 S), eF]
  rw [am_br_eq (show -2147483648 ≤ fm by omega) (by omega) (show -2147483648 ≤ (11 : Int) by omega) (by omega), am_br_lt (show -2147483648 ≤ fm by omega) (by omega) (show -2147483648 ≤ (29 : Int) by omega) (by omega), am_br_eq (show -2147483648 ≤ fm by omega) (by omega) (show -2147483648 ≤ (9 : Int) by omega) (by omega), am_br_ne (show -2147483648 ≤ fm by omega) (by omega) (show -2147483648 ≤ (10 : Int) by omega) (by omega), am_br_ne (show -2147483648 ≤ fm by omega) (by omega) (show -2147483648 ≤ (9 : Int) by omega) (by omega)]
  simp only [am_tr_0, am_tr_1]
  have hj2 : (j = 0 ∧ fm = 9) ∨ (j = 1 ∧ fm = 10) ∨ (j = 2 ∧ fm = 11) ∨ (j = 3 ∧ 29 ≤ fm ∧ fm < 35) := hj
  rcases hc with h | h | h | h | h | h | h | h | ⟨h1, h2, h3, h4, h5, h6, h7, h8⟩
  all_goals
    simp (disch := omega) only [am_si_same, am_si_t, am_si_f]
    unfold fcd
  all_goals
    rcases hj2 with ⟨g1, g2⟩ | ⟨g1, g2⟩ | ⟨g1, g2⟩ | ⟨g1, g2, g3⟩
  all_goals
    first
      | (have g4 : ¬ fm = 9 := by omega
         have g5 : ¬ fm = 10 := by omega
         have g6 : ¬ fm = 11 := by omega
         have g7 : ¬ fm < 29 := by omega
         simp [*])
      | simp [*]
theorem fcd_cc {j : Nat} (hj : j ≤ 3) {w : Int} (h : fcd j w ≠ 0) : cc (fcd j w) = 10000 + w := by
  unfold fcd at h ⊢
  repeat' split at h
  all_goals first
    | exact absurd rfl h
    | skip
  all_goals simp_all [cc, wd]
theorem if_b {b : Bool} {α : Type} {x y : α} : (if b = true then x else y) = if b then x else y := rfl
theorem c_part {L : Nat} {q : am_Pq} {Z : Nat → Nat → Int} {n B : Nat} {fm : Int} {j o : Nat} (hj : jf j fm) (ho : o ≤ 6) {ps pp : am_PS → am_PS} {D : Nat} (hD : 3 ≤ D) (HS : o < 6 → Cd L q Z n B fm 121 (o + 1) D ps) (HP : o < 6 → Cd L q Z n B fm 123 (o + 1) D pp) : Cd L q Z n B fm 123 o (D + 2) (gPart Z n B j (opA Z n o) ps pp) := by
  intro M st H d hd
  obtain ⟨d, rfl⟩ : ∃ d', d = d' + 1 := ⟨d - 1, by omega⟩
  obtain ⟨d, rfl⟩ : ∃ d', d = d' + 1 := ⟨d - 1, by omega⟩
  obtain ⟨d, rfl⟩ : ∃ d', d = d' + 1 := ⟨d - 1, by omega⟩
  obtain ⟨d, rfl⟩ : ∃ d', d = d' + 1 := ⟨d - 1, by omega⟩
  have S := H.1.1
  have eF := H.1.2.2.2.2.2.2.1
  have hfm : 9 ≤ fm ∧ fm < 35 := by rcases hj with h | h | h | h <;> omega
  have e8 : ∃ k : Int, am_I M 3 8 = am_i k ∧ 0 ≤ k ∧ k ≤ 4 ∧ (isN Z n st = true ↔ k = 2) := by
    match st, H with
    | .inl e, H => exact ⟨4, H.2.2.2.2.1, by omega, by omega, ⟨fun h => absurd h (by show ¬ false = true; decide), fun h => absurd h (by decide)⟩⟩
    | .inr (s, t, l), H =>
      have := kd_bd Z n s t
      exact ⟨kd Z n s t, H.2.2.2.2.1.1, this.1, this.2, ⟨fun h => of_decide_eq_true h, fun h => decide_eq_true h⟩⟩
  obtain ⟨k8, e8, hk0, hk4, hk2⟩ := e8
  have e1 := c_isG H (c := 40) (by omega) (d + 1 + 1 + 1)
  have e2 := c_isW H (c := 27) (by omega) (d + 1 + 1 + 1)
  have e3 := c_isW H (c := 28) (by omega) (d + 1 + 1 + 1)
  have e4 := c_isW H (c := 18) (by omega) (d + 1 + 1 + 1)
  unfold gPart
  rw [t123, am_ob_p (kk_3 S), e8, am_br_ne (by omega) (by omega) (by omega) (by omega)]
  by_cases g0 : isN Z n st = true
  · rw [if_pos g0, if_pos (hk2.mp g0)]
    obtain ⟨M1, r1, H1, f1⟩ := c_tkN H (lo := 0) (hi := 9999) (by omega) (by omega) (d + 1)
    have hv : isE (tkN Z n 0 9999 st).1 = false → (tkN Z n 0 9999 st).2 = cc (1000 + (tkN Z n 0 9999 st).2) := by
      intro h
      have hb : 0 ≤ (tkN Z n 0 9999 st).2 := tkN_lo
      unfold cc
      rw [if_pos (by omega)]
      omega
    obtain ⟨M2, r2, H2, f2⟩ := c_pt H1 (c := 1000 + (tkN Z n 0 9999 st).2) (x := (tkN Z n 0 9999 st).2) hv (d + 1 + 1 + 1)
    refine ⟨M2, ?_, H2, fr_tr f1 f2⟩
    rw [am_ob_p (kk_3 S), r1, am_bI_p, am_ob_p (kk_3 H1.1.1), r2, am_bV_p]
  · rw [if_neg g0, if_neg (fun h => g0 (hk2.mpr h))]
    rw [am_ob_p (kk_3 S), e1, am_bI_p]
    by_cases g1 : isG Z n 40 st = true
    · rw [if_pos g1, if_pos g1, am_br_eq (by omega) (by omega) (by omega) (by omega), if_neg (by omega), am_ob_p (kk_3 S)]
      obtain ⟨M1, r1, h10, h11, f1⟩ := c_opn H ho (tok3_G g1) (d + 1)
      rcases oks_01 o st with g | g
      · rw [opA_0 ho g]
        have H1 := h10 g
        refine ⟨M1, ?_, H1, f1⟩
        rw [r1, am_bI_p, g, am_br_eq (by omega) (by omega) (by omega) (by omega), if_pos rfl]
      · rw [opA_1 g]
        have H1 := h11 g
        have ho6 : o < 6 := by
          match st, g with
          | .inr x, g =>
            by_cases h : o < 6
            · exact h
            · exact absurd ((if_neg h).symm.trans g) (by decide)
        obtain ⟨M2, r2, H2, f2⟩ := HS ho6 M1 _ H1 (d + 1 + 1 + 1) (by omega)
        obtain ⟨M3, r3, H3, f3⟩ := c_tkG H2 (c := 41) (by omega) (d + 1)
        have H4 := rS_o H3 o
        refine ⟨_, ?_, H4, fr_tr f1 (fr_tr f2 (fr_tr f3 (fr_sI (Or.inl ⟨rfl, by omega⟩))))⟩
        rw [r1, am_bI_p, g, am_br_eq (by omega) (by omega) (by omega) (by omega), if_neg (by omega), am_ob_p (kk_3 H1.1.1), r2, am_bV_p, am_ob_p (kk_3 H2.1.1), r3, am_bV_p, am_ob_p (kk_3 H3.1.1), am_ob_p (kk_3 H3.1.1), H3.1.2.2.2.2.2.2.2.1, am_i_sub, am_lt, show ((o + 1 : Nat) : Int) - 1 = (o : Int) by omega]
    · rw [if_neg g1, if_neg g1, am_br_eq (by omega) (by omega) (by omega) (by omega), if_pos rfl, am_ob_p (kk_3 S), e2, am_bI_p]
      -- min, max
      have k80 : (isW Z n 27 st = true ∨ isW Z n 28 st = true) → ∃ M', am_ev 123 (d + 1 + 1 + 1 + 1) 80 [.ref 3] [] M = some (none, M') ∧ rS L q Z n B fm o M' (opA Z n o (fun x => pt B (if isW Z n 27 st = true then 5 else 6) (tkG Z n 41 (ps (tkG Z n 44 (ps x))))) (if isG Z n 40 (nx Z n st) = true then nx Z n st else fl 1 (nx Z n st))) ∧ fr (pRd q B) M M' := by
        intro hW
        have core : ∀ c : Int, ∃ M', am_cl 124 (d + 1 + 1 + 1) [.ref 3, .int (am_i (cc c))] M = some (none, M') ∧ rS L q Z n B fm o M' (opA Z n o (fun x => pt B c (tkG Z n 41 (ps (tkG Z n 44 (ps x))))) (if isG Z n 40 (nx Z n st) = true then nx Z n st else fl 1 (nx Z n st))) ∧ fr (pRd q B) M M' := by
          intro c
          obtain ⟨M1, r1, H1, f1⟩ := c_nx H (hW.elim tok3_W tok3_W) (d + 1)
          have e5 := c_isG H1 (c := 40) (by omega) (d + 1 + 1)
          -- behind the bracket
          have k22 : ∀ (M2 : am_M) (st2 : am_PS), rS L q Z n B fm o M2 st2 → tok3 Z n st2 → ∃ M', am_ev 124 (d + 1 + 1 + 1) 22 [.ref 3, .int (am_i (cc c))] [] M2 = some (none, M') ∧ rS L q Z n B fm o M' (opA Z n o (fun x => pt B c (tkG Z n 41 (ps (tkG Z n 44 (ps x))))) st2) ∧ fr (pRd q B) M2 M' := by
            intro M2 st2 H2 hk
            obtain ⟨M3, r3, h30, h31, f3⟩ := c_opn H2 ho hk d
            rcases oks_01 o st2 with g | g
            · rw [opA_0 ho g]
              refine ⟨M3, ?_, h30 g, f3⟩
              rw [t124_22, am_ob_p (kk_3 H2.1.1), r3, am_bI_p, g, am_br_eq (by omega) (by omega) (by omega) (by omega), if_pos rfl]
            · rw [opA_1 g]
              have H3 := h31 g
              have ho6 : o < 6 := by
                match st2, g with
                | .inr x, g =>
                  by_cases h : o < 6
                  · exact h
                  · exact absurd ((if_neg h).symm.trans g) (by decide)
              obtain ⟨M4, r4, H4, f4⟩ := HS ho6 M3 _ H3 (d + 1 + 1) (by omega)
              obtain ⟨M5, r5, H5, f5⟩ := c_tkG H4 (c := 44) (by omega) d
              obtain ⟨M6, r6, H6, f6⟩ := HS ho6 M5 _ H5 (d + 1 + 1) (by omega)
              obtain ⟨M7, r7, H7, f7⟩ := c_tkG H6 (c := 41) (by omega) d
              have H8 := rS_o H7 o
              obtain ⟨M9, r9, H9, f9⟩ := c_pt H8 (c := c) (x := cc c) (fun _ => rfl) (d + 1 + 1)
              refine ⟨M9, ?_, H9, fr_tr f3 (fr_tr f4 (fr_tr f5 (fr_tr f6 (fr_tr f7 (fr_tr (fr_sI (Or.inl ⟨rfl, by omega⟩)) f9)))))⟩
              rw [t124_22, am_ob_p (kk_3 H2.1.1), r3, am_bI_p, g, am_br_eq (by omega) (by omega) (by omega) (by omega), if_neg (by omega), am_ob_p (kk_3 H3.1.1), r4, am_bV_p, am_ob_p (kk_3 H4.1.1), r5, am_bV_p, am_ob_p (kk_3 H5.1.1), r6, am_bV_p, am_ob_p (kk_3 H6.1.1), r7, am_bV_p, am_ob_p (kk_3 H7.1.1), am_ob_p (kk_3 H7.1.1), H7.1.2.2.2.2.2.2.2.1, am_i_sub, am_lt, show ((o + 1 : Nat) : Int) - 1 = (o : Int) by omega, am_ob_p (kk_3 H8.1.1), r9, am_bV_p]
          by_cases g5 : isG Z n 40 (nx Z n st) = true
          · obtain ⟨M2, r2, H2, f2⟩ := k22 M1 _ H1 (tok3_G g5)
            rw [if_pos g5]
            refine ⟨M2, ?_, H2, fr_tr f1 f2⟩
            rw [t124, am_ob_p (kk_3 S), r1, am_bV_p, am_ob_p (kk_3 H1.1.1), e5, am_bI_p, if_pos g5, am_br_ne (by omega) (by omega) (by omega) (by omega), if_neg (by omega)]
            exact r2
          · obtain ⟨M2, r2, H2, f2⟩ := c_fl H1 (c := 1) (by omega) (d + 1 + 1)
            have hk : tok3 Z n (fl 1 (nx Z n st)) := by
              match nx Z n st with
              | .inl e => exact trivial
              | .inr (s, t, l) => exact trivial
            obtain ⟨M3, r3, H3, f3⟩ := k22 M2 _ H2 hk
            rw [if_neg g5]
            refine ⟨M3, ?_, H3, fr_tr f1 (fr_tr f2 f3)⟩
            rw [t124, am_ob_p (kk_3 S), r1, am_bV_p, am_ob_p (kk_3 H1.1.1), e5, am_bI_p, if_neg g5, am_br_ne (by omega) (by omega) (by omega) (by omega), if_pos rfl, am_ob_p (kk_3 H1.1.1), am_ob_p (kk_3 H1.1.1), r2, am_bV_p]
            exact r3
        rw [t123_80, am_ob_p (kk_3 S), e2, am_bI_p]
        by_cases g2 : isW Z n 27 st = true
        · obtain ⟨M1, r1, H1, f1⟩ := core 5
          simp only [if_pos g2]
          refine ⟨M1, ?_, H1, f1⟩
          rw [am_br_eq (by omega) (by omega) (by omega) (by omega), if_neg (by omega), am_ob_p (kk_3 S)]
          exact (congrArg (fun y => am_bV y _) r1)
        · obtain ⟨M1, r1, H1, f1⟩ := core 6
          simp only [if_neg g2]
          refine ⟨M1, ?_, H1, f1⟩
          rw [am_br_eq (by omega) (by omega) (by omega) (by omega), if_pos rfl, am_ob_p (kk_3 S)]
          exact (congrArg (fun y => am_bV y _) r1)
      by_cases g2 : isW Z n 27 st = true
      · rw [if_pos g2, if_pos (Or.inl g2), am_br_ne (by omega) (by omega) (by omega) (by omega), if_neg (by omega)]
        exact k80 (Or.inl g2)
      · rw [if_neg g2, am_br_ne (by omega) (by omega) (by omega) (by omega), if_pos rfl, am_ob_p (kk_3 S), e3, am_bI_p]
        by_cases g3 : isW Z n 28 st = true
        · rw [if_pos g3, if_pos (Or.inr g3), am_br_eq (by omega) (by omega) (by omega) (by omega), if_neg (by omega)]
          exact k80 (Or.inr g3)
        · rw [if_neg g3, if_neg (fun h => h.elim g2 g3), am_br_eq (by omega) (by omega) (by omega) (by omega), if_pos rfl, am_ob_p (kk_3 S), e4, am_bI_p]
          -- a word that may be asked
          have k154 : ∃ M', am_ev 123 (d + 1 + 1 + 1 + 1) 154 [.ref 3] [] M = some (none, M') ∧ rS L q Z n B fm o M' (if fch Z n j st ≠ 0 then nx Z n (pt B (fch Z n j st) st) else fl 1 st) ∧ fr (pRd q B) M M' := by
            have hj3 : j ≤ 3 := by rcases hj with h | h | h | h <;> omega
            match st, H, e8, hk2 with
            | .inl e, H, e8, hk2 =>
              obtain ⟨M1, r1, H1, f1⟩ := c_fl H (c := 1) (by omega) (d + 1 + 1 + 1)
              have k4 : k8 = 4 := by
                have := H.2.2.2.2.1
                rw [e8, am_i_eq (by omega) (by omega) (by omega) (by omega)] at this
                exact this
              refine ⟨M1, ?_, H1, f1⟩
              rw [t123_154, am_ob_p (kk_3 S), e8, am_br_ne (by omega) (by omega) (by omega) (by omega), if_neg (by omega), am_ob_p (kk_3 S), am_ob_p (kk_3 S), r1, am_bV_p]
            | .inr (s, t, l), H, e8, hk2 =>
              have e8' := H.2.2.2.2.1.1
              have hkb := kd_bd Z n s t
              have hF : fch Z n j (.inr (s, t, l)) = if kd Z n s t = 1 then fcd j (wno Z s (te Z n s)) else 0 := rfl
              rw [hF, t123_154, am_ob_p (kk_3 S), e8', am_br_ne (by omega) (by omega) (by omega) (by omega)]
              by_cases g6 : kd Z n s t = 1
              · have e7 := c_isFc hj H g6 (d + 1 + 1 + 1)
                rw [if_pos g6, if_pos g6, am_ob_p (kk_3 S), e7, am_bI_p]
                by_cases g7 : fcd j (wno Z s (te Z n s)) ≠ 0
                · obtain ⟨M1, r1, H1, f1⟩ := c_pt H (c := fcd j (wno Z s (te Z n s))) (x := 10000 + wno Z s (te Z n s)) (fun _ => (fcd_cc hj3 g7).symm) (d + 1 + 1 + 1)
                  obtain ⟨M2, r2, H2, f2⟩ := c_nx H1 (show 1 ≤ kd Z n s t ∧ kd Z n s t ≤ 3 by omega) (d + 1 + 1)
                  rw [if_pos g7, if_pos g7]
                  refine ⟨M2, ?_, H2, fr_tr f1 f2⟩
                  rw [am_br_eq (by omega) (by omega) (by omega) (by omega), if_neg (by omega), am_ob_p (kk_3 S), am_ob_p (kk_3 S), (H.2.2.2.2.1.2.2.2 g6).2, am_i_add, r1, am_bV_p, am_ob_p (kk_3 H1.1.1), r2, am_bV_p]
                · obtain ⟨M1, r1, H1, f1⟩ := c_fl H (c := 1) (by omega) (d + 1 + 1 + 1)
                  rw [if_neg g7, if_neg g7]
                  refine ⟨M1, ?_, H1, f1⟩
                  rw [am_br_eq (by omega) (by omega) (by omega) (by omega), if_pos rfl, am_ob_p (kk_3 S), am_ob_p (kk_3 S), r1, am_bV_p]
              · obtain ⟨M1, r1, H1, f1⟩ := c_fl H (c := 1) (by omega) (d + 1 + 1 + 1)
                rw [if_neg g6, if_neg g6, if_neg (fun h => h rfl)]
                refine ⟨M1, ?_, H1, f1⟩
                rw [am_ob_p (kk_3 S), am_ob_p (kk_3 S), r1, am_bV_p]
          by_cases g4 : isW Z n 18 st = true
          · rw [if_pos g4, am_br_eq (by omega) (by omega) (by omega) (by omega), if_neg (by omega), am_ob_p (kk_3 S), eF, am_br_lt (by omega) (by omega) (by omega) (by omega)]
            by_cases g5 : j = 3
            · have hf29 : ¬ fm < 29 := by rcases hj with h | h | h | h <;> omega
              rw [if_pos (show isW Z n 18 st = true ∧ j = 3 from ⟨g4, g5⟩), if_neg hf29, am_ob_p (kk_3 S)]
              obtain ⟨M1, r1, h10, h11, f1⟩ := c_opn H ho (tok3_W g4) (d + 1)
              rcases oks_01 o st with g | g
              · rw [opA_0 ho g]
                refine ⟨M1, ?_, h10 g, f1⟩
                rw [r1, am_bI_p, g, am_br_eq (by omega) (by omega) (by omega) (by omega), if_pos rfl]
              · rw [opA_1 g]
                have H1 := h11 g
                have ho6 : o < 6 := by
                  match st, g with
                  | .inr x, g =>
                    by_cases h : o < 6
                    · exact h
                    · exact absurd ((if_neg h).symm.trans g) (by decide)
                obtain ⟨M2, r2, H2, f2⟩ := HP ho6 M1 _ H1 (d + 1 + 1 + 1) (by omega)
                have H4 := rS_o H2 o
                obtain ⟨M5, r5, H5, f5⟩ := c_pt H4 (c := 60) (x := 20002) (fun _ => rfl) (d + 1 + 1 + 1)
                refine ⟨M5, ?_, H5, fr_tr f1 (fr_tr f2 (fr_tr (fr_sI (Or.inl ⟨rfl, by omega⟩)) f5))⟩
                rw [r1, am_bI_p, g, am_br_eq (by omega) (by omega) (by omega) (by omega), if_neg (by omega), am_ob_p (kk_3 H1.1.1), r2, am_bV_p, am_ob_p (kk_3 H2.1.1), am_ob_p (kk_3 H2.1.1), H2.1.2.2.2.2.2.2.2.1, am_i_sub, am_lt, show ((o + 1 : Nat) : Int) - 1 = (o : Int) by omega, am_ob_p (kk_3 H4.1.1), r5, am_bV_p]
            · have hf29 : fm < 29 := by rcases hj with h | h | h | h <;> omega
              rw [if_neg (show ¬ (isW Z n 18 st = true ∧ j = 3) from fun h => g5 h.2), if_pos hf29]
              exact k154
          · rw [if_neg g4, if_neg (show ¬ (isW Z n 18 st = true ∧ j = 3) from fun h => g4 h.1), am_br_eq (by omega) (by omega) (by omega) (by omega), if_pos rfl]
            exact k154
theorem c_fact {L : Nat} {q : am_Pq} {Z : Nat → Nat → Int} {n B : Nat} {fm : Int} {o : Nat} (ho : o ≤ 6) {sm pf pt' : am_PS → am_PS} {D : Nat} (hD : 3 ≤ D) (HS : Cd L q Z n B fm 121 o D sm) (HF : o < 6 → Cd L q Z n B fm 120 (o + 1) D pf) (HT : o < 6 → Cd L q Z n B fm 118 (o + 1) D pt') : Cd L q Z n B fm 120 o (D + 1) (gFact Z n B (opA Z n o) sm pf pt') := by
  intro M st H d hd
  obtain ⟨d, rfl⟩ : ∃ d', d = d' + 1 := ⟨d - 1, by omega⟩
  obtain ⟨d, rfl⟩ : ∃ d', d = d' + 1 := ⟨d - 1, by omega⟩
  obtain ⟨d, rfl⟩ : ∃ d', d = d' + 1 := ⟨d - 1, by omega⟩
  have S := H.1.1
  have e1 := c_isW H (c := 25) (by omega) (d + 1 + 1)
  have e2 := c_isG H (c := 91) (by omega) (d + 1 + 1)
  have e3 := c_isW H (c := 26) (by omega) (d + 1 + 1)
  have ho6 : ∀ {st : am_PS}, oks o st = 1 → o < 6 := by
    intro st g
    match st, g with
    | .inr x, g =>
      by_cases h : o < 6
      · exact h
      · exact absurd ((if_neg h).symm.trans g) (by decide)
  unfold gFact
  rw [t120, am_ob_p (kk_3 S), e1, am_bI_p]
  by_cases g1 : isW Z n 25 st = true
  · rw [if_pos g1, if_pos g1, am_br_eq (by omega) (by omega) (by omega) (by omega), if_neg (by omega), am_ob_p (kk_3 S)]
    obtain ⟨M1, r1, h10, h11, f1⟩ := c_opn H ho (tok3_W g1) d
    rcases oks_01 o st with g | g
    · rw [opA_0 ho g]
      refine ⟨M1, ?_, h10 g, f1⟩
      rw [r1, am_bI_p, g, am_br_eq (by omega) (by omega) (by omega) (by omega), if_pos rfl]
    · rw [opA_1 g]
      have H1 := h11 g
      obtain ⟨M2, r2, H2, f2⟩ := HF (ho6 g) M1 _ H1 (d + 1 + 1) (by omega)
      have H4 := rS_o H2 o
      obtain ⟨M5, r5, H5, f5⟩ := c_pt H4 (c := 12) (x := 20001) (fun _ => rfl) (d + 1 + 1)
      refine ⟨M5, ?_, H5, fr_tr f1 (fr_tr f2 (fr_tr (fr_sI (Or.inl ⟨rfl, by omega⟩)) f5))⟩
      rw [r1, am_bI_p, g, am_br_eq (by omega) (by omega) (by omega) (by omega), if_neg (by omega), am_ob_p (kk_3 H1.1.1), r2, am_bV_p, am_ob_p (kk_3 H2.1.1), am_ob_p (kk_3 H2.1.1), H2.1.2.2.2.2.2.2.2.1, am_i_sub, am_lt, show ((o + 1 : Nat) : Int) - 1 = (o : Int) by omega, am_ob_p (kk_3 H4.1.1), r5, am_bV_p]
  · rw [if_neg g1, if_neg g1, am_br_eq (by omega) (by omega) (by omega) (by omega), if_pos rfl, am_ob_p (kk_3 S), e2, am_bI_p]
    by_cases g2 : isG Z n 91 st = true
    · rw [if_pos g2, if_pos g2, am_br_eq (by omega) (by omega) (by omega) (by omega), if_neg (by omega), am_ob_p (kk_3 S)]
      obtain ⟨M1, r1, h10, h11, f1⟩ := c_opn H ho (tok3_G g2) d
      rcases oks_01 o st with g | g
      · rw [opA_0 ho g]
        refine ⟨M1, ?_, h10 g, f1⟩
        rw [r1, am_bI_p, g, am_br_eq (by omega) (by omega) (by omega) (by omega), if_pos rfl]
      · rw [opA_1 g]
        have H1 := h11 g
        obtain ⟨M2, r2, H2, f2⟩ := HT (ho6 g) M1 _ H1 (d + 1 + 1) (by omega)
        obtain ⟨M3, r3, H3, f3⟩ := c_tkG H2 (c := 93) (by omega) d
        have H4 := rS_o H3 o
        refine ⟨_, ?_, H4, fr_tr f1 (fr_tr f2 (fr_tr f3 (fr_sI (Or.inl ⟨rfl, by omega⟩))))⟩
        rw [r1, am_bI_p, g, am_br_eq (by omega) (by omega) (by omega) (by omega), if_neg (by omega), am_ob_p (kk_3 H1.1.1), r2, am_bV_p, am_ob_p (kk_3 H2.1.1), r3, am_bV_p, am_ob_p (kk_3 H3.1.1), am_ob_p (kk_3 H3.1.1), H3.1.2.2.2.2.2.2.2.1, am_i_sub, am_lt, show ((o + 1 : Nat) : Int) - 1 = (o : Int) by omega]
    · rw [if_neg g2, if_neg g2, am_br_eq (by omega) (by omega) (by omega) (by omega), if_pos rfl, am_ob_p (kk_3 S), e3, am_bI_p]
      by_cases g3 : isW Z n 26 st = true
      · obtain ⟨M1, r1, H1, f1⟩ := c_nx H (tok3_W g3) (d + 1)
        obtain ⟨M2, r2, H2, f2⟩ := c_pt H1 (c := 13) (x := 1) (fun _ => rfl) (d + 1 + 1)
        rw [if_pos g3, if_pos g3, am_br_eq (by omega) (by omega) (by omega) (by omega), if_neg (by omega), am_ob_p (kk_3 S)]
        refine ⟨M2, ?_, H2, fr_tr f1 f2⟩
        rw [r1, am_bV_p, am_ob_p (kk_3 H1.1.1), r2, am_bV_p]
      · rw [if_neg g3, if_neg g3, am_br_eq (by omega) (by omega) (by omega) (by omega), if_pos rfl, am_ob_p (kk_3 S)]
        obtain ⟨M1, r1, H1, f1⟩ := HS M st H (d + 1 + 1) (by omega)
        have S1 := H1.1.1
        have e4 := c_isG H1 (c := 60) (by omega) (d + 1 + 1)
        have e5 := c_isG H1 (c := 62) (by omega) (d + 1 + 1)
        have e6 := c_isG H1 (c := 61) (by omega) (d + 1 + 1)
        obtain ⟨c, hc⟩ : ∃ c, c = cmpc Z n (sm st) := ⟨_, rfl⟩
        have hcb : c = 7 ∨ c = 8 ∨ c = 9 := by
          rw [hc]
          unfold cmpc
          split
          · exact Or.inl rfl
          · split
            · exact Or.inr (Or.inl rfl)
            · exact Or.inr (Or.inr rfl)
        have hcc : cc c = 20002 + c := by rcases hcb with h | h | h <;> rw [h] <;> rfl
        have h137 : am_ev 120 (d + 1 + 1 + 1) 137 [.ref 3, .null] [.int (am_i (cc c))] M1 = am_bV (am_cl 121 (d + 1 + 1) [.ref 3] M) (fun M7 => am_ob M7 3 4 (am_bI (am_cl 103 (d + 1 + 1) [.ref 3, .int (am_i 60)] M7) (fun c9 M8 => am_br .eq c9 (am_i 0) (am_ob M8 3 4 (am_bI (am_cl 103 (d + 1 + 1) [.ref 3, .int (am_i 62)] M8) (fun c11 M10 => am_br .eq c11 (am_i 0) (am_ev 120 (d + 1 + 1 + 1) 137 [.ref 3, .null] [.int (am_i 20011)] M10) (am_ev 120 (d + 1 + 1 + 1) 137 [.ref 3, .null] [.int (am_i 20010)] M10))) none) (am_ev 120 (d + 1 + 1 + 1) 137 [.ref 3, .null] [.int (am_i 20009)] M8))) none) := by
          rw [r1, am_bV_p, am_ob_p (kk_3 S1), e4, am_bI_p, am_ob_p (kk_3 S1), e5, am_bI_p, hcc, hc]
          unfold cmpc
          by_cases g4 : isG Z n 60 (sm st) = true
          · rw [if_pos g4, if_pos g4, am_br_eq (by omega) (by omega) (by omega) (by omega), if_neg (by omega)]
            rfl
          · rw [if_neg g4, if_neg g4, am_br_eq (by omega) (by omega) (by omega) (by omega), if_pos rfl]
            by_cases g5 : isG Z n 62 (sm st) = true
            · rw [if_pos g5, if_pos g5, am_br_eq (by omega) (by omega) (by omega) (by omega), if_neg (by omega)]
              rfl
            · rw [if_neg g5, if_neg g5, am_br_eq (by omega) (by omega) (by omega) (by omega), if_pos rfl]
              rfl
        rw [← h137]
        -- behind the sign
        have go : ∀ (M2 : am_M) (st2 : am_PS), rS L q Z n B fm o M2 st2 → tok3 Z n st2 → ∃ M', am_bV (am_cl 100 (d + 1 + 1) [.ref 3] M2) (fun M1 => am_ob M1 3 4 (am_bV (am_cl 121 (d + 1 + 1) [.ref 3] M1) (fun M2 => am_ob M2 3 4 (am_bV (am_cl 116 (d + 1 + 1) [.ref 3, .int (am_i (cc c))] M2) (fun M3 => some (none, M3))) none)) none) = some (none, M') ∧ rS L q Z n B fm o M' (pt B c (sm (nx Z n st2))) ∧ fr (pRd q B) M2 M' := by
          intro M2 st2 H2 hk
          obtain ⟨M3, r3, H3, f3⟩ := c_nx H2 hk (d + 1)
          obtain ⟨M4, r4, H4, f4⟩ := HS M3 _ H3 (d + 1 + 1) (by omega)
          obtain ⟨M5, r5, H5, f5⟩ := c_pt H4 (c := c) (x := cc c) (fun _ => rfl) (d + 1 + 1)
          refine ⟨M5, ?_, H5, fr_tr f3 (fr_tr f4 f5)⟩
          rw [r3, am_bV_p, am_ob_p (kk_3 H3.1.1), r4, am_bV_p, am_ob_p (kk_3 H4.1.1), r5, am_bV_p]
        unfold gCmp
        rw [← hc, t120_137, am_br_ne (by omega) (by omega) (by omega) (by omega)]
        by_cases g6 : c = 9
        · rw [if_pos (show cc c = 20011 by omega), am_ob_p (kk_3 S1), e6, am_bI_p]
          by_cases g7 : isG Z n 61 (sm st) = true
          · rw [if_pos g7, am_br_ne (by omega) (by omega) (by omega) (by omega), if_neg (by omega), if_neg (fun h => h.2 g7), am_ob_p (kk_3 S1)]
            obtain ⟨M2, r2, H2, f2⟩ := go M1 _ H1 (tok3_G g7)
            exact ⟨M2, r2, H2, fr_tr f1 f2⟩
          · rw [if_neg g7, am_br_ne (by omega) (by omega) (by omega) (by omega), if_pos rfl, if_pos ⟨g6, g7⟩, am_ob_p (kk_3 S1), am_ob_p (kk_3 S1)]
            obtain ⟨M2, r2, H2, f2⟩ := c_fl H1 (c := 1) (by omega) (d + 1 + 1)
            have hk : tok3 Z n (fl 1 (sm st)) := by
              match sm st with
              | .inl e => exact trivial
              | .inr (s, t, l) => exact trivial
            obtain ⟨M3, r3, H3, f3⟩ := go M2 _ H2 hk
            refine ⟨M3, ?_, H3, fr_tr f1 (fr_tr f2 f3)⟩
            rw [r2, am_bV_p, am_ob_p (kk_3 H2.1.1)]
            exact r3
        · rw [if_neg (show ¬ cc c = 20011 by omega), if_neg (fun h => g6 h.1), am_ob_p (kk_3 S1)]
          have hk : tok3 Z n (sm st) := by
            have hc2 := hc
            unfold cmpc at hc2
            by_cases g4 : isG Z n 60 (sm st) = true
            · exact tok3_G g4
            · rw [if_neg g4] at hc2
              by_cases g5 : isG Z n 62 (sm st) = true
              · exact tok3_G g5
              · rw [if_neg g5] at hc2
                exact absurd hc2 g6
          obtain ⟨M2, r2, H2, f2⟩ := go M1 _ H1 hk
          exact ⟨M2, r2, H2, fr_tr f1 f2⟩
theorem opA_6 (Z : Nat → Nat → Int) (n : Nat) : opA Z n 6 = op0 := by
  funext p st
  unfold opA
  rw [if_neg (by decide)]
theorem opA_lt (Z : Nat → Nat → Int) (n : Nat) {o : Nat} (h : o < 6) : opA Z n o = op1 Z n := by
  funext p st
  unfold opA
  rw [if_pos h]
theorem Cd_le {L : Nat} {q : am_Pq} {Z : Nat → Nat → Int} {n B : Nat} {fm : Int} {mid o D D' : Nat} {F : am_PS → am_PS} (H : Cd L q Z n B fm mid o D F) (h : D ≤ D') : Cd L q Z n B fm mid o D' F := fun M st h1 d hd => H M st h1 d (by omega)
/-- parts and facts, at every depth -/
theorem c_gr {L : Nat} {q : am_Pq} {Z : Nat → Nat → Int} {n B : Nat} {fm : Int} {j : Nat} (hj : jf j fm) : ∀ k o : Nat, o + k = 6 → Cd L q Z n B fm 123 o (8 * k + 5) (gr2 Z n B j k).1 ∧ Cd L q Z n B fm 120 o (8 * k + 8) (gr2 Z n B j k).2
  | 0, o, h => by
    have ho : o = 6 := by omega
    subst ho
    have hP : Cd L q Z n B fm 123 6 5 (gPart Z n B j op0 id id) := by
      rw [← opA_6 Z n]
      exact c_part hj (by omega) (D := 3) (by omega) (fun h => absurd h (by omega)) (fun h => absurd h (by omega))
    refine ⟨hP, ?_⟩
    show Cd L q Z n B fm 120 6 8 (gFact Z n B op0 (gSum Z n B (gPart Z n B j op0 id id)) id id)
    rw [← opA_6 Z n] at hP ⊢
    exact c_fact (by omega) (D := 7) (by omega) (c_sum (by omega) (c_prod (by omega) hP)) (fun h => absurd h (by omega)) (fun h => absurd h (by omega))
  | k + 1, o, h => by
    obtain ⟨h1, h2⟩ := c_gr hj (L := L) (q := q) (Z := Z) (n := n) (B := B) k (o + 1) (by omega)
    have ho : o < 6 := by omega
    have hS : Cd L q Z n B fm 121 (o + 1) (8 * k + 7) (gSum Z n B (gr2 Z n B j k).1) := c_sum (by omega) (c_prod (by omega) h1)
    have hT : Cd L q Z n B fm 118 (o + 1) (8 * k + 10) (gTest Z n B (gr2 Z n B j k).2) := c_test (by omega) (c_both (by omega) h2)
    have hP : Cd L q Z n B fm 123 o (8 * (k + 1) + 5) (gPart Z n B j (op1 Z n) (gSum Z n B (gr2 Z n B j k).1) (gr2 Z n B j k).1) := by
      rw [← opA_lt Z n ho]
      exact Cd_le (c_part hj (by omega) (D := 8 * k + 7) (by omega) (fun _ => hS) (fun _ => Cd_le h1 (by omega))) (by omega)
    refine ⟨hP, ?_⟩
    show Cd L q Z n B fm 120 o (8 * (k + 1) + 8) (gFact Z n B (op1 Z n) (gSum Z n B (gPart Z n B j (op1 Z n) (gSum Z n B (gr2 Z n B j k).1) (gr2 Z n B j k).1)) (gr2 Z n B j k).2 (gTest Z n B (gr2 Z n B j k).2))
    have hS1 := c_sum (by omega) (c_prod (by omega) hP)
    rw [← opA_lt Z n ho] at hS1 ⊢
    exact Cd_le (c_fact (by omega) (D := 8 * k + 15) (by omega) hS1 (fun _ => Cd_le h2 (by omega)) (fun _ => Cd_le hT (by omega))) (by omega)
theorem c_rSum {L : Nat} {q : am_Pq} {Z : Nat → Nat → Int} {n B : Nat} {fm : Int} {j : Nat} (hj : jf j fm) : Cd L q Z n B fm 121 0 60 (rSum Z n B j 6) := Cd_le (c_sum (by omega) (c_prod (by omega) (c_gr hj 6 0 (by omega)).1)) (by omega)
theorem c_rTest {L : Nat} {q : am_Pq} {Z : Nat → Nat → Int} {n B : Nat} {fm : Int} {j : Nat} (hj : jf j fm) : Cd L q Z n B fm 118 0 60 (rTest Z n B j 6) := Cd_le (c_test (by omega) (c_both (by omega) (c_gr hj 6 0 (by omega)).2)) (by omega)
