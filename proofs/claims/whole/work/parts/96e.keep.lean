/-! What a statement keeps. -/
def av (n : Nat) (a b : am_PS) : Prop := ∀ s' t' l', b = .inr (s', t', l') → ∃ s t l, a = .inr (s, t, l) ∧ s < s' ∧ s' ≤ n
theorem av_tr {n : Nat} {a b c : am_PS} (h1 : av n a b) (h2 : av n b c) : av n a c := fun s' t' l' e => by
  obtain ⟨s, t, l, e2, h3, h4⟩ := h2 s' t' l' e
  obtain ⟨s0, t0, l0, e3, h5, h6⟩ := h1 s t l e2
  exact ⟨s0, t0, l0, e3, by omega, h4⟩
theorem av_nx {Z : Nat → Nat → Int} {n s : Nat} {t : Bool} {l : List Int} (h : 1 ≤ kd Z n s t) : av n (.inr (s, t, l)) (nx Z n (.inr (s, t, l))) := fun s' t' l' e => by
  rw [nx_inr] at e
  have e := Sum.inr.inj e
  rw [Prod.mk.injEq, Prod.mk.injEq] at e
  have := ns_bd (Z := Z) (kd_lt h)
  exact ⟨s, t, l, rfl, by omega, by omega⟩
theorem av_tkN {Z : Nat → Nat → Int} {n : Nat} {lo hi : Int} {st : am_PS} : av n st (tkN Z n lo hi st).1 := fun s' t' l' e => by
  obtain ⟨s, t, h⟩ := tkN_e e
  subst h
  obtain ⟨h1, h2, -⟩ := tkN_inr e
  have := ns_bd (Z := Z) (kd_lt (show 1 ≤ kd Z n s t by omega))
  exact ⟨s, t, _, rfl, by omega, by omega⟩
theorem av_tkW {Z : Nat → Nat → Int} {n : Nat} {k : Int} {st : am_PS} : av n st (tkW Z n k st) := fun s' t' l' e => by
  obtain ⟨s, t, h, hw⟩ := tkW_e e
  subst h
  unfold tkW at e
  rw [if_pos hw] at e
  exact av_nx (by have := (of_decide_eq_true hw).1; omega) s' t' l' e
theorem av_tkG {Z : Nat → Nat → Int} {n : Nat} {c : Int} {st : am_PS} : av n st (tkG Z n c st) := fun s' t' l' e => by
  obtain ⟨s, t, h, hw, e1, -⟩ := Gd_sg e
  subst h
  have := ns_bd (Z := Z) (isG_lt hw)
  exact ⟨s, t, _, rfl, by omega, by omega⟩
theorem av_knS {Z : Nat → Nat → Int} {n : Nat} {N : Nat → Nat → List Int} {sort c : Nat} {st : am_PS} : av n st (knS Z n N sort c st).1 := fun s' t' l' e => by
  obtain ⟨-, -, -, s1, t1, l1, h1, h2, h3, -⟩ := knS_inr e
  have := ns_bd (Z := Z) (kd_lt (show 1 ≤ kd Z n s1 t1 by omega))
  exact ⟨s1, t1, l1, h1, by omega, by omega⟩
theorem nwS_inr {Z : Nat → Nat → Int} {n : Nat} {N : Nat → Nat → List Int} {c : Nat → Nat} {full : Prop} [Decidable full] {s : Nat} {t : Bool} (hk : kd Z n s t = 1) {s' : Nat} {t' : Bool} {nm : List Int} (h : nwS Z n N c (st1S Z n full (.inr (s, t, []))) = .inr (s', t', nm)) : ¬ full ∧ s < s' ∧ s' ≤ n ∧ lok nm ∧ 1 ≤ nm.length ∧ nm.length ≤ 6 := by
  unfold st1S at h
  by_cases g : full
  · rw [if_pos g] at h
    cases h
  · rw [if_neg g, nx_inr] at h
    unfold nwS at h
    cases hn : nmS Z n (.inr (ns Z n s, nt Z n s, [])) with
    | inl e => rw [hn] at h; cases h
    | inr x =>
      obtain ⟨s1, t1, nm1⟩ := x
      rw [hn] at h
      have h : (if fnd N 0 nm1 (c 0) = -1 ∧ fnd N 1 nm1 (c 1) = -1 ∧ fnd N 2 nm1 (c 2) = -1 then (Sum.inr (s1, t1, nm1) : am_PS) else .inl (3, psn (.inr (ns Z n s, nt Z n s, [])))) = .inr (s', t', nm) := h
      obtain ⟨k1, k2, -, k4, k5, k6⟩ := nmS_inr hn
      rw [Prod.mk.injEq, Prod.mk.injEq] at k2
      by_cases g2 : fnd N 0 nm1 (c 0) = -1 ∧ fnd N 1 nm1 (c 1) = -1 ∧ fnd N 2 nm1 (c 2) = -1
      · rw [if_pos g2] at h
        have h := Sum.inr.inj h
        rw [Prod.mk.injEq, Prod.mk.injEq] at h
        have b1 := ns_bd (Z := Z) (kd_lt (show 1 ≤ kd Z n s t by omega))
        have b2 := ns_bd (Z := Z) (kd_lt (show 1 ≤ kd Z n (ns Z n s) (nt Z n s) by omega))
        have e : nm = ltn Z (ns Z n s) (te Z n (ns Z n s) - ns Z n s) := by rw [← h.2.2, k2.2.2]
        rw [e]
        exact ⟨g, by omega, by omega, k4, k5, k6⟩
      · rw [if_neg g2] at h
        cases h
theorem fK_av {Z : Nat → Nat → Int} {n : Nat} {N : Nat → Nat → List Int} {c : Nat} : ∀ m {st : am_PS} {r : Nat → Int}, av n st (fK Z n N c (m + 1) st r).1
  | m, st, r => fun s' t' l' e => by
    have h1 : av n st (fkB Z n N c st r).1 := fun s1 t1 l1 e1 => by
      have e2 := e1
      unfold fkB at e1
      obtain ⟨-, -, -, a, b, h3⟩ := fkB_inr e2
      obtain ⟨s2, t2, l2, h4, h5, h6⟩ := av_tkN _ _ _ e1
      by_cases g : isE (knS Z n N 0 c st).1 = false ∧ 0 < r (knS Z n N 0 c st).2.toNat
      · rw [if_pos g] at h4
        cases h4
      · rw [if_neg g] at h4
        obtain ⟨s3, t3, l3, h7, h8, h9⟩ := av_knS _ _ _ h4
        exact ⟨s3, t3, l3, h7, by omega, h6⟩
    rw [fK_s] at e
    cases hb : (fkB Z n N c st r).1 with
    | inl e' => rw [hb] at e; cases e
    | inr x =>
      obtain ⟨s1, t1, l1⟩ := x
      rw [hb] at e
      have e : (if kd Z n s1 t1 = 1 then fK Z n N c m (.inr (s1, t1, l1)) (fkR Z n N c st r) else (.inr (s1, t1, l1), fkR Z n N c st r)).1 = .inr (s', t', l') := e
      by_cases g : kd Z n s1 t1 = 1
      · rw [if_pos g] at e
        match m, e with
        | 0, e => exact h1 _ _ _ (hb.trans e)
        | m + 1, e =>
          obtain ⟨s2, t2, l2, h4, h5, h6⟩ := fK_av m _ _ _ e
          obtain ⟨s3, t3, l3, h7, h8, h9⟩ := h1 _ _ _ (hb.trans h4)
          exact ⟨s3, t3, l3, h7, by omega, h6⟩
      · rw [if_neg g] at e
        exact h1 _ _ _ (hb.trans e)
def rwB (c : Nat) (r : Nat → Int) : Prop := ∀ k, (0 ≤ r k ∧ r k ≤ 9) ∧ (c ≤ k → r k = 0)
theorem fK_row {Z : Nat → Nat → Int} {n : Nat} {N : Nat → Nat → List Int} {c : Nat} : ∀ m {st : am_PS} {r : Nat → Int}, rwB c r → ∀ {x}, (fK Z n N c m st r).1 = .inr x → rwB c (fK Z n N c m st r).2
  | 0, st, r, hr, x, h => hr
  | m + 1, st, r, hr, x, h => by
    rw [fK_s] at h ⊢
    cases hb : (fkB Z n N c st r).1 with
    | inl e' => rw [hb] at h; cases h
    | inr y =>
      obtain ⟨s1, t1, l1⟩ := y
      rw [hb] at h
      have h : (if kd Z n s1 t1 = 1 then fK Z n N c m (.inr (s1, t1, l1)) (fkR Z n N c st r) else (.inr (s1, t1, l1), fkR Z n N c st r)).1 = .inr x := h
      show rwB c (if kd Z n s1 t1 = 1 then fK Z n N c m (.inr (s1, t1, l1)) (fkR Z n N c st r) else (.inr (s1, t1, l1), fkR Z n N c st r)).2
      obtain ⟨-, -, h0, -⟩ := fkB_inr hb
      have hc : -1 ≤ (knS Z n N 0 c st).2 ∧ (knS Z n N 0 c st).2 < (c : Int) := knS_bd
      have hr' : rwB c (fkR Z n N c st r) := fun k => by
        unfold fkR
        by_cases g : k = (knS Z n N 0 c st).2.toNat
        · rw [if_pos g]
          have b1 : 1 ≤ (fkB Z n N c st r).2 := tkN_lo
          have b2 : (fkB Z n N c st r).2 ≤ 9 := tkN_hi (by omega)
          exact ⟨⟨by omega, b2⟩, fun h => by omega⟩
        · rw [if_neg g]
          exact hr k
      by_cases g : kd Z n s1 t1 = 1
      · rw [if_pos g] at h ⊢
        exact fK_row m hr' h
      · rw [if_neg g]
        exact hr'
/-- what is true of a house that is read -/
def xI (X : am_X) (N : Nat → Nat → List Int) : Prop := hB X ∧ nB N X ∧ (∀ f, nM X 1 ≤ f → f < 8 → ∀ k, k < 6 → X 3 f k = 0) ∧ ∀ p, p < 5 → ∀ k, k < 6 → 0 ≤ X 6 p k ∧ X 6 p k ≤ 9
def hI (H : am_HS) (s : Nat) : Prop := xI H.1 H.2.1 ∧ gB H.2.2.1 ∧ H.2.2.2.1 ≤ s ∧ H.2.2.2.2 ≤ H.2.2.2.1
theorem xI_x {X : am_X} {N : Nat → Nat → List Int} (h : xI X N) : xB X N := ⟨h.1.1, h.1.2.1, h.1.2.2.1, h.2.1⟩
/-- a house as it may come out of a statement -/
def hO (n s : Nat) : am_SR → Prop
  | .inl _ => True
  | .inr (s', _, H') => hI H' s' ∧ s < s' ∧ s' ≤ n
theorem xI_kind {X : am_X} {N : Nat → Nat → List Int} (h : xI X N) {nm : List Int} (hm : X 0 0 0 < 6) (h1 : lok nm) (h2 : 1 ≤ nm.length) (h3 : nm.length ≤ 6) : xI (uA X 0 0 0 (X 0 0 0 + 1)) (uN N 0 (nM X 0) nm) := by
  have hx := xB_new (xI_x h) (s := 0) (by omega) hm h1 h2 h3
  obtain ⟨B, b1, b3, b4⟩ := h
  obtain ⟨a1, a2, a3, a4, a5, a6, a7, a8, a9, a10, a11, a12, a13, a14⟩ := B
  have e : ∀ a b c, a ≠ 0 → uA X 0 0 0 (X 0 0 0 + 1) a b c = X a b c := fun a b c ha => uA_ne (by omega)
  have hnm : ∀ a, nM (uA X 0 0 0 (X 0 0 0 + 1)) a = if a = 0 then (X 0 0 0 + 1).toNat else nM X a := fun a => nM_u
  have hF : nF (uA X 0 0 0 (X 0 0 0 + 1)) = nF X := (hnm 1).trans (if_neg (by omega))
  have hP : nP (uA X 0 0 0 (X 0 0 0 + 1)) = nP X := (hnm 2).trans (if_neg (by omega))
  have hK : nK (uA X 0 0 0 (X 0 0 0 + 1)) = (X 0 0 0 + 1).toNat := (hnm 0).trans (if_pos rfl)
  have hK0 : nK X = (X 0 0 0).toNat := rfl
  refine ⟨⟨?_, ?_, ?_, ?_, ?_, ?_, ?_, ?_, ?_, ?_, ?_, ?_, ?_, ?_⟩, ?_, ?_, ?_⟩
  · exact hx.1
  · exact hx.2.1
  · exact hx.2.2.1
  · intro f hf; rw [hF] at hf; rw [e _ _ _ (by omega)]; exact a4 f hf
  · intro f hf k hk; rw [hF] at hf; rw [e _ _ _ (by omega)]; exact a5 f hf k hk
  · intro f hf; rw [hP] at hf; rw [e _ _ _ (by omega)]; exact a6 f hf
  · intro f hf; rw [hP] at hf; rw [e _ _ _ (by omega)]; exact a7 f hf
  · intro f hf k hk; rw [hP] at hf; rw [e _ _ _ (by omega)]; exact a8 f hf k hk
  · rw [hP, e _ _ _ (by omega)]; exact a9
  · rw [e _ _ _ (by omega)]; exact a10
  · rw [e _ _ _ (by omega)]; exact a11
  · rw [e _ _ _ (by omega)]; exact a12
  · rw [e _ _ _ (by omega)]; exact a13
  · intro f hf k hk hk6; rw [hF] at hf; rw [hK] at hk; rw [e _ _ _ (by omega)]; exact a14 f hf k (by omega) hk6
  · exact hx.2.2.2
  · intro f hf hf8 k hk; rw [hnm, if_neg (by omega)] at hf; rw [e _ _ _ (by omega)]; exact b3 f hf hf8 k hk
  · intro p hp k hk; rw [e _ _ _ (by omega)]; exact b4 p hp k hk
theorem xI_set {X : am_X} {N : Nat → Nat → List Int} (h : xI X N) {i : Nat} {v : Int} (hc : (i = 8 ∧ 1 ≤ v ∧ v ≤ 5) ∨ (i = 9 ∧ 0 ≤ v ∧ v ≤ 999) ∨ (i = 10 ∧ 0 ≤ v ∧ v ≤ 99) ∨ (i = 11 ∧ 0 ≤ v ∧ v ≤ 100)) : xI (uA X i 0 0 v) (N) := by
  obtain ⟨B, b1, b3, b4⟩ := h
  obtain ⟨a1, a2, a3, a4, a5, a6, a7, a8, a9, a10, a11, a12, a13, a14⟩ := B
  have e : ∀ a b c, a ≠ i → uA X i 0 0 v a b c = X a b c := fun a b c ha => uA_ne (by omega)
  have ei : uA X i 0 0 v i 0 0 = v := uA_eq _ _ _ _ _
  have hnm : ∀ a, nM (uA X i 0 0 v) a = nM X a := fun a => nM_ne (by omega)
  have hF : nF (uA X i 0 0 v) = nF X := hnm 1
  have hP : nP (uA X i 0 0 v) = nP X := hnm 2
  have hK : nK (uA X i 0 0 v) = nK X := hnm 0
  refine ⟨⟨?_, ?_, ?_, ?_, ?_, ?_, ?_, ?_, ?_, ?_, ?_, ?_, ?_, ?_⟩, ?_, ?_, ?_⟩
  · rw [e _ _ _ (by omega)]; exact a1
  · rw [e _ _ _ (by omega)]; exact a2
  · rw [e _ _ _ (by omega)]; exact a3
  · intro f hf; rw [hF] at hf; rw [e _ _ _ (by omega)]; exact a4 f hf
  · intro f hf k hk; rw [hF] at hf; rw [e _ _ _ (by omega)]; exact a5 f hf k hk
  · intro f hf; rw [hP] at hf; rw [e _ _ _ (by omega)]; exact a6 f hf
  · intro f hf; rw [hP] at hf; rw [e _ _ _ (by omega)]; exact a7 f hf
  · intro f hf k hk; rw [hP] at hf; rw [e _ _ _ (by omega)]; exact a8 f hf k hk
  · rw [hP, e _ _ _ (by omega)]; exact a9
  · by_cases g : i = 8
    · subst g; rw [ei]; omega
    · rw [e _ _ _ (by omega)]; exact a10
  · by_cases g : i = 9
    · subst g; rw [ei]; omega
    · rw [e _ _ _ (by omega)]; exact a11
  · by_cases g : i = 10
    · subst g; rw [ei]; omega
    · rw [e _ _ _ (by omega)]; exact a12
  · by_cases g : i = 11
    · subst g; rw [ei]; omega
    · rw [e _ _ _ (by omega)]; exact a13
  · intro f hf k hk hk6; rw [hF] at hf; rw [hK] at hk; rw [e _ _ _ (by omega)]; exact a14 f hf k hk hk6
  · intro a ha w hw; rw [hnm] at hw; exact b1 a ha w hw
  · intro f hf hf8 k hk; rw [hnm] at hf; rw [e _ _ _ (by omega)]; exact b3 f hf hf8 k hk
  · intro p hp k hk; rw [e _ _ _ (by omega)]; exact b4 p hp k hk
theorem xI_press {X : am_X} {N : Nat → Nat → List Int} (h : xI X N) {v : Int} (hv : 0 ≤ v ∧ v < ((2 ^ nP X : Nat) : Int)) : xI (uA X 7 0 0 v) (N) := by
  obtain ⟨B, b1, b3, b4⟩ := h
  obtain ⟨a1, a2, a3, a4, a5, a6, a7, a8, a9, a10, a11, a12, a13, a14⟩ := B
  have e : ∀ a b c, a ≠ 7 → uA X 7 0 0 v a b c = X a b c := fun a b c ha => uA_ne (by omega)
  have hnm : ∀ a, nM (uA X 7 0 0 v) a = nM X a := fun a => nM_ne (by omega)
  have hF : nF (uA X 7 0 0 v) = nF X := hnm 1
  have hP : nP (uA X 7 0 0 v) = nP X := hnm 2
  have hK : nK (uA X 7 0 0 v) = nK X := hnm 0
  refine ⟨⟨?_, ?_, ?_, ?_, ?_, ?_, ?_, ?_, ?_, ?_, ?_, ?_, ?_, ?_⟩, ?_, ?_, ?_⟩
  · rw [e _ _ _ (by omega)]; exact a1
  · rw [e _ _ _ (by omega)]; exact a2
  · rw [e _ _ _ (by omega)]; exact a3
  · intro f hf; rw [hF] at hf; rw [e _ _ _ (by omega)]; exact a4 f hf
  · intro f hf k hk; rw [hF] at hf; rw [e _ _ _ (by omega)]; exact a5 f hf k hk
  · intro f hf; rw [hP] at hf; rw [e _ _ _ (by omega)]; exact a6 f hf
  · intro f hf; rw [hP] at hf; rw [e _ _ _ (by omega)]; exact a7 f hf
  · intro f hf k hk; rw [hP] at hf; rw [e _ _ _ (by omega)]; exact a8 f hf k hk
  · rw [hP, uA_eq]; exact hv
  · rw [e _ _ _ (by omega)]; exact a10
  · rw [e _ _ _ (by omega)]; exact a11
  · rw [e _ _ _ (by omega)]; exact a12
  · rw [e _ _ _ (by omega)]; exact a13
  · intro f hf k hk hk6; rw [hF] at hf; rw [hK] at hk; rw [e _ _ _ (by omega)]; exact a14 f hf k hk hk6
  · intro a ha w hw; rw [hnm] at hw; exact b1 a ha w hw
  · intro f hf hf8 k hk; rw [hnm] at hf; rw [e _ _ _ (by omega)]; exact b3 f hf hf8 k hk
  · intro p hp k hk; rw [e _ _ _ (by omega)]; exact b4 p hp k hk
theorem xI_likes {X : am_X} {N : Nat → Nat → List Int} (h : xI X N) {i j : Nat} {v : Int} (hv : 0 ≤ v ∧ v ≤ 9) : xI (uA X 6 i j v) (N) := by
  obtain ⟨B, b1, b3, b4⟩ := h
  obtain ⟨a1, a2, a3, a4, a5, a6, a7, a8, a9, a10, a11, a12, a13, a14⟩ := B
  have e : ∀ a b c, a ≠ 6 → uA X 6 i j v a b c = X a b c := fun a b c ha => uA_ne (by omega)
  have hnm : ∀ a, nM (uA X 6 i j v) a = nM X a := fun a => nM_ne (by omega)
  have hF : nF (uA X 6 i j v) = nF X := hnm 1
  have hP : nP (uA X 6 i j v) = nP X := hnm 2
  have hK : nK (uA X 6 i j v) = nK X := hnm 0
  refine ⟨⟨?_, ?_, ?_, ?_, ?_, ?_, ?_, ?_, ?_, ?_, ?_, ?_, ?_, ?_⟩, ?_, ?_, ?_⟩
  · rw [e _ _ _ (by omega)]; exact a1
  · rw [e _ _ _ (by omega)]; exact a2
  · rw [e _ _ _ (by omega)]; exact a3
  · intro f hf; rw [hF] at hf; rw [e _ _ _ (by omega)]; exact a4 f hf
  · intro f hf k hk; rw [hF] at hf; rw [e _ _ _ (by omega)]; exact a5 f hf k hk
  · intro f hf; rw [hP] at hf; rw [e _ _ _ (by omega)]; exact a6 f hf
  · intro f hf; rw [hP] at hf; rw [e _ _ _ (by omega)]; exact a7 f hf
  · intro f hf k hk; rw [hP] at hf
    by_cases g : f = i ∧ k = j
    · obtain ⟨rfl, rfl⟩ := g; rw [uA_eq]; exact hv
    · rw [uA_ne (by omega)]; exact a8 f hf k hk
  · rw [hP, e _ _ _ (by omega)]; exact a9
  · rw [e _ _ _ (by omega)]; exact a10
  · rw [e _ _ _ (by omega)]; exact a11
  · rw [e _ _ _ (by omega)]; exact a12
  · rw [e _ _ _ (by omega)]; exact a13
  · intro f hf k hk hk6; rw [hF] at hf; rw [hK] at hk; rw [e _ _ _ (by omega)]; exact a14 f hf k hk hk6
  · intro a ha w hw; rw [hnm] at hw; exact b1 a ha w hw
  · intro f hf hf8 k hk; rw [hnm] at hf; rw [e _ _ _ (by omega)]; exact b3 f hf hf8 k hk
  · intro p hp k hk
    by_cases g : p = i ∧ k = j
    · obtain ⟨rfl, rfl⟩ := g; rw [uA_eq]; exact hv
    · rw [uA_ne (by omega)]; exact b4 p hp k hk
theorem xI_person {X : am_X} {N : Nat → Nat → List Int} (h : xI X N) {nm : List Int} {v w : Int} (hm : X 0 2 0 < 5) (h1 : lok nm) (h2 : 1 ≤ nm.length) (h3 : nm.length ≤ 6) (hv : 0 ≤ v ∧ v ≤ 23) (hw : 0 ≤ w ∧ w ≤ 23) : xI (uA (uA (uA X 0 2 0 (X 0 2 0 + 1)) 4 (nM X 2) 0 v) 5 (nM X 2) 0 w) (uN N 2 (nM X 2) nm) := by
  have hx := xB_new (xI_x h) (s := 2) (by omega) hm h1 h2 h3
  obtain ⟨B, b1, b3, b4⟩ := h
  obtain ⟨a1, a2, a3, a4, a5, a6, a7, a8, a9, a10, a11, a12, a13, a14⟩ := B
  have e : ∀ a b c, a ≠ 0 → (a = 4 ∨ a = 5 → b ≠ nM X 2) → uA (uA (uA X 0 2 0 (X 0 2 0 + 1)) 4 (nM X 2) 0 v) 5 (nM X 2) 0 w a b c = X a b c := fun a b c ha hb => by rw [uA_ne (by omega), uA_ne (by omega), uA_ne (by omega)]
  have ex : ∀ b, uA X 0 2 0 (X 0 2 0 + 1) 0 b 0 = uA (uA (uA X 0 2 0 (X 0 2 0 + 1)) 4 (nM X 2) 0 v) 5 (nM X 2) 0 w 0 b 0 := fun b => by rw [uA_ne (i := 5) (by omega), uA_ne (i := 4) (by omega)]
  have hnm : ∀ a, nM (uA (uA (uA X 0 2 0 (X 0 2 0 + 1)) 4 (nM X 2) 0 v) 5 (nM X 2) 0 w) a = if a = 2 then nM X 2 + 1 else nM X a := fun a => by
    rw [nM_ne (by omega), nM_ne (by omega), nM_u]
    by_cases g : a = 2
    · rw [if_pos g, if_pos g]; unfold nM; omega
    · rw [if_neg g, if_neg g]
  have hF : nF (uA (uA (uA X 0 2 0 (X 0 2 0 + 1)) 4 (nM X 2) 0 v) 5 (nM X 2) 0 w) = nF X := (hnm 1).trans (if_neg (by omega))
  have hP : nP (uA (uA (uA X 0 2 0 (X 0 2 0 + 1)) 4 (nM X 2) 0 v) 5 (nM X 2) 0 w) = nP X + 1 := (hnm 2).trans (if_pos rfl)
  have hK : nK (uA (uA (uA X 0 2 0 (X 0 2 0 + 1)) 4 (nM X 2) 0 v) 5 (nM X 2) 0 w) = nK X := (hnm 0).trans (if_neg (by omega))
  have hP0 : nP X = nM X 2 := rfl
  have hP5 : nM X 2 < 5 := by unfold nM; omega
  refine ⟨⟨?_, ?_, ?_, ?_, ?_, ?_, ?_, ?_, ?_, ?_, ?_, ?_, ?_, ?_⟩, ?_, ?_, ?_⟩
  · exact ex 0 ▸ hx.1
  · exact ex 1 ▸ hx.2.1
  · exact ex 2 ▸ hx.2.2.1
  · intro f hf; rw [hF] at hf; rw [e _ _ _ (by omega) (by omega)]; exact a4 f hf
  · intro f hf k hk; rw [hF] at hf; rw [e _ _ _ (by omega) (by omega)]; exact a5 f hf k hk
  · intro f hf; rw [hP] at hf
    by_cases g : f = nM X 2
    · subst g; rw [uA_ne (by omega), uA_eq]; exact hv
    · rw [e _ _ _ (by omega) (by omega)]; exact a6 f (by omega)
  · intro f hf; rw [hP] at hf
    by_cases g : f = nM X 2
    · subst g; rw [uA_eq]; exact hw
    · rw [e _ _ _ (by omega) (by omega)]; exact a7 f (by omega)
  · intro f hf k hk; rw [hP] at hf; rw [e _ _ _ (by omega) (by omega)]; exact b4 f (by omega) k hk
  · rw [hP, e _ _ _ (by omega) (by omega)]; have hp : 2 ^ nP X ≤ 2 ^ (nP X + 1) := Nat.pow_le_pow_right (by decide) (by omega); exact ⟨a9.1, Int.lt_of_lt_of_le a9.2 (Int.ofNat_le.mpr hp)⟩
  · rw [e _ _ _ (by omega) (by omega)]; exact a10
  · rw [e _ _ _ (by omega) (by omega)]; exact a11
  · rw [e _ _ _ (by omega) (by omega)]; exact a12
  · rw [e _ _ _ (by omega) (by omega)]; exact a13
  · intro f hf k hk hk6; rw [hF] at hf; rw [hK] at hk; rw [e _ _ _ (by omega) (by omega)]; exact a14 f hf k hk hk6
  · intro a ha k hk; exact hx.2.2.2 a ha k (by rw [nM_ne (by omega), nM_ne (by omega)] at hk; exact hk)
  · intro f hf hf8 k hk; rw [hnm, if_neg (by omega)] at hf; rw [e _ _ _ (by omega) (by omega)]; exact b3 f hf hf8 k hk
  · intro p hp k hk; rw [e _ _ _ (by omega) (by omega)]; exact b4 p hp k hk
theorem xI_film {X : am_X} {N : Nat → Nat → List Int} (h : xI X N) {nm : List Int} {p : Int} {r : Nat → Int} (hm : X 0 1 0 < 8) (h1 : lok nm) (h2 : 1 ≤ nm.length) (h3 : nm.length ≤ 6) (hp : 1 ≤ p ∧ p ≤ 9) (hr : rwB (nM X 0) r) : xI (uF X p r) (uN N 1 (nM X 1) nm) := by
  have hx := xB_new (xI_x h) (s := 1) (by omega) hm h1 h2 h3
  obtain ⟨B, b1, b3, b4⟩ := h
  obtain ⟨a1, a2, a3, a4, a5, a6, a7, a8, a9, a10, a11, a12, a13, a14⟩ := B
  have hnm : ∀ a, nM (uF X p r) a = if a = 1 then nM X 1 + 1 else nM X a := fun a => by
    unfold nM
    by_cases g : a = 1
    · subst g
      rw [if_pos rfl, show uF X p r 0 1 0 = X 0 1 0 + 1 from if_pos ⟨rfl, rfl, rfl⟩]
      omega
    · rw [if_neg g, uF_o ⟨by omega, by omega, by omega⟩]
  have hF : nF (uF X p r) = nF X + 1 := (hnm 1).trans (if_pos rfl)
  have hP : nP (uF X p r) = nP X := (hnm 2).trans (if_neg (by omega))
  have hK : nK (uF X p r) = nK X := (hnm 0).trans (if_neg (by omega))
  have hF0 : nF X = nM X 1 := rfl
  refine ⟨⟨?_, ?_, ?_, ?_, ?_, ?_, ?_, ?_, ?_, ?_, ?_, ?_, ?_, ?_⟩, ?_, ?_, ?_⟩
  · rw [uF_o ⟨by omega, by omega, by omega⟩]; exact a1
  · rw [show uF X p r 0 1 0 = X 0 1 0 + 1 from if_pos ⟨rfl, rfl, rfl⟩]; omega
  · rw [uF_o ⟨by omega, by omega, by omega⟩]; exact a3
  · intro f hf; rw [hF] at hf
    by_cases g : f = nM X 1
    · subst g; rw [show uF X p r 2 (nM X 1) 0 = p from by unfold uF; rw [if_neg (by omega), if_pos ⟨rfl, rfl, rfl⟩]]; exact hp
    · rw [uF_o ⟨by omega, by omega, by omega⟩]; exact a4 f (by omega)
  · intro f hf k hk; rw [hF] at hf
    by_cases g : f = nM X 1
    · subst g; rw [show uF X p r 3 (nM X 1) k = r k from by unfold uF; rw [if_neg (by omega), if_neg (by omega), if_pos ⟨rfl, rfl⟩]]; exact (hr k).1
    · rw [uF_o ⟨by omega, by omega, by omega⟩]; exact a5 f (by omega) k hk
  · intro f hf; rw [hP] at hf; rw [uF_o ⟨by omega, by omega, by omega⟩]; exact a6 f hf
  · intro f hf; rw [hP] at hf; rw [uF_o ⟨by omega, by omega, by omega⟩]; exact a7 f hf
  · intro f hf k hk; rw [hP] at hf; rw [uF_o ⟨by omega, by omega, by omega⟩]; exact a8 f hf k hk
  · rw [hP]; rw [uF_o ⟨by omega, by omega, by omega⟩]; exact a9
  · rw [uF_o ⟨by omega, by omega, by omega⟩]; exact a10
  · rw [uF_o ⟨by omega, by omega, by omega⟩]; exact a11
  · rw [uF_o ⟨by omega, by omega, by omega⟩]; exact a12
  · rw [uF_o ⟨by omega, by omega, by omega⟩]; exact a13
  · intro f hf k hk hk6; rw [hF] at hf; rw [hK] at hk
    by_cases g : f = nM X 1
    · subst g; rw [show uF X p r 3 (nM X 1) k = r k from by unfold uF; rw [if_neg (by omega), if_neg (by omega), if_pos ⟨rfl, rfl⟩]]; exact (hr k).2 hk
    · rw [uF_o ⟨by omega, by omega, by omega⟩]; exact a14 f (by omega) k hk hk6
  · intro a ha k hk; refine hx.2.2.2 a ha k ?_; rw [hnm] at hk; rw [nM_u]
    by_cases g : a = 1
    · rw [if_pos g] at hk ⊢; unfold nM at hk; omega
    · rw [if_neg g] at hk ⊢; exact hk
  · intro f hf hf8 k hk; rw [hnm, if_pos rfl] at hf; rw [uF_o ⟨by omega, by omega, by omega⟩]; exact b3 f (by omega) hf8 k hk
  · intro q hq k hk; rw [uF_o ⟨by omega, by omega, by omega⟩]; exact b4 q hq k hk
theorem hO_kind {Z : Nat → Nat → Int} {n s : Nat} {t : Bool} {H : am_HS} (hi : hI H s) (hk : kd Z n s t = 1) : hO n s (sKind Z n H (.inr (s, t, []))) := by
  unfold sKind
  cases hw : nwS Z n H.2.1 (nM H.1) (st1S Z n (most3 0 ≤ H.1 0 0 0) (.inr (s, t, []))) with
  | inl e => trivial
  | inr x =>
    obtain ⟨s', t', nm⟩ := x
    obtain ⟨h1, h2, h3, h4, h5, h6⟩ := nwS_inr hk hw
    have h1 : ¬ (6 : Int) ≤ H.1 0 0 0 := h1
    exact ⟨⟨xI_kind hi.1 (by omega) h4 h5 h6, hi.2.1, Nat.le_trans hi.2.2.1 (by omega), hi.2.2.2⟩, h2, h3⟩
theorem hO_set {Z : Nat → Nat → Int} {n s : Nat} {t : Bool} {H : am_HS} (hi : hI H s) (hk : kd Z n s t = 1) {i : Nat} {lo hi' : Int} (hc : (i = 8 ∧ lo = 1 ∧ hi' = 5) ∨ (i = 9 ∧ lo = 0 ∧ hi' = 999) ∨ (i = 10 ∧ lo = 0 ∧ hi' = 99) ∨ (i = 11 ∧ lo = 0 ∧ hi' = 100)) : hO n s (sSet Z n i lo hi' H (.inr (s, t, []))) := by
  unfold sSet
  cases hw : (tkN Z n lo hi' (nx Z n (.inr (s, t, [])))).1 with
  | inl e => trivial
  | inr x =>
    obtain ⟨s', t', l'⟩ := x
    obtain ⟨s1, t1, l1, e1, h1, h2⟩ := av_tr (av_nx (by omega)) av_tkN _ _ _ hw
    have e1 := Sum.inr.inj e1
    rw [Prod.mk.injEq, Prod.mk.injEq] at e1
    have v1 : lo ≤ (tkN Z n lo hi' (nx Z n (.inr (s, t, [])))).2 := tkN_lo
    have v2 : (tkN Z n lo hi' (nx Z n (.inr (s, t, [])))).2 ≤ hi' := tkN_hi (by omega)
    exact ⟨⟨xI_set hi.1 (by omega), hi.2.1, Nat.le_trans hi.2.2.1 (by omega), hi.2.2.2⟩, by omega, h2⟩
theorem hO_press {Z : Nat → Nat → Int} {n s : Nat} {t : Bool} {H : am_HS} (hi : hI H s) (hk : kd Z n s t = 1) : hO n s (sPress Z n H (.inr (s, t, []))) := by
  unfold sPress
  cases hw : (li1 Z n H (.inr (s, t, []))).1 with
  | inl e => trivial
  | inr x =>
    obtain ⟨s', t', l'⟩ := x
    obtain ⟨s1, t1, l1, e1, h1, h2⟩ := av_tr (av_nx (by omega)) av_knS _ _ _ hw
    have e1 := Sum.inr.inj e1
    rw [Prod.mk.injEq, Prod.mk.injEq] at e1
    obtain ⟨-, k2, k3, -⟩ := knS_inr hw
    have k2 : 0 ≤ (li1 Z n H (.inr (s, t, []))).2 := k2
    have k3 : (li1 Z n H (.inr (s, t, []))).2 < ((nM H.1 2 : Nat) : Int) := k3
    have c2 := (xB_c (xI_x hi.1) (s := 2) (by omega)).2.2
    have c25 := (xI_x hi.1).2.2.1
    simp only []
    by_cases g : H.1 7 0 0 / ((2 ^ (li1 Z n H (.inr (s, t, []))).2.toNat : Nat) : Int) % 2 = 1
    · rw [if_pos g]; trivial
    · rw [if_neg g]
      have hb := hi.1.1.2.2.2.2.2.2.2.2.1
      have hq := bit_q hb.1 (n := nP H.1) (p := (li1 Z n H (.inr (s, t, []))).2.toNat) (by show nM H.1 2 ≤ 5; omega) hb.2 (by show _ < nM H.1 2; omega)
      exact ⟨⟨xI_press hi.1 hq.2.2.2.1, hi.2.1, Nat.le_trans hi.2.2.1 (by omega), hi.2.2.2⟩, by omega, h2⟩
theorem hO_likes {Z : Nat → Nat → Int} {n s : Nat} {t : Bool} {H : am_HS} (hi : hI H s) (hk : kd Z n s t = 1) : hO n s (sLikes Z n H (.inr (s, t, []))) := by
  unfold sLikes
  cases hw : (li3 Z n H (.inr (s, t, []))).1 with
  | inl e => trivial
  | inr x =>
    obtain ⟨s', t', l'⟩ := x
    obtain ⟨s1, t1, l1, e1, h1, h2⟩ := av_tr (av_nx (by omega)) (av_tr av_knS (av_tr av_knS av_tkN)) _ _ _ hw
    have e1 := Sum.inr.inj e1
    rw [Prod.mk.injEq, Prod.mk.injEq] at e1
    have v1 : 0 ≤ (li3 Z n H (.inr (s, t, []))).2 := tkN_lo
    have v2 : (li3 Z n H (.inr (s, t, []))).2 ≤ 9 := tkN_hi (by omega)
    exact ⟨⟨xI_likes hi.1 ⟨v1, v2⟩, hi.2.1, Nat.le_trans hi.2.2.1 (by omega), hi.2.2.2⟩, by omega, h2⟩
theorem hO_person {Z : Nat → Nat → Int} {n s : Nat} {t : Bool} {H : am_HS} (hi : hI H s) (hk : kd Z n s t = 1) : hO n s (sPerson Z n H (.inr (s, t, []))) := by
  unfold sPerson
  cases hw : nwS Z n H.2.1 (nM H.1) (st1S Z n (most3 2 ≤ H.1 0 2 0) (.inr (s, t, []))) with
  | inl e => trivial
  | inr x =>
    obtain ⟨s', t', nm⟩ := x
    obtain ⟨h1, h2, h3, h4, h5, h6⟩ := nwS_inr hk hw
    have h1 : ¬ (5 : Int) ≤ H.1 0 2 0 := h1
    simp only []
    cases hp : (pe2 Z n (.inr (s', t', []))).1 with
    | inl e => trivial
    | inr y =>
      obtain ⟨s2, t2, l2⟩ := y
      obtain ⟨s1, t1, l1, e1, h7, h8⟩ := av_tr av_tkW (av_tr av_tkN (av_tr av_tkW av_tkN)) _ _ _ hp
      have e1 := Sum.inr.inj e1
      rw [Prod.mk.injEq, Prod.mk.injEq] at e1
      have v1 : 0 ≤ (pe1 Z n (.inr (s', t', []))).2 := tkN_lo
      have v2 : (pe1 Z n (.inr (s', t', []))).2 ≤ 23 := tkN_hi (by omega)
      have v3 : (pe1 Z n (.inr (s', t', []))).2 ≤ (pe2 Z n (.inr (s', t', []))).2 := tkN_lo
      have v4 : (pe2 Z n (.inr (s', t', []))).2 ≤ 23 := tkN_hi v2
      exact ⟨⟨xI_person hi.1 (by omega) h4 h5 h6 ⟨v1, v2⟩ ⟨by omega, v4⟩, hi.2.1, Nat.le_trans hi.2.2.1 (by omega), hi.2.2.2⟩, by omega, h8⟩
theorem hO_film {Z : Nat → Nat → Int} {n s : Nat} {t : Bool} {H : am_HS} (hi : hI H s) (hk : kd Z n s t = 1) : hO n s (sFilm Z n H (.inr (s, t, []))) := by
  unfold sFilm
  cases hw : nwS Z n H.2.1 (nM H.1) (st1S Z n (most3 1 ≤ H.1 0 1 0) (.inr (s, t, []))) with
  | inl e => trivial
  | inr x =>
    obtain ⟨s', t', nm⟩ := x
    obtain ⟨h1, h2, h3, h4, h5, h6⟩ := nwS_inr hk hw
    have h1 : ¬ (8 : Int) ≤ H.1 0 1 0 := h1
    simp only []
    cases hp : (fi3 Z n H (.inr (s', t', []))).1 with
    | inl e => trivial
    | inr y =>
      obtain ⟨s2, t2, l2⟩ := y
      obtain ⟨s1, t1, l1, e1, h7, h8⟩ := av_tr av_tkW (av_tr av_tkN (av_tr av_tkW (fK_av n))) _ _ _ hp
      have e1 := Sum.inr.inj e1
      rw [Prod.mk.injEq, Prod.mk.injEq] at e1
      have v1 : 1 ≤ (fi1 Z n (.inr (s', t', []))).2 := tkN_lo
      have v2 : (fi1 Z n (.inr (s', t', []))).2 ≤ 9 := tkN_hi (by omega)
      have hr : rwB (nM H.1 0) (fi3 Z n H (.inr (s', t', []))).2 := fK_row (n + 1) (fun k => ⟨⟨by omega, by omega⟩, fun _ => rfl⟩) hp
      exact ⟨⟨xI_film hi.1 (by omega) h4 h5 h6 ⟨v1, v2⟩ hr, hi.2.1, Nat.le_trans hi.2.2.1 (by omega), hi.2.2.2⟩, by omega, h8⟩
theorem gB_u {G : am_Gf} (h : gB G) {j : Nat} {F : List Int} {b : Bool} (hF : wf (alw j) false b F) (hj : (j = 0 ∧ b = false) ∨ (j = 1 ∧ b = false) ∨ (j = 2 ∧ b = true)) : gB (uG G j F) := by
  obtain ⟨h0, h1, h2⟩ := h
  refine ⟨fun l hl => ?_, fun l hl => ?_, fun l hl => ?_⟩
  · by_cases g : 0 = j
    · subst g
      have e : uG G 0 F 0 = some F := if_pos rfl
      rw [e] at hl
      have hl := Option.some.inj hl
      subst hl
      have hb : b = false := by rcases hj with ⟨h', h⟩ | ⟨h', h⟩ | ⟨h', h⟩ <;> first | exact h | exact absurd h' (by decide)
      subst hb
      exact hF
    · exact h0 l ((if_neg g : uG G j F 0 = G 0) ▸ hl)
  · by_cases g : 1 = j
    · subst g
      have e : uG G 1 F 1 = some F := if_pos rfl
      rw [e] at hl
      have hl := Option.some.inj hl
      subst hl
      have hb : b = false := by rcases hj with ⟨h', h⟩ | ⟨h', h⟩ | ⟨h', h⟩ <;> first | exact h | exact absurd h' (by decide)
      subst hb
      exact hF
    · exact h1 l ((if_neg g : uG G j F 1 = G 1) ▸ hl)
  · by_cases g : 2 = j
    · subst g
      have e : uG G 2 F 2 = some F := if_pos rfl
      rw [e] at hl
      have hl := Option.some.inj hl
      subst hl
      have hb : b = true := by rcases hj with ⟨h', h⟩ | ⟨h', h⟩ | ⟨h', h⟩ <;> first | exact h | exact absurd h' (by decide)
      subst hb
      exact hF
    · exact h2 l ((if_neg g : uG G j F 2 = G 2) ▸ hl)
theorem hO_form {Z : Nat → Nat → Int} {n s : Nat} {t : Bool} {H : am_HS} (hi : hI H s) (hk : kd Z n s t = 1) (hn : n ≤ 1600) {j : Nat} (hj : j < 3) : hO n s (sForm Z n j H (.inr (s, t, []))) := by
  unfold sForm
  by_cases g : H.2.2.1 j ≠ none
  · rw [if_pos g]; trivial
  · rw [if_neg g]
    have hb := ns_bd (Z := Z) (kd_lt (show 1 ≤ kd Z n s t by omega))
    have hC := hi.2.2.1
    have hD := hi.2.2.2
    obtain ⟨FR, b, nd, hFR, hnd, hG, hjb⟩ : ∃ FR b nd, FR = (if j = 2 then rTest Z n H.2.2.2.1 2 6 (nx Z n (.inr (s, t, []))) else rSum Z n H.2.2.2.1 j 6 (nx Z n (.inr (s, t, [])))) ∧ nd ≤ 60 ∧ (∀ s' t' l', FR = .inr (s', t', l') → ∃ F, l' = [] ++ F ∧ ns Z n s + F.length ≤ s' ∧ ns Z n s < s' ∧ s' ≤ n ∧ ∀ T : List Bool, T.length + nd ≤ 60 → tys (alw j) (decide (j = 3)) F T = some (b :: T)) ∧ ((j = 0 ∧ b = false) ∨ (j = 1 ∧ b = false) ∨ (j = 2 ∧ b = true)) := by
      by_cases g2 : j = 2
      · subst g2
        refine ⟨_, true, 3 * 6 + 8, rfl, by omega, fun s' t' l' e => ?_, Or.inr (Or.inr ⟨rfl, rfl⟩)⟩
        rw [if_pos rfl, nx_inr] at e
        exact (Gd_rTest hn (by omega) 6).2 _ _ _ (by omega) (by show H.2.2.2.1 + 0 ≤ _; omega) _ _ _ e
      · refine ⟨_, false, 3 * 6 + 5, rfl, by omega, fun s' t' l' e => ?_, (by omega : j = 0 ∨ j = 1).elim (fun h => Or.inl ⟨h, rfl⟩) (fun h => Or.inr (Or.inl ⟨h, rfl⟩))⟩
        rw [if_neg g2, nx_inr] at e
        exact (Gd_rSum hn (by omega) 6).1.2 _ _ _ (by omega) (by show H.2.2.2.1 + 0 ≤ _; omega) _ _ _ e
    rw [← hFR]
    match FR, hG with
    | .inl e, hG => trivial
    | .inr (s', t', F), hG =>
      obtain ⟨F', k1, k2, k3, k4, k5⟩ := hG _ _ _ rfl
      have k1 : F = F' := k1
      subst k1
      have k5 := k5 [] (by show 0 + nd ≤ 60; omega)
      rw [decide_eq_false (show ¬ j = 3 by omega)] at k5
      exact ⟨⟨hi.1, gB_u hi.2.1 k5 hjb, by show H.2.2.2.1 + F.length + 1 ≤ s'; omega, by show H.2.2.2.2 + F.length ≤ H.2.2.2.1 + F.length + 1; omega⟩, by omega, k4⟩
theorem hO_bod {Z : Nat → Nat → Int} {n s : Nat} {t : Bool} {H : am_HS} (hi : hI H s) (hn : n ≤ 1600) : hO n s (sBod Z n (fw Z n s t) H (.inr (s, t, []))) := by
  obtain ⟨w, hw⟩ : ∃ w, w = fw Z n s t := ⟨_, rfl⟩
  rw [← hw]
  have hk : 0 ≤ w → kd Z n s t = 1 := fun h => by
    by_cases g : kd Z n s t = 1
    · exact g
    · rw [hw] at h
      unfold fw at h
      rw [if_neg g] at h
      omega
  unfold sBod
  by_cases g : w = 0
  · rw [if_pos g]; exact hO_kind hi (hk (by omega))
  rw [if_neg g]
  by_cases g : w = 1
  · rw [if_pos g]; exact hO_film hi (hk (by omega))
  rw [if_neg g]
  by_cases g : w = 4
  · rw [if_pos g]; exact hO_person hi (hk (by omega))
  rw [if_neg g]
  by_cases g : w = 7
  · rw [if_pos g]; exact hO_likes hi (hk (by omega))
  rw [if_neg g]
  by_cases g : w = 8
  · rw [if_pos g]; exact hO_press hi (hk (by omega))
  rw [if_neg g]
  by_cases g : w = 9
  · rw [if_pos g]; exact hO_form hi (hk (by omega)) hn (by omega)
  rw [if_neg g]
  by_cases g : w = 10
  · rw [if_pos g]; exact hO_form hi (hk (by omega)) hn (by omega)
  rw [if_neg g]
  by_cases g : w = 11
  · rw [if_pos g]; exact hO_form hi (hk (by omega)) hn (by omega)
  rw [if_neg g]
  by_cases g : w = 12
  · rw [if_pos g]; exact hO_set hi (hk (by omega)) (by omega)
  rw [if_neg g]
  by_cases g : w = 13
  · rw [if_pos g]; exact hO_set hi (hk (by omega)) (by omega)
  rw [if_neg g]
  by_cases g : w = 14
  · rw [if_pos g]; exact hO_set hi (hk (by omega)) (by omega)
  rw [if_neg g]
  by_cases g : w = 15
  · rw [if_pos g]; exact hO_set hi (hk (by omega)) (by omega)
  rw [if_neg g]
  trivial
