/-! A question, apart from any machine. -/
def aQ (Z : Nat → Nat → Int) (n : Nat) : Sum (Int × Int) (Int × List Int) := if fw Z n (sk Z n 0) false < 29 then .inl (1, (sk Z n 0 : Int)) else match (if 31 < fw Z n (sk Z n 0) false then rSum Z n 0 3 6 (nx Z n (.inr (sk Z n 0, false, []))) else rTest Z n 0 3 6 (nx Z n (.inr (sk Z n 0, false, [])))) with
  | .inl e => .inl e
  | .inr (s, t, F) => if kd Z n s t = 0 then .inr (fw Z n (sk Z n 0) false, F) else .inl (1, (s : Int))
theorem aQ_ok {Z : Nat → Nat → Int} {n : Nat} (hn : n ≤ 1600) {w : Int} {F : List Int} (h : aQ Z n = .inr (w, F)) : 29 ≤ w ∧ w < 35 ∧ F.length + 1 ≤ 1600 ∧ wf (alw 3) true (decide (w ≤ 31)) F := by
  unfold aQ at h
  by_cases g : fw Z n (sk Z n 0) false < 29
  · rw [if_pos g] at h
    cases h
  · rw [if_neg g] at h
    have hb := fw_bd Z n (sk Z n 0) false
    have hk : kd Z n (sk Z n 0) false = 1 := by
      by_cases g2 : kd Z n (sk Z n 0) false = 1
      · exact g2
      · unfold fw at g
        rw [if_neg g2] at g
        omega
    have hns := ns_bd (Z := Z) (kd_lt (show 1 ≤ kd Z n (sk Z n 0) false by omega))
    obtain ⟨FR, hFR, hG⟩ : ∃ FR, FR = (if 31 < fw Z n (sk Z n 0) false then rSum Z n 0 3 6 (nx Z n (.inr (sk Z n 0, false, []))) else rTest Z n 0 3 6 (nx Z n (.inr (sk Z n 0, false, [])))) ∧ (∀ s t F, FR = .inr (s, t, F) → F.length + 1 ≤ 1600 ∧ wf (alw 3) true (decide (fw Z n (sk Z n 0) false ≤ 31)) F) := by
      by_cases g2 : 31 < fw Z n (sk Z n 0) false
      · refine ⟨_, rfl, fun s t F e => ?_⟩
        rw [if_pos g2, nx_inr] at e
        obtain ⟨F', k1, k2, k3, k4, k5⟩ := (Gd_rSum (Z := Z) (B := 0) (j := 3) hn (by omega) 6).1.2 _ _ _ (by omega) (by show 0 + 0 ≤ _; omega) _ _ _ e
        have k1 : F = F' := k1
        subst k1
        rw [decide_eq_false (by omega)]
        exact ⟨by omega, k5 [] (by show 0 + _ ≤ 60; omega)⟩
      · refine ⟨_, rfl, fun s t F e => ?_⟩
        rw [if_neg g2, nx_inr] at e
        obtain ⟨F', k1, k2, k3, k4, k5⟩ := (Gd_rTest (Z := Z) (B := 0) (j := 3) hn (by omega) 6).2 _ _ _ (by omega) (by show 0 + 0 ≤ _; omega) _ _ _ e
        have k1 : F = F' := k1
        subst k1
        rw [decide_eq_true (by omega)]
        exact ⟨by omega, k5 [] (by show 0 + _ ≤ 60; omega)⟩
    rw [← hFR] at h
    match FR, hG, h with
    | .inr (s, t, F'), hG, h =>
      have h : (if kd Z n s t = 0 then (Sum.inr (fw Z n (sk Z n 0) false, F') : Sum (Int × Int) (Int × List Int)) else .inl (1, (s : Int))) = .inr (w, F) := h
      by_cases g3 : kd Z n s t = 0
      · rw [if_pos g3] at h
        have h := Sum.inr.inj h
        rw [Prod.mk.injEq] at h
        obtain ⟨h1, h2⟩ := h
        subst h1
        subst h2
        have := hG s t F' rfl
        exact ⟨by omega, hb.2, this.1, this.2⟩
      · rw [if_neg g3] at h
        cases h
