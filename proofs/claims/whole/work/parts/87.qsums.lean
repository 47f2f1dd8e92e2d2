/-! The reference reads a sum. -/
/-- how many brackets wait -/
def cnt (w : List Int) : Nat := (w.filter (fun c => decide (20 ≤ c))).length
theorem cnt_cons (c : Int) (w : List Int) : cnt (c :: w) = (if 20 ≤ c then 1 else 0) + cnt w := by
  unfold cnt
  rw [List.filter_cons]
  by_cases g : 20 ≤ c
  · rw [if_pos (decide_eq_true g), if_pos g, List.length_cons]; omega
  · rw [if_neg (fun h => g (of_decide_eq_true h)), if_neg g]; omega
theorem cnt_drop (f : Int → Bool) : ∀ w, cnt (w.dropWhile f) ≤ cnt w
  | [] => Nat.le_refl _
  | c :: w => by
    have := cnt_drop f w
    rw [List.dropWhile_cons, cnt_cons]
    split
    · omega
    · rw [cnt_cons]; omega
theorem cnt_mem {w : List Int} {c : Int} (h : c ∈ w) (h2 : 20 ≤ c) : 1 ≤ cnt w := by
  induction w with
  | nil => cases h
  | cons a w ih =>
    rw [cnt_cons]
    rcases List.mem_cons.mp h with rfl | h
    · rw [if_pos h2]; omega
    · have := ih h; omega
def cfi : am_Cf → Prop
  | .inl _ => True
  | .inr (_, _, _, _, w, o) => cnt w ≤ o
theorem stp_cfi {Z : Nat → Nat → Int} {n j : Nat} {x : am_Cf} (h : cfi x) : cfi (stp Z n j x) := by
  match x, h with
  | .inl e, h => exact h
  | .inr (0, s, t, l, w, o), h =>
    have h : cnt w ≤ o := h
    show cfi (stA Z n j s t l w o)
    unfold stA
    by_cases g1 : isG Z n 40 (.inr (s, t, [])) = true
    · rw [if_pos g1]
      split
      · trivial
      · show cnt (20 :: w) ≤ o + 1
        rw [cnt_cons]; split <;> omega
    · rw [if_neg g1]
      split
      · split
        · split
          · trivial
          · show cnt ((if isW Z n 27 (.inr (s, t, [])) = true then 21 else 22) :: w) ≤ o + 1
            have hh : ∀ c : Int, cnt (c :: w) ≤ o + 1 := fun c => by rw [cnt_cons]; split <;> omega
            exact hh _
        · trivial
      · split
        · split
          · trivial
          · show cnt (60 :: w) ≤ o + 1
            rw [cnt_cons]; split <;> omega
        · split
          · exact h
          · split
            · trivial
            · exact h
  | .inr (1, s, t, l, w, o), h =>
    have h : cnt w ≤ o := h
    show cfi (stE s t l w o)
    cases w with
    | nil => exact h
    | cons c w' =>
      rw [cnt_cons] at h
      by_cases g : 60 ≤ c
      · rw [show stE s t l (c :: w') o = .inr (1, s, t, l ++ [c], w', o - 1) from if_pos g]
        show cnt w' ≤ o - 1
        rw [if_pos (by omega)] at h
        omega
      · rw [show stE s t l (c :: w') o = .inr (2, s, t, l, c :: w', o) from if_neg g]
        show cnt (c :: w') ≤ o
        rw [cnt_cons]; exact h
  | .inr (2, s, t, l, w, o), h =>
    have h : cnt w ≤ o := h
    have h2 := cnt_drop nb w
    show cfi (stB Z n s t l w o)
    unfold stB
    have ht : ∀ (P : Prop), (P ∧ (20 ≤ brk w)) → cnt (w.dropWhile nb).tail + 1 ≤ o := by
      intro P hP
      obtain ⟨w', hw'⟩ := brk_top (w := w) (by omega)
      rw [hw', cnt_cons, if_pos hP.2] at h2
      rw [hw', List.tail_cons]
      omega
    split
    · rename_i g
      have := ht True ⟨trivial, by omega⟩
      show cnt (w.dropWhile nb).tail ≤ o - 1
      omega
    · have h3 := cnt_drop tT w
      have h4 := cnt_drop tS w
      repeat' split
      all_goals first
        | trivial
        | (show cnt (_ :: w.dropWhile tT) ≤ o
           rw [cnt_cons, if_neg (by omega)]; omega)
        | (show cnt (_ :: w.dropWhile tS) ≤ o
           rw [cnt_cons, if_neg (by omega)]; omega)
        | (rename_i g g2
           have := ht True ⟨trivial, by omega⟩
           show cnt ((brk w + 2) :: (w.dropWhile nb).tail) ≤ o
           rw [cnt_cons]; split <;> omega)
        | (show cnt [] ≤ o
           exact Nat.zero_le _)
  | .inr (m + 3, x), h => exact h
theorem itr_fin {Z : Nat → Nat → Int} {n j : Nat} (e : Int × Int) : ∀ m, itr Z n j m (.inl e) = .inl e
  | 0 => rfl
  | m + 1 => itr_fin e m
theorem itr_fin3 {Z : Nat → Nat → Int} {n j : Nat} (x : Nat × Bool × List Int × List Int × Nat) : ∀ m, itr Z n j m (.inr (3, x)) = .inr (3, x)
  | 0 => rfl
  | m + 1 => itr_fin3 x m
/-- the pile and the codes behind a sum -/
def qH6 (M : am_M) (j : Nat) (be l : List Int) (o : Nat) (x : Int32) : Prop := am_I M 187 53 = am_i (j : Int) ∧ am_I M 187 92 = am_i (l.length : Int) ∧ (∀ i, i < l.length → am_I M 257 i = am_i (l.getD i 0)) ∧ am_I M 187 94 = am_i (be.length : Int) ∧ stI (am_I M 258) be ∧ am_I M 187 95 = am_i (o : Int) ∧ am_I M 187 96 = x
/-- what a sum comes to -/
def qR (L : Nat) (q : am_Pq) (Z : Nat → Nat → Int) (n j : Nat) (be : List Int) (x : Int32) (res : am_Q) (M : am_M) : am_Cf → Prop
  | .inl e => ∃ M', res = some (none, M') ∧ qFt L q Z n M' e ∧ fr qA M M'
  | .inr (3, s, t, l, _, o) => ∃ M', res = some (none, M') ∧ mP L q Z n M' s t ∧ qH6 M' j be l o x ∧ fr qA M M'
  | _ => True
theorem qR_fr {L : Nat} {q : am_Pq} {Z : Nat → Nat → Int} {n j : Nat} {be : List Int} {x : Int32} {res : am_Q} {M M1 : am_M} (f : fr qA M M1) : ∀ {y : am_Cf}, qR L q Z n j be x res M1 y → qR L q Z n j be x res M y
  | .inl e, ⟨M', r, h, f'⟩ => ⟨M', r, h, fr_tr f f'⟩
  | .inr (3, s, t, l, _, o), ⟨M', r, h, h2, f'⟩ => ⟨M', r, h, h2, fr_tr f f'⟩
  | .inr (0, _), _ => trivial
  | .inr (1, _), _ => trivial
  | .inr (2, _), _ => trivial
  | .inr (m + 4, _), _ => trivial
noncomputable def kS2 (d : Nat) (x : Int32) (c3 : Int32) (M2 : am_M) : am_Q := am_br .eq c3 (am_i 0) (am_ev 245 (d + 8) 15 [.ref 187, .int x, .int (am_i 0)] [] M2) (am_ev 245 (d + 8) 15 [.ref 187, .int x, .int (am_i 1)] [] M2)
noncomputable def kS1 (d : Nat) (x : Int32) (M1 : am_M) : am_Q := am_ob M1 187 6 (am_br .ne (am_I M1 187 5) (am_i 0) (am_ev 245 (d + 8) 15 [.ref 187, .int x, .int (am_i 0)] [] M1) (am_ob M1 187 6 (am_bI (am_cl 244 (d + 7) [.ref 187] M1) (kS2 d x)) none)) none
/-- a fault ends a sum -/
theorem kS_bad {L : Nat} {q : am_Pq} {Z : Nat → Nat → Int} {n : Nat} {M : am_M} {e : Int × Int} (H : qFt L q Z n M e) (d : Nat) (x : Int32) : ∃ M', am_ev 245 (d + 8) 15 [.ref 187, .int x, .int (am_i 0)] [] M = some (none, M') ∧ qFt L q Z n M' e ∧ fr qA M M' := by
  obtain ⟨HF, c, hc, e92⟩ := H
  have S := HF.1
  have e5 := HF.2.2.1
  have he := HF.2.1
  refine ⟨am_sI M 187 96 x, ?_, ⟨mFa_mv HF (S.sI _ _ _) (fr_sI (by unfold nR; omega)), c, hc, by rw [am_I_ne2 (by decide)]; exact e92⟩, fr_sI (Or.inr (Or.inr ⟨rfl, by omega⟩))⟩
  rw [t245_15, am_br_eq (by omega) (by omega) (by omega) (by omega), if_pos rfl, t245_53, am_ob_p (kk_187 S), e5, am_br_ne (by omega) (by omega) (by omega) (by omega), if_neg (by omega), am_ob_p (kk_187 S), am_lt]
/-- all that waits is told at the end -/
theorem kS_end {L : Nat} {q : am_Pq} {Z : Nat → Nat → Int} {n j : Nat} {be : List Int} (d : Nat) (x : Int32) : ∀ (w l : List Int) (M : am_M) (s : Nat) (t : Bool) (o : Nat), mP L q Z n M s t → qH M j be l w o → l.length + w.length + be.length ≤ 1600 → ∀ v2, ∃ M', am_ev 245 (d + 8) 53 [.ref 187, .int x, v2] [] M = some (none, M') ∧ mP L q Z n M' s t ∧ qH6 M' j be (l ++ w) o x ∧ fr qA M M' := by
  intro w
  induction w with
  | nil =>
    intro l M s t o HP HQ hl v2
    obtain ⟨S, e5, hsn, hn, hz⟩ := mP_S HP
    obtain ⟨h1, h2, h3, h4, h5, h6, h7⟩ := HQ
    rw [List.length_nil, Nat.zero_add] at h4
    refine ⟨am_sI M 187 96 x, ?_, mP_mv HP (S.sI _ _ _) (fr_sI (by unfold nR; omega)), ?_, fr_sI (Or.inr (Or.inr ⟨rfl, by omega⟩))⟩
    · rw [t245_53, am_ob_p (kk_187 S), e5, am_br_ne (by omega) (by omega) (by omega) (by omega), if_pos rfl, am_ob_p (kk_187 S), am_ob_p (kk_187 S), h4, h7, am_br_le (by omega) (by omega) (by omega) (by omega), if_pos (Int.le_refl _), am_ob_p (kk_187 S), am_lt]
    · rw [List.append_nil]
      exact ⟨by rw [am_I_ne2 (by decide)]; exact h1, by rw [am_I_ne2 (by decide)]; exact h2, fun i hi => by rw [am_I_ne1 (by decide)]; exact h3 i hi, by rw [am_I_ne2 (by decide)]; exact h4, stI_mv h5 (fun k hk => by rw [am_I_ne1 (by decide)]), by rw [am_I_ne2 (by decide)]; exact h6, am_I_same _ _ _ _⟩
  | cons c w ih =>
    intro l M s t o HP HQ hl v2
    obtain ⟨S, e5, hsn, hn, hz⟩ := mP_S HP
    rw [List.length_cons] at hl
    obtain ⟨M1, r1, S1, HQ1, f1⟩ := m_drops S HQ (by omega) (d + 6)
    obtain ⟨M2, r2, H2, HQ2, f2⟩ := ih (l ++ [c]) M1 s t o (mP_F1 HP S1 f1) HQ1 (by rw [List.length_append, List.length_singleton]; omega) v2
    refine ⟨M2, ?_, H2, by rw [List.append_assoc] at HQ2; exact HQ2, fr_tr (fr_mono f1 (fun b k h => qF1_qA h)) f2⟩
    rw [t245_53, am_ob_p (kk_187 S), e5, am_br_ne (by omega) (by omega) (by omega) (by omega), if_pos rfl, am_ob_p (kk_187 S), am_ob_p (kk_187 S), HQ.2.2.2.1, HQ.2.2.2.2.2.2, List.length_cons, am_br_le (by omega) (by omega) (by omega) (by omega), if_neg (by omega), am_ob_p (kk_187 S), r1, am_bV_p]
    exact r2
/-- a part's end, one step -/
theorem m_stepE {L : Nat} {q : am_Pq} {Z : Nat → Nat → Int} {n j : Nat} {be : List Int} {M : am_M} {s : Nat} {t : Bool} {l w : List Int} {o : Nat} (H : qC L q Z n j be M s t l w o) (hcn : cnt w ≤ o) (d : Nat) : (stE s t l w o = .inr (2, s, t, l, w, o) ∧ am_cl 242 (d + 3) [.ref 187] M = some (none, M)) ∨ ∃ c w' M', w = c :: w' ∧ 60 ≤ c ∧ stE s t l w o = .inr (1, s, t, l ++ [c], w', o - 1) ∧ am_cl 242 (d + 3) [.ref 187] M = am_cl 242 (d + 3) [.ref 187] M' ∧ qC L q Z n j be M' s t (l ++ [c]) w' (o - 1) ∧ fr qA M M' := by
  obtain ⟨HP, HQ, hbl, hs16, hj, ho, hc⟩ := H
  obtain ⟨S, e5, hsn, hn, hz⟩ := mP_S HP
  cases w with
  | nil =>
    refine Or.inl ⟨rfl, ?_⟩
    rw [t242, t242_0, am_ob_p (kk_187 S), e5, am_br_ne (by omega) (by omega) (by omega) (by omega), if_pos rfl, am_ob_p (kk_187 S), am_ob_p (kk_187 S), HQ.2.2.2.1, HQ.2.2.2.2.2.2, List.length_nil, am_br_le (by omega) (by omega) (by omega) (by omega), if_pos (by omega)]
  | cons c w' =>
    have hcb := hc c (by simp)
    have hlen : (c :: w').length = w'.length + 1 := List.length_cons
    have hg : am_I M 258 (w'.length + be.length) = am_i c := by
      rw [← List.length_append]
      exact HQ.2.2.2.2.1.1
    have hst : am_cl 242 (d + 3) [.ref 187] M = am_br .lt (am_i c) (am_i 60) (some (none, M)) (am_ob M 187 6 (am_ob M 187 6 (am_lt (am_sI M 187 95 ((am_I M 187 95) - (am_i 1))) (fun M2 => am_ob M2 187 6 (am_bV (am_cl 235 (d + 2) [.ref 187] M2) (fun M3 => am_ev 242 (d + 2 + 1) 0 [.ref 187] [] M3)) none)) none) none) := by
      rw [t242, t242_0, am_ob_p (kk_187 S), e5, am_br_ne (by omega) (by omega) (by omega) (by omega), if_pos rfl, am_ob_p (kk_187 S), am_ob_p (kk_187 S), HQ.2.2.2.1, HQ.2.2.2.2.2.2, hlen, am_br_le (by omega) (by omega) (by omega) (by omega), if_neg (by omega), am_ob_p (kk_187 S), rr_187_93 S, am_gr_p, am_ob_p (kk_187 S), am_i_sub, show ((w'.length + 1 + be.length : Nat) : Int) - 1 = ((w'.length + be.length : Nat) : Int) by omega, am_ix_p (kk_258 S) (by omega) (by omega) (by omega), am_i_ix (by omega) (by omega), Int.toNat_natCast, hg]
    by_cases g : 60 ≤ c
    · have ho1 : 1 ≤ o := by
        rw [cnt_cons, if_pos (by omega)] at hcn
        omega
      have HQ1 := qH_o HQ (o - 1)
      have S1 := S.sI 187 95 (am_i ((o - 1 : Nat) : Int))
      obtain ⟨M2, r2, S2, HQ2, f2⟩ := m_drops S1 HQ1 (by omega) (d + 1)
      have fA : fr qF1 M M2 := fr_tr (fr_sI (Or.inr (Or.inr ⟨rfl, by omega⟩))) f2
      refine Or.inr ⟨c, w', M2, rfl, g, if_pos g, ?_, ⟨mP_F1 HP S2 fA, HQ2, by rw [List.length_append, List.length_singleton]; omega, hs16, hj, by omega, fun c' hc' => hc c' (by rw [List.cons_append]; exact List.mem_cons_of_mem _ hc')⟩, fr_mono fA (fun b k h => qF1_qA h)⟩
      rw [hst, am_br_lt (by omega) (by omega) (by omega) (by omega), if_neg (by omega), am_ob_p (kk_187 S), am_ob_p (kk_187 S), HQ.2.2.2.2.2.1, am_i_sub, show (o : Int) - 1 = ((o - 1 : Nat) : Int) by omega]
      simp only [am_lt]
      rw [am_ob_p (kk_187 S1), r2, am_bV_p, t242]
    · refine Or.inl ⟨if_neg g, ?_⟩
      rw [hst, am_br_lt (by omega) (by omega) (by omega) (by omega), if_pos (by omega)]
theorem m_sumsRun {L : Nat} {q : am_Pq} {Z : Nat → Nat → Int} {n j : Nat} {be : List Int} (hbe : noS4 be) (d : Nat) (x : Int32) {y : am_Cf} (hy : (∃ e, y = .inl e) ∨ ∃ z, y = .inr (3, z)) : ∀ m s t l w o M, qC L q Z n j be M s t l w o → cnt w ≤ o →
    (itr Z n j m (.inr (0, s, t, l, w, o)) = y → ∀ v2 v3 v4 v5, qR L q Z n j be x (am_bV (am_ev 243 (d + 7) 2 [.ref 187, .int (am_i 1), v2, v3, v4, v5] [] M) (kS1 d x)) M y) ∧
    (itr Z n j m (.inr (1, s, t, l, w, o)) = y → qR L q Z n j be x (am_bV (am_bV (am_cl 242 (d + 6) [.ref 187] M) (fun M6 => some (none, M6))) (kS1 d x)) M y ∧ ∀ v1, qR L q Z n j be x (am_bI (am_bV (am_cl 242 (d + 6) [.ref 187] M) (fun M6 => am_ev 244 (d + 7) 0 [.ref 187, v1] [] M6)) (kS2 d x)) M y) ∧
    (itr Z n j m (.inr (2, s, t, l, w, o)) = y → ∀ v1, qR L q Z n j be x (am_bI (am_ev 244 (d + 7) 0 [.ref 187, v1] [] M) (kS2 d x)) M y) := by
  have nz : ∀ (k : Nat) z, k < 3 → (.inr (k, z) : am_Cf) ≠ y := by
    intro k z hk h
    rcases hy with ⟨e, rfl⟩ | ⟨z', rfl⟩
    · cases h
    · rw [Sum.inr.injEq, Prod.mk.injEq] at h
      omega
  intro m
  induction m with
  | zero =>
    intro s t l w o M H hcn
    exact ⟨fun h => absurd h (nz 0 _ (by omega)), fun h => absurd h (nz 1 _ (by omega)), fun h => absurd h (nz 2 _ (by omega))⟩
  | succ m ih =>
    intro s t l w o M H hcn
    refine ⟨fun h v2 v3 v4 v5 => ?_, fun h => ?_, fun h v1 => ?_⟩
    · have h : itr Z n j m (stA Z n j s t l w o) = y := h
      have hs := m_stepA H d v2 v3 v4 v5
      have hi : cfi (stA Z n j s t l w o) := stp_cfi (x := .inr (0, s, t, l, w, o)) hcn
      cases hst : stA Z n j s t l w o with
      | inl e =>
        rw [hst] at h hs
        rw [itr_fin] at h
        obtain ⟨M1, r1, H1, f1⟩ := hs
        obtain ⟨M2, r2, H2, f2⟩ := kS_bad H1 d x
        rw [← h]
        refine ⟨M2, ?_, H2, fr_tr f1 f2⟩
        have S1 := H1.1.1
        have e5 := H1.1.2.2.1
        have he := H1.1.2.1
        rw [r1, am_bV_p]
        unfold kS1
        rw [am_ob_p (kk_187 S1), e5, am_br_ne (by omega) (by omega) (by omega) (by omega), if_neg (by omega)]
        exact r2
      | inr z =>
        obtain ⟨k, s', t', l', w', o'⟩ := z
        rw [hst] at h hs hi
        match k, h, hs, hi with
        | 0, h, hs, hi =>
          obtain ⟨M1, u2, u3, u4, u5, r1, H1, f1⟩ := hs
          rw [r1]
          exact qR_fr f1 ((ih s' t' l' w' o' M1 H1 hi).1 h u2 u3 u4 u5)
        | 1, h, hs, hi =>
          obtain ⟨M1, r1, H1, f1⟩ := hs
          rw [r1]
          exact qR_fr f1 ((ih s' t' l' w' o' M1 H1 hi).2.1 h).1
        | 2, h, hs, hi =>
          exact absurd hst (by
            unfold stA
            repeat' split
            all_goals simp)
        | k + 3, h, hs, hi =>
          exact absurd hst (by
            unfold stA
            repeat' split
            all_goals simp)
    · have h : itr Z n j m (stE s t l w o) = y := h
      rcases m_stepE H hcn (d + 3) with ⟨hst, r1⟩ | ⟨c, w', M1, hw, hc60, hst, r1, H1, f1⟩
      · rw [hst] at h
        have ih2 := (ih s t l w o M H hcn).2.2 h
        obtain ⟨S, e5, -⟩ := mP_S H.1
        rw [r1]
        simp only [am_bV_p]
        refine ⟨?_, ih2⟩
        unfold kS1
        rw [am_ob_p (kk_187 S), e5, am_br_ne (by omega) (by omega) (by omega) (by omega), if_pos rfl, am_ob_p (kk_187 S), t244]
        exact ih2 .null
      · rw [hst] at h
        rw [r1]
        have hcn' : cnt w' ≤ o - 1 := by
          rw [hw, cnt_cons, if_pos (by omega)] at hcn
          omega
        have ih2 := (ih s t (l ++ [c]) w' (o - 1) M1 H1 hcn').2.1 h
        exact ⟨qR_fr f1 ih2.1, fun v1 => qR_fr f1 (ih2.2 v1)⟩
    · have h : itr Z n j m (stB Z n s t l w o) = y := h
      have hs := m_stepB hbe H (fun c hc h20 => Nat.le_trans (cnt_mem hc h20) hcn) d v1
      have hi : cfi (stB Z n s t l w o) := stp_cfi (Z := Z) (n := n) (j := j) (x := .inr (2, s, t, l, w, o)) hcn
      cases hst : stB Z n s t l w o with
      | inl e =>
        rw [hst] at h hs
        rw [itr_fin] at h
        obtain ⟨M1, r1, H1, f1⟩ := hs
        obtain ⟨M2, r2, H2, f2⟩ := kS_bad H1 d x
        rw [← h]
        refine ⟨M2, ?_, H2, fr_tr f1 f2⟩
        rw [r1, am_bI_p]
        unfold kS2
        rw [am_br_eq (by omega) (by omega) (by omega) (by omega), if_pos rfl]
        exact r2
      | inr z =>
        obtain ⟨k, s', t', l', w', o'⟩ := z
        rw [hst] at h hs hi
        match k, h, hs, hi, hst with
        | 0, h, hs, hi, hst =>
          obtain ⟨M1, r1, H1, f1⟩ := hs
          obtain ⟨S1, e5, -⟩ := mP_S H1.1
          rw [r1, am_bI_p]
          unfold kS2
          rw [am_br_eq (by omega) (by omega) (by omega) (by omega), if_neg (by omega), t245_15, am_br_eq (by omega) (by omega) (by omega) (by omega), if_neg (by omega), am_ob_p (kk_187 S1), e5, am_br_ne (by omega) (by omega) (by omega) (by omega), if_pos rfl, am_ob_p (kk_187 S1), t243]
          exact qR_fr f1 ((ih s' t' l' w' o' M1 H1 hi).1 h .null .null .null .null)
        | 1, h, hs, hi, hst =>
          obtain ⟨M1, r1, H1, f1⟩ := hs
          rw [r1]
          exact qR_fr f1 (((ih s' t' l' w' o' M1 H1 hi).2.1 h).2 v1)
        | 2, h, hs, hi, hst =>
          exact absurd hst (by
            unfold stB
            repeat' split
            all_goals simp)
        | 3, h, hs, hi, hst =>
          have hz : stB Z n s t l w o = .inr (3, s, t, l ++ w, [], o) := by
            unfold stB at hst ⊢
            repeat' split at hst
            all_goals first
              | (exfalso; simp at hst; done)
              | simp_all
          rw [hz, Sum.inr.injEq, Prod.mk.injEq, Prod.mk.injEq, Prod.mk.injEq, Prod.mk.injEq, Prod.mk.injEq] at hst
          obtain ⟨-, rfl, rfl, rfl, rfl, rfl⟩ := hst
          rw [itr_fin3] at h
          obtain ⟨M1, r1, H1, f1⟩ := hs
          obtain ⟨M2, r2, H2, HQ2, f2⟩ := kS_end d x w l M1 s t o H1.1 H1.2.1 (by have := H1.2.2.1; have := H1.2.2.2.1; omega) (.int (am_i 0))
          rw [← h]
          refine ⟨M2, ?_, H2, HQ2, fr_tr f1 f2⟩
          rw [r1, am_bI_p]
          unfold kS2
          rw [am_br_eq (by omega) (by omega) (by omega) (by omega), if_pos rfl, t245_15, am_br_eq (by omega) (by omega) (by omega) (by omega), if_pos rfl]
          exact r2
        | k + 4, h, hs, hi, hst =>
          exact absurd hst (by
            unfold stB
            repeat' split
            all_goals simp)
/-- a sum, as the reference reads it -/
theorem m_sums {L : Nat} {q : am_Pq} {Z : Nat → Nat → Int} {n B j : Nat} {be : List Int} (hbe : noS4 be) {M : am_M} {s : Nat} {t : Bool} {l : List Int} {o k : Nat} (HP : mP L q Z n M s t) {x : Int32} (HQ : qH6 M j be l o x) (hb : qb s j be l [] o) (ho : o + k = 6) (hB : B + l.length ≤ s) (d : Nat) : qR L q Z n j be x (am_cl 245 (d + 8) [.ref 187] M) M (rsl 3 [] o (rSum Z n B j k (.inr (s, t, l)))) := by
  obtain ⟨S, e5, hsn, hn, hz⟩ := mP_S HP
  obtain ⟨h1, h2, h3, h4, h5, h6, h7⟩ := HQ
  have S1 := S.sI 187 96 (am_i (be.length : Int))
  have HP1 : mP L q Z n (am_sI M 187 96 (am_i (be.length : Int))) s t := mP_mv HP S1 (fr_sI (by unfold nR; omega))
  have HQ1 : qH (am_sI M 187 96 (am_i (be.length : Int))) j be l [] o := ⟨by rw [am_I_ne2 (by decide)]; exact h1, by rw [am_I_ne2 (by decide)]; exact h2, fun i hi => by rw [am_I_ne1 (by decide)]; exact h3 i hi, by rw [am_I_ne2 (by decide), List.length_nil, Nat.zero_add]; exact h4, stI_mv h5 (fun k hk => by rw [am_I_ne1 (by decide)]), by rw [am_I_ne2 (by decide)]; exact h6, am_I_same _ _ _ _⟩
  obtain ⟨m, hm⟩ := rSum_all (Z := Z) (B := B) (t := t) (l := l) hn hb.2.2.1 ho hsn hB
  have hy : (∃ e, rsl 3 [] o (rSum Z n B j k (.inr (s, t, l))) = .inl e) ∨ ∃ z, rsl 3 [] o (rSum Z n B j k (.inr (s, t, l))) = .inr (3, z) := by
    cases rSum Z n B j k (.inr (s, t, l)) with
    | inl e => exact Or.inl ⟨e, rfl⟩
    | inr z => exact Or.inr ⟨_, rfl⟩
  have key := (m_sumsRun hbe d x hy m s t l [] o _ ⟨HP1, HQ1, hb⟩ (Nat.zero_le _)).1 hm .null .null .null .null
  have he : am_cl 245 (d + 8) [.ref 187] M = am_bV (am_ev 243 (d + 7) 2 [.ref 187, .int (am_i 1), .null, .null, .null, .null] [] (am_sI M 187 96 (am_i (be.length : Int)))) (kS1 d x) := by
    rw [t245, am_ob_p (kk_187 S), am_ob_p (kk_187 S), am_ob_p (kk_187 S), h4, h7, am_lt, t245_15, am_br_eq (by omega) (by omega) (by omega) (by omega), if_neg (by omega), am_ob_p (kk_187 S1), am_I_ne2 (show 5 ≠ 96 by decide), e5, am_br_ne (by omega) (by omega) (by omega) (by omega), if_pos rfl, am_ob_p (kk_187 S1), t243]
    rfl
  rw [he]
  exact qR_fr (fr_sI (Or.inr (Or.inr ⟨rfl, by omega⟩))) key
