/-! The class: a new name. -/
def uN (N : Nat → Nat → List Int) (s w : Nat) (nm : List Int) : Nat → Nat → List Int := fun a b => if a = s ∧ b = w then nm else N a b
def most3 (s : Nat) : Int := if s = 0 then 6 else if s = 1 then 8 else 5
theorem nM_u {X : am_X} {s : Nat} {v : Int} {a : Nat} : nM (uA X 0 s 0 v) a = if a = s then v.toNat else nM X a := by
  unfold nM
  by_cases g : a = s
  · subst g; rw [uA_eq, if_pos rfl]
  · rw [uA_ne (by omega), if_neg g]
theorem xB_new {X : am_X} {N : Nat → Nat → List Int} (B : xB X N) {s : Nat} (hs : s < 3) (hm : X 0 s 0 < most3 s) {nm : List Int} (h1 : lok nm) (h2 : 1 ≤ nm.length) (h3 : nm.length ≤ 6) : xB (uA X 0 s 0 (X 0 s 0 + 1)) (uN N s (nM X s) nm) := by
  have hs3 : s = 0 ∨ s = 1 ∨ s = 2 := by omega
  have hc := xB_c B hs
  refine ⟨?_, ?_, ?_, fun a ha w hw => ?_⟩
  · rcases hs3 with rfl | rfl | rfl
    · rw [uA_eq]; unfold most3 at hm; rw [if_pos rfl] at hm; have := B.1; omega
    · rw [uA_ne (by omega)]; exact B.1
    · rw [uA_ne (by omega)]; exact B.1
  · rcases hs3 with rfl | rfl | rfl
    · rw [uA_ne (by omega)]; exact B.2.1
    · rw [uA_eq]; unfold most3 at hm; rw [if_neg (by omega), if_pos rfl] at hm; have := B.2.1; omega
    · rw [uA_ne (by omega)]; exact B.2.1
  · rcases hs3 with rfl | rfl | rfl
    · rw [uA_ne (by omega)]; exact B.2.2.1
    · rw [uA_ne (by omega)]; exact B.2.2.1
    · rw [uA_eq]; unfold most3 at hm; rw [if_neg (by omega), if_neg (by omega)] at hm; have := B.2.2.1; omega
  · rw [nM_u] at hw
    by_cases g : a = s
    · subst g
      rw [if_pos rfl] at hw
      by_cases g2 : w = nM X a
      · subst g2
        show 1 ≤ (if a = a ∧ nM X a = nM X a then nm else _).length ∧ _
        rw [show uN N a (nM X a) nm a (nM X a) = nm from if_pos ⟨rfl, rfl⟩, if_pos ⟨rfl, rfl⟩]
        exact ⟨h2, h3, h1⟩
      · rw [show uN N a (nM X a) nm a w = N a w from if_neg (fun h => g2 h.2)]
        exact B.2.2.2 a ha w (by omega)
    · rw [if_neg g] at hw
      rw [show uN N s (nM X s) nm a w = N a w from if_neg (fun h => g h.1)]
      exact B.2.2.2 a ha w hw
/-- how it goes on where a word begins a statement -/
def st1S (Z : Nat → Nat → Int) (n : Nat) (full : Prop) [Decidable full] (st : am_PS) : am_PS := if full then fl 5 st else nx Z n st
def dl : am_PS → am_PS
  | .inl e => .inl e
  | .inr (s, t, _) => .inr (s, t, [])
theorem rS_dl {L : Nat} {q : am_Pq} {Z : Nat → Nat → Int} {n B : Nat} {fm : Int} {o : Nat} {M : am_M} {e : Int × Int} (H : rS L q Z n B fm o M (.inl e)) : rS L q Z n B fm o M (dl (.inl e)) := H
def pNn (q : am_Pq) (B s b k : Nat) : Prop := pRd q B b k ∨ (b = q.1 + 1 ∧ k = s) ∨ b = q.1 + 3 + s
theorem rC_mv2 {L : Nat} {q : am_Pq} {Z : Nat → Nat → Int} {n B : Nat} {fm : Int} {o : Nat} {M M' : am_M} (H : rC L q Z n B fm o M) (S' : am_Sh L q M') (e : ∀ b k, b = 3 ∨ b = 30 → am_I M' b k = am_I M b k) (e2 : ∀ b k, b = 31 → am_L M' b k = am_L M b k) : rC L q Z n B fm o M' := by
  obtain ⟨S, hq, hn, hT, hw, e6, eF, eo, hB, hz⟩ := H
  exact ⟨S', hq, hn, fun k hk => (e 30 k (Or.inr rfl)).trans (hT k hk), fun k hk => (e2 31 k rfl).trans (hw k hk), (e 3 6 (Or.inl rfl)).trans e6, (e 3 13 (Or.inl rfl)).trans eF, (e 3 16 (Or.inl rfl)).trans eo, hB, hz⟩
theorem c_newName {L : Nat} {q : am_Pq} {Z : Nat → Nat → Int} {n B : Nat} {fm : Int} {o : Nat} (hq : qh q) {M : am_M} {s0 : Nat} {t0 : Bool} (H : rS L q Z n B fm o M (.inr (s0, t0, []))) (hk0 : kd Z n s0 t0 = 1) {X : am_X} {N : Nat → Nat → List Int} (HN : cNm M q.1 X N) {s : Nat} (hs : s < 3) (d : Nat) : ∃ M', am_cl 109 (d + 3) [.ref 3, .int (am_i (s : Int)), .int (am_i (most3 s))] M = some (some (.int (am_i (if isE (nwS Z n N (nM X) (st1S Z n (most3 s ≤ X 0 s 0) (.inr (s0, t0, [])))) = true then -1 else X 0 s 0))), M') ∧ rS L q Z n B fm o M' (dl (nwS Z n N (nM X) (st1S Z n (most3 s ≤ X 0 s 0) (.inr (s0, t0, []))))) ∧ (match nwS Z n N (nM X) (st1S Z n (most3 s ≤ X 0 s 0) (.inr (s0, t0, []))) with | .inl _ => cNm M' q.1 X N | .inr (_, _, nm) => cNm M' q.1 (uA X 0 s 0 (X 0 s 0 + 1)) (uN N s (nM X s) nm) ∧ lok nm ∧ 1 ≤ nm.length ∧ nm.length ≤ 6 ∧ X 0 s 0 < most3 s) ∧ fr (pNn q B s) M M' := by
  have S := H.1.1
  have hc := xB_c HN.2.2 hs
  have hh := hq.1
  have hm3 : 5 ≤ most3 s ∧ most3 s ≤ 8 := by unfold most3; repeat' split
                                             all_goals omega
  obtain ⟨st1, hst1⟩ : ∃ st1, st1 = st1S Z n (most3 s ≤ X 0 s 0) (.inr (s0, t0, [])) := ⟨_, rfl⟩
  rw [← hst1]
  -- the word is taken
  have key : ∃ M2, rS L q Z n B fm o M2 st1 ∧ fr (pRd q B) M M2 ∧ am_cl 109 (d + 2 + 1) [.ref 3, .int (am_i (s : Int)), .int (am_i (most3 s))] M = am_ob M2 3 4 (am_bI (am_cl 107 (d + 2) [.ref 3] M2) (fun c5 M4 => am_ev 109 (d + 2 + 1) 37 [.ref 3, .int (am_i (s : Int)), .int (am_i (most3 s)), .int (am_i (X 0 s 0)), .int c5, .int (am_i 0)] [] M4)) none := by
    have h0 := t109 (d + 2) M 3 (am_i (s : Int)) (am_i (most3 s))
    rw [am_ob_p (kk_3 S), rr_3_2 S, am_gr_p, am_ob_p (H_k0 S hh), H_r0_0 S hh, am_gr_p, am_ix_p (H_k1 S hh) (by omega) (by omega) (by omega), am_i_ix (by omega) (by omega), Int.toNat_natCast, HN.1 s hs, am_br_lt (by omega) (by omega) (by omega) (by omega)] at h0
    by_cases g : most3 s ≤ X 0 s 0
    · have e1 : st1 = .inl (5, (s0 : Int)) := by rw [hst1]; exact if_pos g
      obtain ⟨M1, r1, H1, f1⟩ := c_fl H (c := 5) (by omega) (d + 2)
      have H1 : rS L q Z n B fm o M1 (.inl (5, (s0 : Int))) := H1
      obtain ⟨M2, r2, H2, f2⟩ := c_nx H1 trivial (d + 1)
      rw [if_neg (by omega), am_ob_p (kk_3 S), am_ob_p (kk_3 S), r1, am_bV_p, am_ob_p (kk_3 H1.1.1), r2, am_bV_p] at h0
      exact ⟨M2, by rw [e1]; exact H2, fr_tr f1 f2, h0⟩
    · have e1 : st1 = nx Z n (.inr (s0, t0, [])) := by rw [hst1]; exact if_neg g
      obtain ⟨M2, r2, H2, f2⟩ := c_nx H (show 1 ≤ kd Z n s0 t0 ∧ kd Z n s0 t0 ≤ 3 by omega) (d + 1)
      rw [if_pos (by omega), am_ob_p (kk_3 S), r2, am_bV_p] at h0
      exact ⟨M2, by rw [e1]; exact H2, f2, h0⟩
  obtain ⟨M2, H2, f2, e2⟩ := key
  have hl1 : ∀ s t l, st1 = .inr (s, t, l) → l = [] := by
    intro a b l h
    rw [hst1] at h
    unfold st1S at h
    split at h
    · exact absurd h fl_ne
    · rw [nx_inr, Sum.inr.injEq, Prod.mk.injEq, Prod.mk.injEq] at h
      exact h.2.2.symm
  obtain ⟨M3, r3, H3, f3⟩ := c_nmH H2 (d + 1)
  have HN3 := cNm_R hq HN (fr_tr f2 f3)
  have hv := nmH_bd (Z := Z) (n := n) (st := st1)
  rw [am_ob_p (kk_3 H2.1.1), r3, am_bI_p] at e2
  obtain ⟨v, hv0⟩ : ∃ v, v = (nmH Z n st1).2 := ⟨_, rfl⟩
  rw [← hv0] at e2 hv
  -- is it there
  have lp : ∀ m i : Nat, i + m = 3 → ∀ (M4 : am_M) (st4 : am_PS), rS L q Z n B fm o M4 st4 → cNm M4 q.1 X N → ∃ M5 st5, am_ev 109 (d + 2 + 1) 37 [.ref 3, .int (am_i (s : Int)), .int (am_i (most3 s)), .int (am_i (X 0 s 0)), .int (am_i v), .int (am_i (i : Int))] [] M4 = am_ev 109 (d + 2 + 1) 37 [.ref 3, .int (am_i (s : Int)), .int (am_i (most3 s)), .int (am_i (X 0 s 0)), .int (am_i v), .int (am_i 3)] [] M5 ∧ rS L q Z n B fm o M5 st5 ∧ ((∃ k, i ≤ k ∧ k < 3 ∧ fndv (fun w => c5 (N k w)) v (nM X k) ≠ -1) → st5 = fl 3 st4) ∧ (¬ (∃ k, i ≤ k ∧ k < 3 ∧ fndv (fun w => c5 (N k w)) v (nM X k) ≠ -1) → st5 = st4) ∧ fr (pRd q B) M4 M5 := by
    intro m
    induction m with
    | zero =>
      intro i hi M4 st4 H4 HN4
      refine ⟨M4, st4, by rw [show i = 3 by omega]; rfl, H4, ?_, fun _ => rfl, fr_rfl _ _⟩
      rintro ⟨k, h1, h2, -⟩
      omega
    | succ m ih =>
      intro i hi M4 st4 H4 HN4
      have S4 := H4.1.1
      have rf := c_find S4 hh HN4 (s := i) (by omega) hv (d + 2)
      have fb := fndv_bd (fun w => c5 (N i w)) v (nM X i)
      have hc8 := (xB_c HN.2.2 (s := i) (by omega)).2.2.2
      have hst := t109_37 (d + 2) M4 3 (am_i (s : Int)) (am_i (X 0 s 0)) (am_i v) (am_i (i : Int)) (.int (am_i (most3 s)))
      rw [am_br_gt (by omega) (by omega) (by omega) (by omega), if_neg (by omega), am_ob_p (kk_3 S4), rr_3_2 S4, am_gr_p, am_ob_p (H_k0 S4 hh), rf, am_bI_p, am_br_eq (by omega) (by omega) (by omega) (by omega), am_i_add] at hst
      by_cases g : fndv (fun w => c5 (N i w)) v (nM X i) = -1
      · rw [if_pos g] at hst
        obtain ⟨M5, st5, r5, H5, h5, h5', f5⟩ := ih (i + 1) (by omega) M4 st4 H4 HN4
        have he : (∃ k, i + 1 ≤ k ∧ k < 3 ∧ fndv (fun w => c5 (N k w)) v (nM X k) ≠ -1) ↔ (∃ k, i ≤ k ∧ k < 3 ∧ fndv (fun w => c5 (N k w)) v (nM X k) ≠ -1) := by
          constructor
          · rintro ⟨k, h1, h2, h3⟩; exact ⟨k, by omega, h2, h3⟩
          · rintro ⟨k, h1, h2, h3⟩
            refine ⟨k, ?_, h2, h3⟩
            by_cases g2 : k = i
            · subst g2; exact absurd g h3
            · omega
        exact ⟨M5, st5, hst.trans r5, H5, fun h => h5 (he.mpr h), fun h => h5' (fun h2 => h (he.mp h2)), f5⟩
      · rw [if_neg g, am_ob_p (kk_3 S4), am_ob_p (kk_3 S4)] at hst
        obtain ⟨M6, r6, H6, f6⟩ := c_fl H4 (c := 3) (by omega) (d + 2)
        rw [r6, am_bV_p] at hst
        obtain ⟨M5, st5, r5, H5, h5, h5', f5⟩ := ih (i + 1) (by omega) M6 _ H6 (cNm_R hq HN4 f6)
        have hff : fl 3 (fl 3 st4) = fl 3 st4 := by
          match st4 with
          | .inl e => rfl
          | .inr (a, b, c) => rfl
        have hst5 : st5 = fl 3 st4 := by
          by_cases g3 : (∃ k, i + 1 ≤ k ∧ k < 3 ∧ fndv (fun w => c5 (N k w)) v (nM X k) ≠ -1)
          · rw [h5 g3, hff]
          · exact h5' g3
        exact ⟨M5, st5, hst.trans r5, H5, fun _ => hst5, fun h => absurd ⟨i, Nat.le_refl _, by omega, g⟩ h, fr_tr f6 f5⟩
  obtain ⟨M5, st5, r5, H5, hy5, hn5, f5⟩ := lp 3 0 rfl M3 _ H3 HN3
  have S5 := H5.1.1
  have HN5 := cNm_R hq HN3 f5
  have h37 := t109_37 (d + 2) M5 3 (am_i (s : Int)) (am_i (X 0 s 0)) (am_i v) (am_i 3) (.int (am_i (most3 s)))
  rw [am_br_gt (by omega) (by omega) (by omega) (by omega), if_pos (by omega), am_ob_p (kk_3 S5)] at h37
  -- with a fault
  have bad : ∀ e : Int × Int, rS L q Z n B fm o M5 (.inl e) → ∃ M', am_cl 109 (d + 3) [.ref 3, .int (am_i (s : Int)), .int (am_i (most3 s))] M = some (some (.int (am_i (-1))), M') ∧ rS L q Z n B fm o M' (.inl e) ∧ cNm M' q.1 X N ∧ fr (pNn q B s) M M' := by
    intro e H5
    obtain ⟨M6, r6, H6, f6⟩ := c_nx H5 trivial (d + 1)
    have e0 : am_I M6 3 0 = am_i e.1 := H6.2.2.1
    have he : 1 ≤ e.1 ∧ e.1 ≤ 5 := H6.2.1
    rw [r6, am_bV_p, am_ob_p (kk_3 H6.1.1), e0, am_br_eq (by omega) (by omega) (by omega) (by omega), if_neg (by omega)] at h37
    exact ⟨M6, e2.trans (r5.trans h37), H6, cNm_R hq HN5 f6, fr_mono (fr_tr f2 (fr_tr f3 (fr_tr f5 f6))) (fun b k h => Or.inl h)⟩
  have hex : (∃ k, 0 ≤ k ∧ k < 3 ∧ fndv (fun w => c5 (N k w)) v (nM X k) ≠ -1) ↔ ¬ (fndv (fun w => c5 (N 0 w)) v (nM X 0) = -1 ∧ fndv (fun w => c5 (N 1 w)) v (nM X 1) = -1 ∧ fndv (fun w => c5 (N 2 w)) v (nM X 2) = -1) := by
    constructor
    · rintro ⟨k, -, hk, h⟩ ⟨h0, h1, h2⟩
      have : k = 0 ∨ k = 1 ∨ k = 2 := by omega
      rcases this with rfl | rfl | rfl
      · exact h h0
      · exact h h1
      · exact h h2
    · intro h
      by_cases g0 : fndv (fun w => c5 (N 0 w)) v (nM X 0) = -1
      · by_cases g1 : fndv (fun w => c5 (N 1 w)) v (nM X 1) = -1
        · by_cases g2 : fndv (fun w => c5 (N 2 w)) v (nM X 2) = -1
          · exact absurd ⟨g0, g1, g2⟩ h
          · exact ⟨2, by omega, by omega, g2⟩
        · exact ⟨1, by omega, by omega, g1⟩
      · exact ⟨0, by omega, by omega, g0⟩
  match st1, hl1, hv0, hy5, hn5 with
  | .inl e, hl1, hv0, hy5, hn5 =>
    have hz : v = 0 := hv0
    have hno : ¬ (∃ k, 0 ≤ k ∧ k < 3 ∧ fndv (fun w => c5 (N k w)) v (nM X k) ≠ -1) := by
      rw [hex, hz]
      exact fun h => h ⟨fnd_0 HN.2.2 (by omega), fnd_0 HN.2.2 (by omega), fnd_0 HN.2.2 (by omega)⟩
    rw [hn5 hno] at H5
    obtain ⟨M', r', H', HN', f'⟩ := bad e H5
    exact ⟨M', r', H', HN', f'⟩
  | .inr (a, t, l), hl1, hv0, hy5, hn5 =>
    have hl' := hl1 a t l rfl
    subst hl'
    have hF : nwS Z n N (nM X) (.inr (a, t, [])) = match nmS Z n (.inr (a, t, [])) with
      | .inl e => .inl e
      | .inr (s', t', nm) => if fnd N 0 nm (nM X 0) = -1 ∧ fnd N 1 nm (nM X 1) = -1 ∧ fnd N 2 nm (nM X 2) = -1 then .inr (s', t', nm) else .inl (3, psn (.inr (a, t, []))) := rfl
    cases hn : nmS Z n (.inr (a, t, [])) with
    | inl e =>
      have hne := nmS_inl hn
      rw [hn] at hF
      rw [hF]
      have hz : v = 0 := by rw [hv0]; exact nmH_0 (by rw [hne]; rfl)
      have hno : ¬ (∃ k, 0 ≤ k ∧ k < 3 ∧ fndv (fun w => c5 (N k w)) v (nM X k) ≠ -1) := by
        rw [hex, hz]
        exact fun h => h ⟨fnd_0 HN.2.2 (by omega), fnd_0 HN.2.2 (by omega), fnd_0 HN.2.2 (by omega)⟩
      rw [hn5 hno, hne] at H5
      obtain ⟨M', r', H', HN', f'⟩ := bad e H5
      exact ⟨M', r', H', HN', f'⟩
    | inr x =>
      obtain ⟨hk1, hx, hne, hlok, hl1', hl6⟩ := nmS_inr hn
      subst hx
      rw [hn] at hF
      have hF : nwS Z n N (nM X) (.inr (a, t, [])) = if fnd N 0 (ltn Z a (te Z n a - a)) (nM X 0) = -1 ∧ fnd N 1 (ltn Z a (te Z n a - a)) (nM X 1) = -1 ∧ fnd N 2 (ltn Z a (te Z n a - a)) (nM X 2) = -1 then .inr (ns Z n a, nt Z n a, ltn Z a (te Z n a - a)) else .inl (3, (a : Int)) := hF
      have hz : v = c5 (ltn Z a (te Z n a - a)) := by rw [hv0, hne]
      rw [hz] at hex
      have e1 : (nmH Z n (.inr (a, t, []))).1 = .inr (a, t, []) := by rw [hne]
      rw [e1] at hy5 hn5
      rw [hz] at hy5 hn5
      rw [hF]
      by_cases g : fnd N 0 (ltn Z a (te Z n a - a)) (nM X 0) = -1 ∧ fnd N 1 (ltn Z a (te Z n a - a)) (nM X 1) = -1 ∧ fnd N 2 (ltn Z a (te Z n a - a)) (nM X 2) = -1
      · rw [hn5 (fun h => hex.mp h g)] at H5
        rw [if_pos g]
        have hlt : X 0 s 0 < most3 s := by
          by_cases g2 : most3 s ≤ X 0 s 0
          · have : st1S Z n (most3 s ≤ X 0 s 0) (.inr (s0, t0, [])) = .inl (5, (s0 : Int)) := if_pos g2
            rw [this] at hst1
            cases hst1
          · omega
        obtain ⟨M6, r6, H6, f6⟩ := c_nx H5 (show 1 ≤ kd Z n a t ∧ kd Z n a t ≤ 3 by omega) (d + 1)
        have S6 := H6.1.1
        have e0 : am_I M6 3 0 = am_i 0 := H6.2.2.1
        have HN6 := cNm_R hq HN5 f6
        have S7 := S6.sI (q.1 + 3 + s) (nM X s) (am_i v)
        have hcr : X 0 s 0 = ((nM X s : Nat) : Int) := hc.2.2.1.symm
        have h3 : q.1 = 4 ∨ q.1 = 38 := hh
        rw [r6, am_bV_p, am_ob_p (kk_3 S6), e0, am_br_eq (by omega) (by omega) (by omega) (by omega), if_pos rfl, am_ob_p (kk_3 S6), rr_3_2 S6, am_gr_p, am_ob_p (H_k0 S6 hh), H_r0_1 S6 hh, am_gr_p, am_iq_p (H_k2 S6 hh) (by omega) (by omega) (by omega) (by omega), am_i_ix (by omega) (by omega), Int.toNat_natCast, H_r2 S6 hh hs, am_gr_p, hcr, am_iw_p (H_q2 S6 hh hs) (by omega) (by omega) (by omega) (by omega), am_i_ix (by omega) (by omega), Int.toNat_natCast] at h37
        simp only [am_lt] at h37
        rw [am_ob_p (kk_3 S7), rr_3_2 S7, am_gr_p, am_ob_p (H_k0 S7 hh), H_r0_0 S7 hh, am_gr_p, am_ix_p (H_k1 S7 hh) (by omega) (by omega) (by omega), am_iw_p (H_k1 S7 hh) (by omega) (by omega) (by omega) (by omega), am_I_ne1 (show q.1 + 1 ≠ q.1 + 3 + s by omega), HN6.1 s hs, hcr, am_i_add] at h37
        have fW : fr (fun b k => (b = q.1 + 1 ∧ k = s) ∨ (b = q.1 + 3 + s ∧ k = nM X s)) M6 (am_sI (am_sI M6 (q.1 + 3 + s) (nM X s) (am_i v)) (q.1 + 1) s (am_i ((nM X s : Int) + 1))) := fr_tr (fr_sI (Or.inr ⟨rfl, rfl⟩)) (fr_sI (Or.inl ⟨rfl, rfl⟩))
        have fAll : fr (pNn q B s) M (am_sI (am_sI M6 (q.1 + 3 + s) (nM X s) (am_i v)) (q.1 + 1) s (am_i ((nM X s : Int) + 1))) := fr_tr (fr_mono (fr_tr f2 (fr_tr f3 (fr_tr f5 f6))) (fun b k h => Or.inl h)) (fr_mono fW (fun b k h => Or.inr (by omega)))
        have HT6 := H6.2
        refine ⟨_, ?_, ⟨rC_mv2 H6.1 (S7.sI _ _ _) (fun b k hb => (fW b k (by omega)).1) (fun b k hb => (fW b k (by omega)).2), ?_⟩, ⟨⟨fun k hk => ?_, fun a2 ha2 w hw => ?_, xB_new HN.2.2 hs hlt hlok hl1' hl6⟩, hlok, hl1', hl6, hlt⟩, fAll⟩
        · rw [hcr] at r5 e2
          have := e2.trans (r5.trans h37)
          rw [if_neg (by show ¬ false = true; decide), hcr]
          exact this
        · obtain ⟨k1, k2, k3, ⟨k4, k5, k6, k7⟩, k8, k9, k10⟩ := HT6
          have ef : ∀ k, am_I (am_sI (am_sI M6 (q.1 + 3 + s) (nM X s) (am_i v)) (q.1 + 1) s (am_i ((nM X s : Int) + 1))) 3 k = am_I M6 3 k := fun k => (fW 3 k (by omega)).1
          exact ⟨k1, (ef _).trans k2, (ef _).trans k3, ⟨(ef _).trans k4, (ef _).trans k5, (ef _).trans k6, fun hk => ⟨((fW 3 11 (by omega)).2).trans (k7 hk).1, (ef _).trans (k7 hk).2⟩⟩, k8, (ef _).trans k9, fun i hi => absurd hi (by show ¬ i < 0; omega)⟩
        · by_cases g2 : k = s
          · subst g2
            rw [am_I_same, uA_eq, hcr]
          · rw [(fW (q.1 + 1) k (by omega)).1, uA_ne (by omega)]
            exact HN6.1 k hk
        · rw [nM_u] at hw
          by_cases g2 : a2 = s ∧ w = nM X s
          · obtain ⟨rfl, rfl⟩ := g2
            rw [am_I_ne1 (by omega), am_I_same, hz]
            congr 2
            exact (if_pos ⟨rfl, rfl⟩).symm
          · rw [(fW (q.1 + 3 + a2) w (by omega)).1]
            have hw2 : w < nM X a2 := by
              by_cases g3 : a2 = s
              · subst g3
                rw [if_pos rfl] at hw
                have : w ≠ nM X a2 := fun h => g2 ⟨rfl, h⟩
                omega
              · rw [if_neg g3] at hw
                exact hw
            rw [show uN N s (nM X s) (ltn Z a (te Z n a - a)) a2 w = N a2 w from if_neg g2]
            exact HN6.2.1 a2 ha2 w hw2
      · rw [hy5 (hex.mpr g)] at H5
        rw [if_neg g]
        obtain ⟨M', r', H', HN', f'⟩ := bad (3, (a : Int)) H5
        exact ⟨M', r', H', HN', f'⟩
