/-! The class reads a house. -/
theorem am_i_ex (x : Int32) : ∃ i : Int, x = am_i i := ⟨x.toInt, (Int32.ofInt_toInt x).symm⟩
theorem am_i_nat (x : Int32) : ∃ o : Nat, x = am_i (o : Int) := ⟨(x.toInt + 4294967296).toNat, by
  have h1 := Int32.le_toInt x
  have e : (((x.toInt + 4294967296).toNat : Nat) : Int) = x.toInt + 4294967296 := by omega
  rw [e]
  show x = Int32.ofInt (x.toInt + 4294967296)
  rw [← Int32.toInt_inj, Int32.toInt_ofInt, show x.toInt + 4294967296 = x.toInt + 4294967296 * 1 by omega]
  have h2 := Int32.toInt_lt x
  rw [Int.bmod_def]
  show x.toInt = if (x.toInt + 4294967296 * 1) % 4294967296 < (4294967296 + 1) / 2 then (x.toInt + 4294967296 * 1) % 4294967296 else (x.toInt + 4294967296 * 1) % 4294967296 - 4294967296
  split <;> omega⟩
theorem c_start {L : Nat} {q : am_Pq} {Z : Nat → Nat → Int} {M : am_M} (S : am_Sh L q M) (hT : ∀ k, k < 1600 → am_I M 30 k = am_i (Z 0 k)) (hz : ∀ k, 0 ≤ Z 0 k ∧ Z 0 k ≤ 255) (hw : cWw M) {n : Nat} (hn : n ≤ 1600) {v : Nat} (hv : v = 29 ∨ v = 28 ∨ v = 62) (d : Nat) : ∃ M' fm o, am_cl 98 (d + 1 + 1) [.ref 3, .int (am_i (n : Int)), .ref v] M = some (none, M') ∧ rS L (q.1, v, q.2.2.1, q.2.2.2) Z n 0 fm o M' (.inr (sk Z n 0, false, [])) ∧ fr (fun b _ => b = 3) M M' := by
  have S1 := S.sI 3 0 (am_i 0)
  have S2 := S1.sI 3 1 (am_i (-1))
  have S3 := S2.sI 3 6 (am_i (n : Int))
  have S4 := Sh_314 S3 v
  have S5 := S4.sI 3 15 (am_i 0)
  have S6 := S5.sI 3 8 (am_i 0)
  have S7 := S6.sI 3 10 (am_i 0)
  have S8 := S7.sI 3 9 (am_i 0)
  obtain ⟨M8, hM8⟩ : ∃ M8, M8 = am_sI (am_sI (am_sI (am_sI (am_sR (am_sI (am_sI (am_sI M 3 0 (am_i 0)) 3 1 (am_i (-1))) 3 6 (am_i (n : Int))) 3 14 v) 3 15 (am_i 0)) 3 8 (am_i 0)) 3 10 (am_i 0)) 3 9 (am_i 0) := ⟨_, rfl⟩
  have e8 : am_I M8 3 6 = am_i (n : Int) := by
    rw [hM8, am_I_ne2 (by omega), am_I_ne2 (by omega), am_I_ne2 (by omega), am_I_ne2 (by omega)]
    show am_I (am_sI (am_sI (am_sI M 3 0 (am_i 0)) 3 1 (am_i (-1))) 3 6 (am_i (n : Int))) 3 6 = _
    rw [am_I_same]
  have e0 : am_I M8 3 0 = am_i 0 := by
    rw [hM8, am_I_ne2 (by omega), am_I_ne2 (by omega), am_I_ne2 (by omega), am_I_ne2 (by omega)]
    show am_I (am_sI (am_sI (am_sI M 3 0 (am_i 0)) 3 1 (am_i (-1))) 3 6 (am_i (n : Int))) 3 0 = _
    rw [am_I_ne2 (by omega), am_I_ne2 (by omega), am_I_same]
  have e1 : am_I M8 3 1 = am_i (-1) := by
    rw [hM8, am_I_ne2 (by omega), am_I_ne2 (by omega), am_I_ne2 (by omega), am_I_ne2 (by omega)]
    show am_I (am_sI (am_sI (am_sI M 3 0 (am_i 0)) 3 1 (am_i (-1))) 3 6 (am_i (n : Int))) 3 1 = _
    rw [am_I_ne2 (by omega), am_I_same]
  have e15 : am_I M8 3 15 = am_i 0 := by
    rw [hM8, am_I_ne2 (by omega), am_I_ne2 (by omega), am_I_ne2 (by omega), am_I_same]
  have f8 : fr (fun b _ => b = 3) M M8 := by
    rw [hM8]
    exact fr_tr (fr_sI rfl) (fr_tr (fr_sI rfl) (fr_tr (fr_sI rfl) (fr_tr fr_sR (fr_tr (fr_sI rfl) (fr_tr (fr_sI rfl) (fr_tr (fr_sI rfl) (fr_sI rfl)))))))
  rw [← hM8] at S8
  obtain ⟨M', r, S', f', hk'⟩ := c_next0 S8 (Z := Z) (fun k hk => by rw [(f8 _ _ (by omega)).1]; exact hT k hk) hz (fun k hk => by rw [(f8 _ _ (by omega)).2]; exact hw k hk) hn e8 (e := 0) (Nat.zero_le _) false (by rw [hM8]; exact am_I_same _ _ _ _) d .null
  obtain ⟨fm, hfm⟩ := am_i_ex (am_I M' 3 13)
  obtain ⟨o, ho⟩ := am_i_nat (am_I M' 3 16)
  have fA : fr (fun b _ => b = 3) M M' := fr_tr f8 (fr_mono f' (fun b k h => h.1))
  refine ⟨M', fm, o, ?_, ⟨⟨S', hv, hn, fun k hk => by rw [(fA _ _ (by omega)).1]; exact hT k hk, fun k hk => by rw [(fA _ _ (by omega)).2]; exact hw k hk, by rw [(f' _ _ (by omega)).1]; exact e8, hfm, ho, Nat.zero_le _, hz⟩, (sk_bd Z n 0).2 (Nat.zero_le _), by rw [(f' _ _ (by omega)).1]; exact e0, by rw [(f' _ _ (by omega)).1]; exact e1, hk', by show 0 + 0 ≤ 1600; omega, by rw [(f' _ _ (by omega)).1]; exact e15, fun i hi => absurd hi (by show ¬ i < 0; omega)⟩, fA⟩
  have n16 : nI 1600 = am_i 1600 := am_i_nI 1600
  have hmin := j_minI (M := am_sI (am_sI M 3 0 (am_i 0)) 3 1 (am_i (-1))) (a := (n : Int)) (b := 1600) (by omega) (by omega) (by omega) (by omega) (d + 1)
  rw [if_neg (show ¬ (1600 : Int) < n by omega)] at hmin
  rw [t98, am_ob_p (kk_3 S), am_lt, am_ob_p (kk_3 S1), am_lt, am_ob_p (kk_3 S2), rr_3_5 S2, am_gr_p, kk_30 S2, am_if_t ⟨by decide, by decide⟩]
  rw [n16, hmin, am_bI_p, am_ob_p (kk_3 S2), am_lt, am_ob_p (kk_3 S3), am_lt, am_ob_p (kk_3 S4), am_lt, am_ob_p (kk_3 S5), am_lt, am_ob_p (kk_3 S6), am_lt, am_ob_p (kk_3 S7), t100, am_ob_p (kk_3 S7)]
  have e08 : am_I (am_sI (am_sI (am_sI (am_sR (am_sI (am_sI (am_sI M 3 0 (am_i 0)) 3 1 (am_i (-1))) 3 6 (am_i (n : Int))) 3 14 v) 3 15 (am_i 0)) 3 8 (am_i 0)) 3 10 (am_i 0)) 3 0 = am_i 0 := by
    rw [am_I_ne2 (by omega), am_I_ne2 (by omega), am_I_ne2 (by omega)]
    show am_I (am_sI (am_sI (am_sI M 3 0 (am_i 0)) 3 1 (am_i (-1))) 3 6 (am_i (n : Int))) 3 0 = _
    rw [am_I_ne2 (by omega), am_I_ne2 (by omega), am_I_same]
  have e88 : am_I (am_sI (am_sI (am_sI (am_sR (am_sI (am_sI (am_sI M 3 0 (am_i 0)) 3 1 (am_i (-1))) 3 6 (am_i (n : Int))) 3 14 v) 3 15 (am_i 0)) 3 8 (am_i 0)) 3 10 (am_i 0)) 3 8 = am_i 0 := by
    rw [am_I_ne2 (by omega), am_I_same]
  have e810 : am_I (am_sI (am_sI (am_sI (am_sR (am_sI (am_sI (am_sI M 3 0 (am_i 0)) 3 1 (am_i (-1))) 3 6 (am_i (n : Int))) 3 14 v) 3 15 (am_i 0)) 3 8 (am_i 0)) 3 10 (am_i 0)) 3 10 = am_i 0 := by
    rw [am_I_same]
  rw [e08, e88, e810, am_br_eq (by omega) (by omega) (by omega) (by omega), if_pos rfl, am_ob_p (kk_3 S7), am_br_eq (by omega) (by omega) (by omega) (by omega), if_neg (by omega), am_ob_p (kk_3 S7), am_br_ne (by omega) (by omega) (by omega) (by omega), if_neg (by omega), am_ob_p (kk_3 S7), am_ob_p (kk_3 S7), am_lt, ← hM8]
  rw [show (am_i (if (false : Bool) = true then ((0 : Nat) : Int) else -1)) = am_i (-1) from rfl] at r
  rw [r, am_bV_p]
def sStm (Z : Nat → Nat → Int) (n : Nat) (H : am_HS) (s : Nat) (t : Bool) : am_SR := match sBod Z n (fw Z n s t) H (.inr (s, t, [])) with
  | .inl e => .inl e
  | .inr (s1, t1, H1) => match tkG Z n 59 (.inr (s1, t1, [])) with
    | .inl e => .inl e
    | .inr (s2, t2, _) => .inr (s2, t2, H1)
def sLoop (Z : Nat → Nat → Int) (n : Nat) : Nat → Nat → am_HS → Nat → Bool → Sum (Int × Int) (Nat × am_HS)
  | 0, c, H, s, t => if kd Z n s t = 0 then .inr (c, H) else .inl (5, (s : Int))
  | m + 1, c, H, s, t => if kd Z n s t = 0 then .inr (c, H) else match sStm Z n H s t with
    | .inl e => .inl e
    | .inr (s', t', H') => sLoop Z n m (c + 1) H' s' t'
theorem hO_stm {Z : Nat → Nat → Int} {n s : Nat} {t : Bool} {H : am_HS} (hi : hI H s) (hn : n ≤ 1600) : hO n s (sStm Z n H s t) := by
  have h1 := hO_bod (t := t) hi hn (Z := Z)
  unfold sStm
  cases hb : sBod Z n (fw Z n s t) H (.inr (s, t, [])) with
  | inl e => trivial
  | inr x =>
    obtain ⟨s1, t1, H1⟩ := x
    rw [hb] at h1
    obtain ⟨h2, h3, h4⟩ := h1
    simp only []
    cases hg : tkG Z n 59 (.inr (s1, t1, [])) with
    | inl e => trivial
    | inr y =>
      obtain ⟨s2, t2, l2⟩ := y
      obtain ⟨s3, t3, l3, e1, h5, h6⟩ := av_tkG _ _ _ hg
      have e1 := Sum.inr.inj e1
      rw [Prod.mk.injEq, Prod.mk.injEq] at e1
      exact ⟨⟨h2.1, h2.2.1, Nat.le_trans h2.2.2.1 (by omega), h2.2.2.2⟩, by omega, h6⟩
theorem c_loopE {L : Nat} {q : am_Pq} {Z : Nat → Nat → Int} {n B : Nat} {fm : Int} {o : Nat} {M : am_M} {e : Int × Int} (H : rS L q Z n B fm o M (.inl e)) (v1 : Value) (x : Int32) (d : Nat) : am_ev 96 (d + 1) 21 [.ref 3, v1, .int x] [] M = some (some (.int (am_i (-1))), M) := by
  have S := H.1.1
  obtain ⟨k1, k2, k3, k4, -⟩ := H.2
  rw [t96_21, am_ob_p (kk_3 S), k4, am_br_eq (by omega) (by omega) (by omega) (by omega), if_neg (by omega), am_ob_p (kk_3 S), k2, am_br_ne (by omega) (by omega) (by omega) (by omega), if_neg (by omega), am_ob_p (kk_3 S), am_br_ne (by omega) (by omega) (by omega) (by omega), if_neg (by omega)]
theorem c_loop {L : Nat} {q : am_Pq} {Z : Nat → Nat → Int} {n : Nat} (hq : qh q) (d : Nat) : ∀ (m c : Nat), c + m = 80 → ∀ {M : am_M} {s : Nat} {t : Bool} {H : am_HS} {fm : Int} {o : Nat}, rS L q Z n H.2.2.2.1 fm o M (.inr (s, t, [])) → cHt M q.1 H → hI H s → ∀ (v1 : Value), ∃ M' x, am_ev 96 (d + 61 + 1) 21 [.ref 3, v1, .int (am_i (c : Int))] [] M = some (some (.int (am_i x)), M') ∧ fr (pHs q) M M' ∧ match sLoop Z n m c H s t with
    | .inl e => x = -1 ∧ ∃ B fm o, rS L q Z n B fm o M' (.inl e)
    | .inr (c', H') => x = (c' : Int) ∧ c' ≤ 80 ∧ ∃ s' t' fm o, rS L q Z n H'.2.2.2.1 fm o M' (.inr (s', t', [])) ∧ cHt M' q.1 H' ∧ hI H' s' := by
  intro m
  induction m with
  | zero =>
    intro c hc M s t H fm o HR HH hi v1
    have S := HR.1.1
    obtain ⟨k1, k2, k3, ⟨k4, k5, k6, k7⟩, -⟩ := HR.2
    have hkb := kd_bd Z n s t
    by_cases g : kd Z n s t = 0
    · refine ⟨M, (c : Int), ?_, fr_rfl _ _, ?_⟩
      · rw [t96_21, am_ob_p (kk_3 S), k4, am_br_eq (by omega) (by omega) (by omega) (by omega), if_pos g, am_ob_p (kk_3 S), k2, am_br_ne (by omega) (by omega) (by omega) (by omega), if_pos rfl]
      · unfold sLoop
        rw [if_pos g]
        exact ⟨rfl, by omega, s, t, fm, o, HR, HH, hi⟩
    · obtain ⟨M1, r1, H1, f1⟩ := c_fl HR (c := 5) (by omega) (d + 61)
      refine ⟨M1, -1, ?_, fr_mono f1 (fun b k h => pRd_pHs hq h), ?_⟩
      · rw [t96_21, am_ob_p (kk_3 S), k4, am_br_eq (by omega) (by omega) (by omega) (by omega), if_neg g, am_ob_p (kk_3 S), k2, am_br_ne (by omega) (by omega) (by omega) (by omega), if_pos rfl, am_br_gt (by omega) (by omega) (by omega) (by omega), if_neg (by omega), am_br_ne (by omega) (by omega) (by omega) (by omega), if_pos (by omega), am_ob_p (kk_3 S), am_ob_p (kk_3 S), r1, am_bV_p]
        exact c_loopE H1 _ _ _
      · unfold sLoop
        rw [if_neg g]
        exact ⟨rfl, _, _, _, H1⟩
  | succ m ih =>
    intro c hc M s t H fm o HR HH hi v1
    have S := HR.1.1
    obtain ⟨k1, k2, k3, ⟨k4, k5, k6, k7⟩, -⟩ := HR.2
    have hkb := kd_bd Z n s t
    by_cases g : kd Z n s t = 0
    · refine ⟨M, (c : Int), ?_, fr_rfl _ _, ?_⟩
      · rw [t96_21, am_ob_p (kk_3 S), k4, am_br_eq (by omega) (by omega) (by omega) (by omega), if_pos g, am_ob_p (kk_3 S), k2, am_br_ne (by omega) (by omega) (by omega) (by omega), if_pos rfl]
      · unfold sLoop
        rw [if_pos g]
        exact ⟨rfl, by omega, s, t, fm, o, HR, HH, hi⟩
    · obtain ⟨M1, r1, H1, f1⟩ := c_stmt hq HR HH hi.1.2.2.1 hi.1.1.2.2.2.2.2.2.2.2.1 hi.2.2.1 d
      have r1 : am_cl 108 (d + 61) [.ref 3] M = some (none, M1) := r1
      have hO := hO_stm (t := t) hi HR.1.2.2.1 (Z := Z)
      obtain ⟨M2, r2, H2, f2⟩ : ∃ M2, am_ev 96 (d + 61 + 1) 21 [.ref 3, v1, .int (am_i (c : Int))] [] M = am_ev 96 (d + 61 + 1) 21 [.ref 3, am_kl v1, .int (am_i ((c + 1 : Nat) : Int))] [] M2 ∧ cAf L q Z n M2 (sStm Z n H s t) ∧ fr (pHs q) M M2 := by
        have hS1 : am_Sh L q M1 := by
          cases hb : sBod Z n (fw Z n s t) H (.inr (s, t, [])) with
          | inl e => rw [hb] at H1; obtain ⟨B, fm, o, H1⟩ := H1; exact H1.1.1
          | inr x => obtain ⟨s1, t1, H1'⟩ := x; rw [hb] at H1; obtain ⟨fm, o, H1, -⟩ := H1; exact H1.1.1
        have h0 : ∀ M2, am_cl 105 (d + 61) [.ref 3, .int (am_i 59)] M1 = some (none, M2) → am_ev 96 (d + 61 + 1) 21 [.ref 3, v1, .int (am_i (c : Int))] [] M = am_ev 96 (d + 61 + 1) 21 [.ref 3, am_kl v1, .int (am_i ((c + 1 : Nat) : Int))] [] M2 := fun M2 r2 => by
          rw [t96_21, am_ob_p (kk_3 S), k4, am_br_eq (by omega) (by omega) (by omega) (by omega), if_neg g, am_ob_p (kk_3 S), k2, am_br_ne (by omega) (by omega) (by omega) (by omega), if_pos rfl, am_br_gt (by omega) (by omega) (by omega) (by omega), if_neg (by omega), am_br_ne (by omega) (by omega) (by omega) (by omega), if_neg (by omega), am_ob_p (kk_3 S), r1, am_bV_p, am_ob_p (kk_3 hS1), r2, am_bV_p, am_i_add]
          rfl
        unfold sStm
        cases hb : sBod Z n (fw Z n s t) H (.inr (s, t, [])) with
        | inl e =>
          rw [hb] at H1
          obtain ⟨B, fm', o', H1⟩ := H1
          obtain ⟨M2, r2, H2, f2⟩ := c_tkG H1 (c := 59) (by omega) (d + 59)
          exact ⟨M2, h0 M2 r2, ⟨B, fm', o', H2⟩, fr_tr f1 (fr_mono f2 (fun b k h => pRd_pHs hq h))⟩
        | inr x =>
          obtain ⟨s1, t1, H1'⟩ := x
          rw [hb] at H1
          obtain ⟨fm', o', H1, HH1⟩ := H1
          obtain ⟨M2, r2, H2, f2⟩ := c_tkG H1 (c := 59) (by omega) (d + 59)
          refine ⟨M2, h0 M2 r2, ?_, fr_tr f1 (fr_mono f2 (fun b k h => pRd_pHs hq h))⟩
          simp only []
          cases hg : tkG Z n 59 (.inr (s1, t1, [])) with
          | inl e =>
            rw [hg] at H2
            exact ⟨_, _, _, H2⟩
          | inr y =>
            obtain ⟨s2, t2, l2⟩ := y
            obtain ⟨s3, t3, e3, -⟩ := Gd_sg hg
            have e3 := Sum.inr.inj e3
            rw [Prod.mk.injEq, Prod.mk.injEq] at e3
            have e3 := e3.2.2
            subst e3
            rw [hg] at H2
            exact ⟨_, _, H2, cHt_R hq HH1 (Nat.le_refl _) f2⟩
      have hE : sLoop Z n (m + 1) c H s t = match sStm Z n H s t with
          | .inl e => .inl e
          | .inr (s', t', H') => sLoop Z n m (c + 1) H' s' t' := if_neg g
      rw [hE]
      cases hs : sStm Z n H s t with
      | inl e =>
        rw [hs] at H2
        obtain ⟨B, fm', o', H2⟩ := H2
        exact ⟨M2, -1, r2.trans (c_loopE H2 _ _ _), f2, rfl, _, _, _, H2⟩
      | inr x =>
        obtain ⟨s', t', H'⟩ := x
        rw [hs] at H2 hO
        obtain ⟨fm', o', H2, HH2⟩ := H2
        obtain ⟨M3, x, r3, f3, h3⟩ := ih (c + 1) (by omega) H2 HH2 hO.1 (am_kl v1)
        exact ⟨M3, x, r2.trans r3, fr_tr f2 f3, h3⟩
