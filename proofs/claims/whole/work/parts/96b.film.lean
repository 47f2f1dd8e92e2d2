/-! The class: films. -/
theorem knS_N {Z : Nat → Nat → Int} {n : Nat} {N N' : Nat → Nat → List Int} {sort c : Nat} {st : am_PS} (h : ∀ w, N' sort w = N sort w) : knS Z n N' sort c st = knS Z n N sort c st := by
  unfold knS fnd
  have e : (fun w => c5 (N' sort w)) = (fun w => c5 (N sort w)) := funext (fun w => by rw [h])
  rw [e]
def fkB (Z : Nat → Nat → Int) (n : Nat) (N : Nat → Nat → List Int) (c : Nat) (st : am_PS) (r : Nat → Int) : am_PS × Int := tkN Z n 1 9 (if isE (knS Z n N 0 c st).1 = false ∧ 0 < r (knS Z n N 0 c st).2.toNat then .inl (3, psn st) else (knS Z n N 0 c st).1)
def fkR (Z : Nat → Nat → Int) (n : Nat) (N : Nat → Nat → List Int) (c : Nat) (st : am_PS) (r : Nat → Int) : Nat → Int := fun k => if k = (knS Z n N 0 c st).2.toNat then (fkB Z n N c st r).2 else r k
theorem fK_s {Z : Nat → Nat → Int} {n : Nat} {N : Nat → Nat → List Int} {c m : Nat} {st : am_PS} {r : Nat → Int} : fK Z n N c (m + 1) st r = match (fkB Z n N c st r).1 with
    | .inl e => (.inl e, fkR Z n N c st r)
    | .inr (s, t, l) => if kd Z n s t = 1 then fK Z n N c m (.inr (s, t, l)) (fkR Z n N c st r) else (.inr (s, t, l), fkR Z n N c st r) := rfl
theorem fkB_N {Z : Nat → Nat → Int} {n : Nat} {N N' : Nat → Nat → List Int} {c : Nat} {st : am_PS} {r : Nat → Int} (h : ∀ w, N' 0 w = N 0 w) : fkB Z n N' c st r = fkB Z n N c st r := by
  unfold fkB
  rw [knS_N h]
theorem fkR_N {Z : Nat → Nat → Int} {n : Nat} {N N' : Nat → Nat → List Int} {c : Nat} {st : am_PS} {r : Nat → Int} (h : ∀ w, N' 0 w = N 0 w) : fkR Z n N' c st r = fkR Z n N c st r := by
  unfold fkR
  rw [fkB_N h, knS_N h]
theorem fK_N {Z : Nat → Nat → Int} {n : Nat} {N N' : Nat → Nat → List Int} {c : Nat} (h : ∀ w, N' 0 w = N 0 w) : ∀ m (st : am_PS) (r : Nat → Int), fK Z n N' c m st r = fK Z n N c m st r
  | 0, st, r => rfl
  | m + 1, st, r => by
    rw [fK_s, fK_s, fkB_N h, fkR_N h]
    cases hb : (fkB Z n N c st r).1 with
    | inl e => rfl
    | inr x =>
      obtain ⟨s, t, l⟩ := x
      simp only [fK_N h m]
theorem fkB_inr {Z : Nat → Nat → Int} {n : Nat} {N : Nat → Nat → List Int} {c : Nat} {st : am_PS} {r : Nat → Int} {s : Nat} {t : Bool} {l : List Int} (h : (fkB Z n N c st r).1 = .inr (s, t, l)) : l = [] ∧ isE st = false ∧ 0 ≤ (knS Z n N 0 c st).2 ∧ ∃ s1 t1, (knS Z n N 0 c st).1 = .inr (s1, t1, []) := by
  unfold fkB at h
  obtain ⟨a1, a2, e1⟩ := tkN_e h
  by_cases g : isE (knS Z n N 0 c st).1 = false ∧ 0 < r (knS Z n N 0 c st).2.toNat
  · rw [if_pos g] at e1
    cases e1
  · rw [if_neg g] at e1
    obtain ⟨k1, k2, k3, s1, t1, l1, k4, -⟩ := knS_inr e1
    have k1 : l = [] := k1
    subst k1
    exact ⟨rfl, by rw [k4]; rfl, k2, a1, a2, e1⟩
def pFm (q : am_Pq) (B f b k : Nat) : Prop := pRd q B b k ∨ b = q.1 + 8 + f
theorem c_row5 {L : Nat} {q : am_Pq} {Z : Nat → Nat → Int} {n B : Nat} {fm : Int} {o : Nat} (hq : qh q) {M : am_M} {st : am_PS} (H : rS L q Z n B fm o M st) {f : Nat} (hf : f < 8) {p : Int} (hp : -1 ≤ p ∧ p < 6) (x3 : Int32) (v2 v4 v6 : Value) (d : Nat) : ∃ M' w2 w4 w5 w6, am_ev 111 (d + 3 + 1) 105 [.ref 3, .int (am_i (f : Int)), v2, .int x3, v4, .int (am_i p), v6] [] M = am_ev 111 (d + 3 + 1) 44 [.ref 3, .int (am_i (f : Int)), w2, .int (x3 + am_i 1), w4, w5, w6] [] M' ∧ rS L q Z n B fm o M' (tkN Z n 1 9 st).1 ∧ fr (pFm q B f) M M' ∧ (0 ≤ p → ∀ k, k < 6 → am_I M' (q.1 + 8 + f) k = if k = p.toNat then am_i (tkN Z n 1 9 st).2 else am_I M (q.1 + 8 + f) k) := by
  have h4 : q.1 = 4 ∨ q.1 = 38 := hq.1
  have hh := hq.1
  obtain ⟨M1, r1, H1, f1⟩ := c_tkN H (lo := 1) (hi := 9) (by omega) (by omega) (d + 1)
  have S1 := H1.1.1
  have h0 := t111_105 (d + 3) M 3 (am_i (f : Int)) x3 (am_i p) v2 v4 v6
  rw [am_ob_p (kk_3 H.1.1), r1, am_bI_p, am_br_eq (by omega) (by omega) (by omega) (by omega)] at h0
  by_cases g : p = -1
  · rw [if_pos g] at h0
    exact ⟨M1, _, _, _, _, h0, H1, fr_mono f1 (fun b k h => Or.inl h), fun g2 => by omega⟩
  · rw [if_neg g, am_ob_p (kk_3 S1), rr_3_2 S1, am_gr_p, am_ob_p (H_k0 S1 hh), H_r0_3 S1 hh, am_gr_p, am_iq_p (H_k7 S1 hh) (by omega) (by omega) (by omega) (by omega), am_i_ix (by omega) (by omega), Int.toNat_natCast, H_r7 S1 hh hf, am_gr_p, am_iw_p (H_q7 S1 hh hf) (by omega) (by omega) (by omega) (by omega), am_i_ix (by omega) (by omega), am_lt] at h0
    refine ⟨_, _, _, _, _, h0, rS_w hq H1 (by omega) _, fr_tr (fr_mono f1 (fun b k h => Or.inl h)) (fr_sI (Or.inr rfl)), fun _ k hk => ?_⟩
    by_cases g2 : k = p.toNat
    · rw [if_pos g2, g2, am_I_same]
    · rw [if_neg g2, am_I_ne2 (by omega), (f1 _ _ (fun h => by have := qh_pR hq h; omega)).1]
theorem c_row {L : Nat} {q : am_Pq} {Z : Nat → Nat → Int} {n B : Nat} {fm : Int} {o : Nat} (hq : qh q) {M : am_M} {st : am_PS} (H : rS L q Z n B fm o M st) (hl : ∀ s t l, st = .inr (s, t, l) → l = []) {X : am_X} {N : Nat → Nat → List Int} (HN : cNm M q.1 X N) {f : Nat} (hf : f < 8) {r : Nat → Int} (hr : isE st = false → ∀ k, k < 6 → am_I M (q.1 + 8 + f) k = am_i (r k) ∧ 0 ≤ r k ∧ r k ≤ 9) (x3 : Int32) (v2 v4 v5 v6 : Value) (d : Nat) : ∃ M' w2 w4 w5 w6, am_ev 111 (d + 3 + 1) 64 [.ref 3, .int (am_i (f : Int)), v2, .int x3, v4, v5, v6] [] M = am_ev 111 (d + 3 + 1) 44 [.ref 3, .int (am_i (f : Int)), w2, .int (x3 + am_i 1), w4, w5, w6] [] M' ∧ rS L q Z n B fm o M' (fkB Z n N (nM X 0) st r).1 ∧ fr (pFm q B f) M M' ∧ (isE (fkB Z n N (nM X 0) st r).1 = false → ∀ k, k < 6 → am_I M' (q.1 + 8 + f) k = am_i (fkR Z n N (nM X 0) st r k) ∧ 0 ≤ fkR Z n N (nM X 0) st r k ∧ fkR Z n N (nM X 0) st r k ≤ 9) := by
  have h4 : q.1 = 4 ∨ q.1 = 38 := hq.1
  have hh := hq.1
  have c0 := (xB_c HN.2.2 (s := 0) (by omega)).2.2
  have c06 := HN.2.2.1
  obtain ⟨M1, r1, H1, f1⟩ := c_known hq H hl HN (s := 0) (by omega) d
  have S1 := H1.1.1
  have r1 : am_cl 110 (d + 3) [.ref 3, .int (am_i 0)] M = some (some (.int (am_i (knS Z n N 0 (nM X 0) st).2)), M1) := r1
  have hb : -1 ≤ (knS Z n N 0 (nM X 0) st).2 ∧ (knS Z n N 0 (nM X 0) st).2 < ((nM X 0 : Nat) : Int) := knS_bd
  have h0 := t111_64 (d + 3) M 3 (am_i (f : Int)) x3 v2 v4 v5 v6
  rw [am_ob_p (kk_3 H.1.1), am_ob_p (kk_3 H.1.1), r1, am_bI_p, am_br_eq (by omega) (by omega) (by omega) (by omega)] at h0
  have f1' : fr (pFm q B f) M M1 := fr_mono f1 (fun b k h => Or.inl h)
  by_cases g : (knS Z n N 0 (nM X 0) st).2 = -1
  · rw [if_pos g] at h0
    have hE : isE (knS Z n N 0 (nM X 0) st).1 = true := by
      cases hx : (knS Z n N 0 (nM X 0) st).1 with
      | inl e => rfl
      | inr x => obtain ⟨s, t, l⟩ := x; have := knS_inr hx; omega
    have hB : fkB Z n N (nM X 0) st r = tkN Z n 1 9 (knS Z n N 0 (nM X 0) st).1 := by
      unfold fkB
      rw [if_neg (fun h => by rw [hE] at h; exact absurd h.1 (by decide))]
    obtain ⟨M2, w2, w4, w5, w6, r2, H2, f2, -⟩ := c_row5 hq H1 hf (p := (knS Z n N 0 (nM X 0) st).2) (by omega) x3 v2 (.int (am_I M 3 9)) v6 d
    rw [r2] at h0
    refine ⟨M2, w2, w4, w5, w6, h0, ?_, fr_tr f1' f2, fun he => ?_⟩
    · rw [hB]; exact H2
    · exfalso
      cases hx : (fkB Z n N (nM X 0) st r).1 with
      | inl e => rw [hx] at he; exact absurd (show true = false from he) (by decide)
      | inr x => obtain ⟨s, t, l⟩ := x; have := fkB_inr hx; omega
  · obtain ⟨s1, t1, hx1⟩ : ∃ s1 t1, (knS Z n N 0 (nM X 0) st).1 = .inr (s1, t1, []) := by
      cases hx : (knS Z n N 0 (nM X 0) st).1 with
      | inl e => exact absurd (knS_inl hx) g
      | inr x => obtain ⟨s, t, l⟩ := x; have := (knS_inr hx).1; subst this; exact ⟨s, t, rfl⟩
    obtain ⟨-, -, -, s2, t2, l2, hst, -⟩ := knS_inr hx1
    have hl2 := hl s2 t2 l2 hst
    subst hl2
    subst hst
    have hr := hr rfl
    obtain ⟨k, hk⟩ : ∃ k : Nat, (knS Z n N 0 (nM X 0) (.inr (s2, t2, []))).2 = (k : Int) := ⟨(knS Z n N 0 (nM X 0) (.inr (s2, t2, []))).2.toNat, by omega⟩
    have hk6 : k < 6 := by omega
    have hkt : (knS Z n N 0 (nM X 0) (.inr (s2, t2, []))).2.toNat = k := by omega
    have er : ∀ i, i < 6 → am_I M1 (q.1 + 8 + f) i = am_i (r i) := fun i hi => ((f1 _ _ (fun h => by have := qh_pR hq h; omega)).1).trans (hr i hi).1
    have e9 : am_I M 3 9 = am_i (psn (.inr (s2, t2, []))) := H.2.2.2.2.1.2.1
    have hbr := hr k hk6
    rw [if_neg g, am_ob_p (kk_3 S1), rr_3_2 S1, am_gr_p, am_ob_p (H_k0 S1 hh), H_r0_3 S1 hh, am_gr_p, am_iq_p (H_k7 S1 hh) (by omega) (by omega) (by omega) (by omega), am_i_ix (by omega) (by omega), Int.toNat_natCast, H_r7 S1 hh hf, am_gr_p, am_ix_p (H_q7 S1 hh hf) (by omega) (by omega) (by omega), am_i_ix (by omega) (by omega), hkt, er k hk6, am_br_le (by omega) (by omega) (by omega) (by omega)] at h0
    obtain ⟨st1, hst1⟩ : ∃ st1, st1 = (if isE (knS Z n N 0 (nM X 0) (.inr (s2, t2, []))).1 = false ∧ 0 < r (knS Z n N 0 (nM X 0) (.inr (s2, t2, []))).2.toNat then (.inl (3, psn (.inr (s2, t2, [])) ) : am_PS) else (knS Z n N 0 (nM X 0) (.inr (s2, t2, []))).1) := ⟨_, rfl⟩
    have hB : fkB Z n N (nM X 0) (.inr (s2, t2, [])) r = tkN Z n 1 9 st1 := by unfold fkB; rw [hst1]
    obtain ⟨M2, w4, h0, H2, f2⟩ : ∃ M2 w4, am_ev 111 (d + 3 + 1) 64 [.ref 3, .int (am_i (f : Int)), v2, .int x3, v4, v5, v6] [] M = am_ev 111 (d + 3 + 1) 105 [.ref 3, .int (am_i (f : Int)), v2, .int x3, w4, .int (am_i (knS Z n N 0 (nM X 0) (.inr (s2, t2, []))).2), v6] [] M2 ∧ rS L q Z n B fm o M2 st1 ∧ fr (pRd q B) M M2 := by
      by_cases g3 : r k ≤ 0
      · rw [if_pos g3] at h0
        refine ⟨M1, _, h0, ?_, f1⟩
        rw [hst1, hkt, if_neg (fun h => by omega)]
        exact H1
      · obtain ⟨M3, r3, H3, f3⟩ := c_flx H1 (c := 3) (p := psn (.inr (s2, t2, []))) (by omega) (x := am_I M 3 9) (fun _ => e9) (d + 3)
        rw [if_neg g3, am_ob_p (kk_3 S1), r3, am_bV_p] at h0
        refine ⟨M3, _, h0, ?_, fr_tr f1 f3⟩
        rw [hst1, hkt, if_pos ⟨by rw [hx1]; rfl, by omega⟩]
        rw [hx1] at H3
        exact H3
    obtain ⟨M4, w2, w4', w5, w6, r4, H4, f4, e4⟩ := c_row5 hq H2 hf (p := (knS Z n N 0 (nM X 0) (.inr (s2, t2, []))).2) (by omega) x3 v2 w4 v6 d
    rw [r4] at h0
    refine ⟨M4, w2, w4', w5, w6, h0, by rw [hB]; exact H4, fr_tr (fr_mono f2 (fun b k h => Or.inl h)) f4, fun he i hi => ?_⟩
    have e4 := e4 (by omega) i hi
    rw [hkt] at e4
    have hF : fkR Z n N (nM X 0) (.inr (s2, t2, [])) r i = if i = k then (tkN Z n 1 9 st1).2 else r i := by
      unfold fkR
      rw [hkt, hB]
    rw [hF, e4]
    by_cases g5 : i = k
    · rw [if_pos g5, if_pos g5]
      have b1 : 1 ≤ (tkN Z n 1 9 st1).2 := tkN_lo
      have b2 : (tkN Z n 1 9 st1).2 ≤ 9 := tkN_hi (by omega)
      exact ⟨rfl, by omega, b2⟩
    · rw [if_neg g5, if_neg g5, (f2 _ _ (fun h => by have := qh_pR hq h; omega)).1]
      exact hr i hi
/-- the rows of a film, from the loop's head behind row 0 -/
theorem c_filmRows {L : Nat} {q : am_Pq} {Z : Nat → Nat → Int} {n B : Nat} {fm : Int} {o : Nat} (hq : qh q) {X : am_X} {N : Nat → Nat → List Int} {f : Nat} (hf : f < 8) (d : Nat) : ∀ (m j : Nat), j + m = n → ∀ {M : am_M} {st : am_PS}, rS L q Z n B fm o M st → (∀ s t l, st = .inr (s, t, l) → l = []) → cNm M q.1 X N → ∀ {r : Nat → Int}, (isE st = false → ∀ k, k < 6 → am_I M (q.1 + 8 + f) k = am_i (r k) ∧ 0 ≤ r k ∧ r k ≤ 9) → ∀ (v2 v4 v5 v6 : Value), ∃ M', am_ev 111 (d + 3 + 1) 64 [.ref 3, .int (am_i (f : Int)), v2, .int (am_i (j : Int)), v4, v5, v6] [] M = some (none, M') ∧ rS L q Z n B fm o M' (fK Z n N (nM X 0) (m + 1) st r).1 ∧ fr (pFm q B f) M M' ∧ (isE (fK Z n N (nM X 0) (m + 1) st r).1 = false → ∀ k, k < 6 → am_I M' (q.1 + 8 + f) k = am_i ((fK Z n N (nM X 0) (m + 1) st r).2 k)) := by
  have h4 : q.1 = 4 ∨ q.1 = 38 := hq.1
  intro m
  induction m with
  | zero =>
    intro j hj M st H hl HN r hr v2 v4 v5 v6
    have hn := H.1.2.2.1
    obtain ⟨M1, w2, w4, w5, w6, h0, H1, f1, e1⟩ := c_row hq H hl HN hf hr (am_i (j : Int)) v2 v4 v5 v6 d
    have e6 : am_I M1 3 6 = am_i (n : Int) := H1.1.2.2.2.2.2.1
    rw [t111_44, am_ob_p (kk_3 H1.1.1), e6, am_i_add, am_br_gt (by omega) (by omega) (by omega) (by omega), if_pos (by omega)] at h0
    have hF : fK Z n N (nM X 0) 1 st r = ((fkB Z n N (nM X 0) st r).1, fkR Z n N (nM X 0) st r) := by
      rw [fK_s]
      cases hb : (fkB Z n N (nM X 0) st r).1 with
      | inl e => rfl
      | inr x =>
        obtain ⟨s, t, l⟩ := x
        simp only []
        by_cases g : kd Z n s t = 1
        · rw [if_pos g]; rfl
        · rw [if_neg g]
    refine ⟨M1, h0, ?_, f1, ?_⟩
    · rw [hF]; exact H1
    · rw [hF]; exact fun he k hk => (e1 he k hk).1
  | succ m ih =>
    intro j hj M st H hl HN r hr v2 v4 v5 v6
    have hn := H.1.2.2.1
    obtain ⟨M1, w2, w4, w5, w6, h0, H1, f1, e1⟩ := c_row hq H hl HN hf hr (am_i (j : Int)) v2 v4 v5 v6 d
    have e6 : am_I M1 3 6 = am_i (n : Int) := H1.1.2.2.2.2.2.1
    rw [t111_44, am_ob_p (kk_3 H1.1.1), e6, am_i_add, am_br_gt (by omega) (by omega) (by omega) (by omega), if_neg (by omega), am_br_eq (by omega) (by omega) (by omega) (by omega), if_neg (by omega), am_ob_p (kk_3 H1.1.1)] at h0
    have hB := @fK_s Z n N (nM X 0) (m + 1) st r
    cases hb : (fkB Z n N (nM X 0) st r).1 with
    | inl e =>
      rw [hb] at H1 hB
      have hB : fK Z n N (nM X 0) (m + 1 + 1) st r = (.inl e, fkR Z n N (nM X 0) st r) := hB
      have e8 : am_I M1 3 8 = am_i 4 := H1.2.2.2.2.1
      rw [e8, am_br_ne (by omega) (by omega) (by omega) (by omega), if_neg (by omega)] at h0
      refine ⟨M1, h0, by rw [hB]; exact H1, f1, fun he => ?_⟩
      rw [hB] at he
      exact absurd (show true = false from he) (by decide)
    | inr x =>
      obtain ⟨s, t, l⟩ := x
      have hl1 := (fkB_inr hb).1
      subst hl1
      rw [hb] at H1 hB
      have e1 := e1 (by rw [hb]; rfl)
      have hB : fK Z n N (nM X 0) (m + 1 + 1) st r = if kd Z n s t = 1 then fK Z n N (nM X 0) (m + 1) (.inr (s, t, [])) (fkR Z n N (nM X 0) st r) else (.inr (s, t, []), fkR Z n N (nM X 0) st r) := hB
      have e8 : am_I M1 3 8 = am_i (kd Z n s t) := H1.2.2.2.2.1.1
      have hkb := kd_bd Z n s t
      rw [e8, am_br_ne (by omega) (by omega) (by omega) (by omega)] at h0
      by_cases g : kd Z n s t = 1
      · rw [if_pos g] at h0 hB
        obtain ⟨M2, h2, H2, f2, e2⟩ := ih (j + 1) (by omega) H1 (fun s' t' l' h => by have := Sum.inr.inj h; rw [Prod.mk.injEq, Prod.mk.injEq] at this; exact this.2.2.symm) (cNm_mv HN (fun b k g1 g2 => (f1 b k (fun h => by
          rcases h with h | h
          · have := qh_pR hq h; omega
          · omega)).1)) (r := fkR Z n N (nM X 0) st r) (fun _ => e1) w2 w4 w5 w6
        rw [show am_i ((j : Int) + 1) = am_i ((j + 1 : Nat) : Int) by rw [Int.natCast_add]; rfl, h2] at h0
        exact ⟨M2, h0, by rw [hB]; exact H2, fr_tr f1 f2, by rw [hB]; exact e2⟩
      · rw [if_neg g] at h0 hB
        exact ⟨M1, h0, by rw [hB]; exact H1, f1, by rw [hB]; exact fun _ k hk => (e1 k hk).1⟩
theorem fK_nil {Z : Nat → Nat → Int} {n : Nat} {N : Nat → Nat → List Int} {c : Nat} : ∀ m {st : am_PS} {r : Nat → Int} {s : Nat} {t : Bool} {l : List Int}, (fK Z n N c (m + 1) st r).1 = .inr (s, t, l) → l = []
  | m, st, r, s, t, l, h => by
    rw [fK_s] at h
    cases hb : (fkB Z n N c st r).1 with
    | inl e => rw [hb] at h; cases h
    | inr x =>
      obtain ⟨s', t', l'⟩ := x
      have h1 := (fkB_inr hb).1
      subst h1
      rw [hb] at h
      have h : (if kd Z n s' t' = 1 then fK Z n N c m (.inr (s', t', [])) (fkR Z n N c st r) else (.inr (s', t', []), fkR Z n N c st r)).1 = .inr (s, t, l) := h
      have done : (Sum.inr (s', t', []) : am_PS) = .inr (s, t, l) → l = [] := fun h => by
        have := Sum.inr.inj h
        rw [Prod.mk.injEq, Prod.mk.injEq] at this
        exact this.2.2.symm
      by_cases g : kd Z n s' t' = 1
      · rw [if_pos g] at h
        match m, h with
        | 0, h => exact done h
        | m + 1, h => exact fK_nil m h
      · rw [if_neg g] at h
        exact done h
theorem cNm_0 {M : am_M} {h : Nat} {X X' : am_X} {N : Nat → Nat → List Int} (H : cNm M h X N) (e : ∀ k, X' 0 k 0 = X 0 k 0) : cNm M h X' N := by
  have hn : ∀ s, nM X' s = nM X s := fun s => by unfold nM; rw [e]
  obtain ⟨h1, h2, h3, h4, h5, h6⟩ := H
  exact ⟨fun k hk => by rw [e]; exact h1 k hk, fun s hs w hw => h2 s hs w (by rw [hn] at hw; exact hw), by rw [e]; exact h3, by rw [e]; exact h4, by rw [e]; exact h5, fun s hs w hw => h6 s hs w (by rw [hn] at hw; exact hw)⟩
theorem uF_o {X : am_X} {p : Int} {r : Nat → Int} {a b c : Nat} (h : ¬ (a = 0 ∧ b = 1 ∧ c = 0) ∧ ¬ (a = 2 ∧ b = nM X 1 ∧ c = 0) ∧ ¬ (a = 3 ∧ b = nM X 1)) : uF X p r a b c = X a b c := by
  unfold uF
  rw [if_neg h.1, if_neg h.2.1, if_neg h.2.2]
theorem c_film {L : Nat} {q : am_Pq} {Z : Nat → Nat → Int} {n : Nat} {fm : Int} {o : Nat} (hq : qh q) {M : am_M} {s0 : Nat} {t0 : Bool} {H : am_HS} (HR : rS L q Z n H.2.2.2.1 fm o M (.inr (s0, t0, []))) (hk0 : kd Z n s0 t0 = 1) (HH : cHt M q.1 H) (hz : ∀ f, nM H.1 1 ≤ f → f < 8 → ∀ k, k < 6 → H.1 3 f k = 0) (d : Nat) : ∃ M', am_cl 111 (d + 4) [.ref 3] M = some (none, M') ∧ cAf L q Z n M' (sFilm Z n H (.inr (s0, t0, []))) ∧ fr (pHs q) M M' := by
  obtain ⟨M1, r1, H1, HN, f1⟩ := c_newName hq HR hk0 HH.1 (s := 1) (by omega) d
  have h4 : q.1 = 4 ∨ q.1 = 38 := hq.1
  have hh := hq.1
  obtain ⟨R, hR⟩ : ∃ R, R = nwS Z n H.2.1 (nM H.1) (st1S Z n (most3 1 ≤ H.1 0 1 0) (.inr (s0, t0, []))) := ⟨_, rfl⟩
  rw [← hR] at r1 H1 HN
  obtain ⟨M2, r2, H2, f2⟩ := c_tkW H1 (c := 2) (by omega) (d + 1)
  obtain ⟨M3, r3, H3, f3⟩ := c_tkN H2 (lo := 1) (hi := 9) (by omega) (by omega) (d + 1)
  obtain ⟨M4, r4, H4, f4⟩ := c_tkW H3 (c := 3) (by omega) (d + 1)
  have f24 := fr_tr f2 (fr_tr f3 f4)
  have f14 : fr (pNn q H.2.2.2.1 1) M M4 := fr_tr f1 (fr_mono f24 (fun b k h => Or.inl h))
  have fH4 : fr (pHs q) M M4 := fr_mono f14 (fun b k h => by
    rcases h with h | h | h
    · exact pRd_pHs hq h
    · unfold pHs; omega
    · unfold pHs; omega)
  have h0 := t111 (d + 3) M 3
  have r1 : am_cl 109 (d + 3) [.ref 3, .int (am_i 1), .int (am_i 8)] M = some (some (.int (am_i (if isE R = true then -1 else H.1 0 1 0))), M1) := r1
  rw [am_ob_p (kk_3 HR.1.1), r1, am_bI_p, am_ob_p (kk_3 H1.1.1), r2, am_bV_p, am_ob_p (kk_3 H2.1.1), r3, am_bI_p, am_ob_p (kk_3 H3.1.1), r4, am_bV_p] at h0
  match R, hR, H1, HN, H4, h0 with
  | .inl e, hR, H1, HN, H4, h0 =>
    rw [show (if isE (Sum.inl e : am_PS) = true then (-1 : Int) else H.1 0 1 0) = -1 from rfl, am_br_ne (by omega) (by omega) (by omega) (by omega), if_pos rfl] at h0
    refine ⟨M4, h0, ?_, fH4⟩
    unfold sFilm
    rw [← hR]
    exact ⟨_, _, _, H4⟩
  | .inr (s, t, nm), hR, H1, HN, H4, h0 =>
    obtain ⟨HN, hlok, hl1, hl6, hlt⟩ := HN
    have hc := xB_c HH.1.2.2 (s := 1) (by omega)
    have hcr : H.1 0 1 0 = ((nM H.1 1 : Nat) : Int) := hc.2.2.1.symm
    have hlt8 : nM H.1 1 < 8 := by rw [show most3 1 = 8 from rfl] at hlt; omega
    have S4 := H4.1.1
    have H4 : rS L q Z n H.2.2.2.1 fm o M4 (fi2 Z n (.inr (s, t, []))) := H4
    have S5 := S4.sI (q.1 + 6) (nM H.1 1) (am_i (fi1 Z n (.inr (s, t, []))).2)
    have H5 := rS_w hq H4 (b := q.1 + 6) (k := nM H.1 1) (by omega) (am_i (fi1 Z n (.inr (s, t, []))).2)
    have hn := HR.1.2.2.1
    have f5 : fr (fun b k => b = q.1 + 6 ∧ k = nM H.1 1) M4 (am_sI M4 (q.1 + 6) (nM H.1 1) (am_i (fi1 Z n (.inr (s, t, []))).2)) := fr_sI ⟨rfl, rfl⟩
    have hn5 : ∀ b k, (q.1 ≤ b ∧ b < q.1 + 24) → ¬ (q.1 + 1 ≤ b ∧ b < q.1 + 6) → ¬ (b = q.1 + 6 ∧ k = nM H.1 1) → am_I (am_sI M4 (q.1 + 6) (nM H.1 1) (am_i (fi1 Z n (.inr (s, t, []))).2)) b k = am_I M b k := fun b k h1 h2 h3 => ((f5 b k h3).1).trans (f14 b k (fun h => by
      rcases h with h | h | h
      · have := qh_pR hq h; omega
      · omega
      · omega)).1
    have e6 : am_I (am_sI M4 (q.1 + 6) (nM H.1 1) (am_i (fi1 Z n (.inr (s, t, []))).2)) 3 6 = am_i (n : Int) := H5.1.2.2.2.2.2.1
    rw [show (if isE (Sum.inr (s, t, nm) : am_PS) = true then (-1 : Int) else H.1 0 1 0) = H.1 0 1 0 from rfl, hcr, am_br_ne (by omega) (by omega) (by omega) (by omega), if_neg (by omega), am_ob_p (kk_3 S4), rr_3_2 S4, am_gr_p, am_ob_p (H_k0 S4 hh), H_r0_2 S4 hh, am_gr_p, am_iw_p (H_k6 S4 hh) (by omega) (by omega) (by omega) (by omega), am_i_ix (by omega) (by omega), Int.toNat_natCast, am_lt] at h0
    have h0 : am_cl 111 (d + 4) [.ref 3] M = am_ev 111 (d + 3 + 1) 44 [.ref 3, .int (am_i ((nM H.1 1 : Nat) : Int)), .int (am_i (fi1 Z n (.inr (s, t, []))).2), .int (am_i 0), .null, .null, .null] [] (am_sI M4 (q.1 + 6) (nM H.1 1) (am_i (fi1 Z n (.inr (s, t, []))).2)) := h0
    rw [t111_44, am_ob_p (kk_3 S5), e6, am_br_gt (by omega) (by omega) (by omega) (by omega), if_neg (by omega), am_br_eq (by omega) (by omega) (by omega) (by omega), if_pos rfl] at h0
    have hnil : ∀ s' t' l', fi2 Z n (.inr (s, t, [])) = .inr (s', t', l') → l' = [] := fun s' t' l' h => by
      obtain ⟨a3, a4, e2, -⟩ := tkW_e h
      obtain ⟨a5, a6, e3⟩ := tkN_e e2
      obtain ⟨a7, a8, e4, -⟩ := tkW_e e3
      have := Sum.inr.inj e4
      rw [Prod.mk.injEq, Prod.mk.injEq] at this
      exact this.2.2.symm
    have HN5 := cNm_mv (cNm_R hq HN f24) (M' := am_sI M4 (q.1 + 6) (nM H.1 1) (am_i (fi1 Z n (.inr (s, t, []))).2)) (fun b k g1 g2 => (f5 b k (by omega)).1)
    obtain ⟨j1, j2, j3, j4, j5, j6⟩ := HH.2.1
    obtain ⟨M6, h6, H6, f6, e6⟩ := c_filmRows hq hlt8 d n 0 (by omega) H5 hnil HN5 (r := fun _ => 0) (fun _ k hk => ⟨by
      rw [hn5 _ _ (by omega) (by omega) (by omega), j2 _ hlt8 k hk, hz _ (Nat.le_refl _) hlt8 k hk], by omega, by omega⟩) (.int (am_i (fi1 Z n (.inr (s, t, []))).2)) .null .null .null
    have hF : fK Z n (uN H.2.1 1 (nM H.1 1) nm) (nM (uA H.1 0 1 0 (H.1 0 1 0 + 1)) 0) (n + 1) (fi2 Z n (.inr (s, t, []))) (fun _ => 0) = fi3 Z n H (.inr (s, t, [])) := by
      rw [nM_u, if_neg (by omega)]
      exact fK_N (fun w => by unfold uN; rw [if_neg (by omega)]) _ _ _
    rw [hF] at H6 e6
    rw [show am_i ((0 : Nat) : Int) = am_i 0 from rfl] at h6
    rw [h6] at h0
    refine ⟨M6, h0, ?_, fr_tr fH4 (fr_tr (fr_mono f5 (fun b k h => by unfold pHs; omega)) (fr_mono f6 (fun b k h => by
      rcases h with h | h
      · exact pRd_pHs hq h
      · unfold pHs; omega)))⟩
    cases hp : (fi3 Z n H (.inr (s, t, []))).1 with
    | inl e =>
      rw [hp] at H6
      have hS : sFilm Z n H (.inr (s0, t0, [])) = .inl e := by
        unfold sFilm
        rw [← hR]
        simp only [hp]
      rw [hS]
      exact ⟨_, _, _, H6⟩
    | inr x =>
      obtain ⟨s', t', l'⟩ := x
      have hl' : l' = [] := fK_nil n hp
      subst hl'
      rw [hp] at H6
      have hS : sFilm Z n H (.inr (s0, t0, [])) = .inr (s', t', uF H.1 (fi1 Z n (.inr (s, t, []))).2 (fi3 Z n H (.inr (s, t, []))).2, uN H.2.1 1 (nM H.1 1) nm, H.2.2) := by
        unfold sFilm
        rw [← hR]
        simp only [hp]
      rw [hS]
      have e6 := e6 (by rw [hp]; rfl)
      have h56 : ∀ b k, (q.1 ≤ b ∧ b < q.1 + 24) → b ≠ q.1 + 8 + nM H.1 1 → am_I M6 b k = am_I (am_sI M4 (q.1 + 6) (nM H.1 1) (am_i (fi1 Z n (.inr (s, t, []))).2)) b k := fun b k h1 h2 => (f6 b k (fun h => by
        rcases h with h | h
        · have := qh_pR hq h; omega
        · omega)).1
      have hnm : ∀ a, nM (uF H.1 (fi1 Z n (.inr (s, t, []))).2 (fi3 Z n H (.inr (s, t, []))).2) a = if a = 1 then nM H.1 1 + 1 else nM H.1 a := fun a => by
        unfold nM
        by_cases g : a = 1
        · subst g
          rw [if_pos rfl, show uF H.1 (fi1 Z n (.inr (s, t, []))).2 (fi3 Z n H (.inr (s, t, []))).2 0 1 0 = H.1 0 1 0 + 1 from if_pos ⟨rfl, rfl, rfl⟩]
          omega
        · rw [if_neg g, uF_o ⟨by omega, by omega, by omega⟩]
      refine ⟨fm, o, H6, ?_, ?_, ?_⟩
      · refine cNm_0 (cNm_mv HN5 (fun b k g1 g2 => h56 b k (by omega) (by omega))) (fun k => ?_)
        by_cases g : k = 1
        · subst g
          rw [uA_eq]
          exact (show uF H.1 (fi1 Z n (.inr (s, t, []))).2 (fi3 Z n H (.inr (s, t, []))).2 0 1 0 = H.1 0 1 0 + 1 from if_pos ⟨rfl, rfl, rfl⟩)
        · rw [uA_ne (by omega)]
          exact uF_o ⟨by omega, by omega, by omega⟩
      · refine ⟨fun f hf => ?_, fun f hf k hk => ?_, fun p hp' => ?_, fun p hp' => ?_, fun p hp' k hk => ?_, fun j hj => ?_⟩
        · show _ = am_i (uF H.1 (fi1 Z n (.inr (s, t, []))).2 (fi3 Z n H (.inr (s, t, []))).2 2 f 0)
          have hf := (hnm 1) ▸ hf
          rw [if_pos rfl] at hf
          rw [h56 _ _ (by omega) (by omega)]
          by_cases g : f = nM H.1 1
          · subst g
            rw [am_I_same, show uF H.1 (fi1 Z n (.inr (s, t, []))).2 (fi3 Z n H (.inr (s, t, []))).2 2 (nM H.1 1) 0 = (fi1 Z n (.inr (s, t, []))).2 from by
              unfold uF
              rw [if_neg (by omega), if_pos ⟨rfl, rfl, rfl⟩]]
          · rw [uF_o ⟨by omega, by omega, by omega⟩, hn5 _ _ (by omega) (by omega) (by omega)]; exact j1 f (by omega)
        · show _ = am_i (uF H.1 (fi1 Z n (.inr (s, t, []))).2 (fi3 Z n H (.inr (s, t, []))).2 3 f k)
          by_cases g : f = nM H.1 1
          · subst g
            rw [e6 k hk, show uF H.1 (fi1 Z n (.inr (s, t, []))).2 (fi3 Z n H (.inr (s, t, []))).2 3 (nM H.1 1) k = (fi3 Z n H (.inr (s, t, []))).2 k from by
              unfold uF
              rw [if_neg (by omega), if_neg (by omega), if_pos ⟨rfl, rfl⟩]]
          · rw [h56 _ _ (by omega) (by omega), uF_o ⟨by omega, by omega, by omega⟩, hn5 _ _ (by omega) (by omega) (by omega)]; exact j2 f hf k hk
        · show _ = am_i (uF H.1 (fi1 Z n (.inr (s, t, []))).2 (fi3 Z n H (.inr (s, t, []))).2 4 p 0)
          have hp' := (hnm 2) ▸ hp'
          rw [if_neg (by omega)] at hp'
          rw [h56 _ _ (by omega) (by omega), uF_o ⟨by omega, by omega, by omega⟩, hn5 _ _ (by omega) (by omega) (by omega)]; exact j3 p hp'
        · show _ = am_i (uF H.1 (fi1 Z n (.inr (s, t, []))).2 (fi3 Z n H (.inr (s, t, []))).2 5 p 0)
          have hp' := (hnm 2) ▸ hp'
          rw [if_neg (by omega)] at hp'
          rw [h56 _ _ (by omega) (by omega), uF_o ⟨by omega, by omega, by omega⟩, hn5 _ _ (by omega) (by omega) (by omega)]; exact j4 p hp'
        · show _ = am_i (uF H.1 (fi1 Z n (.inr (s, t, []))).2 (fi3 Z n H (.inr (s, t, []))).2 6 p k)
          rw [h56 _ _ (by omega) (by omega), uF_o ⟨by omega, by omega, by omega⟩, hn5 _ _ (by omega) (by omega) (by omega)]; exact j5 p hp' k hk
        · show _ = am_i (uF H.1 (fi1 Z n (.inr (s, t, []))).2 (fi3 Z n H (.inr (s, t, []))).2 (7 + j) 0 0)
          rw [h56 _ _ (by omega) (by omega), uF_o ⟨by omega, by omega, by omega⟩, hn5 _ _ (by omega) (by omega) (by omega)]; exact j6 j hj
      · refine cGx_mv HH.2.2 (Nat.le_refl _) (fun k h1 h2 => (h56 _ _ (by omega) (by omega)).trans (hn5 _ _ (by omega) (by omega) (by omega))) (fun k hk => ?_)
        rw [(f6 _ _ (fun h => by
          rcases h with h | h
          · have := qh_pR hq h; omega
          · omega)).1, (f5 _ _ (by omega)).1, (f14 _ _ (fun h => by
          rcases h with h | h | h
          · have := qh_pR hq h; omega
          · omega
          · omega)).1]
