/-! Names that are given and asked for. -/
theorem r27_inj : ∀ {l l' : List Int}, lok l → lok l' → r27 l = r27 l' → l = l'
  | [], [], _, _, _ => rfl
  | [], b :: l', _, h', e => by
    have h2 := h' b List.mem_cons_self
    have h3 := (r27_bd (r := l') (fun c hc => h' c (List.mem_cons_of_mem _ hc))).1
    have e : (0 : Int) = b + 27 * r27 l' := e
    omega
  | a :: l, [], h, _, e => by
    have h2 := h a List.mem_cons_self
    have h3 := (r27_bd (r := l) (fun c hc => h c (List.mem_cons_of_mem _ hc))).1
    have e : a + 27 * r27 l = (0 : Int) := e
    omega
  | a :: l, b :: l', h, h', e => by
    have h2 := h a List.mem_cons_self
    have h3 := h' b List.mem_cons_self
    have e : a + 27 * r27 l = b + 27 * r27 l' := e
    have e1 : a = b := by omega
    have e2 : r27 l = r27 l' := by omega
    rw [e1, r27_inj (fun c hc => h c (List.mem_cons_of_mem _ hc)) (fun c hc => h' c (List.mem_cons_of_mem _ hc)) e2]
theorem c27_inj {l l' : List Int} (h : lok l) (h' : lok l') (e : c27 l = c27 l') : l = l' := by
  rw [← List.reverse_reverse l, ← List.reverse_reverse l', c27_rev, c27_rev] at e
  have := r27_inj (lok_rev h) (lok_rev h') e
  rw [← List.reverse_reverse l, this, List.reverse_reverse]
theorem c27_bd {l : List Int} (h : lok l) (hl : l.length ≤ 6) : 0 ≤ c27 l ∧ c27 l < 387420489 := by
  rw [← List.reverse_reverse l, c27_rev]
  exact r27_6 (lok_rev h) (by rw [List.length_reverse]; exact hl)
theorem c5_bd6 {l : List Int} (h : lok l) (hl : l.length ≤ 6) : 0 ≤ c5 l ∧ c5 l < 1073741824 := by
  have h1 := c5_bd h
  have : 32 ^ l.length ≤ 32 ^ 6 := Nat.pow_le_pow_right (by decide) hl
  omega
/-- the first of c that is v -/
def fndv (f : Nat → Int) (v : Int) : Nat → Int
  | 0 => -1
  | c + 1 => if fndv f v c = -1 then (if f c = v then (c : Int) else -1) else fndv f v c
theorem fndv_bd (f : Nat → Int) (v : Int) : ∀ c, -1 ≤ fndv f v c ∧ fndv f v c < c
  | 0 => by show -1 ≤ (-1 : Int) ∧ (-1 : Int) < ((0 : Nat) : Int); omega
  | c + 1 => by
    have := fndv_bd f v c
    unfold fndv
    repeat' split
    all_goals omega
theorem fndv_no {f : Nat → Int} {v : Int} : ∀ {c}, (∀ i, i < c → f i ≠ v) → fndv f v c = -1
  | 0, _ => rfl
  | c + 1, h => by
    unfold fndv
    rw [if_pos (fndv_no (fun i hi => h i (by omega))), if_neg (h c (by omega))]
theorem fndv_at {f : Nat → Int} {v : Int} {i : Nat} : ∀ {c}, (∀ k, k < i → f k ≠ v) → f i = v → i < c → fndv f v c = (i : Int)
  | 0, _, _, h => absurd h (by omega)
  | c + 1, h1, h2, h3 => by
    unfold fndv
    by_cases g : i < c
    · rw [fndv_at h1 h2 g, if_neg (by omega)]
    · have : i = c := by omega
      subst this
      rw [if_pos (fndv_no h1), if_pos h2]
/-- the place of a name among those of a sort -/
def fnd (N : Nat → Nat → List Int) (sort : Nat) (nm : List Int) (c : Nat) : Int := fndv (fun w => c5 (N sort w)) (c5 nm) c
theorem fndv_cg {f g : Nat → Int} {v w : Int} : ∀ {c}, (∀ i, i < c → (f i = v ↔ g i = w)) → fndv f v c = fndv g w c
  | 0, _ => rfl
  | c + 1, h => by
    unfold fndv
    rw [fndv_cg (fun i hi => h i (by omega))]
    by_cases g1 : f c = v
    · rw [if_pos g1, if_pos ((h c (by omega)).mp g1)]
    · rw [if_neg g1, if_neg (fun h2 => g1 ((h c (by omega)).mpr h2))]
theorem fnd_27 {N : Nat → Nat → List Int} {sort : Nat} {nm : List Int} {c : Nat} (hN : ∀ w, w < c → lok (N sort w)) (hn : lok nm) : fndv (fun w => c27 (N sort w)) (c27 nm) c = fnd N sort nm c := fndv_cg (fun i hi => ⟨fun h => by rw [c27_inj (hN i hi) hn h], fun h => by rw [c5_inj (hN i hi) hn h]⟩)
/-- a name is taken -/
def nmS (Z : Nat → Nat → Int) (n : Nat) : am_PS → am_PS
  | .inl e => .inl e
  | .inr (s, t, l) => match (nmH Z n (.inr (s, t, l))).1 with
    | .inl e => .inl e
    | .inr _ => .inr (ns Z n s, nt Z n s, ltn Z s (te Z n s - s))
theorem nmH_inr {Z : Nat → Nat → Int} {n s : Nat} {t : Bool} {l : List Int} {x : Nat × Bool × List Int} (h : (nmH Z n (.inr (s, t, l))).1 = .inr x) : kd Z n s t = 1 ∧ ¬ (0 ≤ wno Z s (te Z n s) ∧ wno Z s (te Z n s) < 29) ∧ te Z n s - s ≤ 6 ∧ x = (s, t, l) ∧ (nmH Z n (.inr (s, t, l))).2 = c5 (ltn Z s (te Z n s - s)) := by
  have hF : nmH Z n (.inr (s, t, l)) = if kd Z n s t = 1 ∧ ¬ (0 ≤ wno Z s (te Z n s) ∧ wno Z s (te Z n s) < 29) then (if te Z n s - s ≤ 6 then (.inr (s, t, l), c5 (ltn Z s (te Z n s - s))) else (.inl (1, (s : Int) + 6), 0)) else (.inl (1, (s : Int)), 0) := rfl
  rw [hF] at h ⊢
  by_cases g : kd Z n s t = 1 ∧ ¬ (0 ≤ wno Z s (te Z n s) ∧ wno Z s (te Z n s) < 29)
  · rw [if_pos g] at h ⊢
    by_cases g2 : te Z n s - s ≤ 6
    · rw [if_pos g2] at h ⊢
      exact ⟨g.1, g.2, g2, (Sum.inr.inj h).symm, rfl⟩
    · rw [if_neg g2] at h
      cases h
  · rw [if_neg g] at h
    cases h
theorem nmS_inr {Z : Nat → Nat → Int} {n s : Nat} {t : Bool} {l : List Int} {x : Nat × Bool × List Int} (h : nmS Z n (.inr (s, t, l)) = .inr x) : kd Z n s t = 1 ∧ x = (ns Z n s, nt Z n s, ltn Z s (te Z n s - s)) ∧ (nmH Z n (.inr (s, t, l))) = (.inr (s, t, l), c5 (ltn Z s (te Z n s - s))) ∧ lok (ltn Z s (te Z n s - s)) ∧ 1 ≤ (ltn Z s (te Z n s - s)).length ∧ (ltn Z s (te Z n s - s)).length ≤ 6 := by
  have h : (match (nmH Z n (.inr (s, t, l))).1 with
    | .inl e => (.inl e : am_PS)
    | .inr _ => .inr (ns Z n s, nt Z n s, ltn Z s (te Z n s - s))) = .inr x := h
  cases hq : (nmH Z n (.inr (s, t, l))).1 with
  | inl e => rw [hq] at h; cases h
  | inr y =>
    rw [hq] at h
    obtain ⟨h1, h2, h3, h4, h5⟩ := nmH_inr hq
    refine ⟨h1, (Sum.inr.inj h).symm, Prod.ext (by rw [hq, h4]) h5, wrd_lok h1, ?_, by rw [ltn_len]; exact h3⟩
    have := kd_1 h1
    have := (te_bd Z (Nat.le_of_lt this.1)).2.2 this.1
    rw [ltn_len]
    omega
theorem nmS_inl {Z : Nat → Nat → Int} {n s : Nat} {t : Bool} {l : List Int} {e : Int × Int} (h : nmS Z n (.inr (s, t, l)) = .inl e) : (nmH Z n (.inr (s, t, l))).1 = .inl e := by
  have h : (match (nmH Z n (.inr (s, t, l))).1 with
    | .inl e => (.inl e : am_PS)
    | .inr _ => .inr (ns Z n s, nt Z n s, ltn Z s (te Z n s - s))) = .inl e := h
  cases hq : (nmH Z n (.inr (s, t, l))).1 with
  | inl e' => rw [hq] at h; exact h
  | inr y => rw [hq] at h; cases h
/-- the place of a reading -/
def psn : am_PS → Int
  | .inl _ => 0
  | .inr (s, _, _) => (s : Int)
/-- an old name of a sort -/
def knS (Z : Nat → Nat → Int) (n : Nat) (N : Nat → Nat → List Int) (sort c : Nat) (st : am_PS) : am_PS × Int := match nmS Z n st with
  | .inl e => (.inl e, -1)
  | .inr (s, t, nm) => if fnd N sort nm c = -1 then (.inl (3, psn st), -1) else (.inr (s, t, []), fnd N sort nm c)
/-- a new name -/
def nwS (Z : Nat → Nat → Int) (n : Nat) (N : Nat → Nat → List Int) (c : Nat → Nat) (st : am_PS) : am_PS := match nmS Z n st with
  | .inl e => .inl e
  | .inr (s, t, nm) => if fnd N 0 nm (c 0) = -1 ∧ fnd N 1 nm (c 1) = -1 ∧ fnd N 2 nm (c 2) = -1 then .inr (s, t, nm) else .inl (3, psn st)
/-! The class's names. -/
def xB (X : am_X) (N : Nat → Nat → List Int) : Prop := (0 ≤ X 0 0 0 ∧ X 0 0 0 ≤ 6) ∧ (0 ≤ X 0 1 0 ∧ X 0 1 0 ≤ 8) ∧ (0 ≤ X 0 2 0 ∧ X 0 2 0 ≤ 5) ∧ nB N X
def cNm (M : am_M) (h : Nat) (X : am_X) (N : Nat → Nat → List Int) : Prop := (∀ k, k < 3 → am_I M (h + 1) k = am_i (X 0 k 0)) ∧ cN M h N X ∧ xB X N
theorem xB_c {X : am_X} {N : Nat → Nat → List Int} (B : xB X N) {s : Nat} (hs : s < 3) : 0 ≤ X 0 s 0 ∧ X 0 s 0 ≤ 8 ∧ ((nM X s : Nat) : Int) = X 0 s 0 ∧ nM X s ≤ 8 := by
  have : s = 0 ∨ s = 1 ∨ s = 2 := by omega
  obtain ⟨h1, h2, h3, -⟩ := B
  unfold nM
  rcases this with rfl | rfl | rfl <;> omega
theorem xB_ok {X : am_X} {N : Nat → Nat → List Int} (B : xB X N) {s w : Nat} (hs : s < 3) (hw : w < nM X s) : lok (N s w) ∧ 1 ≤ (N s w).length ∧ (N s w).length ≤ 6 := by
  have := B.2.2.2 s hs w hw
  exact ⟨this.2.2, this.1, this.2.1⟩
theorem c_find {L : Nat} {q : am_Pq} {M : am_M} (S : am_Sh L q M) {h : Nat} (hh : isH h) {X : am_X} {N : Nat → Nat → List Int} (HN : cNm M h X N) {s : Nat} (hs : s < 3) {v : Int} (hv : 0 ≤ v ∧ v < 1073741824) (d : Nat) : am_cl 86 d [.ref h, .int (am_i (s : Int)), .int (am_i v)] M = some (some (.int (am_i (fndv (fun w => c5 (N s w)) v (nM X s)))), M) := by
  obtain ⟨h1, h2, h3⟩ := HN
  have hc := xB_c h3 hs
  have lp : ∀ m i : Nat, i + m = nM X s → (∀ k, k < i → c5 (N s k) ≠ v) → am_ev 86 d 2 [.ref h, .int (am_i (s : Int)), .int (am_i v), .int (am_i (i : Int))] [] M = some (some (.int (am_i (fndv (fun w => c5 (N s w)) v (nM X s)))), M) := by
    intro m
    induction m with
    | zero =>
      intro i hi hk
      rw [fndv_no (fun k hk2 => hk k (by omega)), t86_2, am_ob_p (H_k0 S hh), H_r0_0 S hh, am_gr_p, am_ix_p (H_k1 S hh) (by omega) (by omega) (by omega), am_i_ix (by omega) (by omega), Int.toNat_natCast, h1 s hs, am_br_ge (by omega) (by omega) (by omega) (by omega), if_pos (by omega)]
    | succ m ih =>
      intro i hi hk
      have hok := xB_ok h3 hs (w := i) (by omega)
      have hb := c5_bd6 hok.1 hok.2.2
      rw [t86_2, am_ob_p (H_k0 S hh), H_r0_0 S hh, am_gr_p, am_ix_p (H_k1 S hh) (by omega) (by omega) (by omega), am_i_ix (by omega) (by omega), Int.toNat_natCast, h1 s hs, am_br_ge (by omega) (by omega) (by omega) (by omega), if_neg (by omega), am_ob_p (H_k0 S hh), H_r0_1 S hh, am_gr_p, am_iq_p (H_k2 S hh) (by omega) (by omega) (by omega) (by omega), H_r2 S hh hs, am_gr_p, am_ix_p (H_q2 S hh hs) (by omega) (by omega) (by omega), am_i_ix (by omega) (by omega), Int.toNat_natCast, h2 s hs i (by omega), am_br_ne (by omega) (by omega) (by omega) (by omega)]
      by_cases g : c5 (N s i) = v
      · rw [if_pos g, fndv_at (i := i) hk g (by omega)]
      · rw [if_neg g, am_i_add]
        exact ih (i + 1) (by omega) (fun k hk2 => by
          by_cases g2 : k = i
          · subst g2; exact g
          · exact hk k (by omega))
  rw [t86]
  exact lp (nM X s) 0 (by omega) (fun k hk => absurd hk (by omega))
theorem cNm_mv {M M' : am_M} {h : Nat} {X : am_X} {N : Nat → Nat → List Int} (H : cNm M h X N) (e : ∀ b k, h + 1 ≤ b → b < h + 6 → am_I M' b k = am_I M b k) : cNm M' h X N := ⟨fun k hk => (e _ _ (by omega) (by omega)).trans (H.1 k hk), fun s hs w hw => (e _ _ (by omega) (by omega)).trans (H.2.1 s hs w hw), H.2.2⟩
/-- the house that is read, the steps within it -/
def qh (q : am_Pq) : Prop := isH q.1 ∧ q.2.1 = q.1 + 24
theorem qh_pR {q : am_Pq} {B b k : Nat} (hq : qh q) (h : pRd q B b k) : b = 3 ∨ (b = q.1 + 24 ∧ B ≤ k) := by
  unfold pRd at h
  rw [hq.2] at h
  exact h.elim (fun h => Or.inl h.1) Or.inr
theorem cNm_R {q : am_Pq} {B : Nat} (hq : qh q) {M M' : am_M} {X : am_X} {N : Nat → Nat → List Int} (H : cNm M q.1 X N) (f : fr (pRd q B) M M') : cNm M' q.1 X N := cNm_mv H (fun b k h1 h2 => (f b k (fun h => by
  have h3 : q.1 = 4 ∨ q.1 = 38 := hq.1
  have := qh_pR hq h
  omega)).1)
theorem nmH_bd {Z : Nat → Nat → Int} {n : Nat} {st : am_PS} : 0 ≤ (nmH Z n st).2 ∧ (nmH Z n st).2 < 1073741824 := by
  match st with
  | .inl e => exact ⟨Int.le_refl 0, show (0 : Int) < 1073741824 by decide⟩
  | .inr (s, t, l) =>
    cases h : (nmH Z n (.inr (s, t, l))).1 with
    | inl e =>
      have hF : nmH Z n (.inr (s, t, l)) = if kd Z n s t = 1 ∧ ¬ (0 ≤ wno Z s (te Z n s) ∧ wno Z s (te Z n s) < 29) then (if te Z n s - s ≤ 6 then (.inr (s, t, l), c5 (ltn Z s (te Z n s - s))) else (.inl (1, (s : Int) + 6), 0)) else (.inl (1, (s : Int)), 0) := rfl
      rw [hF] at h ⊢
      repeat' split at h
      · cases h
      · rename_i g1 g2; rw [if_pos g1, if_neg g2]; exact ⟨Int.le_refl 0, show (0 : Int) < 1073741824 by decide⟩
      · rename_i g1; rw [if_neg g1]; exact ⟨Int.le_refl 0, show (0 : Int) < 1073741824 by decide⟩
    | inr x =>
      obtain ⟨h1, h2, h3, h4, h5⟩ := nmH_inr h
      rw [h5]
      exact c5_bd6 (wrd_lok h1) (by rw [ltn_len]; exact h3)
/-- a fault reads no name -/
theorem nmH_0 {Z : Nat → Nat → Int} {n : Nat} {st : am_PS} (h : isE (nmH Z n st).1 = true) : (nmH Z n st).2 = 0 := by
  match st, h with
  | .inl e, h => rfl
  | .inr (s, t, l), h =>
    have hF : nmH Z n (.inr (s, t, l)) = if kd Z n s t = 1 ∧ ¬ (0 ≤ wno Z s (te Z n s) ∧ wno Z s (te Z n s) < 29) then (if te Z n s - s ≤ 6 then (.inr (s, t, l), c5 (ltn Z s (te Z n s - s))) else (.inl (1, (s : Int) + 6), 0)) else (.inl (1, (s : Int)), 0) := rfl
    rw [hF] at h ⊢
    repeat' split at h
    · exact absurd h (by show ¬ false = true; decide)
    · rename_i g1 g2; rw [if_pos g1, if_neg g2]
    · rename_i g1; rw [if_neg g1]
theorem fnd_0 {X : am_X} {N : Nat → Nat → List Int} (B : xB X N) {s : Nat} (hs : s < 3) : fndv (fun w => c5 (N s w)) 0 (nM X s) = -1 := fndv_no (fun i hi => by
  have h := xB_ok B hs hi
  cases hN : N s i with
  | nil => rw [hN] at h; exact absurd h.2.1 (by decide)
  | cons a l =>
    rw [hN] at h
    have h2 := h.1 a List.mem_cons_self
    have h3 := (c5_bd (l := l) (fun c hc => h.1 c (List.mem_cons_of_mem _ hc))).1
    show a + 32 * c5 l ≠ 0
    omega)
theorem c_known {L : Nat} {q : am_Pq} {Z : Nat → Nat → Int} {n B : Nat} {fm : Int} {o : Nat} (hq : qh q) {M : am_M} {st : am_PS} (H : rS L q Z n B fm o M st) (hl : ∀ s t l, st = .inr (s, t, l) → l = []) {X : am_X} {N : Nat → Nat → List Int} (HN : cNm M q.1 X N) {s : Nat} (hs : s < 3) (d : Nat) : ∃ M', am_cl 110 (d + 3) [.ref 3, .int (am_i (s : Int))] M = some (some (.int (am_i (knS Z n N s (nM X s) st).2)), M') ∧ rS L q Z n B fm o M' (knS Z n N s (nM X s) st).1 ∧ fr (pRd q B) M M' := by
  have S := H.1.1
  obtain ⟨M1, r1, H1, f1⟩ := c_nmH H (d + 1)
  have HN1 := cNm_R hq HN f1
  have hv := nmH_bd (Z := Z) (n := n) (st := st)
  have rf := c_find H1.1.1 hq.1 HN1 hs hv (d + 2)
  have fb := fndv_bd (fun w => c5 (N s w)) (nmH Z n st).2 (nM X s)
  have hc8 := (xB_c HN.2.2 hs).2.2.2
  -- behind the name
  have k27 : ∀ (M2 : am_M) (st2 : am_PS), rS L q Z n B fm o M2 st2 → tok3 Z n st2 → ∀ v, ∃ M', am_ev 110 (d + 3) 27 [.ref 3, v, .int (am_i (fndv (fun w => c5 (N s w)) (nmH Z n st).2 (nM X s)))] [] M2 = some (some (.int (am_i (if isE st2 = true then -1 else fndv (fun w => c5 (N s w)) (nmH Z n st).2 (nM X s)))), M') ∧ rS L q Z n B fm o M' (nx Z n st2) ∧ fr (pRd q B) M2 M' := by
    intro M2 st2 H2 hk v
    obtain ⟨M3, r3, H3, f3⟩ := c_nx H2 hk (d + 1)
    refine ⟨M3, ?_, H3, f3⟩
    rw [t110_27, am_ob_p (kk_3 H2.1.1), r3, am_bV_p, am_ob_p (kk_3 H3.1.1)]
    match st2, H3 with
    | .inl e, H3 =>
      have e0 := H3.2.2.1
      have he := H3.2.1
      have he : 1 ≤ e.1 ∧ e.1 ≤ 5 := he
      have e0 : am_I M3 3 0 = am_i e.1 := e0
      rw [e0, am_br_ne (by omega) (by omega) (by omega) (by omega), if_neg (by omega)]
      rfl
    | .inr (a, b, c), H3 =>
      have e0 := H3.2.2.1
      have e0 : am_I M3 3 0 = am_i 0 := e0
      rw [e0, am_br_ne (by omega) (by omega) (by omega) (by omega), if_pos rfl]
      rfl
  have h0 := t110 (d + 2) M 3 (am_i (s : Int))
  rw [am_ob_p (kk_3 S), rr_3_2 S, am_gr_p, am_ob_p (kk_3 S), r1, am_bI_p, am_ob_p (H_k0 H1.1.1 hq.1), rf, am_bI_p, am_br_ne (by omega) (by omega) (by omega) (by omega)] at h0
  match st, H, hl, H1, h0, k27, fb, hv with
  | .inl e, H, hl, H1, h0, k27, fb, hv =>
    have hz : fndv (fun w => c5 (N s w)) (nmH Z n (.inl e)).2 (nM X s) = -1 := fnd_0 HN.2.2 hs
    rw [if_pos hz, am_ob_p (kk_3 H1.1.1), am_ob_p (kk_3 H1.1.1)] at h0
    obtain ⟨M2, r2, H2, f2⟩ := c_fl H1 (c := 3) (by omega) (d + 2)
    obtain ⟨M3, r3, H3, f3⟩ := k27 M2 _ H2 trivial (.int (am_i (s : Int)))
    rw [r2, am_bV_p] at h0
    exact ⟨M3, h0.trans r3, H3, fr_tr f1 (fr_tr f2 f3)⟩
  | .inr (a, t, l), H, hl, H1, h0, k27, fb, hv =>
    have hl' := hl a t l rfl
    subst hl'
    have hF : knS Z n N s (nM X s) (.inr (a, t, [])) = match nmS Z n (.inr (a, t, [])) with
      | .inl e => (.inl e, -1)
      | .inr (s', t', nm) => if fnd N s nm (nM X s) = -1 then (.inl (3, psn (.inr (a, t, []))), -1) else (.inr (s', t', []), fnd N s nm (nM X s)) := rfl
    cases hn : nmS Z n (.inr (a, t, [])) with
    | inl e =>
      have hne := nmS_inl hn
      rw [hn] at hF
      rw [hF]
      have h00 := nmH_0 (Z := Z) (n := n) (st := .inr (a, t, [])) (by rw [hne]; rfl)
      have hz : fndv (fun w => c5 (N s w)) (nmH Z n (.inr (a, t, []))).2 (nM X s) = -1 := by rw [h00]; exact fnd_0 HN.2.2 hs
      rw [hne] at H1
      rw [if_pos hz, am_ob_p (kk_3 H1.1.1), am_ob_p (kk_3 H1.1.1)] at h0
      obtain ⟨M2, r2, H2, f2⟩ := c_fl H1 (c := 3) (by omega) (d + 2)
      obtain ⟨M3, r3, H3, f3⟩ := k27 M2 _ H2 trivial (.int (am_i (s : Int)))
      rw [r2, am_bV_p] at h0
      exact ⟨M3, h0.trans r3, H3, fr_tr f1 (fr_tr f2 f3)⟩
    | inr x =>
      obtain ⟨hk1, hx, hne, hlok, hl1, hl6⟩ := nmS_inr hn
      subst hx
      rw [hn] at hF
      have hF : knS Z n N s (nM X s) (.inr (a, t, [])) = if fnd N s (ltn Z a (te Z n a - a)) (nM X s) = -1 then (.inl (3, (a : Int)), -1) else (.inr (ns Z n a, nt Z n a, []), fnd N s (ltn Z a (te Z n a - a)) (nM X s)) := hF
      have hz : fndv (fun w => c5 (N s w)) (nmH Z n (.inr (a, t, []))).2 (nM X s) = fnd N s (ltn Z a (te Z n a - a)) (nM X s) := by rw [hne]; rfl
      have e1 : (nmH Z n (.inr (a, t, []))).1 = .inr (a, t, []) := by rw [hne]
      rw [e1] at H1
      rw [hF]
      rw [hz] at h0 k27
      by_cases g : fnd N s (ltn Z a (te Z n a - a)) (nM X s) = -1
      · rw [if_pos g] at h0 ⊢
        rw [am_ob_p (kk_3 H1.1.1), am_ob_p (kk_3 H1.1.1)] at h0
        obtain ⟨M2, r2, H2, f2⟩ := c_fl H1 (c := 3) (by omega) (d + 2)
        obtain ⟨M3, r3, H3, f3⟩ := k27 M2 _ H2 trivial (.int (am_i (s : Int)))
        rw [r2, am_bV_p] at h0
        exact ⟨M3, h0.trans r3, H3, fr_tr f1 (fr_tr f2 f3)⟩
      · rw [if_neg g] at h0 ⊢
        obtain ⟨M3, r3, H3, f3⟩ := k27 M1 _ H1 (show 1 ≤ kd Z n a t ∧ kd Z n a t ≤ 3 by omega) (.int (am_i (s : Int)))
        exact ⟨M3, h0.trans r3, H3, fr_tr f1 f3⟩
