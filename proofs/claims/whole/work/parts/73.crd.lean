/-! Reading, apart from any machine: a fault and its place, or where the next token stands, whether it touches, the codes told so far. -/
abbrev am_PS : Type := Sum (Int × Int) (Nat × Bool × List Int)
def gl (Z : Nat → Nat → Int) (s : Nat) : Bool := decide (ltr (Z 0 s) = 1 ∨ dgt (Z 0 s) = 1)
def nx (Z : Nat → Nat → Int) (n : Nat) : am_PS → am_PS
  | .inl e => .inl e
  | .inr (s, _, l) => .inr (sk Z n (te Z n s), gl Z s && decide (sk Z n (te Z n s) = te Z n s), l)
def fl (c : Int) : am_PS → am_PS
  | .inl e => .inl e
  | .inr (s, _, _) => .inl (c, (s : Int))
def fla (c p : Int) : am_PS → am_PS
  | .inl e => .inl e
  | .inr _ => .inl (c, p)
def pt (B : Nat) (c : Int) : am_PS → am_PS
  | .inl e => .inl e
  | .inr (s, t, l) => .inr (s, t, if B + l.length < 1600 then l ++ [c] else l)
def isG (Z : Nat → Nat → Int) (n : Nat) (c : Int) : am_PS → Bool
  | .inl _ => false
  | .inr (s, t, _) => decide (kd Z n s t = 3 ∧ Z 0 s = c)
def isW (Z : Nat → Nat → Int) (n : Nat) (k : Int) : am_PS → Bool
  | .inl _ => false
  | .inr (s, t, _) => decide (kd Z n s t = 1 ∧ wno Z s (te Z n s) = k)
def isN (Z : Nat → Nat → Int) (n : Nat) : am_PS → Bool
  | .inl _ => false
  | .inr (s, t, _) => decide (kd Z n s t = 2)
def isE : am_PS → Bool
  | .inl _ => true
  | .inr _ => false
def tkG (Z : Nat → Nat → Int) (n : Nat) (c : Int) (st : am_PS) : am_PS := if isG Z n c st = true then nx Z n st else fl 1 st
def tkW (Z : Nat → Nat → Int) (n : Nat) (k : Int) (st : am_PS) : am_PS := if isW Z n k st = true then nx Z n st else fl 1 st
/-- a number's first digits -/
def nv (Z : Nat → Nat → Int) (s : Nat) : Nat → Int
  | 0 => 0
  | i + 1 => nv Z s i * 10 + Z 0 (s + i) - 48
def tkN (Z : Nat → Nat → Int) (n : Nat) (lo hi : Int) : am_PS → am_PS × Int
  | .inl e => (.inl e, lo)
  | .inr (s, t, l) => if kd Z n s t = 2 then (if te Z n s - s ≤ 4 then (if lo ≤ nv Z s (te Z n s - s) ∧ nv Z s (te Z n s - s) ≤ hi then (nx Z n (.inr (s, t, l)), nv Z s (te Z n s - s)) else (.inl (2, (s : Int)), lo)) else (.inl (1, (s : Int) + 4), lo)) else (.inl (1, (s : Int)), lo)
def nmH (Z : Nat → Nat → Int) (n : Nat) : am_PS → am_PS × Int
  | .inl e => (.inl e, 0)
  | .inr (s, t, l) => if kd Z n s t = 1 ∧ ¬ (0 ≤ wno Z s (te Z n s) ∧ wno Z s (te Z n s) < 29) then (if te Z n s - s ≤ 6 then (.inr (s, t, l), c5 (ltn Z s (te Z n s - s))) else (.inl (1, (s : Int) + 6), 0)) else (.inl (1, (s : Int)), 0)
def tok3 (Z : Nat → Nat → Int) (n : Nat) : am_PS → Prop
  | .inl _ => True
  | .inr (s, t, _) => 1 ≤ kd Z n s t ∧ kd Z n s t ≤ 3
theorem tok3_G {Z : Nat → Nat → Int} {n : Nat} {c : Int} {st : am_PS} (h : isG Z n c st = true) : tok3 Z n st := by
  match st, h with
  | .inr (s, t, l), h =>
    have := (of_decide_eq_true h).1
    show 1 ≤ kd Z n s t ∧ kd Z n s t ≤ 3
    omega
theorem tok3_W {Z : Nat → Nat → Int} {n : Nat} {c : Int} {st : am_PS} (h : isW Z n c st = true) : tok3 Z n st := by
  match st, h with
  | .inr (s, t, l), h =>
    have := (of_decide_eq_true h).1
    show 1 ≤ kd Z n s t ∧ kd Z n s t ≤ 3
    omega
/-! The class's reader holds it. -/
def rC (L : Nat) (q : am_Pq) (Z : Nat → Nat → Int) (n B : Nat) (fm : Int) (o : Nat) (M : am_M) : Prop := am_Sh L q M ∧ (q.2.1 = 29 ∨ q.2.1 = 28 ∨ q.2.1 = 62) ∧ n ≤ 1600 ∧ (∀ k, k < 1600 → am_I M 30 k = am_i (Z 0 k)) ∧ cWw M ∧ am_I M 3 6 = am_i (n : Int) ∧ am_I M 3 13 = am_i fm ∧ am_I M 3 16 = am_i (o : Int) ∧ B ≤ 1600 ∧ (∀ k, 0 ≤ Z 0 k ∧ Z 0 k ≤ 255)
def rT (q : am_Pq) (Z : Nat → Nat → Int) (n B : Nat) (M : am_M) : am_PS → Prop
  | .inl e => (1 ≤ e.1 ∧ e.1 ≤ 5) ∧ am_I M 3 0 = am_i e.1 ∧ am_I M 3 1 = am_i e.2 ∧ am_I M 3 8 = am_i 4 ∧ ∃ c : Nat, B ≤ c ∧ c ≤ 1600 ∧ am_I M 3 15 = am_i (c : Int)
  | .inr (s, t, l) => s ≤ n ∧ am_I M 3 0 = am_i 0 ∧ am_I M 3 1 = am_i (-1) ∧ tkS M Z n s t ∧ B + l.length ≤ 1600 ∧ am_I M 3 15 = am_i ((B + l.length : Nat) : Int) ∧ ∀ i, i < l.length → am_I M q.2.1 (B + i) = am_i (cc (l.getD i 0))
def rS (L : Nat) (q : am_Pq) (Z : Nat → Nat → Int) (n B : Nat) (fm : Int) (o : Nat) (M : am_M) (st : am_PS) : Prop := rC L q Z n B fm o M ∧ rT q Z n B M st
def pRd (q : am_Pq) (B b k : Nat) : Prop := (b = 3 ∧ k ≠ 3) ∨ (b = q.2.1 ∧ B ≤ k)
theorem rC_mv {L : Nat} {q : am_Pq} {Z : Nat → Nat → Int} {n B : Nat} {fm : Int} {o : Nat} {M M' : am_M} (H : rC L q Z n B fm o M) (S' : am_Sh L q M') (f : fr (fun b k => (b = 3 ∧ k ≠ 6 ∧ k ≠ 13 ∧ k ≠ 16) ∨ b = q.2.1) M M') : rC L q Z n B fm o M' := by
  obtain ⟨S, hq, hn, hT, hw, e6, eF, eo, hB, hz⟩ := H
  exact ⟨S', hq, hn, fun k hk => by rw [(f 30 k (by omega)).1]; exact hT k hk, fun k hk => by rw [(f 31 k (by omega)).2]; exact hw k hk, by rw [(f 3 6 (by omega)).1]; exact e6, by rw [(f 3 13 (by omega)).1]; exact eF, by rw [(f 3 16 (by omega)).1]; exact eo, hB, hz⟩
theorem rC_st {L : Nat} {q : am_Pq} {Z : Nat → Nat → Int} {n B : Nat} {fm : Int} {o : Nat} {M : am_M} (H : rC L q Z n B fm o M) : am_K M q.2.1 = (2, 1600) := by
  obtain ⟨S, hq, -⟩ := H
  rcases hq with h | h | h
  · rw [h]; exact kk_29 S
  · rw [h]; exact kk_28 S
  · rw [h]; exact kk_62 S
theorem c_flx {L : Nat} {q : am_Pq} {Z : Nat → Nat → Int} {n B : Nat} {fm : Int} {o : Nat} {M : am_M} {st : am_PS} (H : rS L q Z n B fm o M st) {c p : Int} (hc : 1 ≤ c ∧ c ≤ 5) {x : Int32} (hx : isE st = false → x = am_i p) (d : Nat) : ∃ M', am_cl 99 d [.ref 3, .int (am_i c), .int x] M = some (none, M') ∧ rS L q Z n B fm o M' (fla c p st) ∧ fr (pRd q B) M M' := by
  obtain ⟨HC, HT⟩ := H
  have S := HC.1
  match st, HT, hx with
  | .inl e, HT, hx =>
    obtain ⟨he, e0, e1, e8, cc', hc1, hc2, e15⟩ := HT
    refine ⟨am_sI M 3 8 (am_i 4), ?_, ⟨rC_mv HC (S.sI _ _ _) (fr_sI (Or.inl ⟨rfl, by omega⟩)), he, by rw [am_I_ne2 (by decide)]; exact e0, by rw [am_I_ne2 (by decide)]; exact e1, am_I_same _ _ _ _, cc', hc1, hc2, by rw [am_I_ne2 (by decide)]; exact e15⟩, fr_sI (Or.inl ⟨rfl, by omega⟩)⟩
    rw [t99, am_ob_p (kk_3 S), e0, am_br_ne (by omega) (by omega) (by omega) (by omega), if_neg (by omega), am_ob_p (kk_3 S), am_lt]
  | .inr (s, t, l), HT, hx =>
    obtain ⟨hs, e0, e1, ht, hl, e15, hst⟩ := HT
    have hx := hx rfl
    subst hx
    have S2 := S.sI 3 0 (am_i c)
    have S3 := S2.sI 3 1 (am_i p)
    refine ⟨am_sI (am_sI (am_sI M 3 0 (am_i c)) 3 1 (am_i p)) 3 8 (am_i 4), ?_, ⟨rC_mv HC (S3.sI _ _ _) (fr_tr (fr_tr (fr_sI (Or.inl ⟨rfl, by omega⟩)) (fr_sI (Or.inl ⟨rfl, by omega⟩))) (fr_sI (Or.inl ⟨rfl, by omega⟩))), hc, by rw [am_I_ne2 (by decide), am_I_ne2 (by decide), am_I_same], by rw [am_I_ne2 (by decide), am_I_same], am_I_same _ _ _ _, B + l.length, by omega, hl, by rw [am_I_ne2 (by decide), am_I_ne2 (by decide), am_I_ne2 (by decide)]; exact e15⟩, fr_tr (fr_tr (fr_sI (Or.inl ⟨rfl, by omega⟩)) (fr_sI (Or.inl ⟨rfl, by omega⟩))) (fr_sI (Or.inl ⟨rfl, by omega⟩))⟩
    rw [t99, am_ob_p (kk_3 S), e0, am_br_ne (by omega) (by omega) (by omega) (by omega), if_pos rfl, am_ob_p (kk_3 S)]
    simp only [am_lt]
    rw [am_ob_p (kk_3 S2), am_ob_p (kk_3 S3)]
theorem c_fl {L : Nat} {q : am_Pq} {Z : Nat → Nat → Int} {n B : Nat} {fm : Int} {o : Nat} {M : am_M} {st : am_PS} (H : rS L q Z n B fm o M st) {c : Int} (hc : 1 ≤ c ∧ c ≤ 5) (d : Nat) : ∃ M', am_cl 99 d [.ref 3, .int (am_i c), .int (am_I M 3 9)] M = some (none, M') ∧ rS L q Z n B fm o M' (fl c st) ∧ fr (pRd q B) M M' := by
  match st, H with
  | .inl e, H => exact c_flx H hc (p := 0) (fun h => absurd h (by show ¬ true = false; decide)) d
  | .inr (s, t, l), H => exact c_flx H hc (p := (s : Int)) (fun _ => H.2.2.2.2.1.2.1) d
theorem c_nx {L : Nat} {q : am_Pq} {Z : Nat → Nat → Int} {n B : Nat} {fm : Int} {o : Nat} {M : am_M} {st : am_PS} (H : rS L q Z n B fm o M st) (hk : tok3 Z n st) (d : Nat) : ∃ M', am_cl 100 (d + 1) [.ref 3] M = some (none, M') ∧ rS L q Z n B fm o M' (nx Z n st) ∧ fr (pRd q B) M M' := by
  obtain ⟨HC, HT⟩ := H
  have S := HC.1
  match st, HT, hk with
  | .inl e, HT, hk =>
    refine ⟨M, ?_, ⟨HC, HT⟩, fr_rfl _ _⟩
    obtain ⟨he, e0, -⟩ := HT
    rw [t100, am_ob_p (kk_3 S), e0, am_br_eq (by omega) (by omega) (by omega) (by omega), if_neg (by omega)]
  | .inr (s, t, l), HT, hk =>
    obtain ⟨hs, e0, e1, ⟨e8, e9, e10, eW⟩, hl, e15, hst⟩ := HT
    have hk : 1 ≤ kd Z n s t ∧ kd Z n s t ≤ 3 := hk
    have S2 := S.sI 3 9 (am_i (te Z n s : Int))
    have hC := HC
    obtain ⟨-, hq, hn, hT, hw, e6, eF, eo, hB, hz⟩ := HC
    have hte := te_bd Z hs
    have hsn : s < n := by
      by_cases g : s < n
      · exact g
      · have := hk.1
        unfold kd at this
        rw [if_neg g] at this
        omega
    have hg : (kd Z n s t = 1 ∨ kd Z n s t = 2) ↔ gl Z s = true := by
      unfold gl
      rw [decide_eq_true_iff]
      have := hk
      unfold kd at this ⊢
      rw [if_pos hsn] at this ⊢
      by_cases g1 : ltr (Z 0 s) = 1
      · rw [if_pos g1] at this ⊢
        split at this
        · omega
        · simp_all
      · rw [if_neg g1] at this ⊢
        by_cases g2 : dgt (Z 0 s) = 1
        · rw [if_pos g2] at this ⊢
          split at this
          · omega
          · simp_all
        · rw [if_neg g2] at this ⊢
          simp_all
    obtain ⟨M', r, S', f', hk'⟩ := c_next0 (M := am_sI M 3 9 (am_i (te Z n s : Int))) S2 (fun k hk => by rw [am_I_ne1 (by decide)]; exact hT k hk) hz hw hn (by rw [am_I_ne2 (by decide)]; exact e6) hte.2.1 (gl Z s) (am_I_same _ _ _ _) d .null
    have fA : fr (fun b k => b = 3 ∧ 8 ≤ k ∧ k ≤ 12) M M' := fr_tr (fr_sI ⟨rfl, by omega⟩) f'
    refine ⟨M', ?_, ⟨rC_mv hC S' (fr_mono fA (fun b k h => Or.inl ⟨h.1, by omega⟩)), (sk_bd Z n _).2 hte.2.1, by rw [(fA 3 0 (by omega)).1]; exact e0, by rw [(fA 3 1 (by omega)).1]; exact e1, hk', hl, by rw [(fA 3 15 (by omega)).1]; exact e15, fun i hi => by rw [(fA _ _ (by omega)).1]; exact hst i hi⟩, fr_mono fA (fun b k h => Or.inl ⟨h.1, by omega⟩)⟩
    rw [t100, am_ob_p (kk_3 S), e0, am_br_eq (by omega) (by omega) (by omega) (by omega), if_pos rfl]
    simp only [am_ob_p (kk_3 S), e8, e10, am_lt]
    rw [am_br_eq (by omega) (by omega) (by omega) (by omega), am_br_ne (by omega) (by omega) (by omega) (by omega)]
    by_cases g1 : gl Z s = true
    · rw [g1, if_pos rfl] at r
      by_cases g2 : kd Z n s t = 1
      · rw [if_pos g2]
        exact r
      · rw [if_neg g2, if_pos (by have := hg.mpr g1; omega)]
        exact r
    · rw [if_neg g1] at r
      have h2 : ¬ (kd Z n s t = 1 ∨ kd Z n s t = 2) := fun h => g1 (hg.mp h)
      rw [if_neg (by omega), if_neg (by omega)]
      exact r
theorem c_isG {L : Nat} {q : am_Pq} {Z : Nat → Nat → Int} {n B : Nat} {fm : Int} {o : Nat} {M : am_M} {st : am_PS} (H : rS L q Z n B fm o M st) {c : Int} (hc : 0 ≤ c ∧ c ≤ 1000) (d : Nat) : am_cl 103 d [.ref 3, .int (am_i c)] M = some (some (.int (am_i (if isG Z n c st = true then 1 else 0))), M) := by
  obtain ⟨HC, HT⟩ := H
  have S := HC.1
  match st, HT with
  | .inl e, HT =>
    obtain ⟨he, e0, e1, e8, -⟩ := HT
    rw [t103, am_ob_p (kk_3 S), e8, am_br_ne (by omega) (by omega) (by omega) (by omega), if_neg (by omega), am_tr_0]
    rfl
  | .inr (s, t, l), HT =>
    obtain ⟨hs, e0, e1, ⟨e8, e9, e10, eW⟩, -⟩ := HT
    obtain ⟨-, hq, hn, hT, hw, e6, eF, eo, hB, hz⟩ := HC
    have hkb := kd_bd Z n s t
    have hb := hz s
    show (_ : am_Q) = some (some (Value.int (am_i (if decide (kd Z n s t = 3 ∧ Z 0 s = c) = true then 1 else 0))), M)
    rw [t103, am_ob_p (kk_3 S), e8, am_br_ne (by omega) (by omega) (by omega) (by omega)]
    by_cases g : kd Z n s t = 3
    · have hsn : s < n := by
        by_cases g2 : s < n
        · exact g2
        · unfold kd at g
          rw [if_neg g2] at g
          omega
      rw [if_pos g, am_ob_p (kk_3 S), am_ob_p (kk_3 S), e9, e6, am_br_ge (by omega) (by omega) (by omega) (by omega), if_neg (by omega), am_ob_p (kk_3 S), rr_3_5 S, am_gr_p, am_ob_p (kk_3 S), am_ix_p (kk_30 S) (by omega) (by omega) (by omega), am_i_ix (by omega) (by omega), Int.toNat_natCast, hT s (by omega), am_br_ne (by omega) (by omega) (by omega) (by omega)]
      by_cases g2 : Z 0 s = c
      · rw [if_pos g2, am_tr_1, if_pos (decide_eq_true ⟨g, g2⟩)]
      · rw [if_neg g2, am_tr_0, if_neg (fun h => g2 (of_decide_eq_true h).2)]
    · rw [if_neg g, am_tr_0, if_neg (fun h => g (of_decide_eq_true h).1)]
theorem c_isW {L : Nat} {q : am_Pq} {Z : Nat → Nat → Int} {n B : Nat} {fm : Int} {o : Nat} {M : am_M} {st : am_PS} (H : rS L q Z n B fm o M st) {c : Int} (hc : 0 ≤ c ∧ c ≤ 1000) (d : Nat) : am_cl 102 d [.ref 3, .int (am_i c)] M = some (some (.int (am_i (if isW Z n c st = true then 1 else 0))), M) := by
  obtain ⟨HC, HT⟩ := H
  have S := HC.1
  match st, HT with
  | .inl e, HT =>
    obtain ⟨he, e0, e1, e8, -⟩ := HT
    rw [t102, am_ob_p (kk_3 S), e8, am_br_ne (by omega) (by omega) (by omega) (by omega), if_neg (by omega), am_tr_0]
    rfl
  | .inr (s, t, l), HT =>
    obtain ⟨hs, e0, e1, ⟨e8, e9, e10, eW⟩, -⟩ := HT
    have hkb := kd_bd Z n s t
    have hwb := wno_bd Z s (te Z n s)
    show (_ : am_Q) = some (some (Value.int (am_i (if decide (kd Z n s t = 1 ∧ wno Z s (te Z n s) = c) = true then 1 else 0))), M)
    rw [t102, am_ob_p (kk_3 S), e8, am_br_ne (by omega) (by omega) (by omega) (by omega)]
    by_cases g : kd Z n s t = 1
    · rw [if_pos g, am_ob_p (kk_3 S), (eW g).2, am_br_ne (by omega) (by omega) (by omega) (by omega)]
      by_cases g2 : wno Z s (te Z n s) = c
      · rw [if_pos g2, am_tr_1, if_pos (decide_eq_true ⟨g, g2⟩)]
      · rw [if_neg g2, am_tr_0, if_neg (fun h => g2 (of_decide_eq_true h).2)]
    · rw [if_neg g, am_tr_0, if_neg (fun h => g (of_decide_eq_true h).1)]
theorem c_tkG {L : Nat} {q : am_Pq} {Z : Nat → Nat → Int} {n B : Nat} {fm : Int} {o : Nat} {M : am_M} {st : am_PS} (H : rS L q Z n B fm o M st) {c : Int} (hc : 0 ≤ c ∧ c ≤ 1000) (d : Nat) : ∃ M', am_cl 105 (d + 2) [.ref 3, .int (am_i c)] M = some (none, M') ∧ rS L q Z n B fm o M' (tkG Z n c st) ∧ fr (pRd q B) M M' := by
  have S := H.1.1
  have e := c_isG H hc (d + 1)
  by_cases g : isG Z n c st = true
  · obtain ⟨M', r, H', f'⟩ := c_nx H (tok3_G g) d
    refine ⟨M', ?_, by unfold tkG; rw [if_pos g]; exact H', f'⟩
    rw [t105, am_ob_p (kk_3 S), e, am_bI_p, if_pos g, am_br_eq (by omega) (by omega) (by omega) (by omega), if_neg (by omega), am_ob_p (kk_3 S), r, am_bV_p]
  · obtain ⟨M', r, H', f'⟩ := c_fl H (c := 1) (by omega) (d + 1)
    refine ⟨M', ?_, by unfold tkG; rw [if_neg g]; exact H', f'⟩
    rw [t105, am_ob_p (kk_3 S), e, am_bI_p, if_neg g, am_br_eq (by omega) (by omega) (by omega) (by omega), if_pos rfl, am_ob_p (kk_3 S), am_ob_p (kk_3 S), r, am_bV_p]
theorem c_tkW {L : Nat} {q : am_Pq} {Z : Nat → Nat → Int} {n B : Nat} {fm : Int} {o : Nat} {M : am_M} {st : am_PS} (H : rS L q Z n B fm o M st) {c : Int} (hc : 0 ≤ c ∧ c ≤ 1000) (d : Nat) : ∃ M', am_cl 104 (d + 2) [.ref 3, .int (am_i c)] M = some (none, M') ∧ rS L q Z n B fm o M' (tkW Z n c st) ∧ fr (pRd q B) M M' := by
  have S := H.1.1
  have e := c_isW H hc (d + 1)
  by_cases g : isW Z n c st = true
  · obtain ⟨M', r, H', f'⟩ := c_nx H (tok3_W g) d
    refine ⟨M', ?_, by unfold tkW; rw [if_pos g]; exact H', f'⟩
    rw [t104, am_ob_p (kk_3 S), e, am_bI_p, if_pos g, am_br_eq (by omega) (by omega) (by omega) (by omega), if_neg (by omega), am_ob_p (kk_3 S), r, am_bV_p]
  · obtain ⟨M', r, H', f'⟩ := c_fl H (c := 1) (by omega) (d + 1)
    refine ⟨M', ?_, by unfold tkW; rw [if_neg g]; exact H', f'⟩
    rw [t104, am_ob_p (kk_3 S), e, am_bI_p, if_neg g, am_br_eq (by omega) (by omega) (by omega) (by omega), if_pos rfl, am_ob_p (kk_3 S), am_ob_p (kk_3 S), r, am_bV_p]
theorem c_pt {L : Nat} {q : am_Pq} {Z : Nat → Nat → Int} {n B : Nat} {fm : Int} {o : Nat} {M : am_M} {st : am_PS} (H : rS L q Z n B fm o M st) {c x : Int} (hx : isE st = false → x = cc c) (d : Nat) : ∃ M', am_cl 116 d [.ref 3, .int (am_i x)] M = some (none, M') ∧ rS L q Z n B fm o M' (pt B c st) ∧ fr (pRd q B) M M' := by
  obtain ⟨HC, HT⟩ := H
  have S := HC.1
  have hK := rC_st HC
  have hq := HC.2.1
  have core : ∀ k : Nat, k ≤ 1600 → am_I M 3 15 = am_i (k : Int) → am_cl 116 d [.ref 3, .int (am_i x)] M = some (none, if k < 1600 then am_sI (am_sI M q.2.1 k (am_i x)) 3 15 (am_i ((k : Int) + 1)) else M) := by
    intro k hk e15
    rw [t116, am_ob_p (kk_3 S), am_ob_p (kk_3 S), rr_3_14 S, am_gr_p, hK, am_if_t (by decide), e15, am_i_nI, am_br_ge (by omega) (by omega) (by omega) (by omega)]
    by_cases g : k < 1600
    · rw [if_neg (by omega), if_pos g, am_ob_p (kk_3 S), am_gr_p, am_ob_p (kk_3 S), am_iw_p hK (by omega) (by omega) (by omega) (by omega), am_i_ix (by omega) (by omega), Int.toNat_natCast]
      simp only [am_lt]
      rw [am_ob_p (kk_3 (S.sI _ _ _)), am_ob_p (kk_3 (S.sI _ _ _)), am_I_ne1 (by omega), e15, am_i_add]
    · rw [if_pos (by omega), if_neg g]
  match st, HT, hx with
  | .inl e, HT, hx =>
    obtain ⟨he, e0, e1, e8, k, hk1, hk2, e15⟩ := HT
    refine ⟨_, core k hk2 e15, ?_⟩
    by_cases g : k < 1600
    · rw [if_pos g]
      exact ⟨⟨rC_mv HC ((S.sI _ _ _).sI _ _ _) (fr_tr (fr_sI (Or.inr rfl)) (fr_sI (Or.inl ⟨rfl, by omega⟩))), he, by rw [am_I_ne2 (by decide), am_I_ne1 (by omega)]; exact e0, by rw [am_I_ne2 (by decide), am_I_ne1 (by omega)]; exact e1, by rw [am_I_ne2 (by decide), am_I_ne1 (by omega)]; exact e8, k + 1, by omega, by omega, am_I_same _ _ _ _⟩, fr_tr (fr_sI (Or.inr ⟨rfl, hk1⟩)) (fr_sI (Or.inl ⟨rfl, by omega⟩))⟩
    · rw [if_neg g]
      exact ⟨⟨HC, he, e0, e1, e8, k, hk1, hk2, e15⟩, fr_rfl _ _⟩
  | .inr (s, t, l), HT, hx =>
    obtain ⟨hs, e0, e1, ⟨e8, e9, e10, eW⟩, hl, e15, hst⟩ := HT
    have hx := hx rfl
    refine ⟨_, core _ hl e15, ?_⟩
    show rS L q Z n B fm o _ (.inr (s, t, if B + l.length < 1600 then l ++ [c] else l)) ∧ _
    by_cases g : B + l.length < 1600
    · rw [if_pos g, if_pos g]
      refine ⟨⟨rC_mv HC ((S.sI _ _ _).sI _ _ _) (fr_tr (fr_sI (Or.inr rfl)) (fr_sI (Or.inl ⟨rfl, by omega⟩))), hs, by rw [am_I_ne2 (by decide), am_I_ne1 (by omega)]; exact e0, by rw [am_I_ne2 (by decide), am_I_ne1 (by omega)]; exact e1, ⟨by rw [am_I_ne2 (by decide), am_I_ne1 (by omega)]; exact e8, by rw [am_I_ne2 (by decide), am_I_ne1 (by omega)]; exact e9, by rw [am_I_ne2 (by decide), am_I_ne1 (by omega)]; exact e10, fun hk => ⟨(eW hk).1, by rw [am_I_ne2 (by decide), am_I_ne1 (by omega)]; exact (eW hk).2⟩⟩, by rw [List.length_append]; exact g, by rw [am_I_same, List.length_append]; rfl, fun i hi => ?_⟩, fr_tr (fr_sI (Or.inr ⟨rfl, by omega⟩)) (fr_sI (Or.inl ⟨rfl, by omega⟩))⟩
      rw [am_I_ne1 (by omega)]
      rw [List.length_append, List.length_singleton] at hi
      by_cases g2 : i = l.length
      · subst g2
        rw [am_I_same, hx]
        congr 2
        simp [List.getD_eq_getElem?_getD]
      · rw [am_I_ne2 (by omega), hst i (by omega)]
        congr 2
        simp [List.getD_eq_getElem?_getD, List.getElem?_append_left (show i < l.length by omega)]
    · rw [if_neg g, if_neg g]
      exact ⟨⟨HC, hs, e0, e1, ⟨e8, e9, e10, eW⟩, hl, e15, hst⟩, fr_rfl _ _⟩
