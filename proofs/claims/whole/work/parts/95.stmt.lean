/-! Statements, apart from any machine. -/
/-- house, names, formulas, how many steps the class has told, how many codes the reference -/
abbrev am_HS : Type := am_X × (Nat → Nat → List Int) × am_Gf × Nat × Nat
abbrev am_SR : Type := Sum (Int × Int) (Nat × Bool × am_HS)
def uG (G : am_Gf) (j : Nat) (F : List Int) : am_Gf := fun a => if a = j then some F else G a
def sKind (Z : Nat → Nat → Int) (n : Nat) (H : am_HS) (st : am_PS) : am_SR := match nwS Z n H.2.1 (nM H.1) (st1S Z n (most3 0 ≤ H.1 0 0 0) st) with
  | .inl e => .inl e
  | .inr (s, t, nm) => .inr (s, t, uA H.1 0 0 0 (H.1 0 0 0 + 1), uN H.2.1 0 (nM H.1 0) nm, H.2.2)
/-- what a person is told by -/
def pe1 (Z : Nat → Nat → Int) (n : Nat) (st : am_PS) : am_PS × Int := tkN Z n 0 23 (tkW Z n 5 st)
def pe2 (Z : Nat → Nat → Int) (n : Nat) (st : am_PS) : am_PS × Int := tkN Z n (pe1 Z n st).2 23 (tkW Z n 6 (pe1 Z n st).1)
def sPerson (Z : Nat → Nat → Int) (n : Nat) (H : am_HS) (st : am_PS) : am_SR := match nwS Z n H.2.1 (nM H.1) (st1S Z n (most3 2 ≤ H.1 0 2 0) st) with
  | .inl e => .inl e
  | .inr (s, t, nm) => match (pe2 Z n (.inr (s, t, []))).1 with
    | .inl e => .inl e
    | .inr (s', t', _) => .inr (s', t', uA (uA (uA H.1 0 2 0 (H.1 0 2 0 + 1)) 4 (nM H.1 2) 0 (pe1 Z n (.inr (s, t, []))).2) 5 (nM H.1 2) 0 (pe2 Z n (.inr (s, t, []))).2, uN H.2.1 2 (nM H.1 2) nm, H.2.2)
def li1 (Z : Nat → Nat → Int) (n : Nat) (H : am_HS) (st : am_PS) : am_PS × Int := knS Z n H.2.1 2 (nM H.1 2) (nx Z n st)
def li2 (Z : Nat → Nat → Int) (n : Nat) (H : am_HS) (st : am_PS) : am_PS × Int := knS Z n H.2.1 0 (nM H.1 0) (li1 Z n H st).1
def li3 (Z : Nat → Nat → Int) (n : Nat) (H : am_HS) (st : am_PS) : am_PS × Int := tkN Z n 0 9 (li2 Z n H st).1
def sLikes (Z : Nat → Nat → Int) (n : Nat) (H : am_HS) (st : am_PS) : am_SR := match (li3 Z n H st).1 with
  | .inl e => .inl e
  | .inr (s, t, _) => .inr (s, t, uA H.1 6 (li1 Z n H st).2.toNat (li2 Z n H st).2.toNat (li3 Z n H st).2, H.2)
def sPress (Z : Nat → Nat → Int) (n : Nat) (H : am_HS) (st : am_PS) : am_SR := match (li1 Z n H st).1 with
  | .inl e => .inl e
  | .inr (s, t, _) => if H.1 7 0 0 / ((2 ^ (li1 Z n H st).2.toNat : Nat) : Int) % 2 = 1 then .inl (3, psn (nx Z n st)) else .inr (s, t, uA H.1 7 0 0 (bon (H.1 7 0 0) (li1 Z n H st).2.toNat), H.2)
def sForm (Z : Nat → Nat → Int) (n j : Nat) (H : am_HS) (st : am_PS) : am_SR := if H.2.2.1 j ≠ none then (match fl 5 st with | .inl e => .inl e | .inr _ => .inl (0, 0)) else match (if j = 2 then rTest Z n H.2.2.2.1 2 6 (nx Z n st) else rSum Z n H.2.2.2.1 j 6 (nx Z n st)) with
  | .inl e => .inl e
  | .inr (s, t, F) => .inr (s, t, H.1, H.2.1, uG H.2.2.1 j F, H.2.2.2.1 + F.length + 1, H.2.2.2.2 + F.length)
def sSet (Z : Nat → Nat → Int) (n i : Nat) (lo hi : Int) (H : am_HS) (st : am_PS) : am_SR := match (tkN Z n lo hi (nx Z n st)).1 with
  | .inl e => .inl e
  | .inr (s, t, _) => .inr (s, t, uA H.1 i 0 0 (tkN Z n lo hi (nx Z n st)).2, H.2)
/-- the parts of a film, kind by kind -/
def fK (Z : Nat → Nat → Int) (n : Nat) (N : Nat → Nat → List Int) (c : Nat) : Nat → am_PS → (Nat → Int) → am_PS × (Nat → Int)
  | 0, st, r => (st, r)
  | m + 1, st, r =>
    let a := knS Z n N 0 c st
    let st1 := if isE a.1 = false ∧ 0 < r a.2.toNat then .inl (3, psn st) else a.1
    let b := tkN Z n 1 9 st1
    let r' : Nat → Int := fun k => if k = a.2.toNat then b.2 else r k
    match b.1 with
    | .inl e => (.inl e, r')
    | .inr (s, t, l) => if kd Z n s t = 1 then fK Z n N c m (.inr (s, t, l)) r' else (.inr (s, t, l), r')
def fi1 (Z : Nat → Nat → Int) (n : Nat) (st : am_PS) : am_PS × Int := tkN Z n 1 9 (tkW Z n 2 st)
def fi2 (Z : Nat → Nat → Int) (n : Nat) (st : am_PS) : am_PS := tkW Z n 3 (fi1 Z n st).1
def fi3 (Z : Nat → Nat → Int) (n : Nat) (H : am_HS) (st : am_PS) : am_PS × (Nat → Int) := fK Z n H.2.1 (nM H.1 0) (n + 1) (fi2 Z n st) (fun _ => 0)
def uF (X : am_X) (p : Int) (r : Nat → Int) : am_X := fun a b c => if a = 0 ∧ b = 1 ∧ c = 0 then X 0 1 0 + 1 else if a = 2 ∧ b = nM X 1 ∧ c = 0 then p else if a = 3 ∧ b = nM X 1 then r c else X a b c
def sFilm (Z : Nat → Nat → Int) (n : Nat) (H : am_HS) (st : am_PS) : am_SR := match nwS Z n H.2.1 (nM H.1) (st1S Z n (most3 1 ≤ H.1 0 1 0) st) with
  | .inl e => .inl e
  | .inr (s, t, nm) => match (fi3 Z n H (.inr (s, t, []))).1 with
    | .inl e => .inl e
    | .inr (s', t', _) => .inr (s', t', uF H.1 (fi1 Z n (.inr (s, t, []))).2 (fi3 Z n H (.inr (s, t, []))).2, uN H.2.1 1 (nM H.1 1) nm, H.2.2)
/-- a statement by its first word -/
def sBod (Z : Nat → Nat → Int) (n : Nat) (w : Int) (H : am_HS) (st : am_PS) : am_SR :=
  if w = 0 then sKind Z n H st else if w = 1 then sFilm Z n H st else if w = 4 then sPerson Z n H st else if w = 7 then sLikes Z n H st else if w = 8 then sPress Z n H st
  else if w = 9 then sForm Z n 0 H st else if w = 10 then sForm Z n 1 H st else if w = 11 then sForm Z n 2 H st
  else if w = 12 then sSet Z n 8 1 5 H st else if w = 13 then sSet Z n 9 0 999 H st else if w = 14 then sSet Z n 10 0 99 H st else if w = 15 then sSet Z n 11 0 100 H st
  else .inl (1, psn st)
/-! The class's house while it is read. -/
def cGx (M : am_M) (h : Nat) (G : am_Gf) (C : Nat) : Prop := ∀ j, j < 3 → match G j with
  | none => am_I M h (12 + j) = am_i (-1)
  | some l => ∃ o : Nat, o + l.length < C ∧ am_I M h (12 + j) = am_i o ∧ (∀ i, i < l.length → am_I M (h + 24) (o + i) = am_i (cc (l.getD i 0))) ∧ am_I M (h + 24) (o + l.length) = am_i 20000
def cHr (M : am_M) (h : Nat) (X : am_X) : Prop := (∀ f, f < nM X 1 → am_I M (h + 6) f = am_i (X 2 f 0)) ∧ (∀ f, f < 8 → ∀ k, k < 6 → am_I M (h + 8 + f) k = am_i (X 3 f k)) ∧ (∀ p, p < nM X 2 → am_I M (h + 16) p = am_i (X 4 p 0)) ∧ (∀ p, p < nM X 2 → am_I M (h + 17) p = am_i (X 5 p 0)) ∧ (∀ p, p < 5 → ∀ k, k < 6 → am_I M (h + 19 + p) k = am_i (X 6 p k)) ∧ ∀ j, j < 5 → am_I M h (7 + j) = am_i (X (7 + j) 0 0)
def cHt (M : am_M) (h : Nat) (H : am_HS) : Prop := cNm M h H.1 H.2.1 ∧ cHr M h H.1 ∧ cGx M h H.2.2.1 H.2.2.2.1
theorem cHr_mv {M M' : am_M} {h : Nat} {X : am_X} (H : cHr M h X) (e : ∀ b k, h ≤ b → b < h + 24 → ¬ (h + 1 ≤ b ∧ b < h + 6) → (b = h → 7 ≤ k ∧ k < 12) → am_I M' b k = am_I M b k) : cHr M' h X := by
  obtain ⟨h1, h2, h3, h4, h5, h6⟩ := H
  exact ⟨fun f hf => (e _ _ (by omega) (by omega) (by omega) (by omega)).trans (h1 f hf), fun f hf k hk => (e _ _ (by omega) (by omega) (by omega) (by omega)).trans (h2 f hf k hk), fun f hf => (e _ _ (by omega) (by omega) (by omega) (by omega)).trans (h3 f hf), fun f hf => (e _ _ (by omega) (by omega) (by omega) (by omega)).trans (h4 f hf), fun f hf k hk => (e _ _ (by omega) (by omega) (by omega) (by omega)).trans (h5 f hf k hk), fun j hj => (e _ _ (by omega) (by omega) (by omega) (by omega)).trans (h6 j hj)⟩
theorem cGx_mv {M M' : am_M} {h : Nat} {G : am_Gf} {C C' : Nat} (H : cGx M h G C) (hC : C ≤ C') (e : ∀ k, 12 ≤ k → k < 15 → am_I M' h k = am_I M h k) (e2 : ∀ k, k < C → am_I M' (h + 24) k = am_I M (h + 24) k) : cGx M' h G C' := by
  intro j hj
  have h1 := H j hj
  split
  · rename_i e1
    rw [e1] at h1
    exact (e _ (by omega) (by omega)).trans h1
  · rename_i l e1
    rw [e1] at h1
    obtain ⟨o, h2, h3, h4, h5⟩ := h1
    exact ⟨o, by omega, (e _ (by omega) (by omega)).trans h3, fun i hi => (e2 _ (by omega)).trans (h4 i hi), (e2 _ (by omega)).trans h5⟩
/-- what the class's reading writes -/
def pHs (q : am_Pq) (b _k : Nat) : Prop := b = 3 ∨ (q.1 ≤ b ∧ b < q.1 + 25)
theorem pRd_pHs {q : am_Pq} (hq : qh q) {B b k : Nat} (h : pRd q B b k) : pHs q b k := by
  have := qh_pR hq h
  unfold pHs
  omega
/-- what the class holds behind a statement -/
def cAf (L : Nat) (q : am_Pq) (Z : Nat → Nat → Int) (n : Nat) (M : am_M) : am_SR → Prop
  | .inl e => ∃ B fm o, rS L q Z n B fm o M (.inl e)
  | .inr (s, t, H) => ∃ fm o, rS L q Z n H.2.2.2.1 fm o M (.inr (s, t, [])) ∧ cHt M q.1 H
theorem nM_ne {X : am_X} {i j k : Nat} {v : Int} {a : Nat} (h : i ≠ 0) : nM (uA X i j k v) a = nM X a := by
  unfold nM
  rw [uA_ne (by omega)]
theorem xB_ne {X : am_X} {N : Nat → Nat → List Int} {i j k : Nat} {v : Int} (B : xB X N) (h : i ≠ 0) : xB (uA X i j k v) N := by
  obtain ⟨h1, h2, h3, h4⟩ := B
  refine ⟨by rw [uA_ne (by omega)]; exact h1, by rw [uA_ne (by omega)]; exact h2, by rw [uA_ne (by omega)]; exact h3, fun s hs w hw => ?_⟩
  rw [nM_ne h] at hw
  exact h4 s hs w hw
theorem cNm_ne {M : am_M} {h : Nat} {X : am_X} {N : Nat → Nat → List Int} {i j k : Nat} {v : Int} (H : cNm M h X N) (hi : i ≠ 0) : cNm M h (uA X i j k v) N := ⟨fun a ha => by rw [uA_ne (by omega)]; exact H.1 a ha, fun s hs w hw => H.2.1 s hs w (by rw [nM_ne hi] at hw; exact hw), xB_ne H.2.2 hi⟩
theorem c_kind {L : Nat} {q : am_Pq} {Z : Nat → Nat → Int} {n : Nat} {fm : Int} {o : Nat} (hq : qh q) {M : am_M} {s0 : Nat} {t0 : Bool} {H : am_HS} (HR : rS L q Z n H.2.2.2.1 fm o M (.inr (s0, t0, []))) (hk0 : kd Z n s0 t0 = 1) (HH : cHt M q.1 H) (d : Nat) : ∃ M' v, am_cl 109 (d + 3) [.ref 3, .int (am_i 0), .int (am_i 6)] M = some (some (.int v), M') ∧ cAf L q Z n M' (sKind Z n H (.inr (s0, t0, []))) ∧ fr (pHs q) M M' := by
  obtain ⟨M', r, H', HN, f⟩ := c_newName hq HR hk0 HH.1 (s := 0) (by omega) d
  have h4 : q.1 = 4 ∨ q.1 = 38 := hq.1
  have fH : fr (pHs q) M M' := fr_mono f (fun b k h => by
    rcases h with h | h | h
    · exact pRd_pHs hq h
    · unfold pHs; omega
    · unfold pHs; omega)
  refine ⟨M', _, r, ?_, fH⟩
  have hn : ∀ b k, (q.1 ≤ b ∧ b < q.1 + 24) → ¬ (q.1 + 1 ≤ b ∧ b < q.1 + 6) → am_I M' b k = am_I M b k := fun b k h1 h2 => (f b k (fun h => by
    rcases h with h | h | h
    · have := qh_pR hq h; omega
    · omega
    · omega)).1
  unfold sKind
  cases hw : nwS Z n H.2.1 (nM H.1) (st1S Z n (most3 0 ≤ H.1 0 0 0) (.inr (s0, t0, []))) with
  | inl e =>
    rw [hw] at H'
    exact ⟨_, _, _, H'⟩
  | inr x =>
    obtain ⟨s, t, nm⟩ := x
    rw [hw] at H' HN
    have HN := HN.1
    refine ⟨fm, o, H', HN, ?_, cGx_mv HH.2.2 (Nat.le_refl _) (fun k h1 h2 => hn _ _ (by omega) (by omega)) (fun k hk => (f _ _ (fun h => by
      rcases h with h | h | h
      · have := qh_pR hq h; omega
      · omega
      · omega)).1)⟩
    obtain ⟨k1, k2, k3, k4, k5, k6⟩ := cHr_mv (M' := M') HH.2.1 (fun b k g1 g2 g3 g4 => hn b k ⟨g1, g2⟩ g3)
    have e : ∀ a b c, a ≠ 0 → uA H.1 0 0 0 (H.1 0 0 0 + 1) a b c = H.1 a b c := fun a b c ha => uA_ne (by omega)
    refine ⟨fun f hf => ?_, fun f hf k hk => ?_, fun p hp => ?_, fun p hp => ?_, fun p hp k hk => ?_, fun j hj => ?_⟩
    · rw [nM_u, if_neg (by omega)] at hf
      show _ = am_i (uA H.1 0 0 0 (H.1 0 0 0 + 1) 2 f 0)
      rw [e _ _ _ (by omega)]; exact k1 f hf
    · show _ = am_i (uA H.1 0 0 0 (H.1 0 0 0 + 1) 3 f k)
      rw [e _ _ _ (by omega)]; exact k2 f hf k hk
    · rw [nM_u, if_neg (by omega)] at hp
      show _ = am_i (uA H.1 0 0 0 (H.1 0 0 0 + 1) 4 p 0)
      rw [e _ _ _ (by omega)]; exact k3 p hp
    · rw [nM_u, if_neg (by omega)] at hp
      show _ = am_i (uA H.1 0 0 0 (H.1 0 0 0 + 1) 5 p 0)
      rw [e _ _ _ (by omega)]; exact k4 p hp
    · show _ = am_i (uA H.1 0 0 0 (H.1 0 0 0 + 1) 6 p k)
      rw [e _ _ _ (by omega)]; exact k5 p hp k hk
    · show _ = am_i (uA H.1 0 0 0 (H.1 0 0 0 + 1) (7 + j) 0 0)
      rw [e _ _ _ (by omega)]; exact k6 j hj
theorem tkN_hi {Z : Nat → Nat → Int} {n : Nat} {lo hi : Int} (h : lo ≤ hi) {st : am_PS} : (tkN Z n lo hi st).2 ≤ hi := by
  match st with
  | .inl e => exact h
  | .inr (s, t, l) =>
    have hF : tkN Z n lo hi (.inr (s, t, l)) = (if kd Z n s t = 2 then (if te Z n s - s ≤ 4 then (if lo ≤ nv Z s (te Z n s - s) ∧ nv Z s (te Z n s - s) ≤ hi then (nx Z n (.inr (s, t, l)), nv Z s (te Z n s - s)) else (.inl (2, (s : Int)), lo)) else (.inl (1, (s : Int) + 4), lo)) else (.inl (1, (s : Int)), lo)) := rfl
    rw [hF]
    split
    · split
      · split
        · rename_i h1; exact h1.2
        · exact h
      · exact h
    · exact h
theorem tkN_e {Z : Nat → Nat → Int} {n : Nat} {lo hi : Int} {st : am_PS} {x : Nat × Bool × List Int} (h : (tkN Z n lo hi st).1 = .inr x) : ∃ s t, st = .inr (s, t, x.2.2) := by
  match st, h with
  | .inl e, h => cases h
  | .inr (s, t, l), h =>
    obtain ⟨s', t', l'⟩ := x
    obtain ⟨-, -, -, h4, -⟩ := tkN_inr h
    exact ⟨s, t, by rw [h4]⟩
theorem tkW_e {Z : Nat → Nat → Int} {n : Nat} {k : Int} {st : am_PS} {x : Nat × Bool × List Int} (h : tkW Z n k st = .inr x) : ∃ s t, st = .inr (s, t, x.2.2) ∧ isW Z n k st = true := by
  match st, h with
  | .inr (s, t, l), h =>
    unfold tkW at h
    by_cases g : isW Z n k (.inr (s, t, l)) = true
    · rw [if_pos g, nx_inr] at h
      have := Sum.inr.inj h
      exact ⟨s, t, by rw [← this], g⟩
    · rw [if_neg g] at h
      exact absurd h fl_ne
theorem c_person {L : Nat} {q : am_Pq} {Z : Nat → Nat → Int} {n : Nat} {fm : Int} {o : Nat} (hq : qh q) {M : am_M} {s0 : Nat} {t0 : Bool} {H : am_HS} (HR : rS L q Z n H.2.2.2.1 fm o M (.inr (s0, t0, []))) (hk0 : kd Z n s0 t0 = 1) (HH : cHt M q.1 H) (d : Nat) : ∃ M', am_cl 112 (d + 4) [.ref 3] M = some (none, M') ∧ cAf L q Z n M' (sPerson Z n H (.inr (s0, t0, []))) ∧ fr (pHs q) M M' := by
  obtain ⟨M1, r1, H1, HN, f1⟩ := c_newName hq HR hk0 HH.1 (s := 2) (by omega) d
  have h4 : q.1 = 4 ∨ q.1 = 38 := hq.1
  have hh := hq.1
  obtain ⟨R, hR⟩ : ∃ R, R = nwS Z n H.2.1 (nM H.1) (st1S Z n (most3 2 ≤ H.1 0 2 0) (.inr (s0, t0, []))) := ⟨_, rfl⟩
  rw [← hR] at r1 H1 HN
  obtain ⟨M2, r2, H2, f2⟩ := c_tkW H1 (c := 5) (by omega) (d + 1)
  obtain ⟨M3, r3, H3, f3⟩ := c_tkN H2 (lo := 0) (hi := 23) (by omega) (by omega) (d + 1)
  obtain ⟨M4, r4, H4, f4⟩ := c_tkW H3 (c := 6) (by omega) (d + 1)
  have b1 : 0 ≤ (tkN Z n 0 23 (tkW Z n 5 (dl R))).2 ∧ (tkN Z n 0 23 (tkW Z n 5 (dl R))).2 ≤ 23 := ⟨tkN_lo, tkN_hi (by omega)⟩
  obtain ⟨M5, r5, H5, f5⟩ := c_tkN H4 (lo := (tkN Z n 0 23 (tkW Z n 5 (dl R))).2) (hi := 23) (by omega) (by omega) (d + 1)
  have f25 := fr_tr f2 (fr_tr f3 (fr_tr f4 f5))
  have f15 : fr (pNn q H.2.2.2.1 2) M M5 := fr_tr f1 (fr_mono f25 (fun b k h => Or.inl h))
  have fH5 : fr (pHs q) M M5 := fr_mono f15 (fun b k h => by
    rcases h with h | h | h
    · exact pRd_pHs hq h
    · unfold pHs; omega
    · unfold pHs; omega)
  have h0 := t112 (d + 3) M 3
  rw [am_ob_p (kk_3 HR.1.1), show (am_i 2 : Int32) = am_i ((2 : Nat) : Int) from rfl, show (am_i 5 : Int32) = am_i (most3 2) from rfl, r1, am_bI_p, am_ob_p (kk_3 H1.1.1), show (am_i (most3 2) : Int32) = am_i 5 from rfl, r2, am_bV_p, am_ob_p (kk_3 H2.1.1), r3, am_bI_p, am_ob_p (kk_3 H3.1.1), r4, am_bV_p, am_ob_p (kk_3 H4.1.1), r5, am_bI_p] at h0
  match R, hR, H1, HN, H5, h0, b1 with
  | .inl e, hR, H1, HN, H5, h0, b1 =>
    rw [show (if isE (Sum.inl e : am_PS) = true then (-1 : Int) else H.1 0 2 0) = -1 from rfl, am_br_eq (by omega) (by omega) (by omega) (by omega), if_pos rfl] at h0
    refine ⟨M5, h0, ?_, fH5⟩
    unfold sPerson
    rw [← hR]
    exact ⟨_, _, _, H5⟩
  | .inr (s, t, nm), hR, H1, HN, H5, h0, b1 =>
    obtain ⟨HN, hlok, hl1, hl6, hlt⟩ := HN
    have hc := xB_c HH.1.2.2 (s := 2) (by omega)
    have hcr : H.1 0 2 0 = ((nM H.1 2 : Nat) : Int) := hc.2.2.1.symm
    have hlt5 : nM H.1 2 < 5 := by rw [show most3 2 = 5 from rfl] at hlt; omega
    have S5 := H5.1.1
    have b2 : 0 ≤ (pe2 Z n (.inr (s, t, []))).2 ∧ (pe2 Z n (.inr (s, t, []))).2 ≤ 23 := ⟨Int.le_trans b1.1 tkN_lo, tkN_hi b1.2⟩
    have S6 := S5.sI (q.1 + 16) (nM H.1 2) (am_i (pe1 Z n (.inr (s, t, []))).2)
    have h0 : am_cl 112 (d + 3 + 1) [.ref 3] M = some (none, am_sI (am_sI M5 (q.1 + 16) (nM H.1 2) (am_i (pe1 Z n (.inr (s, t, []))).2)) (q.1 + 17) (nM H.1 2) (am_i (pe2 Z n (.inr (s, t, []))).2)) := by
      rw [h0, show (if isE (Sum.inr (s, t, nm) : am_PS) = true then (-1 : Int) else H.1 0 2 0) = H.1 0 2 0 from rfl, hcr, am_br_eq (by omega) (by omega) (by omega) (by omega), if_neg (by omega), am_ob_p (kk_3 S5), rr_3_2 S5, am_gr_p, am_ob_p (H_k0 S5 hh), H_r0_4 S5 hh, am_gr_p, am_iw_p (H_k16 S5 hh) (by omega) (by omega) (by omega) (by omega), am_i_ix (by omega) (by omega), Int.toNat_natCast]
      simp only [am_lt]
      have S6' := S5.sI (q.1 + 16) (nM H.1 2) (am_i (tkN Z n 0 23 (tkW Z n 5 (dl (.inr (s, t, nm))))).2)
      rw [am_ob_p (kk_3 S6'), rr_3_2 S6', am_gr_p, am_ob_p (H_k0 S6' hh), H_r0_5 S6' hh, am_gr_p, am_iw_p (H_k17 S6' hh) (by omega) (by omega) (by omega) (by omega)]
      rfl
    have fW : fr (fun b k => (b = q.1 + 16 ∨ b = q.1 + 17) ∧ k = nM H.1 2) M5 (am_sI (am_sI M5 (q.1 + 16) (nM H.1 2) (am_i (pe1 Z n (.inr (s, t, []))).2)) (q.1 + 17) (nM H.1 2) (am_i (pe2 Z n (.inr (s, t, []))).2)) := fr_tr (fr_sI ⟨Or.inl rfl, rfl⟩) (fr_sI ⟨Or.inr rfl, rfl⟩)
    refine ⟨_, h0, ?_, fr_tr fH5 (fr_mono fW (fun b k h => by unfold pHs; omega))⟩
    have H5 : rS L q Z n H.2.2.2.1 fm o M5 (pe2 Z n (.inr (s, t, []))).1 := H5
    cases hp : (pe2 Z n (.inr (s, t, []))).1 with
    | inl e =>
      rw [hp] at H5
      have hS : sPerson Z n H (.inr (s0, t0, [])) = .inl e := by
        unfold sPerson
        rw [← hR]
        simp only [hp]
      rw [hS]
      refine ⟨H.2.2.2.1, fm, o, rC_mv2 H5.1 (S6.sI _ _ _) (fun b k hb => (fW b k (by omega)).1) (fun b k hb => (fW b k (by omega)).2), ?_⟩
      obtain ⟨k1, k2, k3, k4, c, k5, k6, k7⟩ := H5.2
      exact ⟨k1, ((fW _ _ (by omega)).1).trans k2, ((fW _ _ (by omega)).1).trans k3, ((fW _ _ (by omega)).1).trans k4, c, k5, k6, ((fW _ _ (by omega)).1).trans k7⟩
    | inr x =>
      obtain ⟨s', t', l'⟩ := x
      have hl' : l' = [] := by
        obtain ⟨a1, a2, e1⟩ := tkN_e hp
        obtain ⟨a3, a4, e2, -⟩ := tkW_e e1
        obtain ⟨a5, a6, e3⟩ := tkN_e e2
        obtain ⟨a7, a8, e4, -⟩ := tkW_e e3
        have := Sum.inr.inj e4
        rw [Prod.mk.injEq, Prod.mk.injEq] at this
        exact this.2.2.symm
      subst hl'
      rw [hp] at H5
      have hS : sPerson Z n H (.inr (s0, t0, [])) = .inr (s', t', uA (uA (uA H.1 0 2 0 (H.1 0 2 0 + 1)) 4 (nM H.1 2) 0 (pe1 Z n (.inr (s, t, []))).2) 5 (nM H.1 2) 0 (pe2 Z n (.inr (s, t, []))).2, uN H.2.1 2 (nM H.1 2) nm, H.2.2) := by
        unfold sPerson
        rw [← hR]
        simp only [hp]
      rw [hS]
      obtain ⟨k1, k2, k3, ⟨k4, k5, k6, k7⟩, k8, k9, k10⟩ := H5.2
      have hn : ∀ b k, (q.1 ≤ b ∧ b < q.1 + 24) → ¬ (q.1 + 1 ≤ b ∧ b < q.1 + 6) → ¬ ((b = q.1 + 16 ∨ b = q.1 + 17) ∧ k = nM H.1 2) → am_I (am_sI (am_sI M5 (q.1 + 16) (nM H.1 2) (am_i (pe1 Z n (.inr (s, t, []))).2)) (q.1 + 17) (nM H.1 2) (am_i (pe2 Z n (.inr (s, t, []))).2)) b k = am_I M b k := fun b k h1 h2 h3 => ((fW b k h3).1).trans (f15 b k (fun h => by
        rcases h with h | h | h
        · have := qh_pR hq h; omega
        · omega
        · omega)).1
      refine ⟨fm, o, ⟨rC_mv2 H5.1 (S6.sI _ _ _) (fun b k hb => (fW b k (by omega)).1) (fun b k hb => (fW b k (by omega)).2), k1, ((fW _ _ (by omega)).1).trans k2, ((fW _ _ (by omega)).1).trans k3, ⟨((fW _ _ (by omega)).1).trans k4, ((fW _ _ (by omega)).1).trans k5, ((fW _ _ (by omega)).1).trans k6, fun hk => ⟨((fW _ _ (by omega)).2).trans (k7 hk).1, ((fW _ _ (by omega)).1).trans (k7 hk).2⟩⟩, k8, ((fW _ _ (by omega)).1).trans k9, fun i hi => absurd hi (by show ¬ i < 0; omega)⟩, ?_, ?_, ?_⟩
      · exact cNm_ne (cNm_ne (cNm_mv (cNm_R hq HN f25) (fun b k g1 g2 => (fW b k (by omega)).1)) (by omega)) (by omega)
      · obtain ⟨j1, j2, j3, j4, j5, j6⟩ := HH.2.1
        have e : ∀ a b c, a ≠ 0 → (a = 4 ∨ a = 5 → b ≠ nM H.1 2) → uA (uA (uA H.1 0 2 0 (H.1 0 2 0 + 1)) 4 (nM H.1 2) 0 (pe1 Z n (.inr (s, t, []))).2) 5 (nM H.1 2) 0 (pe2 Z n (.inr (s, t, []))).2 a b c = H.1 a b c := fun a b c ha hb => by
          rw [uA_ne (by omega), uA_ne (by omega), uA_ne (by omega)]
        have hnm : ∀ a, nM (uA (uA (uA H.1 0 2 0 (H.1 0 2 0 + 1)) 4 (nM H.1 2) 0 (pe1 Z n (.inr (s, t, []))).2) 5 (nM H.1 2) 0 (pe2 Z n (.inr (s, t, []))).2) a = if a = 2 then nM H.1 2 + 1 else nM H.1 a := fun a => by
          rw [nM_ne (by omega), nM_ne (by omega), nM_u]
          by_cases g : a = 2
          · rw [if_pos g, if_pos g]; omega
          · rw [if_neg g, if_neg g]
        refine ⟨fun f hf => ?_, fun f hf k hk => ?_, fun p hp => ?_, fun p hp => ?_, fun p hp k hk => ?_, fun j hj => ?_⟩
        · show _ = am_i (uA (uA (uA H.1 0 2 0 (H.1 0 2 0 + 1)) 4 (nM H.1 2) 0 (pe1 Z n (.inr (s, t, []))).2) 5 (nM H.1 2) 0 (pe2 Z n (.inr (s, t, []))).2 2 f 0)
          have hf := (hnm 1) ▸ hf
          rw [if_neg (by omega)] at hf
          rw [e _ _ _ (by omega) (by omega), hn _ _ (by omega) (by omega) (by omega)]; exact j1 f hf
        · show _ = am_i (uA (uA (uA H.1 0 2 0 (H.1 0 2 0 + 1)) 4 (nM H.1 2) 0 (pe1 Z n (.inr (s, t, []))).2) 5 (nM H.1 2) 0 (pe2 Z n (.inr (s, t, []))).2 3 f k)
          rw [e _ _ _ (by omega) (by omega), hn _ _ (by omega) (by omega) (by omega)]; exact j2 f hf k hk
        · show _ = am_i (uA (uA (uA H.1 0 2 0 (H.1 0 2 0 + 1)) 4 (nM H.1 2) 0 (pe1 Z n (.inr (s, t, []))).2) 5 (nM H.1 2) 0 (pe2 Z n (.inr (s, t, []))).2 4 p 0)
          have hp := (hnm 2) ▸ hp
          rw [if_pos rfl] at hp
          by_cases g : p = nM H.1 2
          · subst g
            rw [uA_ne (by omega), uA_eq, am_I_ne1 (by omega), am_I_same]
          · rw [e _ _ _ (by omega) (by omega), hn _ _ (by omega) (by omega) (by omega)]; exact j3 p (by omega)
        · show _ = am_i (uA (uA (uA H.1 0 2 0 (H.1 0 2 0 + 1)) 4 (nM H.1 2) 0 (pe1 Z n (.inr (s, t, []))).2) 5 (nM H.1 2) 0 (pe2 Z n (.inr (s, t, []))).2 5 p 0)
          have hp := (hnm 2) ▸ hp
          rw [if_pos rfl] at hp
          by_cases g : p = nM H.1 2
          · subst g
            rw [uA_eq, am_I_same]
          · rw [e _ _ _ (by omega) (by omega), hn _ _ (by omega) (by omega) (by omega)]; exact j4 p (by omega)
        · show _ = am_i (uA (uA (uA H.1 0 2 0 (H.1 0 2 0 + 1)) 4 (nM H.1 2) 0 (pe1 Z n (.inr (s, t, []))).2) 5 (nM H.1 2) 0 (pe2 Z n (.inr (s, t, []))).2 6 p k)
          rw [e _ _ _ (by omega) (by omega), hn _ _ (by omega) (by omega) (by omega)]; exact j5 p hp k hk
        · show _ = am_i (uA (uA (uA H.1 0 2 0 (H.1 0 2 0 + 1)) 4 (nM H.1 2) 0 (pe1 Z n (.inr (s, t, []))).2) 5 (nM H.1 2) 0 (pe2 Z n (.inr (s, t, []))).2 (7 + j) 0 0)
          rw [e _ _ _ (by omega) (by omega), hn _ _ (by omega) (by omega) (by omega)]; exact j6 j hj
      · exact cGx_mv HH.2.2 (Nat.le_refl _) (fun k h1 h2 => hn _ _ (by omega) (by omega) (by omega)) (fun k hk => ((fW _ _ (by omega)).1).trans (f15 _ _ (fun h => by
          rcases h with h | h | h
          · have := qh_pR hq h; omega
          · omega
          · omega)).1)
