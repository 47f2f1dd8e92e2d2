/-! Through a write. -/
theorem am_ob_sI (M : am_M) (a j : Nat) (v : Int32) (r k : Nat) (t s : am_Q) : am_ob (am_sI M a j v) r k t s = am_ob M r k t s := rfl
theorem am_ix_sI (M : am_M) (a j : Nat) (v : Int32) (r k : Nat) (i : Int32) (t s : am_Q) : am_ix (am_sI M a j v) r k i t s = am_ix M r k i t s := rfl
theorem am_iw_sI (M : am_M) (a j : Nat) (v : Int32) (r k : Nat) (i : Int32) (t s : am_Q) : am_iw (am_sI M a j v) r k i t s = am_iw M r k i t s := rfl
theorem am_iq_sI (M : am_M) (a j : Nat) (v : Int32) (r : Nat) (i : Int32) (t s : am_Q) : am_iq (am_sI M a j v) r i t s = am_iq M r i t s := rfl
theorem am_ob_sL (M : am_M) (a j : Nat) (v : Int64) (r k : Nat) (t s : am_Q) : am_ob (am_sL M a j v) r k t s = am_ob M r k t s := rfl
theorem am_ix_sL (M : am_M) (a j : Nat) (v : Int64) (r k : Nat) (i : Int32) (t s : am_Q) : am_ix (am_sL M a j v) r k i t s = am_ix M r k i t s := rfl
theorem am_iw_sL (M : am_M) (a j : Nat) (v : Int64) (r k : Nat) (i : Int32) (t s : am_Q) : am_iw (am_sL M a j v) r k i t s = am_iw M r k i t s := rfl
theorem am_iq_sL (M : am_M) (a j : Nat) (v : Int64) (r : Nat) (i : Int32) (t s : am_Q) : am_iq (am_sL M a j v) r i t s = am_iq M r i t s := rfl
theorem am_i24 : ¬ (am_i 24 = 0) := by decide
theorem am_i40 : ¬ (am_i 40 = 0) := by decide
/-! The class's formulas; what was kept. -/
def cG (M : am_M) (h : Nat) (G : am_Gf) : Prop := ∀ j, j < 3 → match G j with
  | none => am_I M h (12 + j) = am_i (-1)
  | some l => ∃ o : Nat, o + l.length < 1600 ∧ am_I M h (12 + j) = am_i o ∧ (∀ i, i < l.length → am_I M (h + 24) (o + i) = am_i (cc (l.getD i 0))) ∧ am_I M (h + 24) (o + l.length) = am_i 20000
theorem cG_none {M : am_M} {h : Nat} {G : am_Gf} (H : cG M h G) {j : Nat} (hj : j < 3) (e : G j = none) : am_I M h (12 + j) = am_i (-1) := by
  have := H j hj
  rw [e] at this
  exact this
theorem cG_some {M : am_M} {h : Nat} {G : am_Gf} (H : cG M h G) {j : Nat} (hj : j < 3) {l : List Int} (e : G j = some l) : ∃ o : Nat, o + l.length < 1600 ∧ am_I M h (12 + j) = am_i o ∧ (∀ i, i < l.length → am_I M (h + 24) (o + i) = am_i (cc (l.getD i 0))) ∧ am_I M (h + 24) (o + l.length) = am_i 20000 := by
  have := H j hj
  rw [e] at this
  exact this
theorem cG_mv {M M' : am_M} {h : Nat} {G : am_Gf} (H : cG M h G) (e : ∀ b k, h ≤ b → b < h + 25 → am_I M' b k = am_I M b k) : cG M' h G := by
  intro j hj
  have h1 := H j hj
  split
  · rename_i e1
    rw [e1] at h1
    exact (e _ _ (by omega) (by omega)).trans h1
  · rename_i l e1
    rw [e1] at h1
    obtain ⟨o, h2, h3, h4, h5⟩ := h1
    exact ⟨o, h2, (e _ _ (by omega) (by omega)).trans h3, fun i hi => (e _ _ (by omega) (by omega)).trans (h4 i hi), (e _ _ (by omega) (by omega)).trans h5⟩
theorem mG_mv {M M' : am_M} {G : am_Gf} (H : mG M G) (e : ∀ b k, 226 ≤ b → b < 229 → (b < 228 → 3 ≤ k) → (b = 228 → 1600 ≤ k) → am_I M' b k = am_I M b k) : mG M' G := by
  intro j hj
  have h1 := H j hj
  split
  · rename_i e1
    rw [e1] at h1
    exact (e _ _ (by omega) (by omega) (by omega) (by omega)).trans h1
  · rename_i l e1
    rw [e1] at h1
    obtain ⟨o, h2, h3, h4, h5⟩ := h1
    exact ⟨o, h2, (e _ _ (by omega) (by omega) (by omega) (by omega)).trans h3, (e _ _ (by omega) (by omega) (by omega) (by omega)).trans h4, fun i hi => (e _ _ (by omega) (by omega) (by omega) (by omega)).trans (h5 i hi)⟩
theorem mG_none {M : am_M} {G : am_Gf} (H : mG M G) {j : Nat} (hj : j < 3) (e : G j = none) : am_I M 226 (3 + j) = am_i (-1) := by
  have := H j hj
  rw [e] at this
  exact this
theorem mG_some {M : am_M} {G : am_Gf} (H : mG M G) {j : Nat} (hj : j < 3) {l : List Int} (e : G j = some l) : ∃ o : Nat, o + l.length ≤ 1600 ∧ am_I M 226 (3 + j) = am_i o ∧ am_I M 227 (3 + j) = am_i ((o + l.length : Nat) : Int) ∧ ∀ i, i < l.length → am_I M 228 (1600 + (o + i)) = am_i (l.getD i 0) := by
  have := H j hj
  rw [e] at this
  exact this
/-- the formulas are good ones -/
def gB (G : am_Gf) : Prop := (∀ l, G 0 = some l → wf (alw 0) false false l) ∧ (∀ l, G 1 = some l → wf (alw 1) false false l) ∧ (∀ l, G 2 = some l → wf (alw 2) false true l)
def cK (M : am_M) (a : Nat) (K : List Int) (b : Nat) : Prop := ∃ e : Nat, e ≤ b ∧ am_I M a 6 = am_i e ∧ K.length = (if e < 40 then e else 40) ∧ ∀ k, k < K.length → am_I M (a + 4) ((e - K.length + k) % 40) = am_i (K.getD k 0)
theorem cK_mv {M M' : am_M} {a : Nat} {K : List Int} {b : Nat} (H : cK M a K b) (e6 : am_I M' a 6 = am_I M a 6) (e4 : ∀ k, am_I M' (a + 4) k = am_I M (a + 4) k) : cK M' a K b := by
  obtain ⟨e, h1, h2, h3, h4⟩ := H
  exact ⟨e, h1, e6.trans h2, h3, fun k hk => (e4 _).trans (h4 k hk)⟩
theorem kpush_len {K : List Int} (r : Int) (h : K.length ≤ 40) : (kpush K r).length = if K.length < 40 then K.length + 1 else 40 := by
  unfold kpush
  split
  · simp
  · simp; omega
/-- a row is kept -/
theorem c_keep {L : Nat} {q : am_Pq} {M : am_M} {a : Nat} (S : am_Sh L q M) (ha : isA a) {A : am_A} (HA : cA M a A) {K : List Int} {b : Nat} (HK : cK M a K b) (hb : b < 2000000000) (p f : Nat) (d : Nat) :
    ∃ M', am_cl 70 d [.ref a, .int (am_i p), .int (am_i f)] M = some (none, M') ∧ am_Sh L q M' ∧ fr (fun b k => b = a + 4 ∨ (b = a ∧ k = 6)) M M' ∧ cK M' a (kpush K (rowc A p f)) (b + 1) := by
  obtain ⟨e, h1, h2, h3, h4⟩ := HK
  have hA : 4 ≤ a := by unfold isA at ha; omega
  have e0 := HA.1
  have e1 : (am_i e - am_i e / am_i 40 * am_i 40) = am_i ((e : Int) % 40) := am_i_rem (by omega) (by omega) (by omega) (by omega)
  have e2 : ((e : Int) % 40).toNat = e % 40 := by omega
  refine ⟨am_sI (am_sI M (a + 4) (e % 40) (am_i (rowc A p f))) a 6 (am_i ((e : Int) + 1)), ?_, (S.sI _ _ _).sI _ _ _, fr_tr (fr_sI (Or.inl rfl)) (fr_sI (Or.inr ⟨rfl, rfl⟩)), ?_⟩
  · rw [t70]
    simp (disch := omega) only [am_ob_p (A_k0 S ha), am_ix_p (A_k1 S ha), am_iw_p (A_k1 S ha), am_ix_p (A_k2 S ha), am_iw_p (A_k2 S ha), am_ix_p (A_k3 S ha), am_iw_p (A_k3 S ha), am_ix_p (A_k4 S ha), am_iw_p (A_k4 S ha), A_r0_2 S ha, A_r0_3 S ha, A_r0_4 S ha, A_r0_5 S ha, am_gr_p, am_i_ix, Int.toNat_zero, Int.toNat_one, Int.toNat_natCast, Int.reduceToNat, am_lt, am_i_add, am_i_sub, am_i_mul, am_ob_sI, am_ix_sI, am_iw_sI, am_iq_sI, am_R_sI', am_ob_sL, am_ix_sL, am_iw_sL, am_iq_sL, am_R_sL', am_I_same, am_I_ne1, am_I_ne2, am_L_same, am_L_ne1, am_L_ne2, am_L_sI', am_I_sL', am_if_f am_i40, h2, e1, e2, e0]
    rfl
  · have hI4 : ∀ k, am_I (am_sI (am_sI M (a + 4) (e % 40) (am_i (rowc A p f))) a 6 (am_i ((e : Int) + 1))) (a + 4) k = if k = e % 40 then am_i (rowc A p f) else am_I M (a + 4) k := by
      intro k
      rw [am_I_ne1 (by omega)]
      by_cases g : k = e % 40
      · rw [if_pos g, g, am_I_same]
      · rw [if_neg g, am_I_ne2 g]
    refine ⟨e + 1, by omega, am_I_same _ _ _ _, ?_, fun k hk => ?_⟩
    · rw [kpush_len _ (by rw [h3]; split <;> omega), h3]
      split <;> split <;> (try split) <;> omega
    · rw [kpush_len _ (by rw [h3]; split <;> omega)] at hk ⊢
      by_cases g : e < 40
      · rw [if_pos g] at h3
        have hkp : kpush K (rowc A p f) = K ++ [rowc A p f] := if_pos (by omega)
        rw [if_pos (by omega)] at hk ⊢
        rw [hkp, hI4]
        by_cases g2 : k = e
        · subst g2
          rw [if_pos (by omega), show k = K.length by omega]
          simp [List.getD_eq_getElem?_getD]
        · have := h4 k (by omega)
          rw [if_neg (by omega), show (e + 1 - (K.length + 1) + k) % 40 = (e - K.length + k) % 40 by congr 1; omega, this]
          simp [List.getD_eq_getElem?_getD, List.getElem?_append_left (show k < K.length by omega)]
      · rw [if_neg g] at h3
        have hkp : kpush K (rowc A p f) = K.tail ++ [rowc A p f] := if_neg (by omega)
        rw [if_neg (by omega)] at hk ⊢
        have hT : K.tail.length = 39 := by rw [List.length_tail]; omega
        rw [hkp, hI4]
        by_cases g2 : k = 39
        · subst g2
          rw [if_pos (by omega)]
          simp [List.getD_eq_getElem?_getD, List.getElem?_append_right (show K.tail.length ≤ 39 by omega), hT]
        · have := h4 (k + 1) (by omega)
          rw [if_neg (by omega), show (e + 1 - 40 + k) % 40 = (e - K.length + (k + 1)) % 40 by congr 1; omega, this]
          simp [List.getD_eq_getElem?_getD, List.getElem?_append_left (show k < K.tail.length by omega)]
/-! What is seen: pure facts. -/
theorem seeT_ne (X : am_X) (G : am_Gf) (q f : Nat) (A : am_A) (n : Nat) {i j k : Nat} (h : ¬ (i = 2 ∧ j = q ∧ k < n)) : seeT X G q f A n i j k = A i j k := by
  induction n with
  | zero => rfl
  | succ n ih =>
    unfold seeT
    split
    · rw [uA_ne (by omega), ih (by omega)]
    · exact ih (by omega)
theorem seeT_bd {X : am_X} {G : am_Gf} {q f : Nat} {A : am_A} (n : Nat) (h : ∀ k, k < 6 → 0 ≤ A 2 q k ∧ A 2 q k ≤ 999) {k : Nat} (hk : k < 6) : 0 ≤ seeT X G q f A n 2 q k ∧ seeT X G q f A n 2 q k ≤ 999 := by
  induction n with
  | zero => exact h k hk
  | succ n ih =>
    unfold seeT
    split
    · by_cases g : k = n
      · subst g
        rw [uA_eq]
        exact held_bd _
      · rw [uA_ne (by omega)]
        exact ih
    · exact ih
theorem see_ne (X : am_X) (G : am_Gf) (A : am_A) (q f : Nat) {i j k : Nat} (h : ¬ (i = 2 ∧ j = q ∧ k < nK X)) (h' : ¬ (i = 3 ∧ j = q ∧ k = f)) : see X G A q f i j k = A i j k := by
  unfold see
  rw [seeT_ne _ _ _ _ _ _ h, uA_ne h']
theorem see_3 (X : am_X) (G : am_Gf) (A : am_A) (q f : Nat) : see X G A q f 3 q f = A 3 q f + 1 := by
  unfold see
  rw [seeT_ne _ _ _ _ _ _ (by omega), uA_eq]
/-- the bounds stay, whatever the tastes and one film's parts become -/
theorem aB_see {X : am_X} {G : am_Gf} {A : am_A} (B : hB X) (BA : aB X A) {q f : Nat} (hq : q ≤ nP X) (hf : f < nF X) (h : A 3 q f < X 2 f 0) : aB X (see X G A q f) := by
  have hP5 := (hB_P B).2
  have hF8 := (hB_F B).2
  obtain ⟨h1, h2, h3, h4, h5, h6, h7, h8⟩ := BA
  refine ⟨?_, ?_, fun q' hq' k hk => ?_, fun q' hq' f' hf' => ?_, fun p hp => ?_, fun q' hq' k hk hz => ?_, fun q' hq' f' hf' hz => ?_, fun p hp hz => ?_⟩
  · rw [see_ne _ _ _ _ _ (by omega) (by omega)]; exact h1
  · rw [see_ne _ _ _ _ _ (by omega) (by omega)]; exact h2
  · by_cases g : q' = q
    · subst g
      unfold see
      exact seeT_bd _ (fun k hk => by rw [uA_ne (by omega)]; exact h3 q' hq' k hk) hk
    · rw [see_ne _ _ _ _ _ (by omega) (by omega)]; exact h3 q' hq' k hk
  · by_cases g : q' = q ∧ f' = f
    · obtain ⟨rfl, rfl⟩ := g
      rw [see_3]
      have := h4 q' hq' f' hf'
      exact ⟨by omega, fun _ => by omega⟩
    · rw [see_ne _ _ _ _ _ (by omega) (by omega)]; exact h4 q' hq' f' hf'
  · rw [see_ne _ _ _ _ _ (by omega) (by omega)]; exact h5 p hp
  · rw [see_ne _ _ _ _ _ (by omega) (by omega)]; exact h6 q' hq' k hk hz
  · rw [see_ne _ _ _ _ _ (by omega) (by omega)]; exact h7 q' hq' f' hf' hz
  · rw [see_ne _ _ _ _ _ (by omega) (by omega)]; exact h8 p hp hz
/-- writes to an account -/
theorem cA_w2 {M : am_M} {a : Nat} {A : am_A} (H : cA M a A) {q k : Nat} (hq : q < 6) (hk : k < 6) (v : Int) : cA (am_sI M (a + 1) (6 * q + k) (am_i v)) a (uA A 2 q k v) := by
  obtain ⟨h1, h2, h3, h4, h5⟩ := H
  refine ⟨?_, ?_, fun q' hq' k' hk' => ?_, fun q' hq' f' hf' => ?_, fun p hp => ?_⟩
  · rw [am_I_ne1 (by omega), uA_ne (by omega)]; exact h1
  · rw [am_I_ne1 (by omega), uA_ne (by omega)]; exact h2
  · by_cases g : q' = q ∧ k' = k
    · obtain ⟨rfl, rfl⟩ := g
      rw [am_I_same, uA_eq]
    · rw [am_I_ne2 (by omega), uA_ne (by omega)]; exact h3 q' hq' k' hk'
  · rw [am_I_ne1 (by omega), uA_ne (by omega)]; exact h4 q' hq' f' hf'
  · rw [am_I_ne1 (by omega), uA_ne (by omega)]; exact h5 p hp
theorem cA_w3 {M : am_M} {a : Nat} {A : am_A} (H : cA M a A) {q k : Nat} (hq : q < 6) (hk : k < 8) (v : Int) : cA (am_sI M (a + 2) (8 * q + k) (am_i v)) a (uA A 3 q k v) := by
  obtain ⟨h1, h2, h3, h4, h5⟩ := H
  refine ⟨?_, ?_, fun q' hq' k' hk' => ?_, fun q' hq' k' hk' => ?_, fun p hp => ?_⟩
  · rw [am_I_ne1 (by omega), uA_ne (by omega)]; exact h1
  · rw [am_I_ne1 (by omega), uA_ne (by omega)]; exact h2
  · rw [am_I_ne1 (by omega), uA_ne (by omega)]; exact h3 q' hq' k' hk'
  · by_cases g : q' = q ∧ k' = k
    · obtain ⟨rfl, rfl⟩ := g
      rw [am_I_same, uA_eq]
    · rw [am_I_ne2 (by omega), uA_ne (by omega)]; exact h4 q' hq' k' hk'
  · rw [am_I_ne1 (by omega), uA_ne (by omega)]; exact h5 p hp
theorem cA_w4 {M : am_M} {a : Nat} {A : am_A} (H : cA M a A) {p : Nat} (v : Int) : cA (am_sI M (a + 3) p (am_i v)) a (uA A 4 p 0 v) := by
  obtain ⟨h1, h2, h3, h4, h5⟩ := H
  refine ⟨?_, ?_, fun q' hq' k' hk' => ?_, fun q' hq' k' hk' => ?_, fun p' hp => ?_⟩
  · rw [am_I_ne1 (by omega), uA_ne (by omega)]; exact h1
  · rw [am_I_ne1 (by omega), uA_ne (by omega)]; exact h2
  · rw [am_I_ne1 (by omega), uA_ne (by omega)]; exact h3 q' hq' k' hk'
  · rw [am_I_ne1 (by omega), uA_ne (by omega)]; exact h4 q' hq' k' hk'
  · by_cases g : p' = p
    · subst g
      rw [am_I_same, uA_eq]
    · rw [am_I_ne2 g, uA_ne (by omega)]; exact h5 p' hp
theorem cA_w0 {M : am_M} {a : Nat} {A : am_A} (H : cA M a A) (v : Int) : cA (am_sI M a 0 (am_i v)) a (uA A 0 0 0 v) := by
  obtain ⟨h1, h2, h3, h4, h5⟩ := H
  refine ⟨?_, ?_, fun q' hq' k' hk' => ?_, fun q' hq' k' hk' => ?_, fun p' hp => ?_⟩
  · rw [am_I_same, uA_eq]
  · rw [am_I_ne2 (by omega), uA_ne (by omega)]; exact h2
  · rw [am_I_ne1 (by omega), uA_ne (by omega)]; exact h3 q' hq' k' hk'
  · rw [am_I_ne1 (by omega), uA_ne (by omega)]; exact h4 q' hq' k' hk'
  · rw [am_I_ne1 (by omega), uA_ne (by omega)]; exact h5 p' hp
