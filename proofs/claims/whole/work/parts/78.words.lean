/-! Words: the class's numbers and the reference's letters. -/
theorem c5_inj : ∀ {l l' : List Int}, lok l → lok l' → c5 l = c5 l' → l = l'
  | [], [], _, _, _ => rfl
  | [], b :: l', _, h', e => by
    have h2 := h' b List.mem_cons_self
    have h3 := (c5_bd (l := l') (fun c hc => h' c (List.mem_cons_of_mem _ hc))).1
    have e : (0 : Int) = b + 32 * c5 l' := e
    omega
  | a :: l, [], h, _, e => by
    have h2 := h a List.mem_cons_self
    have h3 := (c5_bd (l := l) (fun c hc => h c (List.mem_cons_of_mem _ hc))).1
    have e : a + 32 * c5 l = (0 : Int) := e
    omega
  | a :: l, b :: l', h, h', e => by
    have h2 := h a List.mem_cons_self
    have h3 := h' b List.mem_cons_self
    have e : a + 32 * c5 l = b + 32 * c5 l' := e
    have e1 : a = b := by omega
    have e2 : c5 l = c5 l' := by omega
    rw [e1, c5_inj (fun c hc => h c (List.mem_cons_of_mem _ hc)) (fun c hc => h' c (List.mem_cons_of_mem _ hc)) e2]
theorem wnu_eq {v : Int} : ∀ {m : Nat} {k : Nat}, wnu v m = (k : Int) → k < m ∧ c5 ((wlC.getD k []).map (fun a => a - 96)) = v
  | 0, k, h => by have h : (-1 : Int) = (k : Int) := h; omega
  | m + 1, k, h => by
    unfold wnu at h
    split at h
    · have : m = k := by omega
      subst this
      exact ⟨by omega, by assumption⟩
    · have := wnu_eq h
      exact ⟨by omega, this.2⟩
theorem wlC_ne : ∀ i j : Fin 35, c5 ((wlC.getD i.val []).map (fun a => a - 96)) = c5 ((wlC.getD j.val []).map (fun a => a - 96)) → i = j := by decide +kernel
theorem wnu_of {v : Int} {k : Nat} (hk : k < 35) (e : c5 ((wlC.getD k []).map (fun a => a - 96)) = v) : ∀ {m : Nat}, k < m → m ≤ 35 → wnu v m = (k : Int)
  | 0, h, _ => absurd h (by omega)
  | m + 1, h, h' => by
    unfold wnu
    by_cases g : c5 ((wlC.getD m []).map (fun a => a - 96)) = v
    · rw [if_pos g]
      have := wlC_ne ⟨m, by omega⟩ ⟨k, hk⟩ (g.trans e.symm)
      have : m = k := congrArg Fin.val this
      rw [this]
    · rw [if_neg g]
      have : k ≠ m := fun h2 => g (by rw [← h2]; exact e)
      exact wnu_of hk e (by omega) (by omega)
theorem wlC_ok : ∀ i : Fin 35, (wlC.getD i.val []).length ≤ 7 ∧ 1 ≤ (wlC.getD i.val []).length ∧ ∀ a ∈ (wlC.getD i.val []).map (fun a => a - 96), 1 ≤ a ∧ a ≤ 26 := by decide +kernel
theorem ltn_wrd (Z : Nat → Nat → Int) (s e : Nat) : ltn Z s (e - s) = (wrd Z s e).map (fun a => a - 96) := by
  unfold ltn wrd
  rw [List.map_map]
  rfl
theorem wrd_lok {Z : Nat → Nat → Int} {n s : Nat} {t : Bool} (h : kd Z n s t = 1) : lok (ltn Z s (te Z n s - s)) := by
  obtain ⟨h1, h2, h3, h4⟩ := kd_1 h
  have := te_bd Z (Nat.le_of_lt h1)
  exact ltn_lok (fun k k1 k2 => rn_in (n := n) k1 (by rw [← h4]; omega))
theorem wno_iff {Z : Nat → Nat → Int} {n s : Nat} {t : Bool} (h : kd Z n s t = 1) {k : Nat} (hk : k < 35) : wno Z s (te Z n s) = (k : Int) ↔ wrd Z s (te Z n s) = wlC.getD k [] := by
  have hw := wlC_ok ⟨k, hk⟩
  constructor
  · intro e
    unfold wno at e
    split at e
    · omega
    · have := (wnu_eq e).2
      rw [ltn_wrd] at this
      have h2 := c5_inj hw.2.2 (by rw [← ltn_wrd]; exact wrd_lok h) this
      exact ((List.map_inj_right (fun a b hab => by omega)).mp h2).symm
  · intro e
    have hl : te Z n s - s = (wlC.getD k []).length := by rw [← e, wrd_len]
    have hl7 : (wlC.getD k []).length ≤ 7 := hw.1
    unfold wno
    rw [if_neg (by omega)]
    refine wnu_of hk ?_ hk (Nat.le_refl _)
    rw [ltn_wrd, e]
theorem isW_hrb {Z : Nat → Nat → Int} {n s : Nat} {t : Bool} {l : List Int} {k : Nat} (hk : k < 35) : isW Z n (k : Int) (.inr (s, t, l)) = hrb Z n s t (wlC.getD k []) := by
  show decide (kd Z n s t = 1 ∧ wno Z s (te Z n s) = (k : Int)) = decide (kd Z n s t = 1 ∧ wrd Z s (te Z n s) = wlC.getD k [])
  by_cases h : kd Z n s t = 1
  · simp only [h, wno_iff h hk]
  · simp only [h, false_and]
/-! The reference's words by their places. -/
theorem wlH_k : ∀ j : Fin 29, am_kl0.getD (190 + j.val) (0, 0) = (4, (wlH.getD j.val []).length) ∧ (wlH.getD j.val []).length ≤ 8 ∧ ∀ k : Fin 8, 0 ≤ (wlH.getD j.val []).getD k.val 0 ∧ (wlH.getD j.val []).getD k.val 0 ≤ 255 := by decide +kernel
theorem wlA_k : ∀ j : Fin 20, am_kl0.getD (237 + j.val) (0, 0) = (4, (wlA.getD j.val []).length) ∧ (wlA.getD j.val []).length ≤ 8 ∧ ∀ k : Fin 8, 0 ≤ (wlA.getD j.val []).getD k.val 0 ∧ (wlA.getD j.val []).getD k.val 0 ≤ 255 := by decide +kernel
/-- w lies at r -/
def wAt (r : Nat) (w : List Int) : Prop := (∃ j, j < 29 ∧ r = 190 + j ∧ w = wlH.getD j []) ∨ (∃ j, j < 20 ∧ r = 237 + j ∧ w = wlA.getD j [])
theorem wAt_H {j : Nat} (h : j < 29) : wAt (190 + j) (wlH.getD j []) := Or.inl ⟨j, h, rfl, rfl⟩
theorem wAt_A {j : Nat} (h : j < 20) : wAt (237 + j) (wlA.getD j []) := Or.inr ⟨j, h, rfl, rfl⟩
theorem wAt_k {r : Nat} {w : List Int} (h : wAt r w) : (∀ {L : Nat} {q : am_Pq} (M' : am_M), am_Sh L q M' → am_K M' r = (4, w.length)) ∧ w.length ≤ 8 ∧ (∀ M : am_M, mWw M → ∀ k, k < w.length → am_I M r k = am_i (w.getD k 0)) ∧ (∀ k, k < w.length → 0 ≤ w.getD k 0 ∧ w.getD k 0 ≤ 255) ∧ r ≠ 187 := by
  rcases h with ⟨j, hj, rfl, rfl⟩ | ⟨j, hj, rfl, rfl⟩
  · have := wlH_k ⟨j, hj⟩
    have hl8 : (wlH.getD j []).length ≤ 8 := this.2.1
    refine ⟨fun M' S => (S.1 _).trans ((if_neg (by omega)).trans this.1), this.2.1, fun M hM k hk => hM.1 j hj k hk, fun k hk => this.2.2 ⟨k, by omega⟩, by omega⟩
  · have := wlA_k ⟨j, hj⟩
    have hl8 : (wlA.getD j []).length ≤ 8 := this.2.1
    refine ⟨fun M' S => (S.1 _).trans ((if_neg (by omega)).trans this.1), this.2.1, fun M hM k hk => hM.2 j hj k hk, fun k hk => this.2.2 ⟨k, by omega⟩, by omega⟩
theorem m_here {L : Nat} {q : am_Pq} {Z : Nat → Nat → Int} {n : Nat} {M : am_M} {s : Nat} {t : Bool} (H : mQt L q Z n M s t) {r : Nat} {w : List Int} (hw : wAt r w) (d : Nat) : am_cl 134 (d + 1) [.ref 187, .ref r] M = some (some (.int (am_i (if hrb Z n s t w = true then 1 else 0))), M) := by
  obtain ⟨h1, h2, h3, h4, h5⟩ := wAt_k hw
  exact m_isHereQ H (fun M' S => h1 M' S) h2 (h3 M H.2.2.2.2.1) h4 d
theorem m_hereP {L : Nat} {q : am_Pq} {Z : Nat → Nat → Int} {n : Nat} {M : am_M} {s : Nat} {t : Bool} (H : mP L q Z n M s t) {r : Nat} {w : List Int} (hw : wAt r w) (d : Nat) : ∃ M', am_cl 134 (d + 1) [.ref 187, .ref r] M = some (some (.int (am_i (if hrb Z n s t w = true then 1 else 0))), M') ∧ mQt L q Z n M' s t ∧ fr (fun b k => b = 187 ∧ k = 2) M M' := by
  obtain ⟨h1, h2, h3, h4, h5⟩ := wAt_k hw
  have hM : mWw M := by obtain ⟨a, -, -, -, -, hM, -⟩ := H; exact hM
  exact m_isHere H (fun M' S => h1 M' S) h2 (h3 M hM) h4 h5 d
theorem m_take {L : Nat} {q : am_Pq} {Z : Nat → Nat → Int} {n : Nat} {M : am_M} {s : Nat} {t : Bool} (H : mP L q Z n M s t) {r : Nat} {w : List Int} (hw : wAt r w) (d : Nat) : ∃ M', am_cl 135 (d + 2) [.ref 187, .ref r] M = some (some (.int (am_i (if hrb Z n s t w = true then 1 else 0))), M') ∧ (¬ hrb Z n s t w = true → mQt L q Z n M' s t) ∧ (hrb Z n s t w = true → mP L q Z n M' (ns Z n s) (nt Z n s)) ∧ fr (fun b k => b = 187 ∧ (k = 2 ∨ k = 4)) M M' := by
  obtain ⟨h1, h2, h3, h4, h5⟩ := wAt_k hw
  have hM : mWw M := by obtain ⟨a, -, -, -, -, hM, -⟩ := H; exact hM
  exact m_takes H (fun M' S => h1 M' S) h2 (h3 M hM) h4 h5 d
theorem br_ne_b {b : Bool} {t f : am_Q} : am_br .ne (am_i (if b = true then 1 else 0)) (am_i 0) t f = if b = true then t else f := by
  cases b
  · rw [if_neg (by decide), if_neg (by decide), am_br_ne (by omega) (by omega) (by omega) (by omega), if_pos rfl]
  · rw [if_pos rfl, if_pos rfl, am_br_ne (by omega) (by omega) (by omega) (by omega), if_neg (by omega)]
theorem br_eq_b {b : Bool} {t f : am_Q} : am_br .eq (am_i (if b = true then 1 else 0)) (am_i 0) t f = if b = true then f else t := by
  cases b
  · rw [if_neg (by decide), if_neg (by decide), am_br_eq (by omega) (by omega) (by omega) (by omega), if_pos rfl]
  · rw [if_pos rfl, if_pos rfl, am_br_eq (by omega) (by omega) (by omega) (by omega), if_neg (by omega)]
theorem if_or2 {a b : Bool} {α : Type} {x y : α} : (if a = true then x else if b = true then x else y) = if (a || b) = true then x else y := by cases a <;> cases b <;> rfl
theorem own_iff {Z : Nat → Nat → Int} {n s : Nat} {t : Bool} : (hrb Z n s t (wlH.getD 0 []) = true ∨ hrb Z n s t (wlH.getD 1 []) = true ∨ hrb Z n s t (wlH.getD 2 []) = true ∨ hrb Z n s t (wlH.getD 3 []) = true ∨ hrb Z n s t (wlH.getD 4 []) = true ∨ hrb Z n s t (wlH.getD 5 []) = true ∨ hrb Z n s t (wlH.getD 6 []) = true ∨ hrb Z n s t (wlH.getD 7 []) = true ∨ hrb Z n s t (wlH.getD 8 []) = true ∨ hrb Z n s t (wlH.getD 9 []) = true ∨ hrb Z n s t (wlH.getD 10 []) = true ∨ hrb Z n s t (wlH.getD 11 []) = true ∨ hrb Z n s t (wlH.getD 12 []) = true ∨ hrb Z n s t (wlH.getD 13 []) = true ∨ hrb Z n s t (wlH.getD 14 []) = true ∨ hrb Z n s t (wlH.getD 15 []) = true ∨ hrb Z n s t (wlH.getD 16 []) = true ∨ hrb Z n s t (wlH.getD 17 []) = true ∨ hrb Z n s t (wlH.getD 18 []) = true ∨ hrb Z n s t (wlH.getD 19 []) = true ∨ hrb Z n s t (wlH.getD 20 []) = true ∨ hrb Z n s t (wlH.getD 21 []) = true ∨ hrb Z n s t (wlH.getD 22 []) = true ∨ hrb Z n s t (wlH.getD 23 []) = true ∨ hrb Z n s t (wlH.getD 24 []) = true ∨ hrb Z n s t (wlH.getD 25 []) = true ∨ hrb Z n s t (wlH.getD 26 []) = true ∨ hrb Z n s t (wlH.getD 27 []) = true ∨ hrb Z n s t (wlH.getD 28 []) = true) ↔ (kd Z n s t = 1 ∧ 0 ≤ wno Z s (te Z n s) ∧ wno Z s (te Z n s) < 29) := by
  have key : ∀ j, j < 29 → (hrb Z n s t (wlH.getD j []) = true ↔ kd Z n s t = 1 ∧ wno Z s (te Z n s) = (j : Int)) := by
    intro j hj
    have e : wlH.getD j [] = wlC.getD j [] := by
      have : ∀ i : Fin 29, wlH.getD i.val [] = wlC.getD i.val [] := by decide +kernel
      exact this ⟨j, hj⟩
    rw [e, ← isW_hrb (l := []) (show j < 35 by omega)]
    exact decide_eq_true_iff
  rw [key 0 (by omega), key 1 (by omega), key 2 (by omega), key 3 (by omega), key 4 (by omega), key 5 (by omega), key 6 (by omega), key 7 (by omega), key 8 (by omega), key 9 (by omega), key 10 (by omega), key 11 (by omega), key 12 (by omega), key 13 (by omega), key 14 (by omega), key 15 (by omega), key 16 (by omega), key 17 (by omega), key 18 (by omega), key 19 (by omega), key 20 (by omega), key 21 (by omega), key 22 (by omega), key 23 (by omega), key 24 (by omega), key 25 (by omega), key 26 (by omega), key 27 (by omega), key 28 (by omega)]
  constructor
  · intro h
    omega
  · intro h
    omega
theorem m_ownHere {L : Nat} {q : am_Pq} {Z : Nat → Nat → Int} {n : Nat} {M : am_M} {s : Nat} {t : Bool} (H : mQt L q Z n M s t) (d : Nat) : am_cl 140 (d + 2) [.ref 187] M = some (some (.int (am_i (if kd Z n s t = 1 ∧ 0 ≤ wno Z s (te Z n s) ∧ wno Z s (te Z n s) < 29 then 1 else 0))), M) := by
  have S := H.1.1
  have hh : ∀ j, j < 29 → am_cl 134 (d + 1) [.ref 187, .ref (190 + j)] M = some (some (.int (am_i (if hrb Z n s t (wlH.getD j []) = true then 1 else 0))), M) := fun j hj => m_here H (wAt_H hj) d
  have h0 : am_cl 134 (d + 1) [.ref 187, .ref 190] M = _ := hh 0 (show 0 < 29 by decide)
  have h1 : am_cl 134 (d + 1) [.ref 187, .ref 191] M = _ := hh 1 (show 1 < 29 by decide)
  have h2 : am_cl 134 (d + 1) [.ref 187, .ref 192] M = _ := hh 2 (show 2 < 29 by decide)
  have h3 : am_cl 134 (d + 1) [.ref 187, .ref 193] M = _ := hh 3 (show 3 < 29 by decide)
  have h4 : am_cl 134 (d + 1) [.ref 187, .ref 194] M = _ := hh 4 (show 4 < 29 by decide)
  have h5 : am_cl 134 (d + 1) [.ref 187, .ref 195] M = _ := hh 5 (show 5 < 29 by decide)
  have h6 : am_cl 134 (d + 1) [.ref 187, .ref 196] M = _ := hh 6 (show 6 < 29 by decide)
  have h7 : am_cl 134 (d + 1) [.ref 187, .ref 197] M = _ := hh 7 (show 7 < 29 by decide)
  have h8 : am_cl 134 (d + 1) [.ref 187, .ref 198] M = _ := hh 8 (show 8 < 29 by decide)
  have h9 : am_cl 134 (d + 1) [.ref 187, .ref 199] M = _ := hh 9 (show 9 < 29 by decide)
  have h10 : am_cl 134 (d + 1) [.ref 187, .ref 200] M = _ := hh 10 (show 10 < 29 by decide)
  have h11 : am_cl 134 (d + 1) [.ref 187, .ref 201] M = _ := hh 11 (show 11 < 29 by decide)
  have h12 : am_cl 134 (d + 1) [.ref 187, .ref 202] M = _ := hh 12 (show 12 < 29 by decide)
  have h13 : am_cl 134 (d + 1) [.ref 187, .ref 203] M = _ := hh 13 (show 13 < 29 by decide)
  have h14 : am_cl 134 (d + 1) [.ref 187, .ref 204] M = _ := hh 14 (show 14 < 29 by decide)
  have h15 : am_cl 134 (d + 1) [.ref 187, .ref 205] M = _ := hh 15 (show 15 < 29 by decide)
  have h16 : am_cl 134 (d + 1) [.ref 187, .ref 206] M = _ := hh 16 (show 16 < 29 by decide)
  have h17 : am_cl 134 (d + 1) [.ref 187, .ref 207] M = _ := hh 17 (show 17 < 29 by decide)
  have h18 : am_cl 134 (d + 1) [.ref 187, .ref 208] M = _ := hh 18 (show 18 < 29 by decide)
  have h19 : am_cl 134 (d + 1) [.ref 187, .ref 209] M = _ := hh 19 (show 19 < 29 by decide)
  have h20 : am_cl 134 (d + 1) [.ref 187, .ref 210] M = _ := hh 20 (show 20 < 29 by decide)
  have h21 : am_cl 134 (d + 1) [.ref 187, .ref 211] M = _ := hh 21 (show 21 < 29 by decide)
  have h22 : am_cl 134 (d + 1) [.ref 187, .ref 212] M = _ := hh 22 (show 22 < 29 by decide)
  have h23 : am_cl 134 (d + 1) [.ref 187, .ref 213] M = _ := hh 23 (show 23 < 29 by decide)
  have h24 : am_cl 134 (d + 1) [.ref 187, .ref 214] M = _ := hh 24 (show 24 < 29 by decide)
  have h25 : am_cl 134 (d + 1) [.ref 187, .ref 215] M = _ := hh 25 (show 25 < 29 by decide)
  have h26 : am_cl 134 (d + 1) [.ref 187, .ref 216] M = _ := hh 26 (show 26 < 29 by decide)
  have h27 : am_cl 134 (d + 1) [.ref 187, .ref 217] M = _ := hh 27 (show 27 < 29 by decide)
  have h28 : am_cl 134 (d + 1) [.ref 187, .ref 218] M = _ := hh 28 (show 28 < 29 by decide)
  have k299 : ∀ v, am_ev 140 (d + 1 + 1) 299 [.ref 187, v] [.int (am_i 1)] M = some (some (.int (am_i 1)), M) := fun v => by
    rw [t140_299, am_br_ne (by omega) (by omega) (by omega) (by omega), if_neg (by omega), am_tr_1]
  have k223 : ∀ v, am_ev 140 (d + 1 + 1) 223 [.ref 187, v] [.int (am_i 1)] M = some (some (.int (am_i 1)), M) := fun v => by
    rw [t140_223, am_br_ne (by omega) (by omega) (by omega) (by omega), if_neg (by omega), k299]
  have k147 : ∀ v, am_ev 140 (d + 1 + 1) 147 [.ref 187, v] [.int (am_i 1)] M = some (some (.int (am_i 1)), M) := fun v => by
    rw [t140_147, am_br_ne (by omega) (by omega) (by omega) (by omega), if_neg (by omega), k223]
  have k71 : ∀ v, am_ev 140 (d + 1 + 1) 71 [.ref 187, v] [.int (am_i 1)] M = some (some (.int (am_i 1)), M) := fun v => by
    rw [t140_71, am_br_ne (by omega) (by omega) (by omega) (by omega), if_neg (by omega), k147]
  have z : ∀ (t f : am_Q), am_br .ne (am_i 0) (am_i 0) t f = f := fun t f => by rw [am_br_ne (by omega) (by omega) (by omega) (by omega), if_pos rfl]
  have e299 := fun v => t140_299 (d + 1) M 187 v (am_i 0)
  have e223 := fun v => t140_223 (d + 1) M 187 v (am_i 0)
  have e147 := fun v => t140_147 (d + 1) M 187 v (am_i 0)
  have e71 := fun v => t140_71 (d + 1) M 187 v (am_i 0)
  simp only [am_ob_p (kk_187 S), rr_187_34 S, rr_187_35 S, rr_187_36 S, rr_187_37 S, rr_187_38 S, am_gr_p, am_bI_p, z, br_ne_b, br_eq_b, am_tr_0, am_tr_1, h24, h25, h26, h27, h28] at e299
  simp only [am_ob_p (kk_187 S), rr_187_28 S, rr_187_29 S, rr_187_30 S, rr_187_31 S, rr_187_32 S, rr_187_33 S, am_gr_p, am_bI_p, z, br_ne_b, br_eq_b, k299, e299, h18, h19, h20, h21, h22, h23] at e223
  simp only [am_ob_p (kk_187 S), rr_187_22 S, rr_187_23 S, rr_187_24 S, rr_187_25 S, rr_187_26 S, rr_187_27 S, am_gr_p, am_bI_p, z, br_ne_b, br_eq_b, k223, e223, h12, h13, h14, h15, h16, h17] at e147
  simp only [am_ob_p (kk_187 S), rr_187_16 S, rr_187_17 S, rr_187_18 S, rr_187_19 S, rr_187_20 S, rr_187_21 S, am_gr_p, am_bI_p, z, br_ne_b, br_eq_b, k147, e147, h6, h7, h8, h9, h10, h11] at e71
  rw [t140]
  simp only [am_ob_p (kk_187 S), rr_187_10 S, rr_187_11 S, rr_187_12 S, rr_187_13 S, rr_187_14 S, rr_187_15 S, am_gr_p, am_bI_p, z, br_ne_b, br_eq_b, k71, e71, h0, h1, h2, h3, h4, h5, if_or2]
  by_cases g : kd Z n s t = 1 ∧ 0 ≤ wno Z s (te Z n s) ∧ wno Z s (te Z n s) < 29
  · have g2 := own_iff.mpr g
    rw [if_pos g, if_pos (by simp only [Bool.or_eq_true]; simpa only [or_assoc] using g2)]
  · rw [if_neg g, if_neg (fun h => g (own_iff.mp (by simp only [Bool.or_eq_true] at h; simpa only [or_assoc] using h)))]
