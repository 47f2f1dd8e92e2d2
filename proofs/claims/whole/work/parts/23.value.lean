/-! The class's machine. -/
theorem am_l_and01 {a b : Int} (ha : a = 0 ∨ a = 1) (hb : b = 0 ∨ b = 1) : am_l a &&& am_l b = am_l (a * b) := by
  rcases ha with rfl | rfl <;> rcases hb with rfl | rfl <;> rfl
theorem am_l_or01 {a b : Int} (ha : a = 0 ∨ a = 1) (hb : b = 0 ∨ b = 1) : am_l a ||| am_l b = am_l (if 0 < a + b then 1 else 0) := by
  rcases ha with rfl | rfl <;> rcases hb with rfl | rfl <;> rfl
theorem clip_mm {v : Int} : (if (-1000000 : Int) < (if v < 1000000 then v else 1000000) then (if v < 1000000 then v else 1000000) else (-1000000 : Int)) = clip v := by
  unfold clip
  split <;> split <;> (try split) <;> (try split) <;> omega
theorem c_clip {M : am_M} {v : Int} (h1 : -1000000000000 ≤ v) (h2 : v ≤ 1000000000000) (d : Nat) (f : Int64 → am_M → am_Q) :
    am_bL (am_cl 277 d [.long (am_l 1000000), .long (am_l v)] M) (fun c M' => am_bL (am_cl 275 d [.long (am_l (-1000000)), .long c] M') f) = f (am_l (clip v)) M := by
  have h3 : -1000000000000 ≤ (if v < 1000000 then v else (1000000 : Int)) ∧ (if v < 1000000 then v else (1000000 : Int)) ≤ 1000000000000 := by split <;> omega
  rw [j_minL (by omega) (by omega) (by omega) (by omega), am_bL_p, j_maxL (by omega) (by omega) (by omega) (by omega), am_bL_p, clip_mm]
theorem clip_id {v : Int} (h1 : -1000000 ≤ v) (h2 : v ≤ 1000000) : clip v = v := by unfold clip; rw [if_neg (by omega), if_neg (by omega)]
theorem am_si_f {k x : Int} (h : -2147483648 ≤ k ∧ k < 2147483648 ∧ -2147483648 ≤ x ∧ x < 2147483648 ∧ x ≠ k) (t f : am_Q) : am_si k (am_i x) t f = f := by
  rw [am_si_p h.1 h.2.1 h.2.2.1 h.2.2.2.1, if_neg h.2.2.2.2]
theorem am_si_t {k x : Int} (h : x = k) (t f : am_Q) : am_si k (am_i x) t f = t := by
  subst h
  exact if_pos rfl
theorem c_joined1 {M : am_M} {r : Nat} {a b : Int} (h1 : -1000000 ≤ a) (h2 : a ≤ 1000000) (h3 : -1000000 ≤ b) (h4 : b ≤ 1000000) (d : Nat) :
    am_cl 94 (d + 1) [.ref r, .int (am_i (20002 + 1)), .long (am_l a), .long (am_l b)] M = some (some (.int (am_i (opv 1 a b))), M) := by
  have hm := tm_bd h1 h2 h3 h4
  rw [t94]
  repeat rw [am_si_f (by omega)]
  rw [am_si_t (by omega)]
  have eo : opv 1 a b = clip (a + b) := by
    unfold opv
    rw [if_pos rfl]
  simp (disch := omega) only [am_l_add, c_clip, am_l2i, eo]
theorem c_joined2 {M : am_M} {r : Nat} {a b : Int} (h1 : -1000000 ≤ a) (h2 : a ≤ 1000000) (h3 : -1000000 ≤ b) (h4 : b ≤ 1000000) (d : Nat) :
    am_cl 94 (d + 1) [.ref r, .int (am_i (20002 + 2)), .long (am_l a), .long (am_l b)] M = some (some (.int (am_i (opv 2 a b))), M) := by
  have hm := tm_bd h1 h2 h3 h4
  rw [t94]
  repeat rw [am_si_f (by omega)]
  rw [am_si_t (by omega)]
  have eo : opv 2 a b = clip (a - b) := by
    unfold opv
    rw [if_neg (by decide), if_pos rfl]
  simp (disch := omega) only [am_l_sub, c_clip, am_l2i, eo]
theorem c_joined3 {M : am_M} {r : Nat} {a b : Int} (h1 : -1000000 ≤ a) (h2 : a ≤ 1000000) (h3 : -1000000 ≤ b) (h4 : b ≤ 1000000) (d : Nat) :
    am_cl 94 (d + 1) [.ref r, .int (am_i (20002 + 3)), .long (am_l a), .long (am_l b)] M = some (some (.int (am_i (opv 3 a b))), M) := by
  have hm := tm_bd h1 h2 h3 h4
  rw [t94]
  repeat rw [am_si_f (by omega)]
  rw [am_si_t (by omega)]
  have eo : opv 3 a b = clip (a * b) := by
    unfold opv
    rw [if_neg (by decide), if_neg (by decide), if_pos rfl]
  simp (disch := omega) only [am_l_mul, c_clip, am_l2i, eo]
theorem c_joined4 {M : am_M} {r : Nat} {a b : Int} (h1 : -1000000 ≤ a) (h2 : a ≤ 1000000) (h3 : -1000000 ≤ b) (h4 : b ≤ 1000000) (d : Nat) :
    am_cl 94 (d + 1) [.ref r, .int (am_i (20002 + 4)), .long (am_l a), .long (am_l b)] M = some (some (.int (am_i (opv 4 a b))), M) := by
  have hm := tm_bd h1 h2 h3 h4
  rw [t94]
  by_cases g : b = 0
  · subst g
    repeat rw [am_si_f (by omega)]
    rw [am_si_t (by omega)]
    simp (disch := omega) only [cmp_ne, t94_104, c_clip, am_l2i]
    (try rfl)
  · have hf := fdiv_bd (b := b) h1 h2 g
    have e : opv 4 a b = Int.fdiv a b := by
      show (if b = 0 then 0 else Int.fdiv a b) = _
      rw [if_neg g]
    repeat rw [am_si_f (by omega)]
    rw [am_si_t (by omega)]
    simp (disch := omega) only [cmp_ne, j_floorDiv h1 h2 h3 h4 g, am_bL_p, t94_104, c_clip, am_l2i, clip_id, if_neg g, e]
    (try rfl)
theorem c_joined5 {M : am_M} {r : Nat} {a b : Int} (h1 : -1000000 ≤ a) (h2 : a ≤ 1000000) (h3 : -1000000 ≤ b) (h4 : b ≤ 1000000) (d : Nat) :
    am_cl 94 (d + 1) [.ref r, .int (am_i (20002 + 5)), .long (am_l a), .long (am_l b)] M = some (some (.int (am_i (opv 5 a b))), M) := by
  have hm := tm_bd h1 h2 h3 h4
  rw [t94]
  have e2 : (if b < a then b else a) = opv 5 a b := by
    show _ = (if a < b then a else b)
    split <;> split <;> omega
  have e := opv_bd (c := 5) h1 h2 h3 h4 (fun h => by omega)
  repeat rw [am_si_f (by omega)]
  rw [am_si_t (by omega), j_minL (by omega) (by omega) (by omega) (by omega), am_bL_p, e2, c_clip (by omega) (by omega), am_l2i, clip_id e.1 e.2]
theorem c_joined6 {M : am_M} {r : Nat} {a b : Int} (h1 : -1000000 ≤ a) (h2 : a ≤ 1000000) (h3 : -1000000 ≤ b) (h4 : b ≤ 1000000) (d : Nat) :
    am_cl 94 (d + 1) [.ref r, .int (am_i (20002 + 6)), .long (am_l a), .long (am_l b)] M = some (some (.int (am_i (opv 6 a b))), M) := by
  have hm := tm_bd h1 h2 h3 h4
  rw [t94]
  have e2 : (if a < b then b else a) = opv 6 a b := by
    show _ = (if b < a then a else b)
    split <;> split <;> omega
  have e := opv_bd (c := 6) h1 h2 h3 h4 (fun h => by omega)
  repeat rw [am_si_f (by omega)]
  rw [am_si_t (by omega), j_maxL (by omega) (by omega) (by omega) (by omega), am_bL_p, e2, c_clip (by omega) (by omega), am_l2i, clip_id e.1 e.2]
theorem c_joined7 {M : am_M} {r : Nat} {a b : Int} (h1 : -1000000 ≤ a) (h2 : a ≤ 1000000) (h3 : -1000000 ≤ b) (h4 : b ≤ 1000000) (d : Nat) :
    am_cl 94 (d + 1) [.ref r, .int (am_i (20002 + 7)), .long (am_l a), .long (am_l b)] M = some (some (.int (am_i (opv 7 a b))), M) := by
  have hm := tm_bd h1 h2 h3 h4
  rw [t94]
  have e2 : opv 7 a b = if a < b then 1 else 0 := rfl
  repeat rw [am_si_f (by omega)]
  rw [am_si_t (by omega)]
  simp (disch := omega) only [cmp_ge, t94_143, c_clip, am_l2i, e2]
  by_cases g : a < b
  · simp (disch := omega) only [if_pos g, if_neg (show ¬ b ≤ a by omega), clip_id]
    (try rfl)
  · simp (disch := omega) only [if_neg g, if_pos (show b ≤ a by omega), clip_id]
    (try rfl)
theorem c_joined8 {M : am_M} {r : Nat} {a b : Int} (h1 : -1000000 ≤ a) (h2 : a ≤ 1000000) (h3 : -1000000 ≤ b) (h4 : b ≤ 1000000) (d : Nat) :
    am_cl 94 (d + 1) [.ref r, .int (am_i (20002 + 8)), .long (am_l a), .long (am_l b)] M = some (some (.int (am_i (opv 8 a b))), M) := by
  have hm := tm_bd h1 h2 h3 h4
  rw [t94]
  have e2 : opv 8 a b = if b < a then 1 else 0 := rfl
  repeat rw [am_si_f (by omega)]
  rw [am_si_t (by omega)]
  simp (disch := omega) only [cmp_le, t94_160, c_clip, am_l2i, e2]
  by_cases g : b < a
  · simp (disch := omega) only [if_pos g, if_neg (show ¬ a ≤ b by omega), clip_id]
    (try rfl)
  · simp (disch := omega) only [if_neg g, if_pos (show a ≤ b by omega), clip_id]
    (try rfl)
theorem c_joined9 {M : am_M} {r : Nat} {a b : Int} (h1 : -1000000 ≤ a) (h2 : a ≤ 1000000) (h3 : -1000000 ≤ b) (h4 : b ≤ 1000000) (d : Nat) :
    am_cl 94 (d + 1) [.ref r, .int (am_i (20002 + 9)), .long (am_l a), .long (am_l b)] M = some (some (.int (am_i (opv 9 a b))), M) := by
  have hm := tm_bd h1 h2 h3 h4
  rw [t94]
  have e2 : opv 9 a b = if a = b then 1 else 0 := rfl
  repeat rw [am_si_f (by omega)]
  rw [am_si_t (by omega)]
  simp (disch := omega) only [cmp_ne, t94_177, c_clip, am_l2i, e2]
  by_cases g : a = b
  · simp (disch := omega) only [if_pos g, clip_id]
    (try rfl)
  · simp (disch := omega) only [if_neg g, clip_id]
    (try rfl)
theorem c_joined10 {M : am_M} {r : Nat} {a b : Int} (h1 : -1000000 ≤ a) (h2 : a ≤ 1000000) (h3 : -1000000 ≤ b) (h4 : b ≤ 1000000) (ha : a = 0 ∨ a = 1) (hb : b = 0 ∨ b = 1) (d : Nat) :
    am_cl 94 (d + 1) [.ref r, .int (am_i (20002 + 10)), .long (am_l a), .long (am_l b)] M = some (some (.int (am_i (opv 10 a b))), M) := by
  rw [t94]
  have e2 : opv 10 a b = a * b := rfl
  have e : -1000000 ≤ a * b ∧ a * b ≤ 1000000 := by rcases ha with rfl | rfl <;> rcases hb with rfl | rfl <;> omega
  repeat rw [am_si_f (by omega)]
  rw [am_si_t (by omega)]
  simp (disch := omega) only [am_l_and01 ha hb, c_clip, am_l2i, e2, clip_id]
  (try rfl)
theorem c_joined11 {M : am_M} {r : Nat} {a b : Int} (h1 : -1000000 ≤ a) (h2 : a ≤ 1000000) (h3 : -1000000 ≤ b) (h4 : b ≤ 1000000) (ha : a = 0 ∨ a = 1) (hb : b = 0 ∨ b = 1) (d : Nat) :
    am_cl 94 (d + 1) [.ref r, .int (am_i (20002 + 11)), .long (am_l a), .long (am_l b)] M = some (some (.int (am_i (opv 11 a b))), M) := by
  rw [t94]
  have e2 : opv 11 a b = (if 0 < a + b then 1 else 0) := rfl
  have e : -1000000 ≤ (if 0 < a + b then (1 : Int) else 0) ∧ (if 0 < a + b then (1 : Int) else 0) ≤ 1000000 := by split <;> omega
  repeat rw [am_si_f (by omega)]
  rw [am_si_t (by omega)]
  simp (disch := omega) only [am_l_or01 ha hb, c_clip, am_l2i, e2, clip_id]
  (try rfl)
theorem c_joined {M : am_M} {r : Nat} {c a b : Int} (h1 : -1000000 ≤ a) (h2 : a ≤ 1000000) (h3 : -1000000 ≤ b) (h4 : b ≤ 1000000) (hc : c = 1 ∨ c = 2 ∨ c = 3 ∨ c = 4 ∨ c = 5 ∨ c = 6 ∨ c = 7 ∨ c = 8 ∨ c = 9 ∨ (c = 10 ∨ c = 11) ∧ (a = 0 ∨ a = 1) ∧ (b = 0 ∨ b = 1)) (d : Nat) :
    am_cl 94 (d + 1) [.ref r, .int (am_i (20002 + c)), .long (am_l a), .long (am_l b)] M = some (some (.int (am_i (opv c a b))), M) := by
  rcases hc with rfl | rfl | rfl | rfl | rfl | rfl | rfl | rfl | rfl | ⟨rfl | rfl, ha, hb⟩
  · exact c_joined1 h1 h2 h3 h4 d
  · exact c_joined2 h1 h2 h3 h4 d
  · exact c_joined3 h1 h2 h3 h4 d
  · exact c_joined4 h1 h2 h3 h4 d
  · exact c_joined5 h1 h2 h3 h4 d
  · exact c_joined6 h1 h2 h3 h4 d
  · exact c_joined7 h1 h2 h3 h4 d
  · exact c_joined8 h1 h2 h3 h4 d
  · exact c_joined9 h1 h2 h3 h4 d
  · exact c_joined10 h1 h2 h3 h4 ha hb d
  · exact c_joined11 h1 h2 h3 h4 ha hb d
theorem c_given_num {M : am_M} {r : Nat} {v : Int} (h1 : 0 ≤ v) (h2 : v ≤ 9999) (d : Nat) : am_cl 92 d [.ref r, .int (am_i v)] M = some (some (.int (am_i v)), M) := by
  rw [t92]
  simp (disch := omega) only [am_i_sub, am_br_lt]
  rw [if_pos (by omega)]
theorem c_given_fact {L : Nat} {q : am_Pq} {M : am_M} {c : Nat} (S : am_Sh L q M) (hc : isC c) {w x : Int} (h1 : 0 ≤ w) (h2 : w ≤ 28) (e : am_I M (c + 10) w.toNat = am_i x) (d : Nat) : am_cl 92 d [.ref (c + 8), .int (am_i (10000 + w))] M = some (some (.int (am_i x)), M) := by
  have e1 : (10000 + w - 10000 : Int) = w := by omega
  rw [t92]
  simp (disch := omega) only [am_i_sub, e1, am_br_lt, am_br_ge, am_ob_p (C_k8 S hc), C_r8_1 S hc, am_gr_p, am_ix_p (C_k10 S hc), am_i_ix, e]
  rw [if_neg (by omega), if_neg (by omega)]
theorem wd_bd (k : Nat) : 0 ≤ wd k ∧ wd k ≤ 28 := by unfold wd; split <;> omega
/-- the facts that may be asked lie ready -/
def cF (M : am_M) (c : Nat) (al : Nat → Bool) (F : Nat → Int) : Prop := ∀ k, k < 8 → al k = true → am_I M (c + 10) (wd k).toNat = am_i (F k)
/-- the weights lie ready -/
def cW (M : am_M) (c : Nat) (W : Int → Int) : Prop := (∀ k : Nat, k < 6 → am_I M (c + 11) k = am_i (W k)) ∧ (∀ a : Int, (a < 0 ∨ 6 ≤ a) → W a = 0)
theorem c_weightM {L : Nat} {q : am_Pq} {M : am_M} {c : Nat} (S : am_Sh L q M) (hc : isC c) {W : Int → Int} (hW : cW M c W) {a : Int} (h1 : -1000000 ≤ a) (h2 : a ≤ 1000000) (d : Nat) : am_cl 93 d [.ref (c + 8), .int (am_i a)] M = some (some (.int (am_i (W a))), M) := by
  rw [t93]
  simp (disch := omega) only [am_br_lt, am_br_ge]
  by_cases g1 : a < 0
  · rw [if_pos g1, hW.2 a (Or.inl g1)]
  · rw [if_neg g1]
    by_cases g2 : 6 ≤ a
    · rw [if_pos g2, hW.2 a (Or.inr g2)]
    · rw [if_neg g2]
      have e := hW.1 a.toNat (by omega)
      have e2 : ((a.toNat : Nat) : Int) = a := by omega
      rw [e2] at e
      simp (disch := omega) only [am_ob_p (C_k8 S hc), C_r8_2 S hc, am_gr_p, am_ix_p (C_k11 S hc), am_i_ix, e]
set_option maxHeartbeats 4000000 in
/-- the codes of a formula, run -/
theorem c_run {L : Nat} {q : am_Pq} {c r1 : Nat} (hc : isC c) (hr1 : r1 ≠ c + 9) (hk1 : ∀ M, am_Sh L q M → am_K M r1 = (2, 1600)) {al : Nat → Bool} {of b : Bool} {F : Nat → Int} {W : Int → Int} (hF : Fok al F) (hW : Wok W) (d : Nat) :
    ∀ (l : List Int) (o : Nat) (n : Int) (s : List Int) (t : List Bool) (M : am_M) (v2 v5 : Value), am_Sh L q M → n = s.length → o + l.length < 1600 → (∀ j, j < l.length → am_I M r1 (o + j) = am_i (cc (l.getD j 0))) → am_I M r1 (o + l.length) = am_i 20000 →
    stk (am_I M (c + 9)) s → okv s t → t.length ≤ 60 → tys al of l t = some [b] → cF M c al F → (of = true → cW M c W) →
    ∃ M', am_ev 91 (d + 2) 9 [.ref (c + 8), .ref r1, v2, .int (am_i n), .int (am_i o), v5] [] M = some (some (.int (am_i ((l.foldl (fst1 F W) s).getD 0 0))), M') ∧ am_Sh L q M' ∧ fr (fun b _ => b = c + 9) M M' := by
  intro l
  induction l with
  | nil =>
    intro o n s t M v2 v5 S hn ho hcd he hs hok ht60 hty hcF hcW
    unfold tys at hty
    cases hty
    obtain ⟨v, s', rfl, g1, g2, g3, g4⟩ := okv_cons hok
    have h0 : s' = [] := by
      cases s' with
      | nil => rfl
      | cons _ _ => exact False.elim g4
    subst h0
    have e1 : am_I M (c + 9) 0 = am_i v := hs.1
    have he' : am_I M r1 o = am_i 20000 := he
    have hK := hk1 M S
    refine ⟨M, ?_, S, fr_rfl _ _⟩
    rw [t91_9]
    simp (disch := omega) only [hK, am_if_t, am_i_nI, am_br_ge, am_ix_p hK, am_i_ix, Int.toNat_natCast, he', am_br_eq]
    rw [if_neg (by simp at ho; omega), if_pos trivial]
    simp (disch := omega) only [am_ob_p (C_k8 S hc), C_r8_0 S hc, am_gr_p, am_ix_p (C_k9 S hc), am_i_ix, Int.toNat_zero, e1]
    rfl
  | cons c0 l ih =>
    intro o n s t M v2 v5 S hn ho hcd he hs hok ht60 hty hcF hcW
    obtain ⟨t1, hty1, htyl⟩ := tys_cons hty
    have hok1 := ty1_ok hF hW hok hty1
    have hK := hk1 M S
    have hlen := okv_len hok
    have ht61 := ty1_len hty1 ht60
    have hs60 : s.length ≤ 60 := by omega
    have hlo : (c0 :: l).length = l.length + 1 := rfl
    have e0 : am_I M r1 o = am_i (cc c0) := hcd 0 (by omega)
    -- how it goes on, once one code is done
    have go : ∀ (M1 : am_M) (n1 m1 : Int) (v2 v5 : Value), am_Sh L q M1 → fr (fun b _ => b = c + 9) M M1 → n1 = (fst1 F W s c0).length → m1 = (o : Int) + 1 → stk (am_I M1 (c + 9)) (fst1 F W s c0) →
        ∃ M', am_ev 91 (d + 2) 9 [.ref (c + 8), .ref r1, v2, .int (am_i n1), .int (am_i m1), v5] [] M1 = some (some (.int (am_i (((c0 :: l).foldl (fst1 F W) s).getD 0 0))), M') ∧ am_Sh L q M' ∧ fr (fun b _ => b = c + 9) M M' := by
      intro M1 n1 m1 v2 v5 S1 f1 hn1 hm1 hs1
      obtain ⟨M', r1', S', f'⟩ := ih (o + 1) n1 (fst1 F W s c0) t1 M1 v2 v5 S1 hn1 (by omega) (fun j hj => by
        rw [(f1 r1 (o + 1 + j) hr1).1, Nat.add_assoc, Nat.add_comm 1 j]
        exact hcd (j + 1) (by omega)) (by
        rw [(f1 r1 (o + 1 + l.length) hr1).1, Nat.add_assoc, Nat.add_comm 1]
        exact he) hs1 hok1 ht61 htyl (fun k hk ha => by rw [(f1 (c + 10) _ (by omega)).1]; exact hcF k hk ha) (fun hof => ⟨fun k hk => by rw [(f1 (c + 11) _ (by omega)).1]; exact (hcW hof).1 k hk, (hcW hof).2⟩)
      refine ⟨M', ?_, S', fr_tr f1 f'⟩
      subst hm1
      exact r1'
    rw [t91_9]
    simp (disch := omega) only [hK, am_if_t, am_i_nI, am_br_ge, am_ix_p hK, am_i_ix, Int.toNat_natCast, e0]
    rw [if_neg (by omega)]
    rcases ty1_cases hty1 with ⟨v, rfl, h1, h2, h3, rfl⟩ | ⟨rfl, h1, r, rfl, rfl⟩ | ⟨k, rfl, h1, h2, h3, rfl⟩ | ⟨rfl, h1, rfl⟩ | ⟨rfl, r, rfl, rfl⟩ | ⟨hc0, r, rfl, rfl⟩ | ⟨hc0, r, rfl, rfl⟩ | ⟨hc0, r, rfl, rfl⟩
    · have ec : cc (1000 + v) = v := by unfold cc; rw [if_pos (by omega)]; omega
      have ef := fst1_num F W s h1
      rw [ec]
      rw [ef] at go
      simp (disch := omega) only [am_br_eq, am_br_ge]
      rw [if_neg (by omega), if_neg (by omega)]
      simp (disch := omega) only [am_ob_p (C_k8 S hc), C_r8_0 S hc, am_gr_p, C_k9 S hc, am_if_t, am_i_nI, am_br_ge]
      rw [if_neg (by omega)]
      simp (disch := omega) only [c_given_num h1 h2, am_bI_p, am_iw_p (C_k9 S hc), am_i_ix, am_lt, am_i_add]
      refine go _ _ _ _ _ (S.sI _ _ _) (fr_sI rfl) (by rw [List.length_cons]; omega) rfl ⟨?_, ?_⟩
      · rw [show n.toNat = s.length by omega]
        exact am_I_same _ _ _ _
      · exact stk_mv hs (fun k hk => am_I_ne2 (by omega))
    · have ec : cc 60 = 20002 := rfl
      obtain ⟨a, s', rfl, g1, g2, g3, g4⟩ := okv_cons hok
      have hl2 : (a :: s').length = s'.length + 1 := rfl
      have e1 : am_I M (c + 9) (n - 1).toNat = am_i a := by rw [show (n - 1).toNat = s'.length by omega]; exact hs.1
      rw [ec]
      simp (disch := omega) only [am_br_eq, am_br_ge, am_br_ne]
      rw [if_neg (by omega), if_pos (by omega), if_neg (by omega), if_pos trivial, t91_83]
      simp (disch := omega) only [am_br_le, am_ob_p (C_k8 S hc), C_r8_0 S hc, am_gr_p, am_br_ne, am_i_sub, am_ix_p (C_k9 S hc), am_iw_p (C_k9 S hc), am_i_ix, e1, c_weightM S hc (hcW h1) g1 g2, am_bI_p, am_lt, am_i_add]
      rw [if_neg (by omega), if_neg (by omega)]
      refine go _ _ _ _ _ (S.sI _ _ _) (fr_sI rfl) hn rfl ⟨?_, ?_⟩
      · rw [show (n - 1).toNat = s'.length by omega]
        exact am_I_same _ _ _ _
      · exact stk_mv hs.2 (fun k hk => am_I_ne2 (by omega))
    · have ec : cc (40 + (k : Int)) = 10000 + wd k := by unfold cc; rw [if_neg (by omega), if_neg (by omega), if_pos (by omega)]; congr 2; omega
      have ef := fst1_part F W s h1
      have hw := wd_bd k
      rw [ec]
      rw [ef] at go
      simp (disch := omega) only [am_br_eq, am_br_ge]
      rw [if_neg (by omega), if_neg (by omega)]
      simp (disch := omega) only [am_ob_p (C_k8 S hc), C_r8_0 S hc, am_gr_p, C_k9 S hc, am_if_t, am_i_nI, am_br_ge]
      rw [if_neg (by omega)]
      simp (disch := omega) only [c_given_fact S hc hw.1 hw.2 (hcF k h1 h2), am_bI_p, am_iw_p (C_k9 S hc), am_i_ix, am_lt, am_i_add]
      refine go _ _ _ _ _ (S.sI _ _ _) (fr_sI rfl) (by rw [List.length_cons]; omega) rfl ⟨?_, ?_⟩
      · rw [show n.toNat = s.length by omega]
        exact am_I_same _ _ _ _
      · exact stk_mv hs (fun k hk => am_I_ne2 (by omega))
    · have ec : cc 13 = 1 := rfl
      rw [ec]
      rw [fst1_all] at go
      simp (disch := omega) only [am_br_eq, am_br_ge]
      rw [if_neg (by omega), if_neg (by omega)]
      simp (disch := omega) only [am_ob_p (C_k8 S hc), C_r8_0 S hc, am_gr_p, C_k9 S hc, am_if_t, am_i_nI, am_br_ge]
      rw [if_neg (by omega)]
      simp (disch := omega) only [c_given_num (v := 1) (by decide) (by decide), am_bI_p, am_iw_p (C_k9 S hc), am_i_ix, am_lt, am_i_add]
      refine go _ _ _ _ _ (S.sI _ _ _) (fr_sI rfl) (by rw [List.length_cons]; omega) rfl ⟨?_, ?_⟩
      · rw [show n.toNat = s.length by omega]
        exact am_I_same _ _ _ _
      · exact stk_mv hs (fun k hk => am_I_ne2 (by omega))
    · have ec : cc 12 = 20001 := rfl
      obtain ⟨a, s', rfl, g1, g2, g3, g4⟩ := okv_cons hok
      have hl2 : (a :: s').length = s'.length + 1 := rfl
      have e1 : am_I M (c + 9) (n - 1).toNat = am_i a := by rw [show (n - 1).toNat = s'.length by omega]; exact hs.1
      rw [ec]
      simp (disch := omega) only [am_br_eq, am_br_ge, am_br_ne]
      rw [if_neg (by omega), if_pos (by omega), if_pos trivial, t91_83]
      simp (disch := omega) only [am_br_le, am_ob_p (C_k8 S hc), C_r8_0 S hc, am_gr_p, am_br_ne, am_i_sub, am_ix_p (C_k9 S hc), am_iw_p (C_k9 S hc), am_i_ix, e1, am_bI_p, am_lt, am_i_add]
      rw [if_neg (by omega), if_pos trivial]
      refine go _ _ _ _ _ (S.sI _ _ _) (fr_sI rfl) hn rfl ⟨?_, ?_⟩
      · rw [show (n - 1).toNat = s'.length by omega]
        exact am_I_same _ _ _ _
      · exact stk_mv hs.2 (fun k hk => am_I_ne2 (by omega))
    all_goals
      obtain ⟨y, s', rfl, g1, g2, g3, g4⟩ := okv_cons hok
      obtain ⟨x, s'', rfl, g5, g6, g7, g8⟩ := okv_cons g4
      have hl2 : (y :: x :: s'').length = s''.length + 2 := rfl
      have hc1 : 1 ≤ c0 := by omega
      have hc11 : c0 ≤ 11 := by omega
      have ec : cc c0 = 20002 + c0 := by unfold cc; rw [if_neg (by omega), if_neg (by omega), if_neg (by omega), if_neg (by omega), if_neg (by omega)]
      have ef := fst1_op F W s'' x y hc1 hc11
      rw [ec]
      rw [ef] at go
      have e1 : am_I M (c + 9) (n + -1).toNat = am_i y := by rw [show (n + -1).toNat = (x :: s'').length by rw [List.length_cons]; omega]; exact hs.1
      have e2 : am_I M (c + 9) (n + -1 - 1).toNat = am_i x := by rw [show (n + -1 - 1).toNat = s''.length by omega]; exact hs.2.1
      have hj : c0 = 1 ∨ c0 = 2 ∨ c0 = 3 ∨ c0 = 4 ∨ c0 = 5 ∨ c0 = 6 ∨ c0 = 7 ∨ c0 = 8 ∨ c0 = 9 ∨ (c0 = 10 ∨ c0 = 11) ∧ (x = 0 ∨ x = 1) ∧ (y = 0 ∨ y = 1) := by
        first
        | (have k1 := g7 rfl; have k2 := g3 rfl; omega)
        | omega
      simp (disch := omega) only [am_br_eq, am_br_ge, am_br_ne]
      rw [if_neg (by omega), if_pos (by omega), if_neg (by omega), if_neg (by omega)]
      simp (disch := omega) only [am_br_le, am_ob_p (C_k8 S hc), C_r8_0 S hc, am_gr_p, am_i_add, am_i_sub, am_ix_p (C_k9 S hc), am_iw_p (C_k9 S hc), am_i_ix, e1, e2, am_i2l, c_joined g5 g6 g1 g2 hj, am_bI_p, am_lt]
      rw [if_neg (by omega)]
      refine go _ _ _ _ _ (S.sI _ _ _) (fr_sI rfl) (by rw [List.length_cons]; omega) rfl ⟨?_, ?_⟩
      · rw [show (n + -1 - 1).toNat = s''.length by omega]
        exact am_I_same _ _ _ _
      · exact stk_mv hs.2.2 (fun k hk => am_I_ne2 (by omega))
theorem c_value {L : Nat} {q : am_Pq} {M : am_M} {c r1 o : Nat} (S : am_Sh L q M) (hc : isC c) (hr1 : r1 ≠ c + 9) (hk1 : ∀ M, am_Sh L q M → am_K M r1 = (2, 1600)) {al : Nat → Bool} {of b : Bool} {F : Nat → Int} {W : Int → Int} (hF : Fok al F) (hW : Wok W) {l : List Int} (ho : o + l.length < 1600)
    (hl : ∀ j, j < l.length → am_I M r1 (o + j) = am_i (cc (l.getD j 0))) (he : am_I M r1 (o + l.length) = am_i 20000) (hwf : wf al of b l) (hcF : cF M c al F) (hcW : of = true → cW M c W) (d : Nat) :
    ∃ M', am_cl 91 (d + 2) [.ref (c + 8), .ref r1, .int (am_i o)] M = some (some (.int (am_i (fev F W l))), M') ∧ am_Sh L q M' ∧ fr (fun b _ => b = c + 9) M M' := by
  obtain ⟨M', h1, h2, h3⟩ := c_run hc hr1 hk1 hF hW d l o 0 [] [] M (.int (am_i o)) .null S rfl ho hl he trivial trivial (by decide) hwf hcF hcW
  refine ⟨M', ?_, h2, h3⟩
  have e : (if (o : Int) < 0 then (0 : Int) else (o : Int)) = o := if_neg (by omega)
  rw [t91, j_maxI (by omega) (by omega) (by omega) (by omega), am_bI_p, e]
  exact h1
