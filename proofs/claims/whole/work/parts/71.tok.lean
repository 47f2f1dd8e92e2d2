/-! Tokens: what stands at a place of the tape. -/
/-- from a on over bytes of a sort -/
def rnp (f : Int → Int) (Z : Nat → Nat → Int) : Nat → Nat → Nat
  | 0, a => a
  | m + 1, a => if f (Z 0 a) = 1 then rnp f Z m (a + 1) else a
def rn (f : Int → Int) (Z : Nat → Nat → Int) (n a : Nat) : Nat := rnp f Z (n - a) a
theorem rn_stop {f : Int → Int} {Z : Nat → Nat → Int} {n a : Nat} (h : ¬ a < n) : rn f Z n a = a := by
  unfold rn
  rw [show n - a = 0 by omega]
  rfl
theorem rn_step {f : Int → Int} {Z : Nat → Nat → Int} {n a : Nat} (h : a < n) (g : f (Z 0 a) = 1) : rn f Z n a = rn f Z n (a + 1) := by
  unfold rn
  rw [show n - a = (n - (a + 1)) + 1 by omega]
  exact if_pos g
theorem rn_here {f : Int → Int} {Z : Nat → Nat → Int} {n a : Nat} (h : a < n) (g : ¬ f (Z 0 a) = 1) : rn f Z n a = a := by
  unfold rn
  rw [show n - a = (n - (a + 1)) + 1 by omega]
  exact if_neg g
theorem rnp_bd (f : Int → Int) (Z : Nat → Nat → Int) : ∀ m a, a ≤ rnp f Z m a ∧ rnp f Z m a ≤ a + m
  | 0, a => ⟨Nat.le_refl _, Nat.le_refl _⟩
  | m + 1, a => by
    have h := rnp_bd f Z m (a + 1)
    unfold rnp
    split <;> omega
theorem rn_bd (f : Int → Int) (Z : Nat → Nat → Int) (n a : Nat) : a ≤ rn f Z n a ∧ (a ≤ n → rn f Z n a ≤ n) := by
  have h := rnp_bd f Z (n - a) a
  unfold rn
  omega
theorem rnp_in (f : Int → Int) (Z : Nat → Nat → Int) : ∀ m a k, a ≤ k → k < rnp f Z m a → f (Z 0 k) = 1
  | 0, a, k, h, h' => absurd h' (by show ¬ k < a; omega)
  | m + 1, a, k, h, h' => by
    unfold rnp at h'
    split at h'
    · by_cases g : k = a
      · subst g; assumption
      · exact rnp_in f Z m (a + 1) k (by omega) h'
    · omega
theorem rn_in {f : Int → Int} {Z : Nat → Nat → Int} {n a k : Nat} (h : a ≤ k) (h' : k < rn f Z n a) : f (Z 0 k) = 1 := rnp_in f Z _ a k h h'
/-- the kind of the token at s (t: it touches a word or a number ahead of it), where it ends -/
def kd (Z : Nat → Nat → Int) (n s : Nat) (t : Bool) : Int := if s < n then (if ltr (Z 0 s) = 1 then (if t = true then 4 else 1) else if dgt (Z 0 s) = 1 then (if t = true then 4 else 2) else 3) else 0
def te (Z : Nat → Nat → Int) (n s : Nat) : Nat := if s < n then (if ltr (Z 0 s) = 1 then rn ltr Z n s else if dgt (Z 0 s) = 1 then rn dgt Z n s else s + 1) else s
theorem te_bd (Z : Nat → Nat → Int) {n s : Nat} (h : s ≤ n) : s ≤ te Z n s ∧ te Z n s ≤ n ∧ (s < n → s < te Z n s) := by
  have h1 := rn_bd ltr Z n s
  have h2 := rn_bd dgt Z n s
  have h3 := rn_bd ltr Z n (s + 1)
  have h4 := rn_bd dgt Z n (s + 1)
  unfold te
  by_cases g : s < n
  · rw [if_pos g]
    by_cases g1 : ltr (Z 0 s) = 1
    · rw [if_pos g1]
      have := rn_step g g1
      omega
    · rw [if_neg g1]
      by_cases g2 : dgt (Z 0 s) = 1
      · rw [if_pos g2]
        have := rn_step g g2
        omega
      · rw [if_neg g2]
        omega
  · rw [if_neg g]
    omega
/-- a word's first letters as numbers, its number among the class's words -/
def ltn (Z : Nat → Nat → Int) (s i : Nat) : List Int := (List.range i).map (fun j => Z 0 (s + j) - 96)
def wnu (v : Int) : Nat → Int
  | 0 => -1
  | k + 1 => if c5 ((wlC.getD k []).map (fun a => a - 96)) = v then (k : Int) else wnu v k
def wno (Z : Nat → Nat → Int) (s e : Nat) : Int := if 7 < e - s then -1 else wnu (c5 (ltn Z s (e - s))) 35
def lt7 (Z : Nat → Nat → Int) (s e : Nat) : List Int := ltn Z s (if e - s < 7 then e - s else 7)
theorem wnu_bd (v : Int) : ∀ k, -1 ≤ wnu v k ∧ wnu v k < k
  | 0 => by show -1 ≤ (-1 : Int) ∧ (-1 : Int) < ((0 : Nat) : Int); omega
  | k + 1 => by
    have := wnu_bd v k
    unfold wnu
    split <;> omega
theorem wno_bd (Z : Nat → Nat → Int) (s e : Nat) : -1 ≤ wno Z s e ∧ wno Z s e < 35 := by
  have := wnu_bd (c5 (ltn Z s (e - s))) 35
  unfold wno
  split <;> omega
theorem c5_app : ∀ (l : List Int) (a : Int), c5 (l ++ [a]) = c5 l + a * ((32 ^ l.length : Nat) : Int)
  | [], a => by show a + 32 * 0 = 0 + a * 1; omega
  | b :: l, a => by
    have e : ((32 ^ (b :: l).length : Nat) : Int) = 32 * ((32 ^ l.length : Nat) : Int) := by
      rw [List.length_cons, Nat.pow_succ, Nat.mul_comm]; simp
    have e2 : a * (32 * ((32 ^ l.length : Nat) : Int)) = 32 * (a * ((32 ^ l.length : Nat) : Int)) := by rw [← Int.mul_assoc, Int.mul_comm a 32, Int.mul_assoc]
    show b + 32 * c5 (l ++ [a]) = b + 32 * c5 l + a * ((32 ^ (b :: l).length : Nat) : Int)
    rw [c5_app l a, e, e2, Int.mul_add]
    omega
theorem ltn_succ (Z : Nat → Nat → Int) (s i : Nat) : ltn Z s (i + 1) = ltn Z s i ++ [Z 0 (s + i) - 96] := by
  unfold ltn
  rw [List.range_succ, List.map_append]
  rfl
theorem ltn_len (Z : Nat → Nat → Int) (s i : Nat) : (ltn Z s i).length = i := by simp [ltn]
theorem ltr_1 {x : Int} (h : ltr x = 1) : 97 ≤ x ∧ x ≤ 122 := by
  unfold ltr at h
  by_cases g : 97 ≤ x ∧ x ≤ 122
  · exact g
  · rw [if_neg g] at h; omega
theorem dgt_1 {x : Int} (h : dgt x = 1) : 48 ≤ x ∧ x ≤ 57 := by
  unfold dgt at h
  by_cases g : 48 ≤ x ∧ x ≤ 57
  · exact g
  · rw [if_neg g] at h; omega
theorem ltr_0 {x : Int} (h : ¬ ltr x = 1) : ¬ (97 ≤ x ∧ x ≤ 122) := fun g => h (if_pos g)
theorem dgt_0 {x : Int} (h : ¬ dgt x = 1) : ¬ (48 ≤ x ∧ x ≤ 57) := fun g => h (if_pos g)
theorem ltn_lok {Z : Nat → Nat → Int} {s i : Nat} (h : ∀ k, s ≤ k → k < s + i → ltr (Z 0 k) = 1) : lok (ltn Z s i) := by
  intro a ha
  unfold ltn at ha
  obtain ⟨j, hj, rfl⟩ := List.mem_map.mp ha
  have := ltr_1 (h (s + j) (by omega) (by have := List.mem_range.mp hj; omega))
  show 1 ≤ Z 0 (s + j) - 96 ∧ Z 0 (s + j) - 96 ≤ 26
  omega
theorem or_l {a b : Nat} (ha : a < 2 ^ 64) (hb : b < 2 ^ 64) : am_l (a : Int) ||| am_l (b : Int) = am_l ((a ||| b : Nat) : Int) := by
  rw [← Int64.toBitVec_inj, Int64.toBitVec_or]
  show BitVec.ofInt 64 (a : Int) ||| BitVec.ofInt 64 (b : Int) = BitVec.ofInt 64 ((a ||| b : Nat) : Int)
  apply BitVec.eq_of_toNat_eq
  rw [BitVec.toNat_or, BitVec.toNat_ofInt, BitVec.toNat_ofInt, BitVec.toNat_ofInt]
  have hc := Nat.or_lt_two_pow ha hb
  have f : ∀ x : Nat, x < 2 ^ 64 → ((x : Int) % ((2 ^ 64 : Nat) : Int)).toNat = x := fun x hx => by omega
  rw [f a ha, f b hb, f _ hc]
theorem shl_l : ∀ i : Fin 7, ∀ x : Fin 27, am_l (x.val : Int) <<< (am_l (5 * (i.val : Int)) &&& 63) = am_l ((32 ^ i.val * x.val : Nat) : Int) := by decide +kernel
theorem or5 {v c : Int} {i : Nat} (hi : i ≤ 6) (h0 : 0 ≤ v) (h1 : v < ((32 ^ i : Nat) : Int)) (hc : 97 ≤ c ∧ c ≤ 122) (s : Nat) (hs : s ≤ 1600) : am_l v ||| (((am_i c - am_i 97) + am_i 1).toInt64 <<< ((am_i 5 * (am_i ((s : Int) + (i : Int)) - am_i (s : Int))).toInt64 &&& 63)) = am_l (v + (c - 96) * ((32 ^ i : Nat) : Int)) := by
  obtain ⟨a, rfl⟩ := Int.eq_ofNat_of_zero_le h0
  obtain ⟨b, hb⟩ := Int.eq_ofNat_of_zero_le (show 0 ≤ c - 96 by omega)
  have e1 : (am_i c - am_i 97) + am_i 1 = am_i (b : Int) := by
    rw [am_i_sub, am_i_add]
    congr 1
    omega
  have e2 : am_i 5 * (am_i ((s : Int) + (i : Int)) - am_i (s : Int)) = am_i (5 * (i : Int)) := by
    rw [am_i_sub, am_i_mul]
    congr 1
    omega
  rw [e1, e2, am_i2l (by omega) (by omega), am_i2l (by omega) (by omega), shl_l ⟨i, by omega⟩ ⟨b, by omega⟩]
  have hp : 32 ^ i ≤ 32 ^ 6 := Nat.pow_le_pow_right (by decide) hi
  have hq : 32 ^ i * b ≤ 32 ^ 6 * 26 := Nat.mul_le_mul hp (by omega)
  have ha : a < 32 ^ i := by omega
  show am_l (a : Int) ||| am_l ((32 ^ i * b : Nat) : Int) = _
  rw [or_l (by omega) (by omega), Nat.or_comm]
  have e3 : 32 ^ i = 2 ^ (5 * i) := by rw [Nat.pow_mul]
  rw [e3] at ha ⊢
  rw [← Nat.two_pow_add_eq_or_of_lt ha b]
  congr 1
  rw [hb, Int.natCast_add, Int.natCast_mul, Int.mul_comm]
  omega
theorem wlC_bd : ∀ k : Fin 35, 0 ≤ c5 ((wlC.getD k.val []).map (fun a => a - 96)) ∧ c5 ((wlC.getD k.val []).map (fun a => a - 96)) < 34359738368 := by decide +kernel
theorem c_know {L : Nat} {q : am_Pq} {Z : Nat → Nat → Int} {M : am_M} (S : am_Sh L q M) (hT : ∀ k, k < 1600 → am_I M 30 k = am_i (Z 0 k)) (hw : cWw M) {s e : Nat} (e9 : am_I M 3 9 = am_i s) (e10 : am_I M 3 10 = am_i e) (hse : s ≤ e) (he : e ≤ 1600) (hl : ∀ k, s ≤ k → k < e → ltr (Z 0 k) = 1) (d : Nat) :
    ∃ M', am_cl 101 d [.ref 3] M = some (none, M') ∧ am_Sh L q M' ∧ fr (fun b k => b = 3 ∧ (k = 11 ∨ k = 12)) M M' ∧ am_L M' 3 11 = am_l (c5 (lt7 Z s e)) ∧ am_I M' 3 12 = am_i (wno Z s e) := by
  have hl2 : ∀ i, s + i ≤ e → lok (ltn Z s i) := fun i hi => ltn_lok (fun k h1 h2 => hl k h1 (by omega))
  have bd : ∀ i, i ≤ 7 → s + i ≤ e → 0 ≤ c5 (ltn Z s i) ∧ c5 (ltn Z s i) < 34359738368 := fun i h7 hi => by
    have h := c5_bd (hl2 i hi)
    rw [ltn_len] at h
    have h2 : 32 ^ i ≤ 32 ^ 7 := Nat.pow_le_pow_right (by decide) h7
    omega
  -- the words, one by one
  have k2 : ∀ m k : Nat, k + m = 35 → ∀ M1, am_Sh L q M1 → cWw M1 → e - s ≤ 7 → am_I M1 3 9 = am_i s → am_I M1 3 10 = am_i e → am_L M1 3 11 = am_l (c5 (ltn Z s (e - s))) → am_I M1 3 12 = am_i (wnu (c5 (ltn Z s (e - s))) k) → ∃ M', am_ev 101 d 72 [.ref 3, .int (am_i k)] [] M1 = some (none, M') ∧ am_Sh L q M' ∧ fr (fun b k => b = 3 ∧ k = 12) M1 M' ∧ am_I M' 3 12 = am_i (wnu (c5 (ltn Z s (e - s))) 35) := by
    intro m
    induction m with
    | zero =>
      intro k hk M1 S1 hw1 h7 g9 g10 g11 g12
      refine ⟨M1, ?_, S1, fr_rfl _ _, by rw [g12]; congr 1; rw [show k = 35 by omega]⟩
      rw [t101_72, am_br_ge (by omega) (by omega) (by omega) (by omega), if_pos (by omega)]
    | succ m ih =>
      intro k hk M1 S1 hw1 h7 g9 g10 g11 g12
      have b1 := bd (e - s) h7 (by omega)
      have b2 : 0 ≤ c5 ((wlC.getD k []).map (fun a => a - 96)) ∧ c5 ((wlC.getD k []).map (fun a => a - 96)) < 34359738368 := wlC_bd ⟨k, by omega⟩
      have ew := hw1 k (by omega)
      by_cases g : c5 ((wlC.getD k []).map (fun a => a - 96)) = c5 (ltn Z s (e - s))
      · obtain ⟨M', r, S', f', e'⟩ := ih (k + 1) (by omega) (am_sI M1 3 12 (am_i k)) (S1.sI _ _ _) hw1 h7 (by rw [am_I_ne2 (by decide)]; exact g9) (by rw [am_I_ne2 (by decide)]; exact g10) g11 (by rw [am_I_same]; congr 1; exact (if_pos g).symm)
        refine ⟨M', ?_, S', fr_tr (fr_sI ⟨rfl, rfl⟩) f', e'⟩
        rw [t101_72, am_br_ge (by omega) (by omega) (by omega) (by omega), if_neg (by omega), am_ob_p (kk_3 S1), am_ob_p (kk_3 S1), g9, g10, am_i_sub, am_br_gt (by omega) (by omega) (by omega) (by omega), if_neg (by omega), am_ob_p (kk_3 S1), rr_3_7 S1, am_gr_p, am_ix_p (kk_31 S1) (by omega) (by omega) (by omega), am_ob_p (kk_3 S1), am_i_ix (by omega) (by omega), Int.toNat_natCast, ew, g11, cmp_ne (by omega) (by omega) (by omega) (by omega), if_pos g, am_ob_p (kk_3 S1), am_lt, am_i_add]
        exact r
      · obtain ⟨M', r, S', f', e'⟩ := ih (k + 1) (by omega) M1 S1 hw1 h7 g9 g10 g11 (by rw [g12]; congr 1; exact (if_neg g).symm)
        refine ⟨M', ?_, S', f', e'⟩
        rw [t101_72, am_br_ge (by omega) (by omega) (by omega) (by omega), if_neg (by omega), am_ob_p (kk_3 S1), am_ob_p (kk_3 S1), g9, g10, am_i_sub, am_br_gt (by omega) (by omega) (by omega) (by omega), if_neg (by omega), am_ob_p (kk_3 S1), rr_3_7 S1, am_gr_p, am_ix_p (kk_31 S1) (by omega) (by omega) (by omega), am_ob_p (kk_3 S1), am_i_ix (by omega) (by omega), Int.toNat_natCast, ew, g11, cmp_ne (by omega) (by omega) (by omega) (by omega), if_neg g, am_i_add]
        exact r
  -- the letters, one by one
  have k1 : ∀ m i : Nat, i + m = (if e - s < 7 then e - s else 7) → ∀ M1, am_Sh L q M1 → (∀ k, k < 1600 → am_I M1 30 k = am_i (Z 0 k)) → am_I M1 3 9 = am_i s → am_I M1 3 10 = am_i e → am_L M1 3 11 = am_l (c5 (ltn Z s i)) → ∃ M', am_ev 101 d 15 [.ref 3, .int (am_i ((s : Int) + (i : Int)))] [] M1 = am_ev 101 d 72 [.ref 3, .int (am_i 0)] [] M' ∧ am_Sh L q M' ∧ fr (fun b k => b = 3 ∧ k = 11) M1 M' ∧ (∀ b k, am_I M' b k = am_I M1 b k) ∧ am_L M' 3 11 = am_l (c5 (lt7 Z s e)) := by
    intro m
    induction m with
    | zero =>
      intro i hi M1 S1 hT1 g9 g10 g11
      refine ⟨M1, ?_, S1, fr_rfl _ _, fun _ _ => rfl, by rw [g11]; unfold lt7; rw [show i = _ from hi]⟩
      have hi7 : i ≤ 7 := by split at hi <;> omega
      rw [t101_15, am_ob_p (kk_3 S1), g10, g9, am_br_ge (by omega) (by omega) (by omega) (by omega)]
      by_cases g : e - s < 7
      · rw [if_pos g] at hi
        rw [if_pos (by omega)]
      · rw [if_neg g] at hi
        by_cases g2 : (e : Int) ≤ s + i
        · rw [if_pos g2]
        · rw [if_neg g2, am_ob_p (kk_3 S1), am_i_add, am_br_ge (by omega) (by omega) (by omega) (by omega), if_pos (by omega)]
    | succ m ih =>
      intro i hi M1 S1 hT1 g9 g10 g11
      have hi2 : i ≤ 6 ∧ s + i < e := by split at hi <;> omega
      have hc := ltr_1 (hl (s + i) (by omega) (by omega))
      have hb := c5_bd (hl2 i (by omega))
      rw [ltn_len] at hb
      obtain ⟨M', r, S', f', eI, e'⟩ := ih (i + 1) (by omega) (am_sL M1 3 11 (am_l (c5 (ltn Z s (i + 1))))) S1 (fun k hk => hT1 k hk) g9 g10 (am_L_same _ _ _ _)
      refine ⟨M', ?_, S', fr_tr (fr_sL ⟨rfl, rfl⟩) f', fun b k => (eI b k).trans rfl, e'⟩
      rw [← r, t101_15, am_ob_p (kk_3 S1), g10, g9, am_br_ge (by omega) (by omega) (by omega) (by omega), if_neg (by omega), am_ob_p (kk_3 S1), am_i_add, am_br_ge (by omega) (by omega) (by omega) (by omega), if_neg (by omega), am_ob_p (kk_3 S1), am_ob_p (kk_3 S1), rr_3_5 S1, am_gr_p, am_ix_p (kk_30 S1) (by omega) (by omega) (by omega), am_ob_p (kk_3 S1), am_ob_p (kk_3 S1), am_i_ix (by omega) (by omega), show ((s : Int) + (i : Int)).toNat = s + i by omega, hT1 (s + i) (by omega), g11, or5 hi2.1 hb.1 hb.2 hc s (by omega), am_lt, am_i_add, ltn_succ, c5_app, ltn_len]
      have e5 : (s : Int) + (i : Int) + 1 = (s : Int) + ((i + 1 : Nat) : Int) := by omega
      rw [e5]
  have S0 : am_Sh L q (am_sI (am_sL M 3 11 (am_l 0)) 3 12 (am_i (-1))) := S
  obtain ⟨M1, r1, S1, f1, eI1, e1⟩ := k1 _ 0 (Nat.zero_add _) (am_sI (am_sL M 3 11 (am_l 0)) 3 12 (am_i (-1))) S0 (fun k hk => by rw [am_I_ne1 (by decide)]; exact hT k hk) (by rw [am_I_ne2 (by decide)]; exact e9) (by rw [am_I_ne2 (by decide)]; exact e10) (am_L_same _ _ _ _)
  have f0 : fr (fun b k => b = 3 ∧ (k = 11 ∨ k = 12)) M M1 := fr_tr (fr_tr (fr_sL ⟨rfl, Or.inl rfl⟩) (fr_sI ⟨rfl, Or.inr rfl⟩)) (fr_mono f1 (fun b k h => ⟨h.1, Or.inl h.2⟩))
  have g9 : am_I M1 3 9 = am_i s := by rw [eI1, am_I_ne2 (by decide)]; exact e9
  have g10 : am_I M1 3 10 = am_i e := by rw [eI1, am_I_ne2 (by decide)]; exact e10
  have g12 : am_I M1 3 12 = am_i (-1) := by rw [eI1, am_I_same]
  have hd : am_cl 101 d [.ref 3] M = am_ev 101 d 72 [.ref 3, .int (am_i ((0 : Nat) : Int))] [] M1 := by
    rw [t101, am_ob_p (kk_3 S)]
    simp only [am_lt]
    rw [am_ob_p (show am_K (am_sL M 3 11 (am_l 0)) 3 = (1, 4) from kk_3 S), am_ob_p (kk_3 S0), am_I_ne2 (by decide), show am_I (am_sL M 3 11 (am_l 0)) 3 9 = am_i s from e9]
    rw [show ((s : Int) + ((0 : Nat) : Int)) = (s : Int) by omega] at r1
    exact r1
  by_cases g : 7 < e - s
  · refine ⟨M1, ?_, S1, f0, e1, by rw [g12]; unfold wno; rw [if_pos g]⟩
    rw [hd, t101_72, am_br_ge (by omega) (by omega) (by omega) (by omega), if_neg (by omega), am_ob_p (kk_3 S1), am_ob_p (kk_3 S1), g9, g10, am_i_sub, am_br_gt (by omega) (by omega) (by omega) (by omega), if_pos (by omega)]
  · have e11 : am_L M1 3 11 = am_l (c5 (ltn Z s (e - s))) := by
      rw [e1]
      unfold lt7
      by_cases g2 : e - s < 7
      · rw [if_pos g2]
      · rw [if_neg g2, show e - s = 7 by omega]
    obtain ⟨M', r, S', f', e'⟩ := k2 35 0 rfl M1 S1 (fun k hk => by rw [(f0 31 k (by omega)).2]; exact hw k hk) (by omega) g9 g10 e11 g12
    refine ⟨M', by rw [hd]; exact r, S', fr_tr f0 (fr_mono f' (fun b k h => ⟨h.1, Or.inr h.2⟩)), by rw [(f' 3 11 (by omega)).2]; exact e1, by rw [e']; unfold wno; rw [if_neg g]⟩
