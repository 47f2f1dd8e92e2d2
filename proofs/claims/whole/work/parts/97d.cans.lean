/-! The class answers a question. -/
/-- how much of the kind of that number -/
def wW (X : am_X) (f : Nat) (a : Int) : Int := if 0 ≤ a ∧ a < X 0 0 0 then X 3 f a.toNat else 0
theorem wW_6 {X : am_X} (B : hB X) {f : Nat} (hf : f < nF X) {k : Nat} (hk : k < 6) : wW X f (k : Int) = X 3 f k := by
  have h := hB_K B
  unfold wW
  by_cases g : k < nK X
  · rw [if_pos (by omega), Int.toNat_natCast]
  · rw [if_neg (by omega)]
    exact (hB_wz B hf (by omega) hk).symm
theorem wW_0 {X : am_X} (B : hB X) {f : Nat} {a : Int} (h : a < 0 ∨ 6 ≤ a) : wW X f a = 0 := by
  have h := hB_K B
  unfold wW
  rw [if_neg (by omega)]
theorem wW_ok {X : am_X} (B : hB X) {f : Nat} (hf : f < nF X) : Wok (wW X f) := by
  intro a
  by_cases g : 0 ≤ a ∧ a < 6
  · obtain ⟨k, rfl⟩ : ∃ k : Nat, a = (k : Int) := ⟨a.toNat, by omega⟩
    rw [wW_6 B hf (by omega)]
    have := hB_w B hf (k := k) (by omega)
    omega
  · rw [wW_0 B (by omega)]
    omega
/-- a question's value at a film -/
def qv (X : am_X) (A : am_A) (p : Nat) (F : List Int) (f : Nat) : Int := fev (fct X A (prof A p) f p 0 0) (wW X f) F
theorem qv_ok {X : am_X} {A : am_A} (B : hB X) (BA : aB X A) {p f : Nat} (hp : p < nP X) (hf : f < nF X) {F : List Int} {bb : Bool} (hwf : wf (alw 3) true bb F) : -1000000 ≤ qv X A p F f ∧ qv X A p F f ≤ 1000000 ∧ (bb = true → qv X A p F f = 0 ∨ qv X A p F f = 1) := by
  have hP5 := (hB_P B).2
  exact fev_ok (fct_ok B BA (j := 3) (by decide) (fun _ => ⟨prof_lt A (by omega), hf⟩) (fun _ => hp) (fun h => absurd h (by decide)) (fun h => absurd h (by decide))) (wW_ok B hf) hwf
theorem c_vloop {L : Nat} {q : am_Pq} {c r1 : Nat} (hc : isC c) (hh : isH q.2.2.1) (hch : ∀ M, am_Sh L q M → am_R M c 0 = some q.2.2.1) {X : am_X} (B : hB X) {f : Nat} (hf : f < nF X) (d : Nat) (v2 : Value) : ∀ m k : Nat, k + m = 6 → ∀ {M : am_M}, am_Sh L q M → cH M q.2.2.1 X → (∀ i, i < k → am_I M (c + 11) i = am_i (X 3 f i)) → ∀ v4, ∃ M' w4, am_ev 78 (d + 1) 57 [.ref c, .ref r1, v2, .int (am_i (f : Int)), v4, .int (am_i (k : Int))] [] M = am_ev 78 (d + 1) 57 [.ref c, .ref r1, v2, .int (am_i (f : Int)), w4, .int (am_i 6)] [] M' ∧ am_Sh L q M' ∧ fr (fun b _ => b = c + 11) M M' ∧ ∀ i, i < 6 → am_I M' (c + 11) i = am_i (X 3 f i) := by
  have hF8 := (hB_F B).2
  have hc' : c = 63 ∨ c = 75 := hc
  have hh' : q.2.2.1 = 4 ∨ q.2.2.1 = 38 := hh
  intro m
  induction m with
  | zero =>
    intro k hk M S HX hi v4
    have hk : k = 6 := by omega
    subst hk
    exact ⟨M, v4, rfl, S, fr_rfl _ _, hi⟩
  | succ m ih =>
    intro k hk M S HX hi v4
    have hw := HX.2.2.1 f hf k (by omega)
    have S1 := S.sI (c + 11) k (am_i (X 3 f k))
    obtain ⟨M', w4, r, S', f', h'⟩ := ih (k + 1) (by omega) S1 (cH_mv HX B (fun b j h1 h2 => by rw [am_I_ne1 (by omega)])) (fun i hi2 => by
      by_cases g : i = k
      · subst g; exact am_I_same _ _ _ _
      · rw [am_I_ne2 g]; exact hi i (by omega)) (am_kl v4)
    refine ⟨M', w4, ?_, S', fr_tr (fr_sI rfl) f', h'⟩
    have e := hch M S
    have h0 := t78_57 d M c r1 v2 v4 (am_i (f : Int)) (am_i (k : Int))
    rw [am_br_ge (by omega) (by omega) (by omega) (by omega), if_neg (by omega), am_ob_p (C_k0 S hc), C_r0_5 S hc, am_gr_p, am_ob_p (C_k8 S hc), C_r8_2 S hc, am_gr_p, am_ob_p (C_k0 S hc), e, am_gr_p, am_ob_p (H_k0 S hh), H_r0_3 S hh, am_gr_p, am_iq_p (H_k7 S hh) (by omega) (by omega) (by omega) (by omega), am_i_ix (by omega) (by omega), Int.toNat_natCast, H_r7 S hh (by omega), am_gr_p, am_ix_p (H_q7 S hh (show f < 8 by omega)) (by omega) (by omega) (by omega), am_iw_p (C_k11 S hc) (by omega) (by omega) (by omega) (by omega), am_i_ix (by omega) (by omega), Int.toNat_natCast, hw, am_lt, am_i_add] at h0
    exact h0.trans r
theorem c_valueFor {L : Nat} {q : am_Pq} {M : am_M} {c : Nat} (S : am_Sh L q M) (hc : isC c) (hh : isH q.2.2.1) (hch : ∀ M, am_Sh L q M → am_R M c 0 = some q.2.2.1) {X : am_X} {A : am_A} (HX : cH M q.2.2.1 X) (HA : cA M (c + 1) A) (B : hB X) (BA : aB X A) {p f : Nat} (hp : p < nP X) (hf : f < nF X) {F : List Int} {bb : Bool} (hwf : wf (alw 3) true bb F) (hl : F.length + 1 ≤ 1600) (hF : ∀ i, i < F.length → am_I M 29 i = am_i (cc (F.getD i 0))) (hE : am_I M 29 F.length = am_i 20000) (d : Nat) : ∃ M', am_cl 78 (d + 3) [.ref c, .ref 29, .int (am_i (p : Int)), .int (am_i (f : Int))] M = some (some (.int (am_i (qv X A p F f))), M') ∧ am_Sh L q M' ∧ fr (fun b _ => c + 9 ≤ b ∧ b ≤ c + 11) M M' := by
  have hP5 := (hB_P B).2
  have hF8 := (hB_F B).2
  have hc' : c = 63 ∨ c = 75 := hc
  have hh' : q.2.2.1 = 4 ∨ q.2.2.1 = 38 := hh
  have hq := prof_lt A (show p < 5 by omega)
  have r1 := c_profileOf S (C_k1 S hc) HA (aB_p5 B BA) (show p < 5 by omega) (d + 2)
  have r2 := c_scoreOf S hc hh (hch M S) HX HA B hq hf (d + 2)
  obtain ⟨M1, r3, S1, f1, g1, g2, g3, g4⟩ := c_filmFacts S hc hh (hch M S) HX HA B BA hq hf (score X A (prof A p) f) (d + 2)
  have HX1 := cH_mv HX B (M' := M1) (fun b k h1 h2 => (f1 b k (by omega)).1)
  have r4 := c_worthOf S1 hh HX1 B hp hf (d + 2)
  have S2 := S1.sI (c + 10) 21 (am_i (worth X p f))
  have S3 := S2.sI (c + 10) 22 (am_i (f : Int))
  obtain ⟨M3, hM3⟩ : ∃ M3, M3 = am_sI (am_sI M1 (c + 10) 21 (am_i (worth X p f))) (c + 10) 22 (am_i (f : Int)) := ⟨_, rfl⟩
  have f3 : fr (fun b _ => b = c + 10) M M3 := by
    rw [hM3]
    exact fr_tr f1 (fr_tr (fr_sI rfl) (fr_sI rfl))
  have k10 : ∀ j, j ≠ 21 → j ≠ 22 → am_I M3 (c + 10) j = am_I M1 (c + 10) j := fun j h1 h2 => by rw [hM3, am_I_ne2 h2, am_I_ne2 h1]
  have k21 : am_I M3 (c + 10) 21 = am_i (worth X p f) := by rw [hM3, am_I_ne2 (by decide), am_I_same]
  have k22 : am_I M3 (c + 10) 22 = am_i (f : Int) := by rw [hM3, am_I_same]
  rw [← hM3] at S3
  have HX3 := cH_mv HX B (M' := M3) (fun b k h1 h2 => (f3 b k (by omega)).1)
  obtain ⟨M4, w4, h4, S4, f4, e4⟩ := c_vloop (r1 := 29) hc hh hch B hf (d + 2) (.int (am_i (p : Int))) 6 0 rfl S3 HX3 (fun i hi => absurd hi (by omega)) (.int (am_i (prof A p : Int)))
  have j10 : ∀ j, am_I M4 (c + 10) j = am_I M3 (c + 10) j := fun j => (f4 _ _ (by omega)).1
  have e29 : ∀ j, am_I M4 29 j = am_I M 29 j := fun j => ((f4 _ _ (by omega)).1).trans (f3 _ _ (by omega)).1
  obtain ⟨M5, r5, S5, f5⟩ := c_value (o := 0) S4 hc (r1 := 29) (by omega) (fun M S => kk_29 S) (al := alw 3) (of := true) (b := bb) (F := fct X A (prof A p) f p 0 0) (W := wW X f) (fct_ok B BA (j := 3) (by decide) (fun _ => ⟨hq, hf⟩) (fun _ => hp) (fun h => absurd h (by decide)) (fun h => absurd h (by decide))) (wW_ok B hf) (l := F) (by omega) (fun j hj => by rw [Nat.zero_add, e29]; exact hF j hj) (by rw [Nat.zero_add, e29]; exact hE) hwf (fun k hk ha => by
    rw [j10]
    rcases alw3 ha with rfl | rfl | rfl | rfl | rfl | rfl
    · exact (k10 16 (by decide) (by decide)).trans g1
    · exact (k10 2 (by decide) (by decide)).trans g2
    · exact (k10 19 (by decide) (by decide)).trans g3
    · exact (k10 20 (by decide) (by decide)).trans g4
    · exact k22
    · exact k21) (fun _ => ⟨fun k hk => by rw [e4 k hk, wW_6 B hf hk], fun a ha => wW_0 B ha⟩) d
  refine ⟨M5, ?_, S5, fr_tr (fr_mono f3 (fun b k h => by omega)) (fr_tr (fr_mono f4 (fun b k h => by omega)) (fr_mono f5 (fun b k h => by omega)))⟩
  have h0 := t78 (d + 2) M c 29 (am_i (p : Int)) (am_i (f : Int))
  rw [am_ob_p (C_k0 S hc), C_r0_1 S hc, am_gr_p, am_ob_p (C_k1 S hc), r1, am_bI_p, am_ob_p (C_k0 S hc), r2, am_bI_p, am_ob_p (C_k0 S hc), r3, am_bV_p, am_ob_p (C_k0 S1 hc), C_r0_5 S1 hc, am_gr_p, am_ob_p (C_k8 S1 hc), C_r8_1 S1 hc, am_gr_p, am_ob_p (C_k0 S1 hc), hch M1 S1, am_gr_p, am_ob_p (H_k0 S1 hh), r4, am_bI_p, am_iw_p (C_k10 S1 hc) (by omega) (by omega) (by omega) (by omega), show (am_i 21).toNatClampNeg = 21 from am_i_ix (a := 21) (by decide) (by decide), am_lt, am_ob_p (C_k0 S2 hc), C_r0_5 S2 hc, am_gr_p, am_ob_p (C_k8 S2 hc), C_r8_1 S2 hc, am_gr_p, am_iw_p (C_k10 S2 hc) (by omega) (by omega) (by omega) (by omega), show (am_i 22).toNatClampNeg = 22 from am_i_ix (a := 22) (by decide) (by decide), am_lt, ← hM3] at h0
  have h57 := t78_57 (d + 2) M4 c 29 (.int (am_i (p : Int))) w4 (am_i (f : Int)) (am_i 6)
  have r5 : am_cl 91 (d + 2) [.ref (c + 8), .ref 29, .int (am_i 0)] M4 = some (some (.int (am_i (qv X A p F f))), M5) := r5
  rw [am_br_ge (by omega) (by omega) (by omega) (by omega), if_pos (by omega), am_ob_p (C_k0 S4 hc), C_r0_5 S4 hc, am_gr_p, am_ob_p (C_k8 S4 hc), r5, am_bI_p] at h57
  exact h0.trans (h4.trans h57)
/-- the answer, film by film: 0 first, 1 last, 2 often, 3 total, 4 most, 5 least -/
def rA (k : Int) (v : Nat → Int) : Nat → Int
  | 0 => if k < 2 then -1 else 0
  | i + 1 => if k = 0 then (if v i = 1 ∧ rA k v i = -1 then (i : Int) else rA k v i) else if k = 1 then (if v i = 1 then (i : Int) else rA k v i) else if k = 2 then (if v i = 1 then rA k v i + 1 else rA k v i) else if k = 3 then rA k v i + v i else if k = 4 then (if i = 0 ∨ rA k v i < v i then v i else rA k v i) else (if i = 0 ∨ v i < rA k v i then v i else rA k v i)
theorem rA_first {v : Nat → Int} : ∀ m, (∀ f, f < m → v f ≠ 1) → rA 0 v m = -1
  | 0, _ => rfl
  | m + 1, h => by
    show (if v m = 1 ∧ rA 0 v m = -1 then (m : Int) else rA 0 v m) = -1
    rw [if_neg (fun g => h m (by omega) g.1)]
    exact rA_first m (fun f hf => h f (by omega))
theorem rA_first1 {v : Nat → Int} {m : Nat} (h : ∀ f, f < m → v f ≠ 1) (h1 : v m = 1) : ∀ n, m < n → rA 0 v n = (m : Int)
  | 0, hn => absurd hn (by omega)
  | n + 1, hn => by
    show (if v n = 1 ∧ rA 0 v n = -1 then (n : Int) else rA 0 v n) = (m : Int)
    by_cases g : m = n
    · subst g
      rw [if_pos ⟨h1, rA_first m h⟩]
    · have := rA_first1 h h1 n (by omega)
      rw [if_neg (by omega)]
      exact this
theorem rA_last1 {v : Nat → Int} {m : Nat} (h1 : v m = 1) : ∀ n, m < n → (∀ f, m < f → f < n → v f ≠ 1) → rA 1 v n = (m : Int)
  | 0, hn, _ => absurd hn (by omega)
  | n + 1, hn, h => by
    show (if v n = 1 then (n : Int) else rA 1 v n) = (m : Int)
    by_cases g : m = n
    · subst g
      rw [if_pos h1]
    · rw [if_neg (h n (by omega) (by omega))]
      exact rA_last1 h1 n (by omega) (fun f h2 h3 => h f h2 (by omega))
theorem rA_last0 {v : Nat → Int} : ∀ n, (∀ f, f < n → v f ≠ 1) → rA 1 v n = -1
  | 0, _ => rfl
  | n + 1, h => by
    show (if v n = 1 then (n : Int) else rA 1 v n) = -1
    rw [if_neg (h n (by omega))]
    exact rA_last0 n (fun f hf => h f (by omega))
theorem rA_often {v : Nat → Int} : ∀ n, (∀ f, f < n → v f = 0 ∨ v f = 1) → rA 2 v n = sm v n
  | 0, _ => rfl
  | n + 1, h => by
    show (if v n = 1 then rA 2 v n + 1 else rA 2 v n) = sm v n + v n
    rw [rA_often n (fun f hf => h f (by omega))]
    rcases h n (by omega) with e | e
    · rw [e, if_neg (by decide)]; omega
    · rw [e, if_pos rfl]
theorem rA_total {v : Nat → Int} : ∀ n, rA 3 v n = sm v n
  | 0 => rfl
  | n + 1 => by
    show rA 3 v n + v n = sm v n + v n
    rw [rA_total n]
theorem rA_most {v : Nat → Int} (n : Nat) : rA 4 v (n + 1) = if n = 0 ∨ rA 4 v n < v n then v n else rA 4 v n := rfl
theorem rA_least {v : Nat → Int} (n : Nat) : rA 5 v (n + 1) = if n = 0 ∨ v n < rA 5 v n then v n else rA 5 v n := rfl
theorem rA_bd {v : Nat → Int} (k : Int) (hk : 4 ≤ k) : ∀ n, (∀ f, f < n → -1000000 ≤ v f ∧ v f ≤ 1000000) → -1000000 ≤ rA k v n ∧ rA k v n ≤ 1000000
  | 0, _ => by
    have e : rA k v 0 = 0 := if_neg (by omega)
    rw [e]; omega
  | n + 1, h => by
    have i1 := rA_bd k hk n (fun f hf => h f (by omega))
    have i2 := h n (by omega)
    have e : rA k v (n + 1) = if k = 0 then (if v n = 1 ∧ rA k v n = -1 then (n : Int) else rA k v n) else if k = 1 then (if v n = 1 then (n : Int) else rA k v n) else if k = 2 then (if v n = 1 then rA k v n + 1 else rA k v n) else if k = 3 then rA k v n + v n else if k = 4 then (if n = 0 ∨ rA k v n < v n then v n else rA k v n) else (if n = 0 ∨ v n < rA k v n then v n else rA k v n) := rfl
    rw [e, if_neg (by omega), if_neg (by omega), if_neg (by omega), if_neg (by omega)]
    split
    · split
      · exact i2
      · exact i1
    · split
      · exact i2
      · exact i1
/-- what the class holds while it asks all films -/
def cQs (L : Nat) (q : am_Pq) (X : am_X) (A : am_A) (F : List Int) (M : am_M) : Prop := am_Sh L q M ∧ cH M q.2.2.1 X ∧ cA M 64 A ∧ (∀ i, i < F.length → am_I M 29 i = am_i (cc (F.getD i 0))) ∧ am_I M 29 F.length = am_i 20000
theorem cQs_value {L : Nat} {q : am_Pq} {X : am_X} {A : am_A} {F : List Int} {M : am_M} (H : cQs L q X A F M) (hh : isH q.2.2.1) (B : hB X) (BA : aB X A) {p f : Nat} (hp : p < nP X) (hf : f < nF X) {bb : Bool} (hwf : wf (alw 3) true bb F) (hl : F.length + 1 ≤ 1600) (d : Nat) : ∃ M', am_cl 78 (d + 3) [.ref 63, .ref 29, .int (am_i (p : Int)), .int (am_i (f : Int))] M = some (some (.int (am_i (qv X A p F f))), M') ∧ cQs L q X A F M' ∧ fr (fun b _ => 72 ≤ b ∧ b ≤ 74) M M' := by
  obtain ⟨S, HX, HA, hF, hE⟩ := H
  have hh' : q.2.2.1 = 4 ∨ q.2.2.1 = 38 := hh
  obtain ⟨M', r, S', f'⟩ := c_valueFor (c := 63) S (Or.inl rfl) hh (fun M S => rr_63_0 S) HX HA B BA hp hf hwf hl hF hE d
  have f' : fr (fun b _ => 72 ≤ b ∧ b ≤ 74) M M' := fr_mono f' (fun b k h => by omega)
  exact ⟨M', r, ⟨S', cH_mv HX B (fun b k h1 h2 => (f' b k (by omega)).1), cA_mv HA (fun b k h1 h2 h3 => (f' b k (by omega)).1), fun i hi => ((f' 29 i (by omega)).1).trans (hF i hi), ((f' 29 _ (by omega)).1).trans hE⟩, f'⟩
theorem c_nFilms {L : Nat} {q : am_Pq} {X : am_X} {A : am_A} {F : List Int} {M : am_M} (H : cQs L q X A F M) (B : hB X) : am_I M (q.2.2.1 + 1) 1 = am_i (nF X : Int) := by
  rw [H.2.1.1 1 (by decide), (hB_F B).1]
theorem c_holds {L : Nat} {q : am_Pq} {X : am_X} {A : am_A} {F : List Int} (hh : isH q.2.2.1) (B : hB X) (BA : aB X A) {p : Nat} (hp : p < nP X) (hwf : wf (alw 3) true true F) (hl : F.length + 1 ≤ 1600) {fst : Int} (hf01 : fst = 0 ∨ fst = 1) (d : Nat) : ∀ m n : Nat, n + m = nF X → (∀ i, i < n → qv X A p F (if fst = 1 then i else nF X - 1 - i) ≠ 1) → ∀ {M}, cQs L q X A F M → ∀ v5, ∃ M', am_ev 53 (d + 4) 16 [.ref 2, .int (am_i (p : Int)), .int (am_i fst), .int (am_i (nF X : Int)), .int (am_i (n : Int)), v5] [] M = some (some (.long (am_l (rA (1 - fst) (qv X A p F) (nF X)))), M') ∧ cQs L q X A F M' ∧ fr (fun b _ => 72 ≤ b ∧ b ≤ 74) M M' := by
  have hF8 := (hB_F B).2
  intro m
  induction m with
  | zero =>
    intro n hn hno M H v5
    refine ⟨M, ?_, H, fr_rfl _ _⟩
    rw [t53_16, am_br_ge (by omega) (by omega) (by omega) (by omega), if_pos (by omega)]
    rcases hf01 with e | e
    · subst e
      rw [show rA (1 - 0) (qv X A p F) (nF X) = -1 from rA_last0 _ (fun f hf => by
        have := hno (nF X - 1 - f) (by omega)
        rw [if_neg (by decide), show nF X - 1 - (nF X - 1 - f) = f by omega] at this
        exact this)]
    · subst e
      rw [show rA (1 - 1) (qv X A p F) (nF X) = -1 from rA_first _ (fun f hf => by
        have := hno f (by omega)
        rw [if_pos rfl] at this
        exact this)]
  | succ m ih =>
    intro n hn hno M H v5
    have S := H.1
    obtain ⟨g, hg⟩ : ∃ g, g = (if fst = 1 then n else nF X - 1 - n) := ⟨_, rfl⟩
    have hgb : g < nF X := by rw [hg]; split <;> omega
    obtain ⟨M1, r1, H1, f1⟩ := cQs_value H hh B BA hp hgb hwf hl d
    have hv := qv_ok B BA hp hgb hwf
    have h01 := hv.2.2 rfl
    have h37 := t53_37 (d + 3) M 2 (am_i (p : Int)) (am_i fst) (am_i (nF X : Int)) (am_i (n : Int)) (am_i (g : Int)) v5
    rw [am_ob_p (kk_2 S), rr_2_3 S, am_gr_p, am_ob_p (kk_2 S), rr_2_0 S, am_gr_p, am_ob_p (kk_3 S), rr_3_4 S, am_gr_p, am_ob_p (kk_63 S), r1, am_bI_p, am_br_eq (by omega) (by omega) (by omega) (by omega), am_i_add] at h37
    have h16 : am_ev 53 (d + 4) 16 [.ref 2, .int (am_i (p : Int)), .int (am_i fst), .int (am_i (nF X : Int)), .int (am_i (n : Int)), v5] [] M = am_ev 53 (d + 3 + 1) 37 [.ref 2, .int (am_i (p : Int)), .int (am_i fst), .int (am_i (nF X : Int)), .int (am_i (n : Int)), v5] [.int (am_i (g : Int))] M := by
      rw [t53_16, am_br_ge (by omega) (by omega) (by omega) (by omega), if_neg (by omega), am_br_eq (by omega) (by omega) (by omega) (by omega)]
      rcases hf01 with e | e
      · subst e
        rw [if_pos rfl, am_i_sub, am_i_sub, hg, if_neg (by decide), show ((nF X - 1 - n : Nat) : Int) = (nF X : Int) - 1 - (n : Int) by omega]
      · subst e
        rw [if_neg (by decide), hg, if_pos rfl]
    by_cases g2 : qv X A p F g = 0
    · obtain ⟨M2, r2, H2, f2⟩ := ih (n + 1) (by omega) (fun i hi => by
        by_cases g3 : i = n
        · subst g3; rw [← hg, g2]; decide
        · exact hno i (by omega)) H1 (.int (am_i (g : Int)))
      rw [if_pos g2] at h37
      exact ⟨M2, h16.trans (h37.trans r2), H2, fr_tr f1 f2⟩
    · rw [if_neg g2, am_i2l (by omega) (by omega)] at h37
      have g1 : qv X A p F g = 1 := h01.resolve_left g2
      refine ⟨M1, h16.trans (h37.trans ?_), H1, f1⟩
      rcases hf01 with e | e
      · subst e
        rw [if_neg (by decide)] at hg
        rw [show rA (1 - 0) (qv X A p F) (nF X) = (g : Int) from rA_last1 g1 _ hgb (fun f h1 h2 => by
          have := hno (nF X - 1 - f) (by omega)
          rw [if_neg (by decide), show nF X - 1 - (nF X - 1 - f) = f by omega] at this
          exact this)]
      · subst e
        rw [if_pos rfl] at hg
        rw [show rA (1 - 1) (qv X A p F) (nF X) = (g : Int) from rA_first1 (fun f hf => by
          have := hno f (by omega)
          rw [if_pos rfl] at this
          exact this) g1 _ hgb]
theorem c_filmThatHolds {L : Nat} {q : am_Pq} {X : am_X} {A : am_A} {F : List Int} (hh : isH q.2.2.1) (B : hB X) (BA : aB X A) {p : Nat} (hp : p < nP X) (hwf : wf (alw 3) true true F) (hl : F.length + 1 ≤ 1600) {fst : Int} (hf01 : fst = 0 ∨ fst = 1) {M : am_M} (H : cQs L q X A F M) (d : Nat) : ∃ M', am_cl 53 (d + 4) [.ref 2, .int (am_i (p : Int)), .int (am_i fst)] M = some (some (.long (am_l (rA (1 - fst) (qv X A p F) (nF X)))), M') ∧ cQs L q X A F M' ∧ fr (fun b _ => 72 ≤ b ∧ b ≤ 74) M M' := by
  have S := H.1
  obtain ⟨M', r, H', f'⟩ := c_holds hh B BA hp hwf hl hf01 d (nF X) 0 (by omega) (fun i hi => absurd hi (by omega)) H .null
  refine ⟨M', ?_, H', f'⟩
  rw [t53, am_ob_p (kk_2 S), rr_2_3 S, am_gr_p, am_ob_p (kk_63 S), rr_63_0 S, am_gr_p, am_ob_p (H_k0 S hh), H_r0_0 S hh, am_gr_p, am_ix_p (H_k1 S hh) (by omega) (by omega) (by omega), show (am_i 1).toNatClampNeg = 1 from am_i_ix (a := 1) (by decide) (by decide), c_nFilms H B]
  exact r
theorem c_totalOf {L : Nat} {q : am_Pq} {X : am_X} {A : am_A} {F : List Int} (hh : isH q.2.2.1) (B : hB X) (BA : aB X A) {p : Nat} (hp : p < nP X) {bb : Bool} (hwf : wf (alw 3) true bb F) (hl : F.length + 1 ≤ 1600) {M : am_M} (H : cQs L q X A F M) (d : Nat) : ∃ M', am_cl 54 (d + 4) [.ref 2, .int (am_i (p : Int))] M = some (some (.long (am_l (sm (qv X A p F) (nF X)))), M') ∧ cQs L q X A F M' ∧ fr (fun b _ => 72 ≤ b ∧ b ≤ 74) M M' := by
  have hF8 := (hB_F B).2
  have lp : ∀ m n : Nat, n + m = nF X → ∀ {M}, cQs L q X A F M → ∀ v3, ∃ M', am_ev 54 (d + 4) 5 [.ref 2, .int (am_i (p : Int)), .long (am_l (sm (qv X A p F) n)), v3, .int (am_i (n : Int))] [] M = some (some (.long (am_l (sm (qv X A p F) (nF X)))), M') ∧ cQs L q X A F M' ∧ fr (fun b _ => 72 ≤ b ∧ b ≤ 74) M M' := by
    intro m
    induction m with
    | zero =>
      intro n hn M H v3
      have S := H.1
      refine ⟨M, ?_, H, fr_rfl _ _⟩
      rw [t54_5, am_ob_p (kk_2 S), rr_2_3 S, am_gr_p, am_ob_p (kk_63 S), rr_63_0 S, am_gr_p, am_ob_p (H_k0 S hh), H_r0_0 S hh, am_gr_p, am_ix_p (H_k1 S hh) (by omega) (by omega) (by omega), show (am_i 1).toNatClampNeg = 1 from am_i_ix (a := 1) (by decide) (by decide), c_nFilms H B, am_br_ge (by omega) (by omega) (by omega) (by omega), if_pos (by omega), show n = nF X by omega]
    | succ m ih =>
      intro n hn M H v3
      have S := H.1
      obtain ⟨M1, r1, H1, f1⟩ := cQs_value H hh B BA hp (show n < nF X by omega) hwf hl d
      have hv := qv_ok B BA hp (show n < nF X by omega) hwf
      obtain ⟨M2, r2, H2, f2⟩ := ih (n + 1) (by omega) H1 .null
      refine ⟨M2, ?_, H2, fr_tr f1 f2⟩
      rw [t54_5, am_ob_p (kk_2 S), rr_2_3 S, am_gr_p, am_ob_p (kk_63 S), rr_63_0 S, am_gr_p, am_ob_p (H_k0 S hh), H_r0_0 S hh, am_gr_p, am_ix_p (H_k1 S hh) (by omega) (by omega) (by omega), show (am_i 1).toNatClampNeg = 1 from am_i_ix (a := 1) (by decide) (by decide), c_nFilms H B, am_br_ge (by omega) (by omega) (by omega) (by omega), if_neg (by omega), am_ob_p (kk_2 S), am_gr_p, am_ob_p (kk_2 S), rr_2_0 S, am_gr_p, am_ob_p (kk_3 S), rr_3_4 S, am_gr_p, am_ob_p (kk_63 S), r1, am_bI_p, am_i2l (by omega) (by omega), am_l_add, am_i_add]
      exact r2
  obtain ⟨M', r, H', f'⟩ := lp (nF X) 0 (by omega) H .null
  refine ⟨M', ?_, H', f'⟩
  rw [t54]
  exact r
theorem c_extremeOf {L : Nat} {q : am_Pq} {X : am_X} {A : am_A} {F : List Int} (hh : isH q.2.2.1) (B : hB X) (BA : aB X A) {p : Nat} (hp : p < nP X) {bb : Bool} (hwf : wf (alw 3) true bb F) (hl : F.length + 1 ≤ 1600) {gr : Int} (hg : gr = 0 ∨ gr = 1) {M : am_M} (H : cQs L q X A F M) (d : Nat) : ∃ M', am_cl 55 (d + 4) [.ref 2, .int (am_i (p : Int)), .int (am_i gr)] M = some (some (.long (am_l (rA (5 - gr) (qv X A p F) (nF X)))), M') ∧ cQs L q X A F M' ∧ fr (fun b _ => 72 ≤ b ∧ b ≤ 74) M M' := by
  have hF8 := (hB_F B).2
  have hvb : ∀ f, f < nF X → -1000000 ≤ qv X A p F f ∧ qv X A p F f ≤ 1000000 := fun f hf => by
    have := qv_ok B BA hp hf hwf
    exact ⟨this.1, this.2.1⟩
  have lp : ∀ m n : Nat, n + m = nF X → ∀ {M}, cQs L q X A F M → ∀ v5, ∃ M', am_ev 55 (d + 4) 5 [.ref 2, .int (am_i (p : Int)), .int (am_i gr), .int (am_i (rA (5 - gr) (qv X A p F) n)), .int (am_i (n : Int)), v5] [] M = some (some (.long (am_l (rA (5 - gr) (qv X A p F) (nF X)))), M') ∧ cQs L q X A F M' ∧ fr (fun b _ => 72 ≤ b ∧ b ≤ 74) M M' := by
    intro m
    induction m with
    | zero =>
      intro n hn M H v5
      have S := H.1
      have hb := rA_bd (5 - gr) (by omega) n (fun f hf => hvb f (by omega))
      refine ⟨M, ?_, H, fr_rfl _ _⟩
      rw [t55_5, am_ob_p (kk_2 S), rr_2_3 S, am_gr_p, am_ob_p (kk_63 S), rr_63_0 S, am_gr_p, am_ob_p (H_k0 S hh), H_r0_0 S hh, am_gr_p, am_ix_p (H_k1 S hh) (by omega) (by omega) (by omega), show (am_i 1).toNatClampNeg = 1 from am_i_ix (a := 1) (by decide) (by decide), c_nFilms H B, am_br_ge (by omega) (by omega) (by omega) (by omega), if_pos (by omega), am_i2l (by omega) (by omega), show n = nF X by omega]
    | succ m ih =>
      intro n hn M H v5
      have S := H.1
      have hb := rA_bd (5 - gr) (by omega) n (fun f hf => hvb f (by omega))
      obtain ⟨M1, r1, H1, f1⟩ := cQs_value H hh B BA hp (show n < nF X by omega) hwf hl d
      have hv := hvb n (by omega)
      obtain ⟨M2, r2, H2, f2⟩ := ih (n + 1) (by omega) H1 (.int (am_i (qv X A p F n)))
      refine ⟨M2, ?_, H2, fr_tr f1 f2⟩
      rw [t55_5, am_ob_p (kk_2 S), rr_2_3 S, am_gr_p, am_ob_p (kk_63 S), rr_63_0 S, am_gr_p, am_ob_p (H_k0 S hh), H_r0_0 S hh, am_gr_p, am_ix_p (H_k1 S hh) (by omega) (by omega) (by omega), show (am_i 1).toNatClampNeg = 1 from am_i_ix (a := 1) (by decide) (by decide), c_nFilms H B, am_br_ge (by omega) (by omega) (by omega) (by omega), if_neg (by omega), am_ob_p (kk_2 S), am_gr_p, am_ob_p (kk_2 S), rr_2_0 S, am_gr_p, am_ob_p (kk_3 S), rr_3_4 S, am_gr_p, am_ob_p (kk_63 S), r1, am_bI_p, am_i_add, am_br_eq (by omega) (by omega) (by omega) (by omega), am_br_eq (by omega) (by omega) (by omega) (by omega), am_br_ge (by omega) (by omega) (by omega) (by omega), am_br_le (by omega) (by omega) (by omega) (by omega)]
      have e1 : ((n + 1 : Nat) : Int) = (n : Int) + 1 := by omega
      rw [e1] at r2
      rcases hg with e | e
      · subst e
        rw [show rA (5 - 0) (qv X A p F) (n + 1) = if n = 0 ∨ qv X A p F n < rA (5 - 0) (qv X A p F) n then qv X A p F n else rA (5 - 0) (qv X A p F) n from rfl] at r2
        by_cases g1 : (n : Int) = 0
        · rw [if_pos g1]
          rw [if_pos (Or.inl (by omega))] at r2
          exact r2
        · rw [if_neg g1, if_pos rfl]
          by_cases g2 : rA (5 - 0) (qv X A p F) n ≤ qv X A p F n
          · rw [if_pos g2]
            rw [if_neg (by omega)] at r2
            exact r2
          · rw [if_neg g2]
            rw [if_pos (by omega)] at r2
            exact r2
      · subst e
        rw [show rA (5 - 1) (qv X A p F) (n + 1) = if n = 0 ∨ rA (5 - 1) (qv X A p F) n < qv X A p F n then qv X A p F n else rA (5 - 1) (qv X A p F) n from rfl] at r2
        by_cases g1 : (n : Int) = 0
        · rw [if_pos g1]
          rw [if_pos (Or.inl (by omega))] at r2
          exact r2
        · rw [if_neg g1, if_neg (by decide)]
          by_cases g2 : qv X A p F n ≤ rA (5 - 1) (qv X A p F) n
          · rw [if_pos g2]
            rw [if_neg (by omega)] at r2
            exact r2
          · rw [if_neg g2]
            rw [if_pos (by omega)] at r2
            exact r2
  obtain ⟨M', r, H', f'⟩ := lp (nF X) 0 (by omega) H .null
  refine ⟨M', ?_, H', f'⟩
  have e0 : rA (5 - gr) (qv X A p F) 0 = 0 := if_neg (by omega)
  rw [e0] at r
  rw [t55]
  exact r
