/-! A sofa. -/
def bitn (P : Int) (p : Nat) : Int := P / ((2 ^ p : Nat) : Int) % 2
theorem bitn_01 (P : Int) (p : Nat) : bitn P p = 0 ∨ bitn P p = 1 := by unfold bitn; omega
def fmw (X : am_X) (p : Nat) : Nat → Int
  | 0 => -1
  | n + 1 => if fmw X p n = -1 ∨ worth X p (fmw X p n).toNat < worth X p n then (n : Int) else fmw X p n
theorem fmw_bd (X : am_X) (p : Nat) : ∀ n, -1 ≤ fmw X p n ∧ fmw X p n < n ∧ (0 < n → 0 ≤ fmw X p n)
  | 0 => by show (-1 : Int) ≤ -1 ∧ (-1 : Int) < ((0 : Nat) : Int) ∧ (0 < 0 → (0 : Int) ≤ -1); omega
  | n + 1 => by
    have ih := fmw_bd X p n
    unfold fmw
    split <;> omega
def sofS (X : am_X) (P : Int) (f n : Nat) : Int := sm (fun p => if bitn P p = 1 then worth X p f else 0) n
def sofL (X : am_X) (P : Int) (f : Nat) : Nat → Int
  | 0 => -1
  | n + 1 => if bitn P n = 1 then (if sofL X P f n = -1 then worth X n f else if worth X n f < sofL X P f n then worth X n f else sofL X P f n) else sofL X P f n
def sofV (X : am_X) (P : Int) (f n : Nat) : Int := sm (fun p => if bitn P p = 1 ∧ fmw X p (nF X) = f then 1 else 0) n
def sofW (X : am_X) (P : Int) (rule : Int) (f : Nat) : Int := if rule = 0 then sofS X P f (nP X) else if rule = 1 then sofL X P f (nP X) else sofV X P f (nP X)
def sofk (X : am_X) (P : Int) (rule : Int) : Nat → Nat → Int → Int
  | 0, _, best => best
  | m + 1, f, best => sofk X P rule m (f + 1) (if best = -1 ∨ sofW X P rule best.toNat < sofW X P rule f then (f : Int) else best)
theorem sofS_bd {X : am_X} (B : hB X) (P : Int) {f : Nat} (hf : f < nF X) {n : Nat} (hn : n ≤ nP X) : 0 ≤ sofS X P f n ∧ sofS X P f n ≤ n * 486 := sm_bd (fun p hp => by
  have := worth_bd B (p := p) (by omega) hf
  split <;> omega)
theorem sofL_bd {X : am_X} (B : hB X) (P : Int) {f : Nat} (hf : f < nF X) : ∀ n, n ≤ nP X → -1 ≤ sofL X P f n ∧ sofL X P f n ≤ 486
  | 0, _ => by show (-1 : Int) ≤ -1 ∧ (-1 : Int) ≤ 486; omega
  | n + 1, h => by
    have ih := sofL_bd B P hf n (by omega)
    have bw := worth_bd B (p := n) (by omega) hf
    unfold sofL
    split
    · split
      · omega
      · split <;> omega
    · exact ih
theorem sofV_bd (X : am_X) (P : Int) (f n : Nat) : 0 ≤ sofV X P f n ∧ sofV X P f n ≤ n * 1 := sm_bd (fun p _ => by split <;> omega)
theorem sofW_bd {X : am_X} (B : hB X) (P : Int) (rule : Int) {f : Nat} (hf : f < nF X) : -1 ≤ sofW X P rule f ∧ sofW X P rule f ≤ 2430 := by
  have hP5 := (hB_P B).2
  have h1 := sofS_bd B P hf (Nat.le_refl (nP X))
  have h2 := sofL_bd B P hf (nP X) (Nat.le_refl _)
  have h3 := sofV_bd X P f (nP X)
  unfold sofW
  split
  · omega
  · split <;> omega
theorem c_fmw {L : Nat} {q : am_Pq} {M : am_M} {h : Nat} (S : am_Sh L q M) (hh : isH h) {X : am_X} (HX : cH M h X) (B : hB X) {p : Nat} (hp : p < nP X) (d : Nat) : am_cl 89 (d + 1) [.ref h, .int (am_i p)] M = some (some (.int (am_i (fmw X p (nF X)))), M) := by
  have hF8 := hB_F B
  have e1 := HX.1 1 (by decide)
  have key : ∀ m n : Nat, n + m = nF X → ∀ (mo : Int) (v5 : Value), (fmw X p n ≠ -1 → mo = worth X p (fmw X p n).toNat) → -1 ≤ mo → mo ≤ 486 → am_ev 89 (d + 1) 7 [.ref h, .int (am_i p), .int (am_i (fmw X p n)), .int (am_i mo), .int (am_i n), v5] [] M = some (some (.int (am_i (fmw X p (nF X)))), M) := by
    intro m
    induction m with
    | zero =>
      intro n hn mo v5 h1 h2 h3
      have : n = nF X := by omega
      subst this
      rw [t89_7]
      simp (disch := omega) only [am_ob_p (H_k0 S hh), am_ix_p (H_k1 S hh), am_iw_p (H_k1 S hh), am_ix_p (H_k6 S hh), am_iw_p (H_k6 S hh), am_ix_p (H_k16 S hh), am_iw_p (H_k16 S hh), am_ix_p (H_k17 S hh), am_iw_p (H_k17 S hh), am_ix_p (H_k24 S hh), am_iw_p (H_k24 S hh), H_r0_0 S hh, H_r0_1 S hh, H_r0_2 S hh, H_r0_3 S hh, H_r0_4 S hh, H_r0_5 S hh, H_r0_6 S hh, H_r0_15 S hh, H_r2 S hh, H_r7 S hh, H_r18 S hh, am_iq_p (H_k2 S hh), am_iq_p (H_k7 S hh), am_iq_p (H_k18 S hh), am_gr_p, am_i_ix, Int.toNat_one, e1, am_br_ge]
      rw [if_pos (by omega)]
    | succ m ih =>
      intro n hn mo v5 h1 h2 h3
      have hnF : n < nF X := by omega
      have bw := worth_bd B hp hnF
      have bf := fmw_bd X p n
      have e : fmw X p (n + 1) = if fmw X p n = -1 ∨ worth X p (fmw X p n).toNat < worth X p n then (n : Int) else fmw X p n := rfl
      rw [t89_7]
      simp (disch := omega) only [am_ob_p (H_k0 S hh), am_ix_p (H_k1 S hh), am_iw_p (H_k1 S hh), am_ix_p (H_k6 S hh), am_iw_p (H_k6 S hh), am_ix_p (H_k16 S hh), am_iw_p (H_k16 S hh), am_ix_p (H_k17 S hh), am_iw_p (H_k17 S hh), am_ix_p (H_k24 S hh), am_iw_p (H_k24 S hh), H_r0_0 S hh, H_r0_1 S hh, H_r0_2 S hh, H_r0_3 S hh, H_r0_4 S hh, H_r0_5 S hh, H_r0_6 S hh, H_r0_15 S hh, H_r2 S hh, H_r7 S hh, H_r18 S hh, am_iq_p (H_k2 S hh), am_iq_p (H_k7 S hh), am_iq_p (H_k18 S hh), am_gr_p, am_i_ix, Int.toNat_one, e1, am_br_ge, c_worthOf S hh HX B hp hnF, am_bI_p, am_br_eq, am_br_le, am_i_add]
      rw [if_neg (by omega)]
      have tk : (fmw X p n = -1 ∨ worth X p (fmw X p n).toNat < worth X p n) → am_ev 89 (d + 1) 7 [.ref h, .int (am_i p), .int (am_i n), .int (am_i (worth X p n)), .int (am_i ((n : Int) + 1)), .int (am_i (worth X p n))] [] M = some (some (.int (am_i (fmw X p (nF X)))), M) := by
        intro g
        rw [if_pos g] at e
        have := ih (n + 1) (by omega) (worth X p n) (.int (am_i (worth X p n))) (fun _ => by rw [e, Int.toNat_natCast]) (by omega) (by omega)
        rw [e] at this
        exact this
      by_cases g : fmw X p n = -1
      · rw [if_pos g]
        exact tk (Or.inl g)
      · rw [if_neg g]
        have hm := h1 g
        by_cases g2 : worth X p n ≤ mo
        · rw [if_pos g2]
          rw [if_neg (by omega)] at e
          have := ih (n + 1) (by omega) mo (.int (am_i (worth X p n))) (fun _ => by rw [e]; exact hm) h2 h3
          rw [e] at this
          exact this
        · rw [if_neg g2]
          exact tk (Or.inr (by omega))
  rw [t89]
  exact key (nF X) 0 (by omega) 0 .null (fun h => absurd rfl h) (by omega) (by omega)
theorem m_firstOf {L : Nat} {q : am_Pq} {M : am_M} (S : am_Sh L q M) {X : am_X} (HX : mH M X) (B : hB X) {p : Nat} (hp : p < nP X) (hF0 : 0 < nF X) (d : Nat) : am_cl 213 (d + 2) [.ref 187, .int (am_i p)] M = some (some (.int (am_i (fmw X p (nF X)))), M) := by
  have hF8 := hB_F B
  have key : ∀ m n : Nat, n + m = nF X → 0 < n → am_ev 213 (d + 2) 4 [.ref 187, .int (am_i p), .int (am_i (fmw X p n)), .int (am_i n)] [] M = some (some (.int (am_i (fmw X p (nF X)))), M) := by
    intro m
    induction m with
    | zero =>
      intro n hn h0
      have : n = nF X := by omega
      subst this
      rw [t213_4, am_ob_p (kk_187 S), m_filmMany S HX, am_bI_p, am_br_ge (by omega) (by omega) (by omega) (by omega), if_pos (by omega)]
    | succ m ih =>
      intro n hn h0
      have hnF : n < nF X := by omega
      have bf := fmw_bd X p n
      obtain ⟨g, hg⟩ : ∃ g : Nat, fmw X p n = g := ⟨(fmw X p n).toNat, by omega⟩
      have hgF : g < nF X := by omega
      have bw := worth_bd B hp hnF
      have bw2 := worth_bd B hp hgF
      have e : fmw X p (n + 1) = if fmw X p n = -1 ∨ worth X p (fmw X p n).toNat < worth X p n then (n : Int) else fmw X p n := rfl
      have ih' := ih (n + 1) (by omega) (by omega)
      rw [e, hg, Int.toNat_natCast] at ih'
      rw [t213_4, hg, am_ob_p (kk_187 S), m_filmMany S HX, am_bI_p, am_br_ge (by omega) (by omega) (by omega) (by omega), if_neg (by omega), am_ob_p (kk_187 S), m_worthOf S HX B hp hnF, am_bI_p, am_ob_p (kk_187 S), m_worthOf S HX B hp hgF, am_bI_p, am_br_le (by omega) (by omega) (by omega) (by omega), am_i_add]
      by_cases g2 : worth X p n ≤ worth X p g
      · rw [if_pos g2]
        rw [if_neg (by omega)] at ih'
        exact ih'
      · rw [if_neg g2]
        rw [if_pos (by omega)] at ih'
        exact ih'
  rw [t213]
  have h1 : fmw X p 1 = 0 := if_pos (Or.inl rfl)
  have := key (nF X - 1) 1 (by omega) (by omega)
  rw [h1] at this
  exact this
theorem c_sofaWorth {L : Nat} {q : am_Pq} {M : am_M} (S : am_Sh L q M) (hh : isH q.2.2.1) {X : am_X} (HX : cH M q.2.2.1 X) (B : hB X) {P : Int} (h0 : 0 ≤ P) (h1 : P < 32) {f : Nat} (hf : f < nF X) {r : Int} (hr : r = 0 ∨ r = 1) (d : Nat) : am_cl 47 (d + 1) [.ref 2, .int (am_i P), .int (am_i f), .int (am_i r)] M = some (some (.int (am_i (sofW X P r f))), M) := by
  have hP5 := hB_P B
  have e2 := HX.1 2 (by decide)
  have key : ∀ m n : Nat, n + m = nP X → ∀ v7 : Value, am_ev 47 (d + 1) 9 [.ref 2, .int (am_i P), .int (am_i f), .int (am_i r), .int (am_i (sofS X P f n)), .int (am_i (sofL X P f n)), .int (am_i n), v7] [] M = some (some (.int (am_i (sofW X P r f))), M) := by
    intro m
    induction m with
    | zero =>
      intro n hn v7
      have : n = nP X := by omega
      subst this
      rw [t47_9]
      simp (disch := omega) only [am_ob_p (kk_2 S), rr_2_3 S, am_gr_p, am_ob_p (kk_63 S), rr_63_0 S, am_ob_p (H_k0 S hh), am_ix_p (H_k1 S hh), am_iw_p (H_k1 S hh), am_ix_p (H_k6 S hh), am_iw_p (H_k6 S hh), am_ix_p (H_k16 S hh), am_iw_p (H_k16 S hh), am_ix_p (H_k17 S hh), am_iw_p (H_k17 S hh), am_ix_p (H_k24 S hh), am_iw_p (H_k24 S hh), H_r0_0 S hh, H_r0_1 S hh, H_r0_2 S hh, H_r0_3 S hh, H_r0_4 S hh, H_r0_5 S hh, H_r0_6 S hh, H_r0_15 S hh, H_r2 S hh, H_r7 S hh, H_r18 S hh, am_iq_p (H_k2 S hh), am_iq_p (H_k7 S hh), am_iq_p (H_k18 S hh), am_i_ix, Int.reduceToNat, e2, am_br_ge, am_br_eq]
      rw [if_pos (by omega)]
      unfold sofW
      rcases hr with rfl | rfl
      · rw [if_pos rfl, if_pos rfl]
      · rw [if_neg (by omega), if_neg (by omega), if_pos rfl]
    | succ m ih =>
      intro n hn v7
      have hnP : n < nP X := by omega
      have eb := bit_p h0 h1 (show n < 5 by omega)
      have b01 := bitn_01 P n
      have eb' : P / ((2 ^ n : Nat) : Int) % 2 = bitn P n := rfl
      have bw := worth_bd B hnP hf
      have bL := sofL_bd B P hf n (by omega)
      have eS : sofS X P f (n + 1) = sofS X P f n + (if bitn P n = 1 then worth X n f else 0) := rfl
      have eL : sofL X P f (n + 1) = if bitn P n = 1 then (if sofL X P f n = -1 then worth X n f else if worth X n f < sofL X P f n then worth X n f else sofL X P f n) else sofL X P f n := rfl
      rw [t47_9]
      simp (disch := omega) only [am_ob_p (kk_2 S), rr_2_3 S, am_gr_p, am_ob_p (kk_63 S), rr_63_0 S, am_ob_p (H_k0 S hh), am_ix_p (H_k1 S hh), am_iw_p (H_k1 S hh), am_ix_p (H_k6 S hh), am_iw_p (H_k6 S hh), am_ix_p (H_k16 S hh), am_iw_p (H_k16 S hh), am_ix_p (H_k17 S hh), am_iw_p (H_k17 S hh), am_ix_p (H_k24 S hh), am_iw_p (H_k24 S hh), H_r0_0 S hh, H_r0_1 S hh, H_r0_2 S hh, H_r0_3 S hh, H_r0_4 S hh, H_r0_5 S hh, H_r0_6 S hh, H_r0_15 S hh, H_r2 S hh, H_r7 S hh, H_r18 S hh, am_iq_p (H_k2 S hh), am_iq_p (H_k7 S hh), am_iq_p (H_k18 S hh), am_i_ix, Int.reduceToNat, e2, am_br_ge, eb, eb', am_br_ne]
      rw [if_neg (by omega)]
      by_cases g : bitn P n = 1
      · rw [if_pos g, c_worthOf S hh HX B hnP hf, am_bI_p]
        have := ih (n + 1) (by omega) (.int (am_i (worth X n f)))
        rw [eS, eL, if_pos g, if_pos g] at this
        by_cases g2 : sofL X P f n = -1
        · rw [if_pos g2] at this ⊢
          rw [am_i_add, am_i_add]
          exact this
        · rw [if_neg g2] at this ⊢
          rw [j_minI (by omega) (by omega) (by omega) (by omega), am_bI_p, am_i_add, am_i_add]
          exact this
      · rw [if_neg g, am_i_add]
        have := ih (n + 1) (by omega) v7
        rw [eS, eL, if_neg g, if_neg g, Int.add_zero] at this
        exact this
  rw [t47]
  exact key (nP X) 0 (by omega) .null
theorem m_byRule {L : Nat} {q : am_Pq} {M : am_M} (S : am_Sh L q M) {X : am_X} (HX : mH M X) (B : hB X) {P : Int} (h0 : 0 ≤ P) (h1 : P < 32) {f : Nat} (hf : f < nF X) {r : Int} (hr : 0 ≤ r) (hr2 : r ≤ 2) (d : Nat) : am_cl 214 (d + 3) [.ref 187, .int (am_i P), .int (am_i f), .int (am_i r)] M = some (some (.int (am_i (sofW X P r f))), M) := by
  have hP5 := hB_P B
  have hF8 := hB_F B
  have key : ∀ m n : Nat, n + m = nP X → ∀ v8 : Value, am_ev 214 (d + 3) 12 [.ref 187, .int (am_i P), .int (am_i f), .int (am_i r), .int (am_i (sofS X P f n)), .int (am_i (sofL X P f n)), .int (am_i (sofV X P f n)), .int (am_i n), v8] [] M = some (some (.int (am_i (sofW X P r f))), M) := by
    intro m
    induction m with
    | zero =>
      intro n hn v8
      have : n = nP X := by omega
      subst this
      rw [t214_12, am_ob_p (kk_187 S), m_personMany S HX, am_bI_p, am_br_ge (by omega) (by omega) (by omega) (by omega), if_pos (by omega), am_br_ne (by omega) (by omega) (by omega) (by omega), am_br_ne (by omega) (by omega) (by omega) (by omega)]
      unfold sofW
      by_cases g : r = 0
      · rw [if_pos g, if_pos g]
      · rw [if_neg g, if_neg g]
        by_cases g2 : r = 1
        · rw [if_pos g2, if_pos g2]
        · rw [if_neg g2, if_neg g2]
    | succ m ih =>
      intro n hn v8
      have hnP : n < nP X := by omega
      have eb := bit_p h0 h1 (show n < 5 by omega)
      have b01 := bitn_01 P n
      have eb' : P / ((2 ^ n : Nat) : Int) % 2 = bitn P n := rfl
      have bw := worth_bd B hnP hf
      have bL := sofL_bd B P hf n (by omega)
      have bf := fmw_bd X n (nF X)
      have eS : sofS X P f (n + 1) = sofS X P f n + (if bitn P n = 1 then worth X n f else 0) := rfl
      have eL : sofL X P f (n + 1) = if bitn P n = 1 then (if sofL X P f n = -1 then worth X n f else if worth X n f < sofL X P f n then worth X n f else sofL X P f n) else sofL X P f n := rfl
      have eV : sofV X P f (n + 1) = sofV X P f n + (if bitn P n = 1 ∧ fmw X n (nF X) = f then 1 else 0) := rfl
      have ih' := ih (n + 1) (by omega)
      rw [eS, eL, eV] at ih'
      rw [t214_12, am_ob_p (kk_187 S), m_personMany S HX, am_bI_p, am_br_ge (by omega) (by omega) (by omega) (by omega), if_neg (by omega), eb, eb', am_br_ne (by omega) (by omega) (by omega) (by omega)]
      by_cases g : bitn P n = 1
      · rw [if_pos g, if_pos g] at ih'
        -- behind the least
        have votes : ∀ (v : Int) (v5 : Value), v = (if sofL X P f n = -1 then worth X n f else if worth X n f < sofL X P f n then worth X n f else sofL X P f n) → am_ev 214 (d + 3) 12 [.ref 187, .int (am_i P), .int (am_i f), .int (am_i r), .int (am_i (sofS X P f n + worth X n f)), .int (am_i v), .int (am_i (sofV X P f n + if fmw X n (nF X) = f then 1 else 0)), .int (am_i ((n : Int) + 1)), v5] [] M = some (some (.int (am_i (sofW X P r f))), M) := by
          intro v v5 hv
          have := ih' v5
          rw [← hv] at this
          by_cases g3 : fmw X n (nF X) = f
          · rw [if_pos ⟨g, g3⟩] at this
            rw [if_pos g3]
            exact this
          · rw [if_neg (fun h => g3 h.2)] at this
            rw [if_neg g3]
            exact this
        rw [if_neg (by omega), am_ob_p (kk_187 S), m_worthOf S HX B hnP hf, am_bI_p, am_br_eq (by omega) (by omega) (by omega) (by omega), am_i_add]
        have at62 : ∀ v5 : Value, (sofL X P f n = -1 ∨ worth X n f < sofL X P f n) → am_ev 214 (d + 3) 62 [.ref 187, .int (am_i P), .int (am_i f), .int (am_i r), .int (am_i (sofS X P f n + worth X n f)), v5, .int (am_i (sofV X P f n)), .int (am_i n), .int (am_i (worth X n f))] [] M = some (some (.int (am_i (sofW X P r f))), M) := by
          intro v5 g2
          have hv : worth X n f = (if sofL X P f n = -1 then worth X n f else if worth X n f < sofL X P f n then worth X n f else sofL X P f n) := by
            by_cases g3 : sofL X P f n = -1
            · rw [if_pos g3]
            · rw [if_neg g3, if_pos (g2.resolve_left g3)]
          have vv := votes _ (.int (am_i (worth X n f))) hv
          rw [t214_62, am_ob_p (kk_187 S), m_firstOf S HX B hnP (by omega), am_bI_p, am_br_ne (by omega) (by omega) (by omega) (by omega), am_i_add, am_i_add]
          by_cases g3 : fmw X n (nF X) = f
          · rw [if_pos g3]
            rw [if_pos g3] at vv
            exact vv
          · rw [if_neg g3]
            rw [if_neg g3, Int.add_zero] at vv
            exact vv
        by_cases g2 : sofL X P f n = -1
        · rw [if_pos g2]
          exact at62 _ (Or.inl g2)
        · rw [if_neg g2, am_br_ge (by omega) (by omega) (by omega) (by omega)]
          by_cases g3 : sofL X P f n ≤ worth X n f
          · have hv : sofL X P f n = (if sofL X P f n = -1 then worth X n f else if worth X n f < sofL X P f n then worth X n f else sofL X P f n) := by
              rw [if_neg g2, if_neg (by omega)]
            have vv := votes _ (.int (am_i (worth X n f))) hv
            rw [if_pos g3, am_ob_p (kk_187 S), m_firstOf S HX B hnP (by omega), am_bI_p, am_br_ne (by omega) (by omega) (by omega) (by omega), am_i_add, am_i_add]
            by_cases g4 : fmw X n (nF X) = f
            · rw [if_pos g4]
              rw [if_pos g4] at vv
              exact vv
            · rw [if_neg g4]
              rw [if_neg g4, Int.add_zero] at vv
              exact vv
          · rw [if_neg g3]
            exact at62 _ (Or.inr (by omega))
      · rw [if_neg g, if_neg g, if_neg (fun h => g h.1), Int.add_zero, Int.add_zero] at ih'
        rw [if_pos (by omega), am_i_add]
        exact ih' v8
  rw [t214]
  exact key (nP X) 0 (by omega) .null
theorem c_countVotes {L : Nat} {q : am_Pq} {M : am_M} (S : am_Sh L q M) (hq : qok q) {X : am_X} (HX : cH M q.2.2.1 X) (B : hB X) {P : Int} (h0 : 0 ≤ P) (h1 : P < 32) (d : Nat) :
    ∃ M', am_cl 48 (d + 2) [.ref 2, .int (am_i P)] M = some (none, M') ∧ am_Sh L q M' ∧ fr (fun b _ => b = 36) M M' ∧ ∀ f, f < nF X → am_I M' 36 f = am_i (sofV X P f (nP X)) := by
  have hh := qok_h hq
  have hh' : q.2.2.1 = 4 ∨ q.2.2.1 = 38 := hh
  have hP5 := hB_P B
  have hF8 := hB_F B
  have key : ∀ m n : Nat, n + m = nP X → ∀ (M1 : am_M) (v3 : Value), am_Sh L q M1 → fr (fun b _ => b = 36) M M1 → (∀ f, f < 8 → am_I M1 36 f = am_i (sofV X P f n)) →
      ∃ M', am_ev 48 (d + 2) 23 [.ref 2, .int (am_i P), .int (am_i n), v3] [] M1 = some (none, M') ∧ am_Sh L q M' ∧ fr (fun b _ => b = 36) M M' ∧ ∀ f, f < nF X → am_I M' 36 f = am_i (sofV X P f (nP X)) := by
    intro m
    induction m with
    | zero =>
      intro n hn M1 v3 S1 f1 hI
      have : n = nP X := by omega
      subst this
      have HX1 := cH_mv (M' := M1) HX B (fun b k k1 k2 => (f1 b k (by omega)).1)
      have e2 := HX1.1 2 (by decide)
      refine ⟨M1, ?_, S1, f1, fun f hf => hI f (by omega)⟩
      rw [t48_23]
      simp (disch := omega) only [am_ob_p (kk_2 S1), rr_2_3 S1, am_gr_p, am_ob_p (kk_63 S1), rr_63_0 S1, am_ob_p (H_k0 S1 hh), am_ix_p (H_k1 S1 hh), am_iw_p (H_k1 S1 hh), am_ix_p (H_k6 S1 hh), am_iw_p (H_k6 S1 hh), am_ix_p (H_k16 S1 hh), am_iw_p (H_k16 S1 hh), am_ix_p (H_k17 S1 hh), am_iw_p (H_k17 S1 hh), am_ix_p (H_k24 S1 hh), am_iw_p (H_k24 S1 hh), H_r0_0 S1 hh, H_r0_1 S1 hh, H_r0_2 S1 hh, H_r0_3 S1 hh, H_r0_4 S1 hh, H_r0_5 S1 hh, H_r0_6 S1 hh, H_r0_15 S1 hh, H_r2 S1 hh, H_r7 S1 hh, H_r18 S1 hh, am_iq_p (H_k2 S1 hh), am_iq_p (H_k7 S1 hh), am_iq_p (H_k18 S1 hh), am_i_ix, Int.reduceToNat, e2, am_br_ge]
      rw [if_pos (by omega)]
    | succ m ih =>
      intro n hn M1 v3 S1 f1 hI
      have hnP : n < nP X := by omega
      have HX1 := cH_mv (M' := M1) HX B (fun b k k1 k2 => (f1 b k (by omega)).1)
      have e2 := HX1.1 2 (by decide)
      have eb := bit_p h0 h1 (show n < 5 by omega)
      have b01 := bitn_01 P n
      have eb' : P / ((2 ^ n : Nat) : Int) % 2 = bitn P n := rfl
      have bf := fmw_bd X n (nF X)
      have eV : ∀ f : Nat, sofV X P f (n + 1) = sofV X P f n + (if bitn P n = 1 ∧ fmw X n (nF X) = f then 1 else 0) := fun f => rfl
      rw [t48_23]
      simp (disch := omega) only [am_ob_p (kk_2 S1), rr_2_3 S1, am_gr_p, am_ob_p (kk_63 S1), rr_63_0 S1, am_ob_p (H_k0 S1 hh), am_ix_p (H_k1 S1 hh), am_iw_p (H_k1 S1 hh), am_ix_p (H_k6 S1 hh), am_iw_p (H_k6 S1 hh), am_ix_p (H_k16 S1 hh), am_iw_p (H_k16 S1 hh), am_ix_p (H_k17 S1 hh), am_iw_p (H_k17 S1 hh), am_ix_p (H_k24 S1 hh), am_iw_p (H_k24 S1 hh), H_r0_0 S1 hh, H_r0_1 S1 hh, H_r0_2 S1 hh, H_r0_3 S1 hh, H_r0_4 S1 hh, H_r0_5 S1 hh, H_r0_6 S1 hh, H_r0_15 S1 hh, H_r2 S1 hh, H_r7 S1 hh, H_r18 S1 hh, am_iq_p (H_k2 S1 hh), am_iq_p (H_k7 S1 hh), am_iq_p (H_k18 S1 hh), am_i_ix, Int.reduceToNat, e2, am_br_ge, eb, eb', am_br_ne]
      rw [if_neg (by omega)]
      -- none is counted
      have skip : ∀ v3 : Value, ¬ (bitn P n = 1 ∧ 0 ≤ fmw X n (nF X)) → ∃ M', am_ev 48 (d + 2) 63 [.ref 2, .int (am_i P), .int (am_i n), v3] [.int (am_i (-1))] M1 = some (none, M') ∧ am_Sh L q M' ∧ fr (fun b _ => b = 36) M M' ∧ ∀ f, f < nF X → am_I M' 36 f = am_i (sofV X P f (nP X)) := by
        intro v3 g
        obtain ⟨M', r, hR⟩ := ih (n + 1) (by omega) M1 (.int (am_i (-1))) S1 f1 (fun f hf => by
          rw [eV, if_neg (fun h => g ⟨h.1, by omega⟩), Int.add_zero]
          exact hI f hf)
        refine ⟨M', ?_, hR⟩
        rw [t48_63]
        simp (disch := omega) only [am_br_eq, am_i_add]
        rw [if_pos trivial]
        exact r
      by_cases g : bitn P n = 1
      · rw [if_pos g, c_fmw S1 hh HX1 B hnP, am_bI_p]
        by_cases g2 : fmw X n (nF X) = -1
        · rw [g2]
          exact skip v3 (fun h => by omega)
        · obtain ⟨k, hk⟩ : ∃ k : Nat, fmw X n (nF X) = k := ⟨(fmw X n (nF X)).toNat, by omega⟩
          rw [hk] at g2 bf ⊢
          have ek := hI k (by omega)
          obtain ⟨M', r, hR⟩ := ih (n + 1) (by omega) (am_sI M1 36 k (am_i (sofV X P k n + 1))) (.int (am_i (k : Int))) (S1.sI _ _ _) (fr_tr f1 (fr_sI rfl)) (fun f hf => by
            rw [eV, hk]
            by_cases g3 : f = k
            · subst g3
              rw [am_I_same, if_pos ⟨g, rfl⟩]
            · rw [am_I_ne2 g3, if_neg (fun h => g3 (by omega)), Int.add_zero]
              exact hI f hf)
          refine ⟨M', ?_, hR⟩
          rw [t48_63, am_br_eq (by omega) (by omega) (by omega) (by omega), if_neg g2]
          simp (disch := omega) only [am_ob_p (kk_2 S1), rr_2_13 S1, am_gr_p, am_ix_p (kk_36 S1), am_iw_p (kk_36 S1), am_i_ix, Int.toNat_natCast, ek, am_i_add, am_lt]
          exact r
      · rw [if_neg g]
        exact skip v3 (fun h => g h.1)
  have zero : ∀ m n : Nat, n + m = 8 → ∀ (M1 : am_M) (v3 : Value), am_Sh L q M1 → fr (fun b _ => b = 36) M M1 → (∀ f, f < n → am_I M1 36 f = am_i 0) →
      ∃ M', am_ev 48 (d + 2) 2 [.ref 2, .int (am_i P), .int (am_i n), v3] [] M1 = am_ev 48 (d + 2) 23 [.ref 2, .int (am_i P), .int (am_i 0), v3] [] M' ∧ am_Sh L q M' ∧ fr (fun b _ => b = 36) M M' ∧ ∀ f, f < 8 → am_I M' 36 f = am_i 0 := by
    intro m
    induction m with
    | zero =>
      intro n hn M1 v3 S1 f1 hI
      refine ⟨M1, ?_, S1, f1, fun f hf => hI f (by omega)⟩
      rw [t48_2, am_br_ge (by omega) (by omega) (by omega) (by omega), if_pos (by omega)]
    | succ m ih =>
      intro n hn M1 v3 S1 f1 hI
      obtain ⟨M', r, hR⟩ := ih (n + 1) (by omega) (am_sI M1 36 n (am_i 0)) v3 (S1.sI _ _ _) (fr_tr f1 (fr_sI rfl)) (fun f hf => by
        by_cases g : f = n
        · subst g; rw [am_I_same]
        · rw [am_I_ne2 g]; exact hI f (by omega))
      refine ⟨M', ?_, hR⟩
      rw [t48_2, am_br_ge (by omega) (by omega) (by omega) (by omega), if_neg (by omega)]
      simp (disch := omega) only [am_ob_p (kk_2 S1), rr_2_13 S1, am_gr_p, am_iw_p (kk_36 S1), am_i_ix, Int.toNat_natCast, am_lt, am_i_add]
      exact r
  obtain ⟨M1, r1, S1, f1, hI⟩ := zero 8 0 (by omega) M .null S (fr_rfl _ _) (fun f hf => absurd hf (by omega))
  obtain ⟨M', r, hR⟩ := key (nP X) 0 (by omega) M1 .null S1 f1 (fun f hf => hI f hf)
  refine ⟨M', ?_, hR⟩
  rw [t48]
  exact r1.trans r
theorem call_sofa {L : Nat} {xs : Nat → Int32} {M : am_M} {W : am_Wo} {b : Nat} (R : Rel L xs M W b) (x y : Int32) : Call L xs 22 215 [.int x, .int y] M b := by
  obtain ⟨q, hq, S, HC, HM, B, h0⟩ := R
  obtain ⟨z, rfl, z1, z2⟩ := int_of x
  obtain ⟨w, rfl, w1, w2⟩ := int_of y
  have hh := qok_h hq
  have hh' : q.2.2.1 = 4 ∨ q.2.2.1 = 38 := hh
  have B1 := B.1
  obtain ⟨hPP, hP5⟩ := hB_P B1
  have hF8 := hB_F B1
  have h32 : 2 ^ nP (wX W) ≤ 2 ^ 5 := Nat.pow_le_pow_right (by decide) hP5
  have h0P : (1 : Int) ≤ ((2 ^ nP (wX W) : Nat) : Int) := by have : 0 < 2 ^ nP (wX W) := Nat.pow_pos (by decide); omega
  have e2 := HC.1.1 2 (by decide)
  have esh := shl_1 hP5
  rw [hPP] at esh
  by_cases g : 1 ≤ z ∧ z < ((2 ^ nP (wX W) : Nat) : Int)
  · by_cases g2 : 0 ≤ w ∧ w ≤ 2
    · have hi1 : isin z 1 (((2 ^ nP (wX W) : Nat) : Int) - 1) = 1 := if_pos (by omega)
      have hi2 : isin w 0 2 = 1 := if_pos g2
      -- the class, once votes are counted where they count
      have clp : ∀ (M1 : am_M), am_Sh L q M1 → fr (fun b _ => b = 36) M M1 → (w = 2 → ∀ f, f < nF (wX W) → am_I M1 36 f = am_i (sofV (wX W) z f (nP (wX W)))) → ∀ m f : Nat, f + m = nF (wX W) → ∀ (best most : Int) (v6 : Value), -1 ≤ best → best < f → (best ≠ -1 → most = sofW (wX W) z w best.toNat) → -1 ≤ most → most ≤ 2430 →
          am_ev 22 599 52 [.ref 2, .int (am_i z), .int (am_i w), .int (am_i best), .int (am_i most), .int (am_i f), v6] [] M1 = some (some (.int (am_i (sofk (wX W) z w m f best))), M1) := by
        intro M1 S1 f1 hV m
        have HX1 := cH_mv (M' := M1) HC.1 B1 (fun b k k1 k2 => (f1 b k (by omega)).1)
        have e1 := HX1.1 1 (by decide)
        induction m with
        | zero =>
          intro f hf best most v6 hb1 hb2 hm hm1 hm2
          rw [t22_52]
          simp (disch := omega) only [am_ob_p (kk_2 S1), rr_2_3 S1, am_gr_p, am_ob_p (kk_63 S1), rr_63_0 S1, am_ob_p (H_k0 S1 hh), am_ix_p (H_k1 S1 hh), am_iw_p (H_k1 S1 hh), am_ix_p (H_k6 S1 hh), am_iw_p (H_k6 S1 hh), am_ix_p (H_k16 S1 hh), am_iw_p (H_k16 S1 hh), am_ix_p (H_k17 S1 hh), am_iw_p (H_k17 S1 hh), am_ix_p (H_k24 S1 hh), am_iw_p (H_k24 S1 hh), H_r0_0 S1 hh, H_r0_1 S1 hh, H_r0_2 S1 hh, H_r0_3 S1 hh, H_r0_4 S1 hh, H_r0_5 S1 hh, H_r0_6 S1 hh, H_r0_15 S1 hh, H_r2 S1 hh, H_r7 S1 hh, H_r18 S1 hh, am_iq_p (H_k2 S1 hh), am_iq_p (H_k7 S1 hh), am_iq_p (H_k18 S1 hh), am_i_ix, Int.toNat_one, e1, am_br_ge]
          rw [if_pos (by omega)]
          rfl
        | succ m ih =>
          intro f hf best most v6 hb1 hb2 hm hm1 hm2
          have hfF : f < nF (wX W) := by omega
          have bW := sofW_bd B1 z w hfF
          have ek : sofk (wX W) z w (m + 1) f best = sofk (wX W) z w m (f + 1) (if best = -1 ∨ sofW (wX W) z w best.toNat < sofW (wX W) z w f then (f : Int) else best) := rfl
          have at101 : am_ev 22 599 101 [.ref 2, .int (am_i z), .int (am_i w), .int (am_i best), .int (am_i most), .int (am_i f), v6] [.int (am_i (sofW (wX W) z w f))] M1 = some (some (.int (am_i (sofk (wX W) z w (m + 1) f best))), M1) := by
            have tk : (best = -1 ∨ sofW (wX W) z w best.toNat < sofW (wX W) z w f) → am_ev 22 599 52 [.ref 2, .int (am_i z), .int (am_i w), .int (am_i f), .int (am_i (sofW (wX W) z w f)), .int (am_i ((f : Int) + 1)), .int (am_i (sofW (wX W) z w f))] [] M1 = some (some (.int (am_i (sofk (wX W) z w (m + 1) f best))), M1) := by
              intro h
              rw [ek, if_pos h]
              exact ih (f + 1) (by omega) f (sofW (wX W) z w f) _ (by omega) (by omega) (fun _ => by rw [Int.toNat_natCast]) bW.1 bW.2
            rw [t22_101, am_br_eq (by omega) (by omega) (by omega) (by omega), am_br_le (by omega) (by omega) (by omega) (by omega), am_i_add]
            by_cases g3 : best = -1
            · rw [if_pos g3]
              exact tk (Or.inl g3)
            · rw [if_neg g3]
              have hmm := hm g3
              by_cases g4 : sofW (wX W) z w f ≤ most
              · rw [if_pos g4, ek, if_neg (by omega)]
                exact ih (f + 1) (by omega) best most _ hb1 (by omega) hm hm1 hm2
              · rw [if_neg g4]
                exact tk (Or.inr (by omega))
          rw [t22_52]
          simp (disch := omega) only [am_ob_p (kk_2 S1), rr_2_3 S1, am_gr_p, am_ob_p (kk_63 S1), rr_63_0 S1, am_ob_p (H_k0 S1 hh), am_ix_p (H_k1 S1 hh), am_iw_p (H_k1 S1 hh), am_ix_p (H_k6 S1 hh), am_iw_p (H_k6 S1 hh), am_ix_p (H_k16 S1 hh), am_iw_p (H_k16 S1 hh), am_ix_p (H_k17 S1 hh), am_iw_p (H_k17 S1 hh), am_ix_p (H_k24 S1 hh), am_iw_p (H_k24 S1 hh), H_r0_0 S1 hh, H_r0_1 S1 hh, H_r0_2 S1 hh, H_r0_3 S1 hh, H_r0_4 S1 hh, H_r0_5 S1 hh, H_r0_6 S1 hh, H_r0_15 S1 hh, H_r2 S1 hh, H_r7 S1 hh, H_r18 S1 hh, am_iq_p (H_k2 S1 hh), am_iq_p (H_k7 S1 hh), am_iq_p (H_k18 S1 hh), am_i_ix, Int.toNat_one, e1, am_br_ge, am_br_ne]
          rw [if_neg (by omega)]
          by_cases g3 : w = 2
          · have ev := hV g3 f hfF
            have es : sofV (wX W) z f (nP (wX W)) = sofW (wX W) z w f := by unfold sofW; rw [if_neg (by omega), if_neg (by omega)]
            rw [if_pos g3]
            simp (disch := omega) only [rr_2_13 S1, am_gr_p, am_ix_p (kk_36 S1), am_i_ix, Int.toNat_natCast, ev, es]
            exact at101
          · rw [if_neg g3]
            by_cases g4 : w = 1
            · rw [if_pos g4, c_sofaWorth S1 hh HX1 B1 (by omega) (by omega) hfF (Or.inr rfl), am_bI_p]
              rw [g4] at at101 ⊢
              exact at101
            · have g5 : w = 0 := by omega
              rw [if_neg g4, c_sofaWorth S1 hh HX1 B1 (by omega) (by omega) hfF (Or.inl rfl), am_bI_p]
              rw [g5] at at101 ⊢
              exact at101
      have count : ∃ M1, am_Sh L q M1 ∧ fr (fun b _ => b = 36) M M1 ∧ (am_cl 22 599 [.ref 2, .int (am_i z), .int (am_i w)] M = am_ev 22 599 52 [.ref 2, .int (am_i z), .int (am_i w), .int (am_i (-1)), .int (am_i 0), .int (am_i 0), .null] [] M1) ∧ (w = 2 → ∀ f, f < nF (wX W) → am_I M1 36 f = am_i (sofV (wX W) z f (nP (wX W)))) := by
        obtain ⟨M1, s1, S1, f1, hV⟩ := c_countVotes S hq HC.1 B1 (P := z) (by omega) (by omega) 596
        by_cases g3 : w = 2
        · refine ⟨M1, S1, f1, ?_, fun _ => hV⟩
          rw [t22, am_br_lt (by omega) (by omega) (by omega) (by omega), if_neg (by omega)]
          simp (disch := omega) only [am_ob_p (kk_2 S), rr_2_3 S, am_gr_p, am_ob_p (kk_63 S), rr_63_0 S, am_ob_p (H_k0 S hh), am_ix_p (H_k1 S hh), am_iw_p (H_k1 S hh), am_ix_p (H_k6 S hh), am_iw_p (H_k6 S hh), am_ix_p (H_k16 S hh), am_iw_p (H_k16 S hh), am_ix_p (H_k17 S hh), am_iw_p (H_k17 S hh), am_ix_p (H_k24 S hh), am_iw_p (H_k24 S hh), H_r0_0 S hh, H_r0_1 S hh, H_r0_2 S hh, H_r0_3 S hh, H_r0_4 S hh, H_r0_5 S hh, H_r0_6 S hh, H_r0_15 S hh, H_r2 S hh, H_r7 S hh, H_r18 S hh, am_iq_p (H_k2 S hh), am_iq_p (H_k7 S hh), am_iq_p (H_k18 S hh), am_i_ix, Int.reduceToNat, e2, esh, am_br_ge, am_br_lt, am_br_le, am_br_ne]
          rw [if_neg (by omega), if_neg (by omega), if_pos (by omega), if_pos g3, s1, am_bV_p]
        · refine ⟨M, S, fr_rfl _ _, ?_, fun h => absurd h g3⟩
          rw [t22, am_br_lt (by omega) (by omega) (by omega) (by omega), if_neg (by omega)]
          simp (disch := omega) only [am_ob_p (kk_2 S), rr_2_3 S, am_gr_p, am_ob_p (kk_63 S), rr_63_0 S, am_ob_p (H_k0 S hh), am_ix_p (H_k1 S hh), am_iw_p (H_k1 S hh), am_ix_p (H_k6 S hh), am_iw_p (H_k6 S hh), am_ix_p (H_k16 S hh), am_iw_p (H_k16 S hh), am_ix_p (H_k17 S hh), am_iw_p (H_k17 S hh), am_ix_p (H_k24 S hh), am_iw_p (H_k24 S hh), H_r0_0 S hh, H_r0_1 S hh, H_r0_2 S hh, H_r0_3 S hh, H_r0_4 S hh, H_r0_5 S hh, H_r0_6 S hh, H_r0_15 S hh, H_r2 S hh, H_r7 S hh, H_r18 S hh, am_iq_p (H_k2 S hh), am_iq_p (H_k7 S hh), am_iq_p (H_k18 S hh), am_i_ix, Int.reduceToNat, e2, esh, am_br_ge, am_br_lt, am_br_le, am_br_ne]
          rw [if_neg (by omega), if_neg (by omega), if_pos (by omega), if_neg g3]
      obtain ⟨M1, S1, f1, r1, hV⟩ := count
      have HM1 := mWo_mv HM B1 (M' := M1) (fr_mono f1 (fun b k h => sM_lt (by omega)))
      have mlp : ∀ m f : Nat, f + m = nF (wX W) → ∀ (best : Int), -1 ≤ best → best < f → am_ev 215 599 37 [.ref 187, .int (am_i z), .int (am_i w), .int (am_i best), .int (am_i f)] [] M1 = some (some (.int (am_i (sofk (wX W) z w m f best))), M1) := by
        intro m
        induction m with
        | zero =>
          intro f hf best hb1 hb2
          rw [t215_37, am_ob_p (kk_187 S1), m_filmMany S1 HM1.1, am_bI_p, am_br_ge (by omega) (by omega) (by omega) (by omega), if_pos (by omega)]
          rfl
        | succ m ih =>
          intro f hf best hb1 hb2
          have hfF : f < nF (wX W) := by omega
          have bW := sofW_bd B1 z w hfF
          have ek : sofk (wX W) z w (m + 1) f best = sofk (wX W) z w m (f + 1) (if best = -1 ∨ sofW (wX W) z w best.toNat < sofW (wX W) z w f then (f : Int) else best) := rfl
          rw [t215_37, am_ob_p (kk_187 S1), m_filmMany S1 HM1.1, am_bI_p, am_br_ge (by omega) (by omega) (by omega) (by omega), if_neg (by omega), am_br_eq (by omega) (by omega) (by omega) (by omega), ek, am_i_add]
          by_cases g3 : best = -1
          · rw [if_pos g3, if_pos (Or.inl g3)]
            exact ih (f + 1) (by omega) f (by omega) (by omega)
          · obtain ⟨k, rfl⟩ : ∃ k : Nat, best = k := ⟨best.toNat, by omega⟩
            have hkF : k < nF (wX W) := by omega
            have bW2 := sofW_bd B1 z w hkF
            rw [if_neg g3, am_ob_p (kk_187 S1), m_byRule S1 HM1.1 B1 (by omega) (by omega) hfF g2.1 g2.2, am_bI_p, am_ob_p (kk_187 S1), m_byRule S1 HM1.1 B1 (by omega) (by omega) hkF g2.1 g2.2, am_bI_p, am_br_le (by omega) (by omega) (by omega) (by omega), Int.toNat_natCast]
            by_cases g4 : sofW (wX W) z w f ≤ sofW (wX W) z w k
            · rw [if_pos g4, if_neg (by omega)]
              exact ih (f + 1) (by omega) k (by omega) (by omega)
            · rw [if_neg g4, if_pos (by omega)]
              exact ih (f + 1) (by omega) f (by omega) (by omega)
      refine Call_of (v := .int (am_i (sofk (wX W) z w (nF (wX W)) 0 (-1)))) (M1 := M1) (M2 := M1) (iv _) hq HC HM B h0 ?_ (fr_mono f1 (fun b k h => ⟨sC_36 h, by omega⟩)) hq rfl ?_ (fr_rfl _ _) S1
      · exact r1.trans (clp M1 S1 f1 hV (nF (wX W)) 0 (by omega) (-1) 0 .null (by omega) (by omega) (fun h => absurd rfl h) (by omega) (by omega))
      · rw [t215, am_ob_p (kk_187 S1), m_personMany S1 HM1.1, am_bI_p, esh, am_i_sub, am_i2l (by omega) (by omega), am_i2l (by omega) (by omega), m_isIn (by omega) (by omega) (by omega) (by omega) (by omega) (by omega), am_bI_p, hi1, am_br_eq (by omega) (by omega) (by omega) (by omega), if_neg (by omega), am_i2l (by omega) (by omega), m_isIn (by omega) (by omega) (by omega) (by omega) (by omega) (by omega), am_bI_p, hi2, am_br_ne (by omega) (by omega) (by omega) (by omega), if_neg (by omega)]
        exact mlp (nF (wX W)) 0 (by omega) (-1) (by omega) (by omega)
    · have hi1 : isin z 1 (((2 ^ nP (wX W) : Nat) : Int) - 1) = 1 := if_pos (by omega)
      have hi2 : isin w 0 2 = 0 := if_neg g2
      refine Call_same (v := .int (am_i (-1))) (iv _) hq HC HM B h0 S ?_ ?_
      · rw [t22, am_br_lt (by omega) (by omega) (by omega) (by omega), if_neg (by omega)]
        simp (disch := omega) only [am_ob_p (kk_2 S), rr_2_3 S, am_gr_p, am_ob_p (kk_63 S), rr_63_0 S, am_ob_p (H_k0 S hh), am_ix_p (H_k1 S hh), am_iw_p (H_k1 S hh), am_ix_p (H_k6 S hh), am_iw_p (H_k6 S hh), am_ix_p (H_k16 S hh), am_iw_p (H_k16 S hh), am_ix_p (H_k17 S hh), am_iw_p (H_k17 S hh), am_ix_p (H_k24 S hh), am_iw_p (H_k24 S hh), H_r0_0 S hh, H_r0_1 S hh, H_r0_2 S hh, H_r0_3 S hh, H_r0_4 S hh, H_r0_5 S hh, H_r0_6 S hh, H_r0_15 S hh, H_r2 S hh, H_r7 S hh, H_r18 S hh, am_iq_p (H_k2 S hh), am_iq_p (H_k7 S hh), am_iq_p (H_k18 S hh), am_i_ix, Int.reduceToNat, e2, esh, am_br_ge, am_br_lt, am_br_le]
        rw [if_neg (by omega)]
        by_cases g3 : w < 0
        · rw [if_pos g3]
        · rw [if_neg g3, if_neg (by omega)]
      · rw [t215, am_ob_p (kk_187 S), m_personMany S HM.1, am_bI_p, esh, am_i_sub, am_i2l (by omega) (by omega), am_i2l (by omega) (by omega), m_isIn (by omega) (by omega) (by omega) (by omega) (by omega) (by omega), am_bI_p, hi1, am_br_eq (by omega) (by omega) (by omega) (by omega), if_neg (by omega), am_i2l (by omega) (by omega), m_isIn (by omega) (by omega) (by omega) (by omega) (by omega) (by omega), am_bI_p, hi2, am_br_ne (by omega) (by omega) (by omega) (by omega), if_pos rfl]
  · have hi1 : isin z 1 (((2 ^ nP (wX W) : Nat) : Int) - 1) = 0 := if_neg (by omega)
    refine Call_same (v := .int (am_i (-1))) (iv _) hq HC HM B h0 S ?_ ?_
    · rw [t22, am_br_lt (by omega) (by omega) (by omega) (by omega)]
      by_cases g3 : z < 1
      · rw [if_pos g3]
      · rw [if_neg g3]
        simp (disch := omega) only [am_ob_p (kk_2 S), rr_2_3 S, am_gr_p, am_ob_p (kk_63 S), rr_63_0 S, am_ob_p (H_k0 S hh), am_ix_p (H_k1 S hh), am_iw_p (H_k1 S hh), am_ix_p (H_k6 S hh), am_iw_p (H_k6 S hh), am_ix_p (H_k16 S hh), am_iw_p (H_k16 S hh), am_ix_p (H_k17 S hh), am_iw_p (H_k17 S hh), am_ix_p (H_k24 S hh), am_iw_p (H_k24 S hh), H_r0_0 S hh, H_r0_1 S hh, H_r0_2 S hh, H_r0_3 S hh, H_r0_4 S hh, H_r0_5 S hh, H_r0_6 S hh, H_r0_15 S hh, H_r2 S hh, H_r7 S hh, H_r18 S hh, am_iq_p (H_k2 S hh), am_iq_p (H_k7 S hh), am_iq_p (H_k18 S hh), am_i_ix, Int.reduceToNat, e2, esh, am_br_ge]
        rw [if_pos (by omega)]
    · rw [t215, am_ob_p (kk_187 S), m_personMany S HM.1, am_bI_p, esh, am_i_sub, am_i2l (by omega) (by omega), am_i2l (by omega) (by omega), m_isIn (by omega) (by omega) (by omega) (by omega) (by omega) (by omega), am_bI_p, hi1, am_br_eq (by omega) (by omega) (by omega) (by omega), if_pos rfl]
