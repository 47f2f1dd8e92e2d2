/-! The reference: what is suggested, a part seen. -/
/-- what a suggestion may write -/
def pM (b k : Nat) : Prop := b = 259 ∨ (b = 187 ∧ (k = 53 ∨ k = 57 ∨ k = 98))
theorem m_may {L : Nat} {q0 : am_Pq} {M : am_M} (S : am_Sh L q0 M) {X : am_X} {G : am_Gf} {A : am_A} (HX : mH M X) (HG : mG M G) (HA : mA M A) (B : hB X) (BG : gB G) (BA : aB X A) {q f : Nat} (hq : q < 6) (hf : f < nF X) (d : Nat) :
    ∃ M', am_cl 178 (d + 4) [.ref 187, .int (am_i q), .int (am_i f)] M = some (some (.int (am_i (if A 3 q f < X 2 f 0 then mayT X G A q f else 0))), M') ∧ am_Sh L q0 M' ∧ fr pM M M' := by
  have hF8 := (hB_F B).2
  have b1 := aB_se BA hq (show f < 8 by omega)
  have b2 := hB_pt B hf
  have b3 := b1.2 hf
  rw [t178]
  simp (disch := omega) only [am_ob_p (kk_187 S), m_seenBy S HA hq, m_partsOf S HX B hf, am_bI_p, am_br_ne]
  by_cases g : A 3 q f < X 2 f 0
  · rw [if_neg (by omega), if_pos g]
    have S1 := S.sI 187 57 (am_i q)
    have f1 : fr pM M (am_sI M 187 57 (am_i q)) := fr_sI (Or.inr ⟨rfl, Or.inr (Or.inl rfl)⟩)
    unfold mayT
    cases hG : G 2 with
    | none =>
      have e : am_I (am_sI M 187 57 (am_i q)) 226 5 = am_i (-1) := by rw [am_I_ne1 (by omega)]; exact mG_none HG (j := 2) (by decide) hG
      refine ⟨_, ?_, S1, f1⟩
      simp (disch := omega) only [am_ob_p (kk_187 S1), rr_187_0 S1, rr_187_9 S1, rr_187_40 S1, rr_187_42 S1, rr_187_43 S1, rr_187_44 S1, rr_187_45 S1, rr_187_47 S1, rr_187_48 S1, rr_187_49 S1, rr_187_50 S1, rr_187_54 S1, rr_187_55 S1, rr_187_61 S1, rr_187_62 S1, rr_187_63 S1, rr_187_64 S1, rr_187_66 S1, rr_187_67 S1, rr_187_91 S1, rr_187_93 S1, rr_187_97 S1, rr_187_101 S1, am_ix_p (kk_188 S1), am_iw_p (kk_188 S1), am_ix_p (kk_189 S1), am_iw_p (kk_189 S1), am_ix_p (kk_219 S1), am_iw_p (kk_219 S1), am_ix_p (kk_221 S1), am_iw_p (kk_221 S1), am_ix_p (kk_222 S1), am_iw_p (kk_222 S1), am_ix_p (kk_223 S1), am_iw_p (kk_223 S1), am_ix_p (kk_224 S1), am_iw_p (kk_224 S1), am_ix_p (kk_225 S1), am_iw_p (kk_225 S1), am_ix_p (kk_226 S1), am_iw_p (kk_226 S1), am_ix_p (kk_227 S1), am_iw_p (kk_227 S1), am_ix_p (kk_228 S1), am_iw_p (kk_228 S1), am_ix_p (kk_229 S1), am_iw_p (kk_229 S1), am_ix_p (kk_230 S1), am_iw_p (kk_230 S1), am_ix_p (kk_231 S1), am_iw_p (kk_231 S1), am_ix_p (kk_232 S1), am_iw_p (kk_232 S1), am_ix_p (kk_233 S1), am_iw_p (kk_233 S1), am_ix_p (kk_234 S1), am_iw_p (kk_234 S1), am_ix_p (kk_235 S1), am_iw_p (kk_235 S1), am_ix_p (kk_236 S1), am_iw_p (kk_236 S1), am_ix_p (kk_257 S1), am_iw_p (kk_257 S1), am_ix_p (kk_258 S1), am_iw_p (kk_258 S1), am_ix_p (kk_259 S1), am_iw_p (kk_259 S1), am_ix_p (kk_260 S1), am_iw_p (kk_260 S1), am_gr_p, am_i_ix, Int.toNat_zero, Int.toNat_one, Int.toNat_natCast, Int.reduceToNat, am_lt, am_i_add, am_i_sub, am_i_mul, e, am_br_eq, am_tr_1]
      rfl
    | some l =>
      obtain ⟨o, h1, h2, h3, h4⟩ := mG_some HG (j := 2) (by decide) hG
      have e : am_I (am_sI M 187 57 (am_i q)) 226 5 = am_i o := by rw [am_I_ne1 (by omega)]; exact h2
      have hFok : Fok (alw 2) (fct X A q f 0 0 0) := fct_ok B BA (by decide) (fun _ => ⟨hq, hf⟩) (fun h => by omega) (fun h => by omega) (fun h => by omega)
      have hv := fev_ok hFok Wok0 (BG.2.2 l hG)
      obtain ⟨M', r, S', f'⟩ := m_codesTell (j := 2) S1 (mG_mv HG (fun b k h1 h2 h3 h4 => am_I_ne1 (by omega))) (by decide) hG (BG.2.2 l hG) hFok (show f < 8 by omega) (d := d + 1) (fun M' S' f' k hk ha => m_partOf (p := 0) S' (mH_mv HX B (fun b k h1 h2 h3 => by rw [(f' b k (by unfold pT; omega)).1, am_I_ne1 (by omega)])) (mA_mv HA (fun k h => by rw [(f' 229 k (by unfold pT; omega)).1, am_I_ne1 (by omega)])) B BA (j := 2) (by decide) (fun _ => ⟨hq, hf, by rw [(f' 187 57 (by unfold pT; omega)).1, am_I_same]⟩) (fun h => by omega) (fun h => by omega) (fun h => by omega) (by omega) d hk ha)
      refine ⟨M', ?_, S', fr_tr f1 (fr_mono f' (fun b k h => by unfold pT at h; unfold pM; omega))⟩
      simp (disch := omega) only [am_ob_p (kk_187 S1), rr_187_0 S1, rr_187_9 S1, rr_187_40 S1, rr_187_42 S1, rr_187_43 S1, rr_187_44 S1, rr_187_45 S1, rr_187_47 S1, rr_187_48 S1, rr_187_49 S1, rr_187_50 S1, rr_187_54 S1, rr_187_55 S1, rr_187_61 S1, rr_187_62 S1, rr_187_63 S1, rr_187_64 S1, rr_187_66 S1, rr_187_67 S1, rr_187_91 S1, rr_187_93 S1, rr_187_97 S1, rr_187_101 S1, am_ix_p (kk_188 S1), am_iw_p (kk_188 S1), am_ix_p (kk_189 S1), am_iw_p (kk_189 S1), am_ix_p (kk_219 S1), am_iw_p (kk_219 S1), am_ix_p (kk_221 S1), am_iw_p (kk_221 S1), am_ix_p (kk_222 S1), am_iw_p (kk_222 S1), am_ix_p (kk_223 S1), am_iw_p (kk_223 S1), am_ix_p (kk_224 S1), am_iw_p (kk_224 S1), am_ix_p (kk_225 S1), am_iw_p (kk_225 S1), am_ix_p (kk_226 S1), am_iw_p (kk_226 S1), am_ix_p (kk_227 S1), am_iw_p (kk_227 S1), am_ix_p (kk_228 S1), am_iw_p (kk_228 S1), am_ix_p (kk_229 S1), am_iw_p (kk_229 S1), am_ix_p (kk_230 S1), am_iw_p (kk_230 S1), am_ix_p (kk_231 S1), am_iw_p (kk_231 S1), am_ix_p (kk_232 S1), am_iw_p (kk_232 S1), am_ix_p (kk_233 S1), am_iw_p (kk_233 S1), am_ix_p (kk_234 S1), am_iw_p (kk_234 S1), am_ix_p (kk_235 S1), am_iw_p (kk_235 S1), am_ix_p (kk_236 S1), am_iw_p (kk_236 S1), am_ix_p (kk_257 S1), am_iw_p (kk_257 S1), am_ix_p (kk_258 S1), am_iw_p (kk_258 S1), am_ix_p (kk_259 S1), am_iw_p (kk_259 S1), am_ix_p (kk_260 S1), am_iw_p (kk_260 S1), am_gr_p, am_i_ix, Int.toNat_zero, Int.toNat_one, Int.toNat_natCast, Int.reduceToNat, am_lt, am_i_add, am_i_sub, am_i_mul, e, am_br_eq]
      rw [if_neg (by omega), show (am_i 2) = am_i ((2 : Nat) : Int) from rfl, r, am_bL_p, cmp_ne (by omega) (by omega) (by omega) (by omega)]
      rcases hv.2.2 rfl with e | e
      · rw [e, if_neg (by decide)]; exact am_tr_0 _ _
      · rw [e, if_pos rfl]; exact am_tr_1 _ _
  · rw [if_pos (by omega), if_neg g]
    exact ⟨M, am_tr_0 _ _, S, fr_rfl _ _⟩
theorem m_suggestedTo {L : Nat} {q0 : am_Pq} {M : am_M} (S : am_Sh L q0 M) {X : am_X} {G : am_Gf} {A : am_A} (HX : mH M X) (HG : mG M G) (HA : mA M A) (B : hB X) (BG : gB G) (BA : aB X A) {p : Nat} (hp : p < nP X) (d : Nat) :
    ∃ M', am_cl 179 (d + 5) [.ref 187, .int (am_i p)] M = some (some (.int (am_i (sug X G A p))), M') ∧ am_Sh L q0 M' ∧ fr pM M M' := by
  have hF8 := (hB_F B).2
  have hFF := (hB_F B).1
  have hP5 := (hB_P B).2
  have hq := prof_lt A (show p < 5 by omega)
  have key : ∀ m n : Nat, n + m = nF X → ∀ (M : am_M) (v1 : Value), am_Sh L q0 M → mH M X → mG M G → mA M A →
      ∃ M', am_ev 179 (d + 5) 11 [.ref 187, v1, .int (am_i (prof A p)), .int (am_i (sugF X G A (prof A p) n).1), .int (am_i n)] [] M = some (some (.int (am_i (sug X G A p))), M') ∧ am_Sh L q0 M' ∧ fr pM M M' := by
    intro m
    induction m with
    | zero =>
      intro n hn M v1 S HX HG HA
      refine ⟨M, ?_, S, fr_rfl _ _⟩
      rw [t179_11]
      simp (disch := omega) only [am_ob_p (kk_187 S), m_filmMany S HX, am_bI_p, am_br_ge]
      rw [if_pos (by omega)]
      have : n = nF X := by omega
      rw [this]
      rfl
    | succ m ih =>
      intro n hn M v1 S HX HG HA
      have hnF : n < nF X := by omega
      have b3 := sugF_bd (G := G) B BA hq n (by omega)
      have b4 := score_bd B BA hq hnF
      have hm := mayT_01 B BG BA hq hnF
      obtain ⟨M1, r1, S1, f1⟩ := m_may S HX HG HA B BG BA hq hnF d
      have HX1 := mH_mv (M' := M1) HX B (fun b k h1 h2 h3 => (f1 b k (by unfold pM; omega)).1)
      have HG1 := mG_mv (M' := M1) HG (fun b k h1 h2 h3 h4 => (f1 b k (by unfold pM; omega)).1)
      have HA1 := mA_mv (M' := M1) HA (fun k h => (f1 229 k (by unfold pM; omega)).1)
      rw [t179_11]
      simp (disch := omega) only [am_ob_p (kk_187 S), m_filmMany S HX, am_bI_p, am_br_ge]
      rw [if_neg (by omega), r1, am_bI_p]
      have hw : -2147483648 ≤ (if A 3 (prof A p) n < X 2 n 0 then mayT X G A (prof A p) n else 0) ∧ (if A 3 (prof A p) n < X 2 n 0 then mayT X G A (prof A p) n else 0) < 2147483648 := by split <;> omega
      rw [am_br_eq hw.1 hw.2 (by omega) (by omega)]
      have skip : sugF X G A (prof A p) (n + 1) = sugF X G A (prof A p) n → ∃ M', am_ev 179 (d + 5) 11 [.ref 187, v1, .int (am_i (prof A p)), .int (am_i (sugF X G A (prof A p) n).1), .int (am_i ((n : Int) + 1))] [] M1 = some (some (.int (am_i (sug X G A p))), M') ∧ am_Sh L q0 M' ∧ fr pM M M' := by
        intro hs
        obtain ⟨M', r, S', f'⟩ := ih (n + 1) (by omega) M1 v1 S1 HX1 HG1 HA1
        rw [hs] at r
        exact ⟨M', r, S', fr_tr f1 f'⟩
      have take : sugF X G A (prof A p) (n + 1) = ((n : Int), score X A (prof A p) n) → ∃ M', am_ev 179 (d + 5) 11 [.ref 187, v1, .int (am_i (prof A p)), .int (am_i n), .int (am_i ((n : Int) + 1))] [] M1 = some (some (.int (am_i (sug X G A p))), M') ∧ am_Sh L q0 M' ∧ fr pM M M' := by
        intro hs
        obtain ⟨M', r, S', f'⟩ := ih (n + 1) (by omega) M1 v1 S1 HX1 HG1 HA1
        rw [hs] at r
        exact ⟨M', r, S', fr_tr f1 f'⟩
      by_cases g : A 3 (prof A p) n < X 2 n 0 ∧ mayT X G A (prof A p) n = 1
      · rw [if_neg (by rw [if_pos g.1]; omega), am_br_eq (by omega) (by omega) (by omega) (by omega), am_i_add]
        by_cases g2 : (sugF X G A (prof A p) n).1 = -1
        · rw [if_pos g2]
          have := b3.2.2.1 g2
          exact take (if_pos ⟨g.1, by omega, g.2⟩)
        · rw [if_neg g2]
          obtain ⟨k1, k2⟩ := b3.2.2.2 g2
          have hfn : ∃ f : Nat, (sugF X G A (prof A p) n).1 = f ∧ f < nF X := ⟨(sugF X G A (prof A p) n).1.toNat, by omega, by omega⟩
          obtain ⟨f, hf, hf1⟩ := hfn
          rw [hf, Int.toNat_natCast] at k1
          rw [hf] at skip ⊢
          have b5 := score_bd B BA hq hf1
          simp (disch := omega) only [am_ob_p (kk_187 S1), m_scoreOf S1 HX1 HA1 B hq hnF, m_scoreOf S1 HX1 HA1 B hq hf1, am_bI_p, am_br_le]
          by_cases g3 : score X A (prof A p) n ≤ score X A (prof A p) f
          · rw [if_pos g3]
            exact skip (if_neg (fun h => by omega))
          · rw [if_neg g3]
            exact take (if_pos ⟨g.1, by omega, g.2⟩)
      · rw [if_pos (by
          by_cases g1 : A 3 (prof A p) n < X 2 n 0
          · rw [if_pos g1]
            rcases hm with h | h
            · exact h
            · exact absurd ⟨g1, h⟩ g
          · rw [if_neg g1]), am_i_add]
        exact skip (if_neg (fun h => g ⟨h.1, h.2.2⟩))
  rw [t179]
  simp (disch := omega) only [am_ob_p (kk_187 S)]
  rw [m_profileOf S HA (by omega), am_bI_p]
  exact key (nF X) 0 (by omega) M _ S HX HG HA
/-- writes to an account -/
theorem mA_w2 {M : am_M} {A : am_A} (H : mA M A) {q k : Nat} (hq : q < 6) (hk : k < 6) (v : Int) : mA (am_sI M 229 (2 + 14 * q + k) (am_i v)) (uA A 2 q k v) := by
  obtain ⟨h1, h2, h3, h4, h5, h6⟩ := H
  refine ⟨?_, ?_, fun q' hq' k' hk' => ?_, fun q' hq' f' hf' => ?_, fun p hp => ?_, fun p hp => ?_⟩
  · rw [am_I_ne2 (by omega), uA_ne (by omega)]; exact h1
  · rw [am_I_ne2 (by omega), uA_ne (by omega)]; exact h2
  · by_cases g : q' = q ∧ k' = k
    · obtain ⟨rfl, rfl⟩ := g
      rw [am_I_same, uA_eq]
    · rw [am_I_ne2 (by omega), uA_ne (by omega)]; exact h3 q' hq' k' hk'
  · rw [am_I_ne2 (by omega), uA_ne (by omega)]; exact h4 q' hq' f' hf'
  · rw [am_I_ne2 (by omega), prs_congr (uA_ne (by omega))]; exact h5 p hp
  · rw [am_I_ne2 (by omega), uA_ne (by omega)]; exact h6 p hp
theorem mA_w3 {M : am_M} {A : am_A} (H : mA M A) {q k : Nat} (hq : q < 6) (hk : k < 8) (v : Int) : mA (am_sI M 229 (2 + 14 * q + 6 + k) (am_i v)) (uA A 3 q k v) := by
  obtain ⟨h1, h2, h3, h4, h5, h6⟩ := H
  refine ⟨?_, ?_, fun q' hq' k' hk' => ?_, fun q' hq' f' hf' => ?_, fun p hp => ?_, fun p hp => ?_⟩
  · rw [am_I_ne2 (by omega), uA_ne (by omega)]; exact h1
  · rw [am_I_ne2 (by omega), uA_ne (by omega)]; exact h2
  · rw [am_I_ne2 (by omega), uA_ne (by omega)]; exact h3 q' hq' k' hk'
  · by_cases g : q' = q ∧ f' = k
    · obtain ⟨rfl, rfl⟩ := g
      rw [am_I_same, uA_eq]
    · rw [am_I_ne2 (by omega), uA_ne (by omega)]; exact h4 q' hq' f' hf'
  · rw [am_I_ne2 (by omega), prs_congr (uA_ne (by omega))]; exact h5 p hp
  · rw [am_I_ne2 (by omega), uA_ne (by omega)]; exact h6 p hp
theorem mA_w4 {M : am_M} {A : am_A} (H : mA M A) {p : Nat} (hp : p < 5) (v : Int) : mA (am_sI M 229 (87 + 2 * p) (am_i v)) (uA A 4 p 0 v) := by
  obtain ⟨h1, h2, h3, h4, h5, h6⟩ := H
  refine ⟨?_, ?_, fun q' hq' k' hk' => ?_, fun q' hq' f' hf' => ?_, fun p' hp' => ?_, fun p' hp' => ?_⟩
  · rw [am_I_ne2 (by omega), uA_ne (by omega)]; exact h1
  · rw [am_I_ne2 (by omega), uA_ne (by omega)]; exact h2
  · rw [am_I_ne2 (by omega), uA_ne (by omega)]; exact h3 q' hq' k' hk'
  · rw [am_I_ne2 (by omega), uA_ne (by omega)]; exact h4 q' hq' f' hf'
  · rw [am_I_ne2 (by omega), prs_congr (uA_ne (by omega))]; exact h5 p' hp'
  · by_cases g : p' = p
    · subst g
      rw [am_I_same, uA_eq]
    · rw [am_I_ne2 (by omega), uA_ne (by omega)]; exact h6 p' hp'
def pN (b k : Nat) : Prop := (b = 229 ∧ k < 96) ∨ b = 259 ∨ (b = 187 ∧ (k = 53 ∨ k = 57 ∨ k = 58 ∨ k = 59 ∨ k = 98))
theorem held_add {t v : Int} (h0 : 0 ≤ t) (h9 : t ≤ 999) : (0 < v → held (t + held v) = held (t + v)) ∧ (¬ 0 < v → held (t + held v) = t) := by
  unfold held
  constructor
  · intro h
    repeat' split
    all_goals omega
  · intro h
    repeat' split
    all_goals omega
theorem held_id {t : Int} (h0 : 0 ≤ t) (h9 : t ≤ 999) : held t = t := by unfold held; rw [if_neg (by omega), if_neg (by omega)]
theorem uA_self (A : am_A) (i j k : Nat) : uA A i j k (A i j k) = A := by
  funext a b c
  by_cases g : a = i ∧ b = j ∧ c = k
  · obtain ⟨rfl, rfl, rfl⟩ := g
    exact uA_eq _ _ _ _ _
  · exact uA_ne g
set_option maxHeartbeats 4000000 in
theorem m_partSeen {L : Nat} {q0 : am_Pq} {M : am_M} (S : am_Sh L q0 M) {X : am_X} {G : am_Gf} {A : am_A} (HX : mH M X) (HG : mG M G) (HA : mA M A) (B : hB X) (BG : gB G) (BA : aB X A) {q f : Nat} (hq : q ≤ nP X) (hf : f < nF X) (hs : A 3 q f < X 2 f 0) (d : Nat) :
    ∃ M', am_cl 180 (d + 4) [.ref 187, .int (am_i q), .int (am_i f)] M = some (none, M') ∧ am_Sh L q0 M' ∧ fr pN M M' ∧ mA M' (see X G A q f) := by
  have hF8 := (hB_F B).2
  obtain ⟨hKK, hK6⟩ := hB_K B
  have hP5 := (hB_P B).2
  have hq6 : q < 6 := by omega
  have bs := aB_se9 B BA hq6 (show f < 8 by omega)
  have bs2 := hB_pt B hf
  have e4 : ((2 : Int) + 14 * (q : Int) + 6 + (f : Int)).toNat = 2 + 14 * q + 6 + f := by omega
  have e3 := HA.2.2.2.1 q hq6 f (by omega)
  have bt := aB_t BA
  have key : ∀ m n : Nat, n + m = nK X → ∀ (M : am_M) (v4 v5 : Value), am_Sh L q0 M → mH M X → mG M G → mA M (seeT X G q f (uA A 3 q f (A 3 q f + 1)) n) →
      ∃ M', am_ev 180 (d + 4) 17 [.ref 187, .int (am_i q), .int (am_i f), .int (am_i n), v4, v5] [] M = some (none, M') ∧ am_Sh L q0 M' ∧ fr pN M M' ∧ mA M' (see X G A q f) := by
    intro m
    induction m with
    | zero =>
      intro n hn M v4 v5 S HX HG HA
      have hn' : n = nK X := by omega
      subst hn'
      refine ⟨M, ?_, S, fr_rfl _ _, HA⟩
      rw [t180_17]
      simp (disch := omega) only [am_ob_p (kk_187 S), m_kindMany S HX, am_bI_p, am_br_ge]
      rw [if_pos (by omega)]
    | succ m ih =>
      intro n hn M v4 v5 S HX HG HA
      have hnK : n < nK X := by omega
      have bw := hB_w B hf (show n < 6 by omega)
      have bTa : ∀ k, k < 6 → 0 ≤ seeT X G q f (uA A 3 q f (A 3 q f + 1)) n 2 q k ∧ seeT X G q f (uA A 3 q f (A 3 q f + 1)) n 2 q k ≤ 999 := fun k hk => seeT_bd (X := X) (G := G) (q := q) (f := f) (A := uA A 3 q f (A 3 q f + 1)) n (fun k hk => by rw [uA_ne (by omega)]; exact aB_ta BA hq6 hk) hk
      have bT := bTa n (by omega)
      have e5 : ((2 : Int) + 14 * (q : Int) + (n : Int)).toNat = 2 + 14 * q + n := by omega
      have et : seeT X G q f (uA A 3 q f (A 3 q f + 1)) n 0 0 0 = A 0 0 0 := by rw [seeT_ne _ _ _ _ _ _ (by omega), uA_ne (by omega)]
      have eT := HA.2.2.1 q hq6 n (by omega)
      rw [t180_17]
      simp (disch := omega) only [am_ob_p (kk_187 S), m_kindMany S HX, am_bI_p, am_br_ge, m_weightOf S HX B hf, am_br_ne]
      rw [if_neg (by omega)]
      by_cases g : 0 < X 3 f n
      · have hsu := seeT_succ_pos (X := X) (G := G) (q := q) (A := uA A 3 q f (A 3 q f + 1)) g
        generalize hT : seeT X G q f (uA A 3 q f (A 3 q f + 1)) n = T at *
        rw [if_neg (by omega)]
        -- behind a growth of v
        have grown : ∀ (M1 : am_M) (v : Int), am_Sh L q0 M1 → fr pN M M1 → mA M1 T → am_I M1 187 58 = am_i (T 2 q n) → -1000000 ≤ v → v ≤ 1000000 → (0 < v → held (T 2 q n + v) = held (T 2 q n + grow X G T q f n)) → (¬ 0 < v → T 2 q n = held (T 2 q n + grow X G T q f n)) →
            ∃ M', am_ev 180 (d + 4) 86 [.ref 187, .int (am_i q), .int (am_i f), .int (am_i n), v4, v5] [.long (am_l v)] M1 = some (none, M') ∧ am_Sh L q0 M' ∧ fr pN M M' ∧ mA M' (see X G A q f) := by
          intro M1 v S1 f1 HA1 e58 hv0 hv9 hv1 hv2
          rw [t180_86, cmp_le (by omega) (by omega) (by omega) (by omega)]
          by_cases g2 : 0 < v
          · rw [if_neg (by omega)]
            have S2 := S1.sI 229 (2 + 14 * q + n) (am_i (held (T 2 q n + v)))
            have f2 : fr pN M (am_sI M1 229 (2 + 14 * q + n) (am_i (held (T 2 q n + v)))) := fr_tr f1 (fr_sI (Or.inl ⟨rfl, by omega⟩))
            obtain ⟨M', r, S', f', HA'⟩ := ih (n + 1) (by omega) _ (.long (am_l v)) .null S2 (mH_mv HX B (fun b k h1 h2 h3 => (f2 b k (by unfold pN; omega)).1)) (mG_mv HG (fun b k h1 h2 h3 h4 => (f2 b k (by unfold pN; omega)).1)) (by
              rw [hsu, ← hv1 g2]
              exact mA_w2 HA1 hq6 (by omega) _)
            refine ⟨M', ?_, S', fr_tr f2 f', HA'⟩
            simp (disch := omega) only [am_ob_p (kk_187 S1), rr_187_54 S1, am_gr_p, t171, am_bI_p, e58, am_i2l, am_l_add, m_cut, am_i_add, am_i_mul, am_iw_p (kk_229 S1), am_i_ix, e5, am_lt]
            exact r
          · rw [if_pos (by omega)]
            obtain ⟨M', r, S', f', HA'⟩ := ih (n + 1) (by omega) M1 (.long (am_l v)) .null S1 (mH_mv HX B (fun b k h1 h2 h3 => (f1 b k (by unfold pN; omega)).1)) (mG_mv HG (fun b k h1 h2 h3 h4 => (f1 b k (by unfold pN; omega)).1)) (by
              rw [hsu, ← hv2 g2, uA_self]
              exact HA1)
            refine ⟨M', ?_, S', fr_tr f1 f', HA'⟩
            simp only [am_i_add]
            exact r
        have S3 := (S.sI 187 58 (am_i (T 2 q n))).sI 187 59 (am_i (X 3 f n))
        have f3 : fr pN M (am_sI (am_sI M 187 58 (am_i (T 2 q n))) 187 59 (am_i (X 3 f n))) := fr_tr (fr_sI (Or.inr (Or.inr ⟨rfl, by omega⟩))) (fr_sI (Or.inr (Or.inr ⟨rfl, by omega⟩)))
        have HX8 : mH (am_sI M 187 58 (am_i (T 2 q n))) X := mH_mv HX B (fun b k h1 h2 h3 => am_I_ne1 (by omega))
        have HX3 := mH_mv (M' := am_sI (am_sI M 187 58 (am_i (T 2 q n))) 187 59 (am_i (X 3 f n))) HX B (fun b k h1 h2 h3 => (f3 b k (by unfold pN; omega)).1)
        have HG3 := mG_mv (M' := am_sI (am_sI M 187 58 (am_i (T 2 q n))) 187 59 (am_i (X 3 f n))) HG (fun b k h1 h2 h3 h4 => (f3 b k (by unfold pN; omega)).1)
        have HA3 := mA_mv (M' := am_sI (am_sI M 187 58 (am_i (T 2 q n))) 187 59 (am_i (X 3 f n))) HA (fun k h => by rw [am_I_ne1 (by omega), am_I_ne1 (by omega)])
        have e58 : am_I (am_sI (am_sI M 187 58 (am_i (T 2 q n))) 187 59 (am_i (X 3 f n))) 187 58 = am_i (T 2 q n) := by rw [am_I_ne2 (by omega), am_I_same]
        have e59 : am_I (am_sI (am_sI M 187 58 (am_i (T 2 q n))) 187 59 (am_i (X 3 f n))) 187 59 = am_i (X 3 f n) := am_I_same _ _ _ _
        have e26 : am_I (am_sI (am_sI M 187 58 (am_i (T 2 q n))) 187 59 (am_i (X 3 f n))) 226 3 = am_I M 226 3 := by rw [am_I_ne1 (by omega), am_I_ne1 (by omega)]
        simp (disch := omega) only [am_ob_p (kk_187 S), rr_187_54 S, am_gr_p, t171, am_bI_p, am_i_add, am_i_mul, am_ix_p (kk_229 S), am_i_ix, e5, eT, am_lt, am_ob_sI, m_weightOf (S.sI 187 58 (am_i (T 2 q n))) HX8 B hf, am_R_sI', rr_187_48 S, am_ix_sI, am_ix_p (kk_226 S), Int.reduceToNat, e26, e59, am_i2l]
        cases hG : G 0 with
        | none =>
          have e : am_I M 226 3 = am_i (-1) := mG_none HG (j := 0) (by decide) hG
          rw [e, am_br_ne (by omega) (by omega) (by omega) (by omega), if_pos rfl]
          have hgr : grow X G T q f n = X 3 f n := by unfold grow; rw [hG]
          exact grown _ _ S3 f3 HA3 e58 (by omega) (by omega) (fun _ => by rw [hgr]) (fun h => absurd g h)
        | some l =>
          obtain ⟨o, h1, h2, h3, h4⟩ := mG_some HG (j := 0) (by decide) hG
          have e : am_I M 226 3 = am_i o := h2
          have hwf := BG.1 l hG
          have hgr : grow X G T q f n = held (fev (fct X T q f 0 (T 2 q n) (X 3 f n)) (fun _ => 0) l) := by unfold grow; rw [hG]
          have hFok : Fok (alw 0) (fct X T q f 0 (T 2 q n) (X 3 f n)) := by
            intro k hk ha
            rcases alw0 ha with rfl | rfl | rfl
            · show -1000000 ≤ T 0 0 0 % 24 ∧ T 0 0 0 % 24 ≤ 1000000
              omega
            · show -1000000 ≤ T 2 q n ∧ T 2 q n ≤ 1000000
              omega
            · show -1000000 ≤ X 3 f n ∧ X 3 f n ≤ 1000000
              omega
          have hv := fev_ok hFok Wok0 hwf
          have ha := held_add (v := fev (fct X T q f 0 (T 2 q n) (X 3 f n)) (fun _ => 0) l) bT.1 bT.2
          obtain ⟨M4, r4, S4, f4⟩ := m_codesTell (j := 0) S3 HG3 (by decide) hG hwf hFok (show f < 8 by omega) (d := d + 1) (fun M' S' f' k hk ha => by
            have h229 : am_I M' 229 1 = am_i (T 0 0 0 % 24) := by rw [(f' 229 1 (by unfold pT; omega)).1]; exact HA3.2.1
            have h58 : am_I M' 187 58 = am_i (T 2 q n) := by rw [(f' 187 58 (by unfold pT; omega)).1]; exact e58
            have h59 : am_I M' 187 59 = am_i (X 3 f n) := by rw [(f' 187 59 (by unfold pT; omega)).1]; exact e59
            rw [t255]
            rcases alw0 ha with rfl | rfl | rfl
            · repeat rw [am_si_f (by omega)]
              (try rw [am_si_t (by omega)])
              simp (disch := omega) only [am_ob_p (kk_187 S'), rr_187_54 S', am_gr_p, am_ix_p (kk_229 S'), am_i_ix, Int.toNat_one, h229, am_i2l]
              rfl
            · repeat rw [am_si_f (by omega)]
              (try rw [am_si_t (by omega)])
              simp (disch := omega) only [am_ob_p (kk_187 S'), h58, am_i2l]
              rfl
            · repeat rw [am_si_f (by omega)]
              (try rw [am_si_t (by omega)])
              simp (disch := omega) only [am_ob_p (kk_187 S'), h59, am_i2l]
              rfl)
          rw [e, am_br_ne (by omega) (by omega) (by omega) (by omega), if_neg (by omega), show (am_i 0) = am_i ((0 : Nat) : Int) from rfl, r4, am_bL_p]
          exact grown M4 _ S4 (fr_tr f3 (fr_mono f4 (fun b k h => by unfold pT at h; unfold pN; omega))) (mA_mv HA3 (fun k h => (f4 229 k (by unfold pT; omega)).1)) (by rw [(f4 187 58 (by unfold pT; omega)).1]; exact e58) hv.1 hv.2.1 (fun h => by rw [hgr]; exact (ha.1 h).symm) (fun h => by rw [hgr]; exact (ha.2 h).symm)
      · rw [if_pos (by omega)]
        simp only [am_i_add]
        obtain ⟨M', r, hR⟩ := ih (n + 1) (by omega) M v4 v5 S HX HG (by rw [seeT_succ_neg g]; exact HA)
        exact ⟨M', r, hR⟩
  have S1 := S.sI 229 (2 + 14 * q + 6 + f) (am_i (A 3 q f + 1))
  have f1 : fr pN M (am_sI M 229 (2 + 14 * q + 6 + f) (am_i (A 3 q f + 1))) := fr_sI (Or.inl ⟨rfl, by omega⟩)
  obtain ⟨M', r, S', f', HA'⟩ := key (nK X) 0 (by omega) _ .null .null S1 (mH_mv HX B (fun b k h1 h2 h3 => (f1 b k (by unfold pN; omega)).1)) (mG_mv HG (fun b k h1 h2 h3 h4 => (f1 b k (by unfold pN; omega)).1)) (mA_w3 HA hq6 (by omega) _)
  refine ⟨M', ?_, S', fr_tr f1 f', HA'⟩
  rw [t180]
  simp (disch := omega) only [am_ob_p (kk_187 S), rr_187_54 S, am_gr_p, t172, am_bI_p, am_i_add, am_i_mul, am_ix_p (kk_229 S), am_iw_p (kk_229 S), am_i_ix, e4, e3, am_lt]
  exact r
