/-! The reference answers a question. -/
theorem m_of {L : Nat} {q : am_Pq} {M : am_M} (S : am_Sh L q M) {X : am_X} (HX : mH M X) (B : hB X) {f : Nat} (hf : f < nF X) {a : Int} (h1 : -1000000 ≤ a) (h2 : a ≤ 1000000) (d : Nat) : am_cl 256 (d + 1) [.ref 187, .int (am_i 0), .long (am_l a), .int (am_i f)] M = some (some (.long (am_l (wW X f a))), M) := by
  have hk := hB_K B
  rw [t256, am_ob_p (kk_187 S), m_kindMany S HX, am_bI_p, am_i_sub, am_i2l (by omega) (by omega), m_isIn (by omega) (by omega) (by omega) (by omega) (by omega) (by omega), am_bI_p]
  unfold isin wW
  by_cases g : 0 ≤ a ∧ a < X 0 0 0
  · obtain ⟨k, rfl⟩ : ∃ k : Nat, a = (k : Int) := ⟨a.toNat, by omega⟩
    have hw := hB_w B hf (k := k) (by omega)
    rw [if_pos (show 0 ≤ (k : Int) ∧ (k : Int) ≤ X 0 0 0 - 1 by omega), am_br_eq (by omega) (by omega) (by omega) (by omega), if_neg (by omega), am_ob_p (kk_187 S), am_l2i, m_weightOf S HX B hf (show k < 6 by omega), am_bI_p, am_i2l (by omega) (by omega), if_pos g, Int.toNat_natCast]
  · rw [if_neg (show ¬ (0 ≤ a ∧ a ≤ X 0 0 0 - 1) by omega), am_br_eq (by omega) (by omega) (by omega) (by omega), if_pos rfl, if_neg g]
set_option maxHeartbeats 4000000 in
theorem m_qrun {L : Nat} {q : am_Pq} {M0 : am_M} {al : Nat → Bool} {b : Bool} {F : Nat → Int} {W : Int → Int} (hF : Fok al F) (hW : Wok W) {f d n : Nat} (hf : f < 8) (hn16 : n ≤ 1600)
    (hP : ∀ M', am_Sh L q M' → fr pT M0 M' → ∀ k, k < 8 → al k = true → am_cl 255 (d + 1) [.ref 187, .int (am_i k), .int (am_i f)] M' = some (some (.long (am_l (F k))), M'))
    (hO : ∀ M', am_Sh L q M' → fr pT M0 M' → ∀ a : Int, -1000000 ≤ a → a ≤ 1000000 → am_cl 256 (d + 1) [.ref 187, .int (am_i 0), .long (am_l a), .int (am_i f)] M' = some (some (.long (am_l (W a))), M')) :
    ∀ (l : List Int) (o : Nat) (s : List Int) (t : List Bool) (M : am_M) (v4 : Value), am_Sh L q M → fr pT M0 M → o + l.length = n → (∀ i, i < l.length → am_I M 257 (o + i) = am_i (l.getD i 0)) → am_I M 187 92 = am_i (n : Int) →
    stl (am_L M 259) s → am_I M 187 98 = am_i s.length → okv s t → t.length ≤ 60 → tys al true l t = some [b] →
    ∃ M', am_ev 257 (d + 2) 7 [.ref 187, .int (am_i f), .int (am_i o), v4] [] M = some (some (.long (am_l ((l.foldl (fst1 F W) s).getD 0 0))), M') ∧ am_Sh L q M' ∧ fr pT M M' := by
  intro l
  induction l with
  | nil =>
    intro o s t M v4 S f0 ho hcd he hs hn hok ht60 hty
    unfold tys at hty
    cases hty
    obtain ⟨v, s', rfl, g1, g2, g3, g4⟩ := okv_cons hok
    have h0 : s' = [] := by
      cases s' with
      | nil => rfl
      | cons _ _ => exact False.elim g4
    subst h0
    have e1 : am_L M 259 0 = am_l v := hs.1
    simp only [List.length_nil] at ho
    refine ⟨M, ?_, S, fr_rfl _ _⟩
    rw [t257_7]
    simp (disch := omega) only [am_ob_p (kk_187 S), am_gr_p, am_i_add, he, am_br_ge]
    rw [if_pos (by omega)]
    simp (disch := omega) only [am_ob_p (kk_187 S), rr_187_97 S, am_gr_p, am_ix_p (kk_259 S), am_i_ix, Int.toNat_zero, e1]
    rfl
  | cons c0 l ih =>
    intro o s t M v4 S f0 ho hcd he hs hn hok ht60 hty
    obtain ⟨t1, hty1, htyl⟩ := tys_cons hty
    have hok1 := ty1_ok hF hW hok hty1
    have hlen := okv_len hok
    have ht61 := ty1_len hty1 ht60
    have hs60 : s.length ≤ 60 := by omega
    have hlo : (c0 :: l).length = l.length + 1 := rfl
    have e0 : am_I M 257 o = am_i c0 := hcd 0 (by omega)
    have go : ∀ (M1 : am_M) (m1 : Int) (v4 : Value), am_Sh L q M1 → fr pT M M1 → am_I M1 187 98 = am_i ((fst1 F W s c0).length : Nat) → m1 = (o : Int) + 1 → stl (am_L M1 259) (fst1 F W s c0) →
        ∃ M', am_ev 257 (d + 2) 7 [.ref 187, .int (am_i f), .int (am_i m1), v4] [] M1 = some (some (.long (am_l (((c0 :: l).foldl (fst1 F W) s).getD 0 0))), M') ∧ am_Sh L q M' ∧ fr pT M M' := by
      intro M1 m1 v4 S1 f1 hn1 hm1 hs1
      obtain ⟨M', r1', S', f'⟩ := ih (o + 1) (fst1 F W s c0) t1 M1 v4 S1 (fr_tr f0 f1) (by omega) (fun i hi => by
        rw [(f1 257 (o + 1 + i) (by unfold pT; omega)).1, Nat.add_assoc o, Nat.add_comm 1 i]
        exact hcd (i + 1) (by omega)) (by
        rw [(f1 187 92 (by unfold pT; omega)).1]
        exact he) hs1 hn1 hok1 ht61 htyl
      refine ⟨M', ?_, S', fr_tr f1 f'⟩
      subst hm1
      exact r1'
    rw [t257_7]
    simp (disch := omega) only [am_ob_p (kk_187 S), rr_187_91 S, am_gr_p, am_i_add, am_i_ix, he, am_br_ge, am_ix_p (kk_257 S), Int.toNat_natCast, e0]
    rw [if_neg (by omega)]
    rcases ty1_cases hty1 with ⟨v, rfl, h1, h2, h3, rfl⟩ | ⟨rfl, h1, r, rfl, rfl⟩ | ⟨k, rfl, h1, h2, h3, rfl⟩ | ⟨rfl, h1, rfl⟩ | ⟨rfl, r, rfl, rfl⟩ | ⟨hc0, r, rfl, rfl⟩ | ⟨hc0, r, rfl, rfl⟩ | ⟨hc0, r, rfl, rfl⟩
    · rw [fst1_num F _ s h1] at go
      have ev : (1000 + v - 1000 : Int) = v := by omega
      simp (disch := omega) only [am_br_lt, am_i_sub, ev, am_i2l]
      rw [if_neg (by omega), m_puts S (show s.length < 1700 by omega) hn, am_bV_p]
      refine go _ _ _ ((S.sL _ _ _).sI _ _ _) (fr_tr (fr_sL (Or.inl rfl)) (fr_sI (Or.inr ⟨rfl, Or.inr rfl⟩))) (am_I_same _ _ _ _) rfl ⟨?_, ?_⟩
      · exact am_L_same M 259 s.length (am_l v)
      · exact stl_mv hs (fun k hk => am_L_ne2 (show k ≠ s.length by omega))
    · obtain ⟨a, s', rfl, g1, g2, g3, g4⟩ := okv_cons hok
      have hl2 : (a :: s').length = s'.length + 1 := rfl
      rw [fst1_of] at go
      have en : am_I M 187 98 = am_i ((s'.length : Int) + 1) := hn
      have ev : ((s'.length : Int) + 1 - 1).toNat = s'.length := by omega
      have e1 : am_L M 259 s'.length = am_l a := hs.1
      have hw := hW a
      have hcl : clip (W a) = W a := clip_id hw.1 hw.2
      have ez : (60 : Int) - 60 = 0 := rfl
      simp (disch := omega) only [am_br_lt]
      rw [if_pos (by omega), if_neg (by omega)]
      simp (disch := omega) only [am_ob_p (kk_187 S), rr_187_97 S, am_gr_p, en, am_i_sub, am_ix_p (kk_259 S), am_i_ix, ev, e1, ez, hO M S f0 a g1 g2, am_bL_p, m_clip, hcl, am_iw_p (kk_259 S), am_lt]
      refine go _ _ _ (S.sL _ _ _) (fr_sL (Or.inl rfl)) hn rfl ⟨?_, ?_⟩
      · exact am_L_same M 259 s'.length _
      · exact stl_mv hs.2 (fun k hk => am_L_ne2 (show k ≠ s'.length by omega))
    · rw [fst1_part F _ s h1] at go
      have ev : (40 + (k : Int) - 40 : Int) = k := by omega
      have hFk := hF k h1 h2
      have hcl : clip (F k) = F k := clip_id hFk.1 hFk.2
      simp (disch := omega) only [am_br_lt, am_i_sub, ev]
      rw [if_pos (by omega), if_pos (by omega), if_neg (by omega)]
      simp (disch := omega) only [hP M S f0 k h1 h2, am_bL_p, m_clip, hcl, am_ob_p (kk_187 S), m_puts S (show s.length < 1700 by omega) hn, am_bV_p]
      refine go _ _ _ ((S.sL _ _ _).sI _ _ _) (fr_tr (fr_sL (Or.inl rfl)) (fr_sI (Or.inr ⟨rfl, Or.inr rfl⟩))) (am_I_same _ _ _ _) rfl ⟨?_, ?_⟩
      · exact am_L_same M 259 s.length _
      · exact stl_mv hs (fun k hk => am_L_ne2 (show k ≠ s.length by omega))
    · rw [fst1_all] at go
      simp (disch := omega) only [am_br_lt, am_br_ne]
      rw [if_pos (by omega), if_pos (by omega), if_pos (by omega), if_pos trivial, m_puts S (show s.length < 1700 by omega) hn, am_bV_p]
      refine go _ _ _ ((S.sL _ _ _).sI _ _ _) (fr_tr (fr_sL (Or.inl rfl)) (fr_sI (Or.inr ⟨rfl, Or.inr rfl⟩))) (am_I_same _ _ _ _) rfl ⟨?_, ?_⟩
      · exact am_L_same M 259 s.length _
      · exact stl_mv hs (fun k hk => am_L_ne2 (show k ≠ s.length by omega))
    · obtain ⟨a, s', rfl, g1, g2, g3, g4⟩ := okv_cons hok
      have hl2 : (a :: s').length = s'.length + 1 := rfl
      rw [fst1_not] at go
      have en : am_I M 187 98 = am_i ((s'.length : Int) + 1) := hn
      have ev : ((s'.length : Int) + 1 - 1).toNat = s'.length := by omega
      have e1 : am_L M 259 s'.length = am_l a := hs.1
      simp (disch := omega) only [am_br_lt, am_br_ne]
      rw [if_pos (by omega), if_pos (by omega), if_pos (by omega), if_neg (by omega), if_pos trivial]
      simp (disch := omega) only [rr_187_97 S, am_gr_p, en, am_i_sub, am_ix_p (kk_259 S), am_iw_p (kk_259 S), am_i_ix, ev, e1, am_l_sub, am_lt]
      refine go _ _ _ (S.sL _ _ _) (fr_sL (Or.inl rfl)) hn rfl ⟨?_, ?_⟩
      · exact am_L_same M 259 s'.length _
      · exact stl_mv hs.2 (fun k hk => am_L_ne2 (show k ≠ s'.length by omega))
    all_goals
      obtain ⟨y, s', rfl, g1, g2, g3, g4⟩ := okv_cons hok
      obtain ⟨x, s'', rfl, g5, g6, g7, g8⟩ := okv_cons g4
      have hl2 : (y :: x :: s'').length = s''.length + 2 := rfl
      have hc1 : 1 ≤ c0 := by omega
      have hc11 : c0 ≤ 11 := by omega
      have ef := fst1_op F W s'' x y hc1 hc11
      rw [ef] at go
      have en : am_I M 187 98 = am_i ((s''.length : Int) + 2) := hn
      simp (disch := omega) only [am_br_lt, am_br_ne]
      rw [if_pos (by omega), if_pos (by omega), if_pos (by omega), if_neg (by omega), if_neg (by omega)]
      rw [m_joins S (show s''.length + 2 ≤ 1700 by omega) en hs.2.1 hs.1 g5 g6 g1 g2 hc1 hc11, am_bV_p]
      refine go _ _ _ (((S.sI _ _ _).sL _ _ _).sI _ _ _) (fr_tr (fr_tr (fr_sI (Or.inr ⟨rfl, Or.inr rfl⟩)) (fr_sL (Or.inl rfl))) (fr_sI (Or.inr ⟨rfl, Or.inr rfl⟩))) (am_I_same _ _ _ _) rfl ⟨?_, ?_⟩
      · exact am_L_same (am_sI M 187 98 (am_i s''.length)) 259 s''.length _
      · exact stl_mv hs.2.2 (fun k hk => am_L_ne2 (show k ≠ s''.length by omega))
/-- what the reference holds while it asks all films -/
def mQs (L : Nat) (q : am_Pq) (X : am_X) (A : am_A) (p : Nat) (F : List Int) (M : am_M) : Prop := am_Sh L q M ∧ mH M X ∧ mA M A ∧ am_I M 187 57 = am_i (prof A p : Int) ∧ am_I M 187 56 = am_i (p : Int) ∧ am_I M 187 92 = am_i (F.length : Int) ∧ ∀ i, i < F.length → am_I M 257 i = am_i (F.getD i 0)
theorem mQs_mv {L : Nat} {q : am_Pq} {X : am_X} {A : am_A} {p : Nat} {F : List Int} {M M' : am_M} (H : mQs L q X A p F M) (B : hB X) (S' : am_Sh L q M') (f : fr (fun b k => b = 259 ∨ (b = 187 ∧ (k = 53 ∨ k = 98 ∨ k = 99 ∨ k = 100))) M M') : mQs L q X A p F M' := by
  obtain ⟨S, HX, HA, e57, e56, e92, eF⟩ := H
  have e : ∀ b k, ¬ (b = 259 ∨ (b = 187 ∧ (k = 53 ∨ k = 98 ∨ k = 99 ∨ k = 100))) → am_I M' b k = am_I M b k := fun b k h => (f b k h).1
  exact ⟨S', mH_mv HX B (fun b k h1 h2 h3 => e b k (by omega)), mA_mv HA (fun k hk => e _ _ (by omega)), (e _ _ (by omega)).trans e57, (e _ _ (by omega)).trans e56, (e _ _ (by omega)).trans e92, fun i hi => (e _ _ (by omega)).trans (eF i hi)⟩
theorem m_qTold {L : Nat} {q : am_Pq} {X : am_X} {A : am_A} {p : Nat} {F : List Int} {M : am_M} (H : mQs L q X A p F M) (B : hB X) (BA : aB X A) (hp : p < nP X) {f : Nat} (hf : f < nF X) {bb : Bool} (hwf : wf (alw 3) true bb F) (hl : F.length ≤ 1600) (d : Nat) : ∃ M', am_cl 257 (d + 3) [.ref 187, .int (am_i (f : Int))] M = some (some (.long (am_l (qv X A p F f))), M') ∧ mQs L q X A p F M' ∧ fr pT M M' := by
  have hP5 := (hB_P B).2
  have hF8 := (hB_F B).2
  have hq := prof_lt A (show p < 5 by omega)
  have S := H.1
  have S1 := S.sI 187 98 (am_i 0)
  have f1 : fr pT M (am_sI M 187 98 (am_i 0)) := fr_sI (Or.inr ⟨rfl, Or.inr rfl⟩)
  have pTQ : ∀ b k, pT b k → b = 259 ∨ (b = 187 ∧ (k = 53 ∨ k = 98 ∨ k = 99 ∨ k = 100)) := fun b k h => by unfold pT at h; omega
  have hFok : Fok (alw 3) (fct X A (prof A p) f p 0 0) := fct_ok B BA (j := 3) (by decide) (fun _ => ⟨hq, hf⟩) (fun _ => hp) (fun h => absurd h (by decide)) (fun h => absurd h (by decide))
  have Hm : ∀ M', am_Sh L q M' → fr pT M M' → mQs L q X A p F M' := fun M' S' f' => mQs_mv H B S' (fr_mono f' pTQ)
  obtain ⟨M', r, S', f'⟩ := m_qrun (M0 := M) hFok (wW_ok B hf) (f := f) (d := d + 1) (n := F.length) (by omega) hl (fun M' S' f' k hk ha => by
    obtain ⟨-, HX', HA', g57, g56, -, -⟩ := Hm M' S' f'
    exact m_partOf S' HX' HA' B BA (j := 3) (by decide) (fun _ => ⟨hq, hf, g57⟩) (fun _ => ⟨hp, g56⟩) (fun h => absurd h (by decide)) (fun h => absurd h (by decide)) (by omega) d hk ha) (fun M' S' f' a h1 h2 => m_of S' (Hm M' S' f').2.1 B hf h1 h2 (d + 1)) F 0 [] [] (am_sI M 187 98 (am_i 0)) .null S1 f1 (by omega) (fun i hi => by rw [Nat.zero_add, (f1 257 i (by unfold pT; omega)).1]; exact H.2.2.2.2.2.2 i hi) (by rw [(f1 187 92 (by unfold pT; omega)).1]; exact H.2.2.2.2.2.1) trivial (am_I_same _ _ _ _) trivial (by decide) hwf
  refine ⟨M', ?_, Hm M' S' (fr_tr f1 f'), fr_tr f1 f'⟩
  rw [t257, am_ob_p (kk_187 S), am_lt]
  exact r
theorem rA_s0 {v : Nat → Int} (i : Nat) : rA 0 v (i + 1) = if v i = 1 ∧ rA 0 v i = -1 then (i : Int) else rA 0 v i := rfl
theorem rA_s1 {v : Nat → Int} (i : Nat) : rA 1 v (i + 1) = if v i = 1 then (i : Int) else rA 1 v i := rfl
theorem rA_s2 {v : Nat → Int} (i : Nat) : rA 2 v (i + 1) = if v i = 1 then rA 2 v i + 1 else rA 2 v i := rfl
theorem rA_s3 {v : Nat → Int} (i : Nat) : rA 3 v (i + 1) = rA 3 v i + v i := rfl
theorem rA_all {v : Nat → Int} {k : Int} (hk : 0 ≤ k ∧ k ≤ 5) : ∀ n : Nat, n ≤ 1000 → (∀ f, f < n → -1000000 ≤ v f ∧ v f ≤ 1000000) → -1 - 1000000 * (n : Int) ≤ rA k v n ∧ rA k v n ≤ 1000000 * (n : Int) ∧ (k < 4 ∨ (-1000000 ≤ rA k v n ∧ rA k v n ≤ 1000000))
  | 0, _, _ => by
    have e : rA k v 0 = if k < 2 then -1 else 0 := rfl
    rw [e]
    split <;> omega
  | n + 1, hn, h => by
    obtain ⟨i1, i2, i3⟩ := rA_all hk n (by omega) (fun f hf => h f (by omega))
    have i4 := h n (by omega)
    have hc : k = 0 ∨ k = 1 ∨ k = 2 ∨ k = 3 ∨ k = 4 ∨ k = 5 := by omega
    have e1 : ((n + 1 : Nat) : Int) = (n : Int) + 1 := by omega
    rw [e1]
    rcases hc with rfl | rfl | rfl | rfl | rfl | rfl
    · rw [rA_s0]; split <;> omega
    · rw [rA_s1]; split <;> omega
    · rw [rA_s2]; split <;> omega
    · rw [rA_s3]; omega
    · rw [rA_most]; split <;> omega
    · rw [rA_least]; split <;> omega
theorem m_qTakes {L : Nat} {q : am_Pq} {M : am_M} (S : am_Sh L q M) {v : Nat → Int} {k : Int} (hk : 0 ≤ k ∧ k ≤ 5) {i : Nat} (hi : i < 8) (hv : -1000000 ≤ v i ∧ v i ≤ 1000000) (ha : -100000000 ≤ rA k v i ∧ rA k v i ≤ 100000000) (e99 : am_L M 187 99 = am_l (rA k v i)) (e100 : am_I M 187 100 = am_i (if i = 0 then 1 else 0)) (d : Nat) : ∃ M', am_cl 259 d [.ref 187, .int (am_i k), .long (am_l (v i)), .int (am_i (i : Int))] M = some (none, M') ∧ am_Sh L q M' ∧ am_L M' 187 99 = am_l (rA k v (i + 1)) ∧ am_I M' 187 100 = am_i 0 ∧ fr (fun b k => b = 187 ∧ (k = 99 ∨ k = 100)) M M' := by
  -- with the answer x, behind all
  have fin : ∀ x : Int, am_cl 259 d [.ref 187, .int (am_i k), .long (am_l (v i)), .int (am_i (i : Int))] M = some (none, am_sI (am_sL M 187 99 (am_l x)) 187 100 (am_i 0)) → rA k v (i + 1) = x → ∃ M', am_cl 259 d [.ref 187, .int (am_i k), .long (am_l (v i)), .int (am_i (i : Int))] M = some (none, M') ∧ am_Sh L q M' ∧ am_L M' 187 99 = am_l (rA k v (i + 1)) ∧ am_I M' 187 100 = am_i 0 ∧ fr (fun b k => b = 187 ∧ (k = 99 ∨ k = 100)) M M' := fun x r e => ⟨_, r, (S.sL _ _ _).sI _ _ _, by rw [e, am_L_sI', am_L_same], am_I_same _ _ _ _, fr_tr (fr_sL ⟨rfl, Or.inl rfl⟩) (fr_sI ⟨rfl, Or.inr rfl⟩)⟩
  have fin0 : am_cl 259 d [.ref 187, .int (am_i k), .long (am_l (v i)), .int (am_i (i : Int))] M = some (none, am_sI M 187 100 (am_i 0)) → rA k v (i + 1) = rA k v i → ∃ M', am_cl 259 d [.ref 187, .int (am_i k), .long (am_l (v i)), .int (am_i (i : Int))] M = some (none, M') ∧ am_Sh L q M' ∧ am_L M' 187 99 = am_l (rA k v (i + 1)) ∧ am_I M' 187 100 = am_i 0 ∧ fr (fun b k => b = 187 ∧ (k = 99 ∨ k = 100)) M M' := fun r e => ⟨_, r, S.sI _ _ _, by rw [e, am_L_sI']; exact e99, am_I_same _ _ _ _, fr_sI ⟨rfl, Or.inr rfl⟩⟩
  obtain ⟨a, hra⟩ : ∃ a, a = rA k v i := ⟨_, rfl⟩
  obtain ⟨x, hx⟩ : ∃ x, x = v i := ⟨_, rfl⟩
  rw [← hra] at e99 ha
  rw [← hx] at hv
  have hi01 : -1 ≤ (if i = 0 then (1 : Int) else 0) ∧ (if i = 0 then (1 : Int) else 0) ≤ 1 := by split <;> omega
  -- the first way
  have w16 : ∀ y v3 v5, am_ev 259 d 90 [.ref 187, .int (am_i k), .long y, v3, .int (am_i (i : Int)), v5] [] M = am_ev 259 d 90 [.ref 187, .int (am_i k), .long y, v3, .int (am_i (i : Int)), v5] [] M := fun _ _ _ => rfl
  have e90 : ∀ (N : am_M) y v3 v4 v5, am_Sh L q N → k ≤ 3 → am_ev 259 d 90 [.ref 187, .int (am_i k), .long y, v3, v4, v5] [] N = some (none, am_sI N 187 100 (am_i 0)) := fun N y v3 v4 v5 SN h => by
    rw [t259_90, am_br_le (by omega) (by omega) (by omega) (by omega), if_pos h, am_ob_p (kk_187 SN), am_tr_0, am_lt]
  have hc : k = 0 ∨ k = 1 ∨ k = 2 ∨ k = 3 ∨ k = 4 ∨ k = 5 := by omega
  have SA : ∀ z, am_Sh L q (am_sL M 187 99 z) := fun z => S.sL _ _ _
  have is01 : am_cl 259 d [.ref 187, .int (am_i k), .long (am_l (v i)), .int (am_i (i : Int))] M = am_ev 259 d 16 [.ref 187, .int (am_i k), .long (am_l x), .null, .int (am_i (i : Int)), .null] [.int (am_i (if k < 3 ∧ x = 1 then 1 else 0))] M := by
    rw [t259, ← hx, am_br_ge (by omega) (by omega) (by omega) (by omega)]
    by_cases g : 3 ≤ k
    · rw [if_pos g, if_neg (show ¬ (k < 3 ∧ x = 1) by omega)]
    · rw [if_neg g, cmp_ne (by omega) (by omega) (by omega) (by omega)]
      by_cases g2 : x = 1
      · rw [if_pos g2, if_pos (show k < 3 ∧ x = 1 from ⟨by omega, g2⟩)]
      · rw [if_neg g2, if_neg (fun h => g2 h.2)]
  rcases hc with h | h | h | h | h | h
  · subst h
    by_cases g1 : x = 1
    · rw [if_pos (show (0 : Int) < 3 ∧ x = 1 from ⟨by decide, g1⟩), t259_16, am_br_ne (by omega) (by omega) (by omega) (by omega), if_pos rfl, am_br_eq (by omega) (by omega) (by omega) (by omega), if_neg (by decide), am_ob_p (kk_187 S), e99, cmp_eq (by omega) (by omega) (by omega) (by omega)] at is01
      by_cases g2 : a = -1
      · rw [if_pos g2, am_ob_p (kk_187 S), am_lt, t259_55, am_br_ne (by omega) (by omega) (by omega) (by omega), if_neg (by decide), t259_75, am_br_ne (by omega) (by omega) (by omega) (by omega), if_neg (by decide), e90 _ _ _ _ _ (SA _) (by decide), am_i2l (by omega) (by omega)] at is01
        exact fin (i : Int) is01 (by rw [rA_s0, if_pos ⟨hx ▸ g1, by rw [← hra]; exact g2⟩])
      · rw [if_neg g2, t259_38, am_br_ne (by omega) (by omega) (by omega) (by omega), if_neg (by decide), t259_55, am_br_ne (by omega) (by omega) (by omega) (by omega), if_neg (by decide), t259_75, am_br_ne (by omega) (by omega) (by omega) (by omega), if_neg (by decide), e90 _ _ _ _ _ S (by decide)] at is01
        exact fin0 is01 (by rw [rA_s0, if_neg (fun h => g2 (by rw [hra]; exact h.2))])
    · rw [if_neg (fun h => g1 h.2), t259_16, am_br_ne (by omega) (by omega) (by omega) (by omega), if_pos rfl, am_br_eq (by omega) (by omega) (by omega) (by omega), if_pos rfl, t259_38, am_br_ne (by omega) (by omega) (by omega) (by omega), if_neg (by decide), t259_55, am_br_ne (by omega) (by omega) (by omega) (by omega), if_neg (by decide), t259_75, am_br_ne (by omega) (by omega) (by omega) (by omega), if_neg (by decide), e90 _ _ _ _ _ S (by decide)] at is01
      exact fin0 is01 (by rw [rA_s0, if_neg (fun h => g1 (by rw [hx]; exact h.1))])
  · subst h
    rw [t259_16, am_br_ne (by omega) (by omega) (by omega) (by omega), if_neg (by decide), t259_38, am_br_ne (by omega) (by omega) (by omega) (by omega), if_pos rfl] at is01
    by_cases g1 : x = 1
    · rw [if_pos (show (1 : Int) < 3 ∧ x = 1 from ⟨by decide, g1⟩), am_br_eq (by omega) (by omega) (by omega) (by omega), if_neg (by decide), am_ob_p (kk_187 S), am_lt, t259_55, am_br_ne (by omega) (by omega) (by omega) (by omega), if_neg (by decide), t259_75, am_br_ne (by omega) (by omega) (by omega) (by omega), if_neg (by decide), e90 _ _ _ _ _ (SA _) (by decide), am_i2l (by omega) (by omega)] at is01
      exact fin (i : Int) is01 (by rw [rA_s1, if_pos (hx ▸ g1)])
    · rw [if_neg (fun h => g1 h.2), am_br_eq (by omega) (by omega) (by omega) (by omega), if_pos rfl, t259_55, am_br_ne (by omega) (by omega) (by omega) (by omega), if_neg (by decide), t259_75, am_br_ne (by omega) (by omega) (by omega) (by omega), if_neg (by decide), e90 _ _ _ _ _ S (by decide)] at is01
      exact fin0 is01 (by rw [rA_s1, if_neg (fun h => g1 (by rw [hx]; exact h))])
  · subst h
    rw [t259_16, am_br_ne (by omega) (by omega) (by omega) (by omega), if_neg (by decide), t259_38, am_br_ne (by omega) (by omega) (by omega) (by omega), if_neg (by decide), t259_55, am_br_ne (by omega) (by omega) (by omega) (by omega), if_pos rfl] at is01
    by_cases g1 : x = 1
    · rw [if_pos (show (2 : Int) < 3 ∧ x = 1 from ⟨by decide, g1⟩), am_br_eq (by omega) (by omega) (by omega) (by omega), if_neg (by decide), am_ob_p (kk_187 S), am_ob_p (kk_187 S), e99, am_l_add, am_lt, t259_75, am_br_ne (by omega) (by omega) (by omega) (by omega), if_neg (by decide), e90 _ _ _ _ _ (SA _) (by decide)] at is01
      exact fin (a + 1) is01 (by rw [rA_s2, if_pos (hx ▸ g1), ← hra])
    · rw [if_neg (fun h => g1 h.2), am_br_eq (by omega) (by omega) (by omega) (by omega), if_pos rfl, t259_75, am_br_ne (by omega) (by omega) (by omega) (by omega), if_neg (by decide), e90 _ _ _ _ _ S (by decide)] at is01
      exact fin0 is01 (by rw [rA_s2, if_neg (fun h => g1 (by rw [hx]; exact h))])
  · subst h
    rw [if_neg (fun h => absurd h.1 (by decide)), t259_16, am_br_ne (by omega) (by omega) (by omega) (by omega), if_neg (by decide), t259_38, am_br_ne (by omega) (by omega) (by omega) (by omega), if_neg (by decide), t259_55, am_br_ne (by omega) (by omega) (by omega) (by omega), if_neg (by decide), t259_75, am_br_ne (by omega) (by omega) (by omega) (by omega), if_pos rfl, am_ob_p (kk_187 S), am_ob_p (kk_187 S), e99, am_l_add, am_lt, e90 _ _ _ _ _ (SA _) (by decide)] at is01
    exact fin (a + x) is01 (by rw [rA_s3, ← hra, ← hx])
  · subst h
    rw [if_neg (fun h => absurd h.1 (by decide)), t259_16, am_br_ne (by omega) (by omega) (by omega) (by omega), if_neg (by decide), t259_38, am_br_ne (by omega) (by omega) (by omega) (by omega), if_neg (by decide), t259_55, am_br_ne (by omega) (by omega) (by omega) (by omega), if_neg (by decide), t259_75, am_br_ne (by omega) (by omega) (by omega) (by omega), if_neg (by decide), t259_90, am_br_le (by omega) (by omega) (by omega) (by omega), if_neg (by decide), am_ob_p (kk_187 S), e100, am_br_ne (by omega) (by omega) (by omega) (by omega)] at is01
    by_cases g1 : i = 0
    · rw [if_pos g1, if_neg (by decide), am_ob_p (kk_187 S), am_lt, am_ob_p (kk_187 (SA _)), am_tr_0, am_lt] at is01
      exact fin x is01 (by rw [rA_most, if_pos (Or.inl g1), ← hx])
    · rw [if_neg g1, if_pos rfl, am_br_ne (by omega) (by omega) (by omega) (by omega), if_pos rfl, am_ob_p (kk_187 S), e99, cmp_le (by omega) (by omega) (by omega) (by omega)] at is01
      by_cases g2 : x ≤ a
      · rw [if_pos g2, am_ob_p (kk_187 S), am_tr_0, am_lt] at is01
        exact fin0 is01 (by rw [rA_most, ← hra, ← hx, if_neg (by omega)])
      · rw [if_neg g2, am_ob_p (kk_187 S), am_lt, am_ob_p (kk_187 (SA _)), am_tr_0, am_lt] at is01
        exact fin x is01 (by rw [rA_most, ← hra, ← hx, if_pos (by omega)])
  · subst h
    rw [if_neg (fun h => absurd h.1 (by decide)), t259_16, am_br_ne (by omega) (by omega) (by omega) (by omega), if_neg (by decide), t259_38, am_br_ne (by omega) (by omega) (by omega) (by omega), if_neg (by decide), t259_55, am_br_ne (by omega) (by omega) (by omega) (by omega), if_neg (by decide), t259_75, am_br_ne (by omega) (by omega) (by omega) (by omega), if_neg (by decide), t259_90, am_br_le (by omega) (by omega) (by omega) (by omega), if_neg (by decide), am_ob_p (kk_187 S), e100, am_br_ne (by omega) (by omega) (by omega) (by omega)] at is01
    by_cases g1 : i = 0
    · rw [if_pos g1, if_neg (by decide), am_ob_p (kk_187 S), am_lt, am_ob_p (kk_187 (SA _)), am_tr_0, am_lt] at is01
      exact fin x is01 (by rw [rA_least, if_pos (Or.inl g1), ← hx])
    · rw [if_neg g1, if_pos rfl, am_br_ne (by omega) (by omega) (by omega) (by omega), if_neg (show ¬ (5 : Int) = 4 by decide), am_ob_p (kk_187 S), e99, cmp_ge (by omega) (by omega) (by omega) (by omega)] at is01
      by_cases g2 : a ≤ x
      · rw [if_pos g2, am_ob_p (kk_187 S), am_tr_0, am_lt] at is01
        exact fin0 is01 (by rw [rA_least, ← hra, ← hx, if_neg (by omega)])
      · rw [if_neg g2, am_ob_p (kk_187 S), am_lt, am_ob_p (kk_187 (SA _)), am_tr_0, am_lt] at is01
        exact fin x is01 (by rw [rA_least, ← hra, ← hx, if_pos (by omega)])
theorem m_askLoop {L : Nat} {q : am_Pq} {X : am_X} {A : am_A} {p : Nat} {F : List Int} (B : hB X) (BA : aB X A) (hp : p < nP X) {bb : Bool} (hwf : wf (alw 3) true bb F) (hl : F.length ≤ 1600) {k : Int} (hk : 0 ≤ k ∧ k ≤ 5) (d : Nat) : ∀ m i : Nat, i + m = nF X → ∀ {M}, mQs L q X A p F M → am_L M 187 99 = am_l (rA k (qv X A p F) i) → am_I M 187 100 = am_i (if i = 0 then 1 else 0) → ∀ v1, ∃ M', am_ev 260 (d + 4) 203 [.ref 187, v1, .int (am_i k), .int (am_i (i : Int))] [] M = some (some (.long (am_l (rA k (qv X A p F) (nF X)))), M') ∧ am_Sh L q M' ∧ fr (fun b k => b = 259 ∨ (b = 187 ∧ (k = 53 ∨ k = 98 ∨ k = 99 ∨ k = 100))) M M' := by
  have hF8 := hB_F B
  intro m
  induction m with
  | zero =>
    intro i hi M H e99 e100 v1
    refine ⟨M, ?_, H.1, fr_rfl _ _⟩
    rw [t260_203, am_ob_p (kk_187 H.1), m_filmMany H.1 H.2.1, am_bI_p, am_br_ge (by omega) (by omega) (by omega) (by omega), if_pos (by omega), am_ob_p (kk_187 H.1), e99, show i = nF X by omega]
  | succ m ih =>
    intro i hi M H e99 e100 v1
    have hfi : i < nF X := by omega
    have hvb : ∀ f, f < nF X → -1000000 ≤ qv X A p F f ∧ qv X A p F f ≤ 1000000 := fun f hf => by
      have := qv_ok B BA hp hf hwf
      exact ⟨this.1, this.2.1⟩
    have hra := rA_all (v := qv X A p F) hk i (by omega) (fun f hf => hvb f (by omega))
    obtain ⟨M1, r1, H1, f1⟩ := m_qTold H B BA hp hfi hwf hl d
    have n1 : ∀ k, k = 99 ∨ k = 100 → am_I M1 187 k = am_I M 187 k ∧ am_L M1 187 k = am_L M 187 k := fun k hk => f1 187 k (by unfold pT; omega)
    obtain ⟨M2, r2, S2, g99, g100, f2⟩ := m_qTakes H1.1 (v := qv X A p F) hk (i := i) (by omega) (hvb i hfi) (by omega) (by rw [(n1 99 (by omega)).2]; exact e99) (by rw [(n1 100 (by omega)).1]; exact e100) (d + 3)
    obtain ⟨M3, r3, S3, f3⟩ := ih (i + 1) (by omega) (mQs_mv H1 B S2 (fr_mono f2 (fun b k h => by omega))) g99 (by rw [if_neg (by omega)]; exact g100) v1
    refine ⟨M3, ?_, S3, fr_tr (fr_mono f1 (fun b k h => by unfold pT at h; omega)) (fr_tr (fr_mono f2 (fun b k h => by omega)) f3)⟩
    rw [t260_203, am_ob_p (kk_187 H.1), m_filmMany H.1 H.2.1, am_bI_p, am_br_ge (by omega) (by omega) (by omega) (by omega), if_neg (by omega), am_ob_p (kk_187 H.1), r1, am_bL_p, am_ob_p (kk_187 H1.1), r2, am_bV_p, am_i_add]
    exact r3
