/-! Calls that act. -/
def sW (W : am_Wo) (A : am_A) (K : List Int) (P : List (am_A × List Int)) (Z : Nat → Nat → Int) : am_Wo := (wX W, wN W, wG W, A, K, P, Z)
def aC (q : am_Pq) (b k : Nat) : Prop := sC q b k ∨ zC b k ∨ (63 ≤ b ∧ b < 187) ∨ (b = 2 ∧ (k = 6 ∨ k = 7))
def aM (b k : Nat) : Prop := sM b k ∨ zM b k ∨ b = 229 ∨ b = 236 ∨ (b = 187 ∧ (k = 60 ∨ k = 68 ∨ k = 69))
theorem cWo_act {q q' : am_Pq} {M M' : am_M} {W : am_Wo} {b b' : Nat} {A : am_A} {K : List Int} {P : List (am_A × List Int)} {Z : Nat → Nat → Int} (H : cWo q M W b) (hq : qok q) (hB1 : hB (wX W)) (hq' : q'.2.2.1 = q.2.2.1) (f : fr (aC q) M M') (hA : cA M' 64 A) (hK : cK M' 64 K b') (hP : cWp M' P b') (hz : cWz M' Z) : cWo q' M' (sW W A K P Z) b' := by
  obtain ⟨h1, h2, h3, h4, h5, h6, -, h8⟩ := H
  obtain ⟨g1, -, -⟩ := hq
  have eh : ∀ b k, q.2.2.1 ≤ b → b < q.2.2.1 + 25 → am_I M' b k = am_I M b k := fun b k k1 k2 => (f b k (by unfold aC sC zC; omega)).1
  unfold cWo
  rw [hq']
  exact ⟨cH_mv h1 hB1 (fun b k k1 k2 => eh b k k1 (by omega)), fun s hs w hw => (eh _ _ (by omega) (by omega)).trans (h2 s hs w hw), cG_mv h3 eh, hA, hK, hP, hz, fun k hk => by rw [(f 31 k (by unfold aC sC zC; omega)).2]; exact h8 k hk⟩
theorem mWo_act {M M' : am_M} {W : am_Wo} {A : am_A} {K : List Int} {P : List (am_A × List Int)} {Z : Nat → Nat → Int} (H : mWo M W) (hB1 : hB (wX W)) (f : fr aM M M') (hA : mA M' A) (hK : mK M' K) (hP : mWp M' P) (hz : mWz M' Z) (h60 : am_I M' 187 60 = am_i 0) : mWo M' (sW W A K P Z) := by
  obtain ⟨h1, h2, h3, -, -, -, -, h8, -⟩ := H
  have e : ∀ b k, ¬ aM b k → am_I M' b k = am_I M b k := fun b k h => (f b k h).1
  obtain ⟨u1, u2, u3, u4, u5, u6, u7⟩ := h1
  refine ⟨⟨fun k hk => (e _ _ (by unfold aM sM zM; omega)).trans (u1 k hk), fun k hk => (e _ _ (by unfold aM sM zM; omega)).trans (u2 k hk), fun p hp k hk => (e _ _ (by unfold aM sM zM; omega)).trans (u3 p hp k hk), fun k hk => (e _ _ (by unfold aM sM zM; omega)).trans (u4 k hk), fun k hk => (e _ _ (by unfold aM sM zM; omega)).trans (u5 k hk), fun p hp k hk => (e _ _ (by unfold aM sM zM; omega)).trans (u6 p hp k hk), fun k hk => (e _ _ (by unfold aM sM zM; omega)).trans (u7 k hk)⟩, fun s hs w hw => ?_, ?_, hA, hK, hP, hz, ⟨fun j hj k hk => (e _ _ (by unfold aM sM zM; omega)).trans (h8.1 j hj k hk), fun j hj k hk => (e _ _ (by unfold aM sM zM; omega)).trans (h8.2 j hj k hk)⟩, h60⟩
  · have := nM_8 hB1 hs
    rw [(f 220 _ (by unfold aM sM zM; omega)).2]
    exact h2 s hs w hw
  · exact mG_mv h3 (fun b k k1 k2 k3 k4 => e _ _ (by unfold aM sM zM; omega))
theorem cWp_mv {M M' : am_M} {P : List (am_A × List Int)} {b : Nat} (H : cWp M P b) (e : ∀ b k, (b = 2 ∧ (k = 6 ∨ k = 7)) ∨ (87 ≤ b ∧ b < 187) → am_I M' b k = am_I M b k) : cWp M' P b := by
  obtain ⟨o, k1, k2, k3, k4, k5⟩ := H
  refine ⟨o, k1, (e _ _ (by omega)).trans k2, (e _ _ (by omega)).trans k3, k4, fun j a hj => ?_⟩
  obtain ⟨k6, k7⟩ := k5 j a hj
  exact ⟨cA_mv k6 (fun b k j1 j2 j3 => e b k (by omega)), cK_mv k7 (e _ _ (by omega)) (fun k => e _ _ (by omega))⟩
theorem mWp_mv {M M' : am_M} {P : List (am_A × List Int)} (H : mWp M P) (e : ∀ b k, b = 236 ∨ (b = 187 ∧ (k = 68 ∨ k = 69)) → am_I M' b k = am_I M b k) : mWp M' P := by
  obtain ⟨w, k1, k2, k3, k4, k5⟩ := H
  refine ⟨w, k1, (e _ _ (by omega)).trans k2, (e _ _ (by omega)).trans k3, k4, fun j a hj => ?_⟩
  obtain ⟨k6, k7⟩ := k5 j a hj
  exact ⟨mAo_mv k6 (fun k => e _ _ (by omega)), mKo_mv k7 (fun k => e _ _ (by omega))⟩
theorem cWz_mv2 {M M' : am_M} {Z : Nat → Nat → Int} (H : cWz M Z) (e : ∀ b k, zC b k → am_I M' b k = am_I M b k) : cWz M' Z := by
  obtain ⟨k1, k2, k3, k4, k5, k6, k7, k8, k9, k10⟩ := H
  exact ⟨fun k hk => (e _ _ (by unfold zC; omega)).trans (k1 k hk), (e _ _ (by unfold zC; omega)).trans k2, (e _ _ (by unfold zC; omega)).trans k3, (e _ _ (by unfold zC; omega)).trans k4, fun k hk => (e _ _ (by unfold zC; omega)).trans (k5 k hk), (e _ _ (by unfold zC; omega)).trans k6, fun k hk => (e _ _ (by unfold zC; omega)).trans (k7 k hk), (e _ _ (by unfold zC; omega)).trans k8, fun k hk => (e _ _ (by unfold zC; omega)).trans (k9 k hk), (e _ _ (by unfold zC; omega)).trans k10⟩
theorem mWz_mv2 {M M' : am_M} {Z : Nat → Nat → Int} (H : mWz M Z) (e : ∀ b k, zM b k → am_I M' b k = am_I M b k ∧ am_L M' b k = am_L M b k) : mWz M' Z := by
  obtain ⟨k1, k2, k3, k4, k5, k6, k7, k8, k9, k10⟩ := H
  exact ⟨fun k hk => (e _ _ (by unfold zM; omega)).1.trans (k1 k hk), (e _ _ (by unfold zM; omega)).1.trans k2, (e _ _ (by unfold zM; omega)).1.trans k3, (e _ _ (by unfold zM; omega)).1.trans k4, fun k hk => (e _ _ (by unfold zM; omega)).1.trans (k5 k hk), (e _ _ (by unfold zM; omega)).1.trans k6, fun k hk => (e _ _ (by unfold zM; omega)).1.trans (k7 k hk), (e _ _ (by unfold zM; omega)).1.trans k8, fun k hk => (e _ _ (by unfold zM; omega)).1.trans (k9 k hk), (e _ _ (by unfold zM; omega)).2.trans k10⟩
/-- a call that acts -/
theorem Call_act {L : Nat} {xs : Nat → Int32} {mc mm : Nat} {a : List Value} {M M1 M2 : am_M} {W : am_Wo} {b : Nat} {q q' : am_Pq} {v : Value} {A : am_A} {K : List Int} {P : List (am_A × List Int)} {Z : Nat → Nat → Int} (hv : (∃ z, v = .int z) ∨ ∃ z, v = .long z) (hq : qok q) (HC : cWo q M W b) (HM : mWo M W) (B : wB W) (h0 : ∀ k, am_I M 0 k = xs k)
    (r1 : am_cl mc 599 (.ref 2 :: a) M = some (some v, M1)) (f1 : fr (fun b k => aC q b k ∧ b < 187) M M1) (c1 : cA M1 64 A) (c2 : cK M1 64 K (b + 600)) (c3 : cWp M1 P (b + 600)) (c4 : cWz M1 Z) (hq' : qok q') (hqq : q'.2.2.1 = q.2.2.1)
    (r2 : am_cl mm 599 (.ref 187 :: a) M1 = some (some v, M2)) (f2 : fr (fun b k => aM b k ∧ 187 ≤ b) M1 M2) (m1 : mA M2 A) (m2 : mK M2 K) (m3 : mWp M2 P) (m4 : mWz M2 Z) (h60 : am_I M2 187 60 = am_i 0) (BA : aB (wX W) A) (BK : kB K) (BP : ∀ a ∈ P, aB (wX W) a.1 ∧ kB a.2) (BZ : zB (wX W) Z) (S2 : am_Sh L q' M2) : Call L xs mc mm a M b := by
  have e : ∀ b k, b < 187 → am_I M2 b k = am_I M1 b k := fun b k h => (f2 b k (fun h2 => absurd h2.2 (by omega))).1
  refine ⟨v, M1, M2, sW W A K P Z, r1, r2, ⟨q', hq', S2, cWo_act HC hq B.1 hqq ?_ (cA_mv c1 (fun b k j1 j2 j3 => e b k (by omega))) (cK_mv c2 (e _ _ (by omega)) (fun k => e _ _ (by omega))) (cWp_mv c3 (fun b k h => e b k (by omega))) (cWz_mv c4 e), mWo_act HM B.1 ?_ m1 m2 m3 m4 h60, ?_, fun k => ?_⟩, hv⟩
  · exact fr_tr (fr_mono f1 (fun b k h => h.1)) (fr_mono f2 (fun b k h => Or.inl (sC_r h.2)))
  · exact fr_tr (fr_mono f1 (fun b k h => Or.inl (sM_lt h.2))) (fr_mono f2 (fun b k h => h.1))
  · obtain ⟨c1, c2, c3, -, -, -, -⟩ := B
    exact ⟨c1, c2, c3, BA, BK, BP, BZ⟩
  · rw [(f2 0 k (by unfold aM sM zM; omega)).1, (f1 0 k ?_).1]
    · exact h0 k
    · obtain ⟨g1, -, -⟩ := hq
      unfold aC sC zC
      omega
/-- a call refused -/
theorem Call_no {L : Nat} {xs : Nat → Int32} {mc mm : Nat} {a : List Value} {M : am_M} {W : am_Wo} {b : Nat} {q : am_Pq} {v : Value} (n : Nat) (hv : (∃ z, v = .int z) ∨ ∃ z, v = .long z) (hq : qok q) (S : am_Sh L q M) (HC : cWo q M W b) (HM : mWo M W) (B : wB W) (h0 : ∀ k, am_I M 0 k = xs k)
    (r1 : am_cl mc 599 (.ref 2 :: a) M = some (some v, am_sI M 37 n (am_i (wZ W 7 n + 1)))) (r2 : ∀ M1, am_Sh L q M1 → mWo M1 W → am_cl mm 599 (.ref 187 :: a) M1 = some (some v, am_sI M1 189 n (am_i (wZ W 7 n + 1)))) : Call L xs mc mm a M b := by
  have f1 : fr (fun b k => (sC q b k ∨ zC b k) ∧ b < 187) M (am_sI M 37 n (am_i (wZ W 7 n + 1))) := fr_37
  have HM1 : mWo (am_sI M 37 n (am_i (wZ W 7 n + 1))) W := mWo_mv HM B.1 (fr_mono f1 (fun b k h => sM_lt h.2))
  exact Call_Z (Z := refZ (wZ W) n) hv hq HC HM B h0 r1 f1 (cWz_7 HC.2.2.2.2.2.2.1 n) hq rfl (r2 _ (S.sI _ _ _) HM1) fr_189 (mWz_7 HM1.2.2.2.2.2.2.1 n) (zB_7 B.2.2.2.2.2.2 n) ((S.sI _ _ _).sI _ _ _)
/-- the rows' bounds -/
theorem kpush_B {K : List Int} {r : Int} (h : kB K) (hr : 0 ≤ r ∧ r < 3072000) : kB (kpush K r) := by
  intro x hx
  unfold kpush at hx
  split at hx
  · rcases List.mem_append.mp hx with g | g
    · exact h x g
    · rw [List.mem_singleton.mp g]; exact hr
  · rcases List.mem_append.mp hx with g | g
    · exact h x (List.mem_of_mem_tail g)
    · rw [List.mem_singleton.mp g]; exact hr
theorem rowc_B {X : am_X} {A : am_A} (BA : aB X A) {p f : Nat} (hp : p < 16) (hf : f < 8) : 0 ≤ rowc A p f ∧ rowc A p f < 3072000 := by
  have := aB_t BA
  unfold rowc
  omega
theorem hP_kB {X : am_X} {G : am_Gf} (B : hB X) {n : Nat} (hn : n < nP X) {s : am_Hs} (BA : aB X s.1) (h : kB s.2.2) : kB (hP X G n s).2.2 := by
  have hP5 := (hB_P B).2
  have hF := hB_F B
  have hs := sug_bd (G := G) B BA (show n < 5 by omega)
  unfold hP
  by_cases g1 : fnow X G s.1 n = -1
  · rw [if_pos g1]; exact h
  · rw [if_neg g1]
    by_cases g2 : X 8 0 0 ≤ s.2.1 3 0
    · rw [if_pos g2]; exact h
    · rw [if_neg g2]
      have hfn : fnow X G s.1 n = sug X G s.1 n := by
        unfold fnow at g1 ⊢
        split
        · rfl
        · rename_i g; rw [if_neg g] at g1; exact absurd rfl g1
      exact kpush_B h (rowc_B BA (by omega) (by rw [hfn]; omega))
theorem hPs_kB {X : am_X} {G : am_Gf} (B : hB X) {s : am_Hs} (BA : aB X s.1) (h : kB s.2.2) : ∀ n, n ≤ nP X → kB (hPs X G s n).2.2
  | 0, _ => h
  | n + 1, hn => hP_kB B (by omega) (hPs_bd B BA n (by omega)) (hPs_kB B BA h n (by omega))
theorem hour_kB {X : am_X} {G : am_Gf} (B : hB X) {s : am_Hs} (BA : aB X s.1) (h : kB s.2.2) : kB (hour X G s).2.2 := hPs_kB (s := (s.1, q0 s.2.1, s.2.2)) B BA h (nP X) (Nat.le_refl _)
theorem hours_kB {X : am_X} {G : am_Gf} (B : hB X) {s : am_Hs} (BA : aB X s.1) (h : kB s.2.2) : ∀ n : Nat, s.1 0 0 0 + n ≤ 23999 → kB (hours X G s n).2.2
  | 0, _ => h
  | n + 1, hn => hour_kB B (hours_bd (G := G) B BA n (by omega)).1 (hours_kB B BA h n (by omega))
theorem actP_B {W : am_Wo} (B : wB W) : ∀ a ∈ actP (wA W) (wK W) (wP W), aB (wX W) a.1 ∧ kB a.2 := by
  intro a ha
  unfold actP at ha
  rcases List.mem_cons.mp ha with g | g
  · subst g; exact ⟨B.2.2.2.1, B.2.2.2.2.1⟩
  · exact B.2.2.2.2.2.1 a (List.mem_of_mem_take g)
