/-! Numbers that a call changes; rows told. -/
def sZ (W : am_Wo) (Z : Nat → Nat → Int) : am_Wo := (wX W, wN W, wG W, wA W, wK W, wP W, Z)
def zC (b k : Nat) : Prop := b = 30 ∨ b = 33 ∨ b = 34 ∨ b = 37 ∨ (b = 2 ∧ (k = 2 ∨ k = 9 ∨ k = 11 ∨ k = 15)) ∨ (b = 3 ∧ k < 2)
def zM (b k : Nat) : Prop := b = 188 ∨ b = 235 ∨ b = 260 ∨ b = 189 ∨ (b = 187 ∧ (k = 1 ∨ k = 7 ∨ k = 8 ∨ k = 65 ∨ k = 70 ∨ k = 102))
theorem cWo_Z {q q' : am_Pq} {M M' : am_M} {W : am_Wo} {b : Nat} {Z : Nat → Nat → Int} (H : cWo q M W b) (hq : qok q) (hB1 : hB (wX W)) (hq' : q'.2.2.1 = q.2.2.1) (f : fr (fun b k => sC q b k ∨ zC b k) M M') (hz : cWz M' Z) : cWo q' M' (sZ W Z) b := by
  obtain ⟨h1, h2, h3, h4, h5, h6, -, h8⟩ := H
  obtain ⟨g1, -, -⟩ := hq
  have e : ∀ b k, ¬ (sC q b k ∨ zC b k) → am_I M' b k = am_I M b k := fun b k h => (f b k h).1
  have eh : ∀ b k, q.2.2.1 ≤ b → b < q.2.2.1 + 25 → am_I M' b k = am_I M b k := fun b k k1 k2 => e b k (by unfold sC zC; omega)
  unfold cWo
  rw [hq']
  refine ⟨cH_mv h1 hB1 (fun b k k1 k2 => eh b k k1 (by omega)), fun s hs w hw => (eh _ _ (by omega) (by omega)).trans (h2 s hs w hw), cG_mv h3 eh, cA_mv h4 (fun b k k1 k2 k3 => e b k (by unfold sC zC; omega)), cK_mv h5 (e _ _ (by unfold sC zC; omega)) (fun k => e _ _ (by unfold sC zC; omega)), ?_, hz, fun k hk => by rw [(f 31 k (by unfold sC zC; omega)).2]; exact h8 k hk⟩
  obtain ⟨o, k1, k2, k3, k4, k5⟩ := h6
  refine ⟨o, k1, (e _ _ (by unfold sC zC; omega)).trans k2, (e _ _ (by unfold sC zC; omega)).trans k3, k4, fun j a hj => ?_⟩
  obtain ⟨k6, k7⟩ := k5 j a hj
  exact ⟨cA_mv k6 (fun b k j1 j2 j3 => e b k (by unfold sC zC; omega)), cK_mv k7 (e _ _ (by unfold sC zC; omega)) (fun k => e _ _ (by unfold sC zC; omega))⟩
theorem mWo_Z {M M' : am_M} {W : am_Wo} {Z : Nat → Nat → Int} (H : mWo M W) (hB1 : hB (wX W)) (f : fr (fun b k => sM b k ∨ zM b k) M M') (hz : mWz M' Z) : mWo M' (sZ W Z) := by
  obtain ⟨h1, h2, h3, h4, h5, h6, -, h8, h9⟩ := H
  have e : ∀ b k, ¬ (sM b k ∨ zM b k) → am_I M' b k = am_I M b k := fun b k h => (f b k h).1
  obtain ⟨u1, u2, u3, u4, u5, u6, u7⟩ := h1
  refine ⟨⟨fun k hk => (e _ _ (by unfold sM zM; omega)).trans (u1 k hk), fun k hk => (e _ _ (by unfold sM zM; omega)).trans (u2 k hk), fun p hp k hk => (e _ _ (by unfold sM zM; omega)).trans (u3 p hp k hk), fun k hk => (e _ _ (by unfold sM zM; omega)).trans (u4 k hk), fun k hk => (e _ _ (by unfold sM zM; omega)).trans (u5 k hk), fun p hp k hk => (e _ _ (by unfold sM zM; omega)).trans (u6 p hp k hk), fun k hk => (e _ _ (by unfold sM zM; omega)).trans (u7 k hk)⟩, fun s hs w hw => ?_, ?_, mA_mv h4 (fun k hk => e _ _ (by unfold sM zM; omega)), mK_mv h5 (fun k hk => e _ _ (by unfold sM zM; omega)), ?_, hz, ?_, (e _ _ (by unfold sM zM; omega)).trans h9⟩
  · have := nM_8 hB1 hs
    rw [(f 220 _ (by unfold sM zM; omega)).2]
    exact h2 s hs w hw
  · exact mG_mv h3 (fun b k k1 k2 k3 k4 => e _ _ (by unfold sM zM; omega))
  · obtain ⟨w, k1, k2, k3, k4, k5⟩ := h6
    refine ⟨w, k1, (e _ _ (by unfold sM zM; omega)).trans k2, (e _ _ (by unfold sM zM; omega)).trans k3, k4, fun j a hj => ?_⟩
    obtain ⟨k6, k7⟩ := k5 j a hj
    exact ⟨mAo_mv k6 (fun k => e _ _ (by unfold sM zM; omega)), mKo_mv k7 (fun k => e _ _ (by unfold sM zM; omega))⟩
  · exact ⟨fun j hj k hk => (e _ _ (by unfold sM zM; omega)).trans (h8.1 j hj k hk), fun j hj k hk => (e _ _ (by unfold sM zM; omega)).trans (h8.2 j hj k hk)⟩
theorem cWz_mv {M M' : am_M} {Z : Nat → Nat → Int} (H : cWz M Z) (e : ∀ b k, b < 187 → am_I M' b k = am_I M b k) : cWz M' Z := by
  obtain ⟨k1, k2, k3, k4, k5, k6, k7, k8, k9, k10⟩ := H
  exact ⟨fun k hk => (e _ _ (by omega)).trans (k1 k hk), (e _ _ (by omega)).trans k2, (e _ _ (by omega)).trans k3, (e _ _ (by omega)).trans k4, fun k hk => (e _ _ (by omega)).trans (k5 k hk), (e _ _ (by omega)).trans k6, fun k hk => (e _ _ (by omega)).trans (k7 k hk), (e _ _ (by omega)).trans k8, fun k hk => (e _ _ (by omega)).trans (k9 k hk), (e _ _ (by omega)).trans k10⟩
theorem mWz_mv {M M' : am_M} {Z : Nat → Nat → Int} (H : mWz M Z) (e : ∀ b k, 187 ≤ b → am_I M' b k = am_I M b k ∧ am_L M' b k = am_L M b k) : mWz M' Z := by
  obtain ⟨k1, k2, k3, k4, k5, k6, k7, k8, k9, k10⟩ := H
  exact ⟨fun k hk => (e _ _ (by omega)).1.trans (k1 k hk), (e _ _ (by omega)).1.trans k2, (e _ _ (by omega)).1.trans k3, (e _ _ (by omega)).1.trans k4, fun k hk => (e _ _ (by omega)).1.trans (k5 k hk), (e _ _ (by omega)).1.trans k6, fun k hk => (e _ _ (by omega)).1.trans (k7 k hk), (e _ _ (by omega)).1.trans k8, fun k hk => (e _ _ (by omega)).1.trans (k9 k hk), (e _ _ (by omega)).2.trans k10⟩
/-- a call that changes only the numbers -/
theorem Call_Z {L : Nat} {xs : Nat → Int32} {mc mm : Nat} {a : List Value} {M M1 M2 : am_M} {W : am_Wo} {b : Nat} {q q' : am_Pq} {v : Value} {Z : Nat → Nat → Int} (hv : (∃ z, v = .int z) ∨ ∃ z, v = .long z) (hq : qok q) (HC : cWo q M W b) (HM : mWo M W) (B : wB W) (h0 : ∀ k, am_I M 0 k = xs k)
    (r1 : am_cl mc 599 (.ref 2 :: a) M = some (some v, M1)) (f1 : fr (fun b k => (sC q b k ∨ zC b k) ∧ b < 187) M M1) (z1 : cWz M1 Z) (hq' : qok q') (hqq : q'.2.2.1 = q.2.2.1) (r2 : am_cl mm 599 (.ref 187 :: a) M1 = some (some v, M2)) (f2 : fr (fun b k => (sM b k ∨ zM b k) ∧ 187 ≤ b) M1 M2) (z2 : mWz M2 Z) (BZ : zB (wX W) Z) (S2 : am_Sh L q' M2) : Call L xs mc mm a M b := by
  refine ⟨v, M1, M2, sZ W Z, r1, r2, ⟨q', hq', S2, cWo_le (cWo_Z HC hq B.1 hqq ?_ (cWz_mv z1 (fun b k h => (f2 b k (fun h2 => absurd h2.2 (by omega))).1))) (by omega), mWo_Z HM B.1 ?_ z2, ?_, fun k => ?_⟩, hv⟩
  · exact fr_tr (fr_mono f1 (fun b k h => h.1)) (fr_mono f2 (fun b k h => Or.inl (sC_r h.2)))
  · exact fr_tr (fr_mono f1 (fun b k h => Or.inl (sM_lt h.2))) (fr_mono f2 (fun b k h => h.1))
  · obtain ⟨c1, c2, c3, c4, c5, c6, -⟩ := B
    exact ⟨c1, c2, c3, c4, c5, c6, BZ⟩
  · rw [(f2 0 k (by unfold sM zM; omega)).1, (f1 0 k ?_).1]
    · exact h0 k
    · obtain ⟨g1, -, -⟩ := hq
      unfold sC zC
      omega
def uZ (Z : Nat → Nat → Int) (i k : Nat) (v : Int) : Nat → Nat → Int := fun a b => if a = i ∧ b = k then v else Z a b
def refZ (Z : Nat → Nat → Int) (k : Nat) : Nat → Nat → Int := uZ Z 7 k (Z 7 k + 1)
theorem uZ_eq (Z : Nat → Nat → Int) (i k : Nat) (v : Int) : uZ Z i k v i k = v := if_pos ⟨rfl, rfl⟩
theorem uZ_ne {Z : Nat → Nat → Int} {i k a b : Nat} {v : Int} (h : ¬ (a = i ∧ b = k)) : uZ Z i k v a b = Z a b := if_neg h
def rok (X : am_X) (Z : Nat → Nat → Int) (r : Nat) : Int := if Z 0 (3 * r) < 24 ∧ is1 X 1 (Z 0 (3 * r + 1)) = 1 ∧ Z 0 (3 * r + 2) ≤ 1 then 1 else 0
def roks (X : am_X) (Z : Nat → Nat → Int) : Nat → Nat → Int
  | 0, _ => 1
  | m + 1, r => if rok X Z r = 1 then roks X Z m (r + 1) else 0
theorem roks_all (X : am_X) (Z : Nat → Nat → Int) : ∀ m r, roks X Z m r = 1 → ∀ k, r ≤ k → k < r + m → rok X Z k = 1
  | 0, r, _, k, h1, h2 => absurd h2 (by omega)
  | m + 1, r, h, k, h1, h2 => by
    unfold roks at h
    split at h
    · rename_i g
      by_cases g2 : k = r
      · subst g2; exact g
      · exact roks_all X Z m (r + 1) h k (by omega) (by omega)
    · omega
theorem roks_01 (X : am_X) (Z : Nat → Nat → Int) : ∀ m r, roks X Z m r = 0 ∨ roks X Z m r = 1
  | 0, _ => Or.inr rfl
  | m + 1, r => by
    unfold roks
    split
    · exact roks_01 X Z m (r + 1)
    · exact Or.inl rfl
/-- the tape is taken -/
def tZ (Z : Nat → Nat → Int) : Nat → Nat → Int := uZ Z 1 0 0
/-- the rows are told -/
def toldZ (Z : Nat → Nat → Int) (n : Nat) : Nat → Nat → Int := fun a b => if a = 3 ∧ b < 3 * n then Z 0 b else uZ (tZ Z) 4 0 n a b
theorem zB_t {X : am_X} {Z : Nat → Nat → Int} (B : zB X Z) : zB X (tZ Z) := by
  obtain ⟨b1, b2, b3, b4, b5, b6⟩ := B
  have e : ∀ a b, a ≠ 1 → tZ Z a b = Z a b := fun a b h => uZ_ne (fun g => h g.1)
  refine ⟨fun k => by rw [e _ _ (by decide)]; exact b1 k, by unfold tZ; rw [uZ_eq]; omega, by rw [e _ _ (by decide)]; exact b3, fun r hr => ?_, by rw [e _ _ (by decide)]; exact b5, by rw [e _ _ (by decide)]; exact b6⟩
  rw [e _ _ (by decide)] at hr
  rw [e _ _ (by decide), e _ _ (by decide), e _ _ (by decide)]
  exact b4 r hr
theorem zB_7 {X : am_X} {Z : Nat → Nat → Int} (B : zB X Z) (k : Nat) : zB X (refZ Z k) := by
  obtain ⟨b1, b2, b3, b4, b5, b6⟩ := B
  have e : ∀ a b, a ≠ 7 → refZ Z k a b = Z a b := fun a b h => uZ_ne (fun g => h g.1)
  refine ⟨fun k => by rw [e _ _ (by decide)]; exact b1 k, by rw [e _ _ (by decide)]; exact b2, by rw [e _ _ (by decide)]; exact b3, fun r hr => ?_, by rw [e _ _ (by decide)]; exact b5, by rw [e _ _ (by decide)]; exact b6⟩
  rw [e _ _ (by decide)] at hr
  rw [e _ _ (by decide), e _ _ (by decide), e _ _ (by decide)]
  exact b4 r hr
theorem cWz_t {M : am_M} {Z : Nat → Nat → Int} (H : cWz M Z) : cWz (am_sI M 2 2 (am_i 0)) (tZ Z) := by
  obtain ⟨k1, k2, k3, k4, k5, k6, k7, k8, k9, k10⟩ := H
  have e : ∀ a b, a ≠ 1 → tZ Z a b = Z a b := fun a b h => uZ_ne (fun g => h g.1)
  refine ⟨fun k hk => ?_, ?_, ?_, ?_, fun k hk => ?_, ?_, fun k hk => ?_, ?_, fun k hk => ?_, ?_⟩
  · rw [am_I_ne1 (by omega), e _ _ (by decide)]; exact k1 k hk
  · rw [am_I_same]; unfold tZ; rw [uZ_eq]
  · rw [am_I_ne1 (by omega), e _ _ (by decide)]; exact k3
  · rw [am_I_ne1 (by omega), e _ _ (by decide)]; exact k4
  · rw [am_I_ne1 (by omega), e _ _ (by decide)]; exact k5 k hk
  · rw [am_I_ne2 (by omega), e _ _ (by decide)]; exact k6
  · rw [am_I_ne1 (by omega), e _ _ (by decide)]; exact k7 k hk
  · rw [am_I_ne2 (by omega), e _ _ (by decide)]; exact k8
  · rw [am_I_ne1 (by omega), e _ _ (by decide)]; exact k9 k hk
  · rw [am_I_ne2 (by omega), e _ _ (by decide)]; exact k10
theorem mWz_t {M : am_M} {Z : Nat → Nat → Int} (H : mWz M Z) : mWz (am_sI M 187 1 (am_i 0)) (tZ Z) := by
  obtain ⟨k1, k2, k3, k4, k5, k6, k7, k8, k9, k10⟩ := H
  have e : ∀ a b, a ≠ 1 → tZ Z a b = Z a b := fun a b h => uZ_ne (fun g => h g.1)
  refine ⟨fun k hk => ?_, ?_, ?_, ?_, fun k hk => ?_, ?_, fun k hk => ?_, ?_, fun k hk => ?_, ?_⟩
  · rw [am_I_ne1 (by omega), e _ _ (by decide)]; exact k1 k hk
  · rw [am_I_same]; unfold tZ; rw [uZ_eq]
  · rw [am_I_ne2 (by omega), e _ _ (by decide)]; exact k3
  · rw [am_I_ne2 (by omega), e _ _ (by decide)]; exact k4
  · rw [am_I_ne1 (by omega), e _ _ (by decide)]; exact k5 k hk
  · rw [am_I_ne2 (by omega), e _ _ (by decide)]; exact k6
  · rw [am_I_ne1 (by omega), e _ _ (by decide)]; exact k7 k hk
  · rw [am_I_ne2 (by omega), e _ _ (by decide)]; exact k8
  · rw [am_I_ne1 (by omega), e _ _ (by decide)]; exact k9 k hk
  · rw [am_L_sI', e _ _ (by decide)]; exact k10
theorem cWz_7 {M : am_M} {Z : Nat → Nat → Int} (H : cWz M Z) (n : Nat) : cWz (am_sI M 37 n (am_i (Z 7 n + 1))) (refZ Z n) := by
  obtain ⟨k1, k2, k3, k4, k5, k6, k7, k8, k9, k10⟩ := H
  have e : ∀ a b, a ≠ 7 → refZ Z n a b = Z a b := fun a b h => uZ_ne (fun g => h g.1)
  refine ⟨fun k hk => ?_, ?_, ?_, ?_, fun k hk => ?_, ?_, fun k hk => ?_, ?_, fun k hk => ?_, ?_⟩
  · rw [am_I_ne1 (by omega), e _ _ (by decide)]; exact k1 k hk
  · rw [am_I_ne1 (by omega), e _ _ (by decide)]; exact k2
  · rw [am_I_ne1 (by omega), e _ _ (by decide)]; exact k3
  · rw [am_I_ne1 (by omega), e _ _ (by decide)]; exact k4
  · rw [am_I_ne1 (by omega), e _ _ (by decide)]; exact k5 k hk
  · rw [am_I_ne1 (by omega), e _ _ (by decide)]; exact k6
  · rw [am_I_ne1 (by omega), e _ _ (by decide)]; exact k7 k hk
  · rw [am_I_ne1 (by omega), e _ _ (by decide)]; exact k8
  · by_cases g : k = n
    · subst g
      rw [am_I_same]; unfold refZ; rw [uZ_eq]
    · rw [am_I_ne2 g]; unfold refZ; rw [uZ_ne (by omega)]; exact k9 k hk
  · rw [am_I_ne1 (by omega), e _ _ (by decide)]; exact k10
theorem mWz_7 {M : am_M} {Z : Nat → Nat → Int} (H : mWz M Z) (n : Nat) : mWz (am_sI M 189 n (am_i (Z 7 n + 1))) (refZ Z n) := by
  obtain ⟨k1, k2, k3, k4, k5, k6, k7, k8, k9, k10⟩ := H
  have e : ∀ a b, a ≠ 7 → refZ Z n a b = Z a b := fun a b h => uZ_ne (fun g => h g.1)
  refine ⟨fun k hk => ?_, ?_, ?_, ?_, fun k hk => ?_, ?_, fun k hk => ?_, ?_, fun k hk => ?_, ?_⟩
  · rw [am_I_ne1 (by omega), e _ _ (by decide)]; exact k1 k hk
  · rw [am_I_ne1 (by omega), e _ _ (by decide)]; exact k2
  · rw [am_I_ne1 (by omega), e _ _ (by decide)]; exact k3
  · rw [am_I_ne1 (by omega), e _ _ (by decide)]; exact k4
  · rw [am_I_ne1 (by omega), e _ _ (by decide)]; exact k5 k hk
  · rw [am_I_ne1 (by omega), e _ _ (by decide)]; exact k6
  · rw [am_I_ne1 (by omega), e _ _ (by decide)]; exact k7 k hk
  · rw [am_I_ne1 (by omega), e _ _ (by decide)]; exact k8
  · by_cases g : k = n
    · subst g
      rw [am_I_same]; unfold refZ; rw [uZ_eq]
    · rw [am_I_ne2 g]; unfold refZ; rw [uZ_ne (by omega)]; exact k9 k hk
  · rw [am_L_sI', e _ _ (by decide)]; exact k10
theorem c_refuse {L : Nat} {q : am_Pq} {M : am_M} (S : am_Sh L q M) {Z : Nat → Nat → Int} (H : cWz M Z) {n : Nat} (hn : n < 6) (d : Nat) : am_cl 37 d [.ref 2, .int (am_i n)] M = some (some (.int (am_i (-1))), am_sI M 37 n (am_i (Z 7 n + 1))) := by
  have k9 := H.2.2.2.2.2.2.2.2.1 n hn
  rw [t37]
  simp (disch := omega) only [am_ob_p (kk_2 S), am_ob_p (kk_3 S), am_ob_p (kk_63 S), am_ob_p (kk_64 S), rr_63_0 S, rr_63_1 S, rr_64_2 S, rr_64_3 S, rr_64_4 S, rr_64_5 S, rr_2_0 S, rr_2_1 S, rr_2_3 S, rr_2_4 S, rr_2_5 S, rr_2_8 S, rr_2_10 S, rr_2_12 S, rr_2_13 S, rr_2_14 S, am_ix_p (kk_30 S), am_iw_p (kk_30 S), am_ix_p (kk_33 S), am_iw_p (kk_33 S), am_ix_p (kk_34 S), am_iw_p (kk_34 S), am_ix_p (kk_35 S), am_iw_p (kk_35 S), am_ix_p (kk_36 S), am_iw_p (kk_36 S), am_ix_p (kk_37 S), am_iw_p (kk_37 S), am_ix_p (kk_65 S), am_iw_p (kk_65 S), am_ix_p (kk_66 S), am_iw_p (kk_66 S), am_ix_p (kk_67 S), am_iw_p (kk_67 S), am_ix_p (kk_68 S), am_iw_p (kk_68 S), am_gr_p, am_i_ix, Int.toNat_zero, Int.toNat_one, Int.toNat_natCast, Int.reduceToNat, am_lt, am_i_add, am_i_sub, am_i_mul, k9]
theorem c_takeTape {L : Nat} {q : am_Pq} {M : am_M} (S : am_Sh L q M) {Z : Nat → Nat → Int} (H : cWz M Z) (d : Nat) : am_cl 39 d [.ref 2] M = some (some (.int (am_i (Z 1 0))), am_sI M 2 2 (am_i 0)) := by
  have k2 := H.2.1
  rw [t39, am_ob_p (kk_2 S), am_ob_p (kk_2 S), k2]
  rfl
theorem fr_37 {q : am_Pq} {M : am_M} {n : Nat} {v : Int32} : fr (fun b k => (sC q b k ∨ zC b k) ∧ b < 187) M (am_sI M 37 n v) := fr_sI ⟨Or.inr (Or.inr (Or.inr (Or.inr (Or.inl rfl)))), by decide⟩
theorem fr_189 {M : am_M} {n : Nat} {v : Int32} : fr (fun b k => (sM b k ∨ zM b k) ∧ 187 ≤ b) M (am_sI M 189 n v) := fr_sI ⟨Or.inr (Or.inr (Or.inr (Or.inr (Or.inl rfl)))), by decide⟩
theorem fr_22 {q : am_Pq} {M : am_M} {v : Int32} : fr (fun b k => (sC q b k ∨ zC b k) ∧ b < 187) M (am_sI M 2 2 v) := fr_sI ⟨Or.inr (Or.inr (Or.inr (Or.inr (Or.inr (Or.inl ⟨rfl, Or.inl rfl⟩))))), by decide⟩
theorem fr_1871 {M : am_M} {v : Int32} : fr (fun b k => (sM b k ∨ zM b k) ∧ 187 ≤ b) M (am_sI M 187 1 v) := fr_sI ⟨Or.inr (Or.inr (Or.inr (Or.inr (Or.inr ⟨rfl, Or.inl rfl⟩)))), by decide⟩
