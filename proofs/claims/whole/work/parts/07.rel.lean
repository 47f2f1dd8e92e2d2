/-! The machine's heap, as the abstract memory tells it. -/
def am_W : List Jvm.Cond := lw_tbl.filter goodWord
theorem am_W_of {e : Nat} {w : Jvm.Cond} (h : lw_tbl[e]? = some w) (hg : goodWord w = true) : w ∈ am_W := List.mem_filter.mpr ⟨List.mem_of_getElem? h, hg⟩
theorem am_W_good : GoodIn am_W am_W := fun w h => ⟨h, good_of_word (List.mem_filter.mp h).2⟩
def am_ad (b a1 z : Nat) : Nat → Nat
  | 0 => b
  | 1 => a1
  | i + 2 => z + i
theorem am_ad_ge {b a1 z r : Nat} (h : 2 ≤ r) : am_ad b a1 z r = z + (r - 2) := by
  match r, h with
  | i + 2, _ => rfl
theorem am_ad_inj {b a1 z r q : Nat} (h : 2 ≤ r) (h' : 2 ≤ q) (e : am_ad b a1 z r = am_ad b a1 z q) : r = q := by
  rw [am_ad_ge h, am_ad_ge h'] at e
  omega
def am_cv (ad : Nat → Nat) : Value → Value
  | .ref r => .ref (ad r)
  | v => v
theorem am_cv_cat (ad : Nat → Nat) (v : Value) : (am_cv ad v).category = v.category := by cases v <;> rfl
def am_fv (ad : Nat → Nat) (M : am_M) (r c j : Nat) : Value := match am_ft c j with
  | 2 => .long (am_L M r j)
  | 3 => va_rf ((am_R M r j).map ad)
  | _ => .int (am_I M r j)
/-- what the machine holds at a cell, by its kind -/
def am_at (D : va_G) (cA : Nat → ClassId) (ad : Nat → Nat) (M : am_M) (r : Nat) (H : Heap) : Prop :=
  ((am_K M r).1 = 1 → t_OB (ad r) (D.1 (am_K M r).2) (am_nf (am_K M r).2) (D.2 (am_K M r).2) H (am_fv ad M r (am_K M r).2)) ∧
  ((am_K M r).1 = 2 → H[ad r]? = some (vp_cell (cA 2) ((am_K M r).2, .inl (am_I M r)))) ∧
  ((am_K M r).1 = 3 → H[ad r]? = some (vp_cell (cA 3) ((am_K M r).2, .inr (.inl (am_L M r))))) ∧
  ((am_K M r).1 = 4 → H[ad r]? = some (vp_cell (cA 4) ((am_K M r).2, .inl (am_I M r)))) ∧
  ((am_K M r).1 = 5 → H[ad r]? = some (vp_cell (cA 5) ((am_K M r).2, .inr (.inr (.inr (.inr (fun j => (am_R M r j).map ad))))))) ∧
  ((am_K M r).1 = 6 → H[ad r]? = some (vp_cell (cA 6) ((am_K M r).2, .inr (.inr (.inr (.inr (fun j => (am_R M r j).map ad)))))))
theorem am_at.kept {D : va_G} {cA : Nat → ClassId} {ad : Nat → Nat} {M M' : am_M} {r : Nat} {H H' : Heap} (h : am_at D cA ad M r H) (hH : H'[ad r]? = H[ad r]?) (hK : am_K M' r = am_K M r) (hI : am_I M' r = am_I M r) (hL : am_L M' r = am_L M r) (hR : am_R M' r = am_R M r) : am_at D cA ad M' r H' := by
  have hf : ∀ c, am_fv ad M' r c = am_fv ad M r c := fun c => by funext j; unfold am_fv; rw [hI, hL, hR]
  unfold am_at
  rw [hK, hI, hL, hR, hf, hH]
  exact ⟨fun e => (h.1 e).kept hH, h.2⟩
/-- the script, the text, and where they lie: ahead of all that is made -/
abbrev am_G : Type := va_G × (Nat → ClassId) × Nat × (Nat × Nat) × Nat × Nat × (Nat → Int32) × Heap
def am_gD (G : am_G) : va_G := G.1
def am_gA (G : am_G) : Nat → ClassId := G.2.1
def am_gb (G : am_G) : Nat := G.2.2.1
def am_gt (G : am_G) : Nat := G.2.2.2.1.1
def am_gv (G : am_G) : Nat := G.2.2.2.1.2
def am_gz (G : am_G) : Nat := G.2.2.2.2.1
def am_gl (G : am_G) : Nat := G.2.2.2.2.2.1
def am_gx (G : am_G) : Nat → Int32 := G.2.2.2.2.2.2.1
def am_gH (G : am_G) : Heap := G.2.2.2.2.2.2.2
def am_ga (G : am_G) : Nat → Nat := am_ad (am_gb G) (am_gt G) (am_gz G)
/-- the heap is what the memory tells -/
def am_Mm (G : am_G) (M : am_M) (H : Heap) : Prop :=
  H.size + 2 = am_gz G + am_n M ∧ 2 ≤ am_n M ∧ (∀ r, am_n M ≤ r → (am_K M r).1 = 0) ∧ am_K M 0 = (2, am_gl G) ∧ (∀ j, j < am_gl G → am_I M 0 j = am_gx G j) ∧ am_K M 1 = (0, 0) ∧
  (∀ q, q < am_gz G → H[q]? = (am_gH G)[q]?) ∧ ∀ r, 2 ≤ r → r < am_n M → am_at (am_gD G) (am_gA G) (am_ga G) M r H
theorem am_Mm.lt {G : am_G} {M : am_M} {H : Heap} (h : am_Mm G M H) {r : Nat} (hr : (am_K M r).1 ≠ 0) : r < am_n M := by
  apply Nat.lt_of_not_le
  intro hn
  exact hr (h.2.2.1 r hn)
theorem am_Mm.ge {G : am_G} {M : am_M} {H : Heap} (h : am_Mm G M H) {r c : Nat} (hr : am_K M r = (1, c)) : 2 ≤ r := by
  match r, hr with
  | 0, hr => rw [h.2.2.2.1] at hr; cases hr
  | 1, hr => rw [h.2.2.2.2.2.1] at hr; cases hr
  | r + 2, _ => omega
theorem am_Mm.ge2 {G : am_G} {M : am_M} {H : Heap} (h : am_Mm G M H) {r : Nat} (hr : (am_K M r).1 ≠ 0) (hr2 : (am_K M r).1 ≠ 2) : 2 ≤ r := by
  match r, hr, hr2 with
  | 0, hr, hr2 => exact absurd (by rw [h.2.2.2.1]) hr2
  | 1, hr, hr2 => exact absurd (by rw [h.2.2.2.2.2.1]) hr
  | r + 2, _, _ => omega
/-- a cell is written: it alone changes -/
theorem am_Mm.set {G : am_G} {M M' : am_M} {H H' : Heap} (h : am_Mm G M H) {r : Nat} (hr : 2 ≤ r) (hz : H'.size = H.size) (ho : ∀ q, q ≠ am_ga G r → H'[q]? = H[q]?) (hK : am_K M' = am_K M) (hn : am_n M' = am_n M)
    (hI : ∀ q, q ≠ r → am_I M' q = am_I M q) (hL : ∀ q, q ≠ r → am_L M' q = am_L M q) (hR : ∀ q, q ≠ r → am_R M' q = am_R M q) (hat : am_at (am_gD G) (am_gA G) (am_ga G) M' r H') : am_Mm G M' H' := by
  obtain ⟨h1, h2, h3, h4, h5, h6, h7, h8⟩ := h
  refine ⟨by rw [hz, hn]; exact h1, by rw [hn]; exact h2, fun q hq => by rw [hK]; exact h3 q (by rw [← hn]; exact hq), by rw [hK]; exact h4, fun j hj => by rw [hI 0 (by omega)]; exact h5 j hj, by rw [hK]; exact h6, fun q hq => ?_, fun q hq hqn => ?_⟩
  · rw [ho q (by unfold am_ga; rw [am_ad_ge hr]; omega)]
    exact h7 q hq
  · by_cases e : q = r
    · subst e; exact hat
    · exact (h8 q hq (by rw [← hn]; exact hqn)).kept (ho _ (fun z => e (am_ad_inj hq hr z))) (by rw [hK]) (hI q e) (hL q e) (hR q e)
theorem am_w_ne {α : Type} {f : Nat → Nat → α} {a j : Nat} {v : α} {b : Nat} (h : b ≠ a) : am_w f a j v b = f b := by
  funext k
  unfold am_w
  rw [if_neg (fun e => h e.1)]
theorem am_w_eq {α : Type} {f : Nat → Nat → α} {a j : Nat} {v : α} {k : Nat} : am_w f a j v a k = if k = j then v else f a k := by
  unfold am_w
  by_cases h : k = j
  · rw [if_pos ⟨rfl, h⟩, if_pos h]
  · rw [if_neg (fun e => h e.2), if_neg h]
/-- the locals that are told -/
def am_al (ad : Nat → Nat) : Nat → List Value → List (Nat × Value)
  | _, [] => []
  | k, .null :: l => am_al ad (k + 1) l
  | k, v :: l => (k, am_cv ad v) :: am_al ad (k + 1) l
theorem am_al_cons {ad : Nat → Nat} {k : Nat} {v : Value} {l : List Value} : am_al ad k (v :: l) = if v = .null then am_al ad (k + 1) l else (k, am_cv ad v) :: am_al ad (k + 1) l := by
  cases v <;> rfl
theorem am_al_mem {ad : Nat → Nat} {q : Nat × Value} : ∀ {l : List Value} {k : Nat}, q ∈ am_al ad k l ↔ ∃ i v, l[i]? = some v ∧ v ≠ .null ∧ q = (k + i, am_cv ad v)
  | [], k => by
    constructor
    · intro h; cases h
    · rintro ⟨i, v, h, -⟩; simp at h
  | v :: l, k => by
    rw [am_al_cons]
    constructor
    · intro h
      by_cases hv : v = .null
      · rw [if_pos hv] at h
        obtain ⟨i, w, h1, h2, h3⟩ := am_al_mem.mp h
        exact ⟨i + 1, w, by simpa using h1, h2, by rw [h3]; congr 1; omega⟩
      · rw [if_neg hv] at h
        rcases List.mem_cons.mp h with h | h
        · exact ⟨0, v, rfl, hv, h⟩
        · obtain ⟨i, w, h1, h2, h3⟩ := am_al_mem.mp h
          exact ⟨i + 1, w, by simpa using h1, h2, by rw [h3]; congr 1; omega⟩
    · rintro ⟨i, w, h1, h2, h3⟩
      cases i with
      | zero =>
        have : v = w := by simpa using h1
        subst this
        rw [if_neg h2]
        exact List.mem_cons.mpr (Or.inl h3)
      | succ i =>
        have : q ∈ am_al ad (k + 1) l := am_al_mem.mpr ⟨i, w, by simpa using h1, h2, by rw [h3]; congr 1; omega⟩
        by_cases hv : v = .null
        · rw [if_pos hv]; exact this
        · rw [if_neg hv]; exact List.mem_cons_of_mem _ this
/-- the machine's locals, as they are told -/
def am_Ls (ad : Nat → Nat) (nL : Nat) (ls : Array Slot) (l : List Value) : Prop := lv_has ls nL (am_al ad 0 l) ∧ l.length = nL
theorem am_nth_get : ∀ {l : List Value} {k : Nat} {v : Value}, am_nth l k = v → v ≠ .null → l[k]? = some v
  | [], _, _, h, hv => absurd h.symm hv
  | x :: l, 0, v, h, _ => by rw [← h]; rfl
  | x :: l, k + 1, v, h, hv => by
    have := am_nth_get (l := l) (k := k) h hv
    simpa using this
theorem am_Ls.at {ad : Nat → Nat} {nL : Nat} {ls : Array Slot} {l : List Value} (h : am_Ls ad nL ls l) {k : Nat} {v : Value} (hk : am_nth l k = v) (hv : v ≠ .null) : ls[k]? = some (.val (am_cv ad v)) := by
  have := h.1.2.2 (k, am_cv ad v) (am_al_mem.mpr ⟨k, v, am_nth_get hk hv, hv, by rw [Nat.zero_add]⟩)
  exact this
theorem am_st1_len : ∀ (l : List Value) (k : Nat) (v : Value), (am_st1 l k v).length = l.length
  | [], _, _ => by cases ‹Nat› <;> rfl
  | _ :: l, 0, v => rfl
  | x :: l, 1, v => by show (am_st1 l 0 v).length + 1 = _; rw [am_st1_len l 0 v]; rfl
  | x :: l, k + 2, v => by show (am_st1 l (k + 1) v).length + 1 = _; rw [am_st1_len l (k + 1) v]; rfl
theorem am_kh_len (l : List Value) : (am_kh l).length = l.length := by cases l <;> rfl
theorem am_st2_len : ∀ (l : List Value) (k : Nat) (v : Value), (am_st2 l k v).length = l.length
  | [], _, _ => by cases ‹Nat› <;> rfl
  | _ :: l, 0, v => by show (am_kh l).length + 1 = _; rw [am_kh_len]; rfl
  | x :: l, 1, v => by show (am_st2 l 0 v).length + 1 = _; rw [am_st2_len l 0 v]; rfl
  | x :: l, k + 2, v => by show (am_st2 l (k + 1) v).length + 1 = _; rw [am_st2_len l (k + 1) v]; rfl
theorem am_kl_ne {x w : Value} (h : am_kl x = w) (hw : w ≠ .null) : x = w ∧ x.category = 1 := by
  cases x <;> simp [am_kl] at h <;> first | exact absurd h.symm hw | exact ⟨h, rfl⟩ | (subst h; exact ⟨rfl, rfl⟩)
theorem am_st1_get : ∀ {l : List Value} {k : Nat} {v : Value} {i : Nat} {w : Value}, (am_st1 l k v)[i]? = some w → w ≠ .null → (i = k ∧ w = v) ∨ (i ≠ k ∧ l[i]? = some w ∧ (i + 1 = k → w.category = 1))
  | [], 0, _, i, w, h, _ => by simp [am_st1] at h
  | [], 1, _, i, w, h, _ => by simp [am_st1] at h
  | [], k + 2, _, i, w, h, _ => by simp [am_st1] at h
  | x :: l, 0, v, i, w, h, hw => by
    cases i with
    | zero => exact Or.inl ⟨rfl, by simpa [am_st1] using h.symm⟩
    | succ i => exact Or.inr ⟨by omega, by simpa [am_st1] using h, by omega⟩
  | x :: l, 1, v, i, w, h, hw => by
    cases i with
    | zero =>
      have h' : am_kl x = w := by simpa [am_st1] using h
      obtain ⟨h1, h2⟩ := am_kl_ne h' hw
      exact Or.inr ⟨by omega, by rw [h1]; rfl, fun _ => by rw [← h1]; exact h2⟩
    | succ i =>
      rcases am_st1_get (l := l) (k := 0) (i := i) (by simpa [am_st1] using h) hw with ⟨h1, h2⟩ | ⟨h1, h2, h3⟩
      · exact Or.inl ⟨by omega, h2⟩
      · exact Or.inr ⟨by omega, by simpa using h2, by omega⟩
  | x :: l, k + 2, v, i, w, h, hw => by
    cases i with
    | zero => exact Or.inr ⟨by omega, by simpa [am_st1] using h, by omega⟩
    | succ i =>
      rcases am_st1_get (l := l) (k := k + 1) (i := i) (by simpa [am_st1] using h) hw with ⟨h1, h2⟩ | ⟨h1, h2, h3⟩
      · exact Or.inl ⟨by omega, h2⟩
      · exact Or.inr ⟨by omega, by simpa using h2, fun e => h3 (by omega)⟩
theorem am_st2_get : ∀ {l : List Value} {k : Nat} {v : Value} {i : Nat} {w : Value}, (am_st2 l k v)[i]? = some w → w ≠ .null → (i = k ∧ w = v) ∨ (i ≠ k ∧ i ≠ k + 1 ∧ l[i]? = some w ∧ (i + 1 = k → w.category = 1))
  | [], 0, _, i, w, h, _ => by simp [am_st2] at h
  | [], 1, _, i, w, h, _ => by simp [am_st2] at h
  | [], k + 2, _, i, w, h, _ => by simp [am_st2] at h
  | x :: l, 0, v, i, w, h, hw => by
    cases i with
    | zero => exact Or.inl ⟨rfl, by simpa [am_st2] using h.symm⟩
    | succ i =>
      have h' : (am_kh l)[i]? = some w := by simpa [am_st2] using h
      cases l with
      | nil => simp [am_kh] at h'
      | cons y l =>
        cases i with
        | zero => simp [am_kh] at h'; exact absurd h'.symm hw
        | succ i => exact Or.inr ⟨by omega, by omega, by simpa [am_kh] using h', by omega⟩
  | x :: l, 1, v, i, w, h, hw => by
    cases i with
    | zero =>
      have h' : am_kl x = w := by simpa [am_st2] using h
      obtain ⟨h1, h2⟩ := am_kl_ne h' hw
      exact Or.inr ⟨by omega, by omega, by rw [h1]; rfl, fun _ => by rw [← h1]; exact h2⟩
    | succ i =>
      rcases am_st2_get (l := l) (k := 0) (i := i) (by simpa [am_st2] using h) hw with ⟨h1, h2⟩ | ⟨h1, h2, h3, h4⟩
      · exact Or.inl ⟨by omega, h2⟩
      · exact Or.inr ⟨by omega, by omega, by simpa using h3, by omega⟩
  | x :: l, k + 2, v, i, w, h, hw => by
    cases i with
    | zero => exact Or.inr ⟨by omega, by omega, by simpa [am_st2] using h, by omega⟩
    | succ i =>
      rcases am_st2_get (l := l) (k := k + 1) (i := i) (by simpa [am_st2] using h) hw with ⟨h1, h2⟩ | ⟨h1, h2, h3, h4⟩
      · exact Or.inl ⟨by omega, h2⟩
      · exact Or.inr ⟨by omega, by omega, by simpa using h3, fun e => h4 (by omega)⟩
/-- a store of one word -/
theorem am_Ls.st1 {ad : Nat → Nat} {nL : Nat} {ls ls' : Array Slot} {l : List Value} {k : Nat} {v : Value} (h : am_Ls ad nL ls l) (hs : lv_has ls' nL ((k, am_cv ad v) :: (am_al ad 0 l).filter (fun q => !(q.1 == k) && !(q.1 + 1 == k && q.2.category == 2)))) : am_Ls ad nL ls' (am_st1 l k v) := by
  refine ⟨⟨hs.1, hs.2.1, fun q hq => ?_⟩, by rw [am_st1_len]; exact h.2⟩
  obtain ⟨i, w, h1, h2, rfl⟩ := am_al_mem.mp hq
  rw [Nat.zero_add]
  refine hs.2.2 (i, am_cv ad w) ?_
  rcases am_st1_get h1 h2 with ⟨rfl, rfl⟩ | ⟨h3, h4, h5⟩
  · exact List.mem_cons_self
  · refine List.mem_cons_of_mem _ (List.mem_filter.mpr ⟨am_al_mem.mpr ⟨i, w, h4, h2, by rw [Nat.zero_add]⟩, ?_⟩)
    have e1 : (i == k) = false := by simp [h3]
    by_cases e : i + 1 = k
    · simp [e1, e, am_cv_cat, h5 e]
    · simp [e1, e]
theorem am_Ls.st2 {ad : Nat → Nat} {nL : Nat} {ls ls' : Array Slot} {l : List Value} {k : Nat} {v : Value} (h : am_Ls ad nL ls l) (hs : lv_has ls' nL ((k, am_cv ad v) :: (am_al ad 0 l).filter (fun q => !(q.1 == k) && (!(q.1 == k + 1) && !(q.1 + 1 == k && q.2.category == 2))))) : am_Ls ad nL ls' (am_st2 l k v) := by
  refine ⟨⟨hs.1, hs.2.1, fun q hq => ?_⟩, by rw [am_st2_len]; exact h.2⟩
  obtain ⟨i, w, h1, h2, rfl⟩ := am_al_mem.mp hq
  rw [Nat.zero_add]
  refine hs.2.2 (i, am_cv ad w) ?_
  rcases am_st2_get h1 h2 with ⟨rfl, rfl⟩ | ⟨h3, h3', h4, h5⟩
  · exact List.mem_cons_self
  · refine List.mem_cons_of_mem _ (List.mem_filter.mpr ⟨am_al_mem.mpr ⟨i, w, h4, h2, by rw [Nat.zero_add]⟩, ?_⟩)
    have e1 : (i == k) = false := by simp [h3]
    have e2 : (i == k + 1) = false := by simp [h3']
    by_cases e : i + 1 = k
    · simp [e1, e2, e, am_cv_cat, h5 e]
    · simp [e1, e2, e]
