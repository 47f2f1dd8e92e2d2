/-! One step of the abstract machine, by what is given for each thing that a step can do; its runs. -/
def am_tI.{u} {X : Sort u} (st : List Value) (f : Int32 → List Value → X) (s : X) : X := match st with
  | .int x :: t => f x t
  | _ => s
def am_tL.{u} {X : Sort u} (st : List Value) (f : Int64 → List Value → X) (s : X) : X := match st with
  | .long x :: t => f x t
  | _ => s
def am_tR.{u} {X : Sort u} (st : List Value) (f : Nat → List Value → X) (s : X) : X := match st with
  | .ref x :: t => f x t
  | _ => s
def am_xI.{u} {X : Sort u} (v : Value) (f : Int32 → X) (s : X) : X := match v with
  | .int x => f x
  | _ => s
def am_xL.{u} {X : Sort u} (v : Value) (f : Int64 → X) (s : X) : X := match v with
  | .long x => f x
  | _ => s
def am_xR.{u} {X : Sort u} (v : Value) (f : Nat → X) (s : X) : X := match v with
  | .ref x => f x
  | _ => s
def am_e0.{u} {X : Sort u} (st : List Value) (t s : X) : X := match st with
  | [] => t
  | _ :: _ => s
def am_gr.{u} {X : Sort u} (o : Option Nat) (f : Nat → X) (s : X) : X := match o with
  | some q => f q
  | none => s
def am_sw.{u} {X : Sort u} : List (Int × Nat) → Nat → Int32 → (Nat → X) → X
  | [], d, _, g => g d
  | (k, t) :: r, d, x, g => if x = am_i k then g t else am_sw r d x g
def am_if.{u} {X : Sort u} (p : Prop) [Decidable p] (t s : X) : X := if p then t else s
/-- the cell r is an object of class a -/
def am_ob.{u} {X : Sort u} (M : am_M) (r a : Nat) (t s : X) : X := if am_K M r = (1, a) then t else s
/-- the cell r is a row of that sort, with a place i -/
def am_ix.{u} {X : Sort u} (M : am_M) (r g : Nat) (i : Int32) (t s : X) : X := if (am_K M r).1 = g ∧ ¬ (i < 0 ∨ (am_K M r).2 ≤ i.toNatClampNeg) then t else s
/-- the same, one that may be written -/
def am_iw.{u} {X : Sort u} (M : am_M) (r g : Nat) (i : Int32) (t s : X) : X := if 2 ≤ r ∧ (am_K M r).1 = g ∧ ¬ (i < 0 ∨ (am_K M r).2 ≤ i.toNatClampNeg) then t else s
/-- the cell r is a row of references, with a place i -/
def am_iq.{u} {X : Sort u} (M : am_M) (r : Nat) (i : Int32) (t s : X) : X := if ((am_K M r).1 = 5 ∨ (am_K M r).1 = 6) ∧ ¬ (i < 0 ∨ (am_K M r).2 ≤ i.toNatClampNeg) then t else s
/-- a truth -/
def am_tr.{u} {X : Sort u} (x : Int32) (t s : X) : X := if x = am_i 0 ∨ x = am_i 1 then t else s
def am_cm : Jvm.ClassFile.Cond → Int32 → Int32 → Bool
  | .eq, x, y => decide (x = y)
  | .ne, x, y => !decide (x = y)
  | .lt, x, y => decide (x < y)
  | .ge, x, y => decide (y ≤ x)
  | .gt, x, y => decide (y < x)
  | .le, x, y => decide (x ≤ y)
/-- two ways, by a comparison -/
def am_br.{u} {X : Sort u} (q : Jvm.ClassFile.Cond) (x y : Int32) (t f : X) : X := match q with
  | .eq => if x = y then t else f
  | .ne => if x = y then f else t
  | .lt => if x < y then t else f
  | .ge => if y ≤ x then t else f
  | .gt => if y < x then t else f
  | .le => if x ≤ y then t else f
def am_tk : List Value → Nat → List Value → List Value
  | _, 0, acc => acc
  | [], _ + 1, acc => acc
  | v :: l, k + 1, acc => am_tk l k (v :: acc)
def am_dp : List Value → Nat → List Value
  | l, 0 => l
  | [], _ + 1 => []
  | _ :: l, k + 1 => am_dp l k
noncomputable def am_ml (m : Nat) : Nat := (am_hd m).2.2.1
/-- a method's locals at its entry -/
noncomputable def am_lc (m : Nat) (a : List Value) : List Value := am_pad (am_loc a) (am_ml m)
/-- a call can be made: so many are there, room is left, its locals hold them -/
noncomputable def am_cok (a b : Nat) (st : List Value) : Bool := Nat.ble b st.length && Nat.ble (am_cat (am_dp st b)) 8 && Nat.ble (am_loc (am_tk st b [])).length (am_ml a)
/-- the word that the text has at a place -/
def am_ch (k : Nat) : Int32 := nI ((am_words.toList.getD k 'a').toNat)
noncomputable def am_step.{u} {X : Sort u} (ret : Option Value → am_M → X) (go : Nat → Nat → Nat → List Value → List Value → am_M → X)
    (cI : Nat → Nat → List Value → am_M → (Int32 → am_M → X) → X) (cL : Nat → Nat → List Value → am_M → (Int64 → am_M → X) → X) (cR : Nat → Nat → List Value → am_M → (Nat → am_M → X) → X) (cV : Nat → Nat → List Value → am_M → (am_M → X) → X) (s : X)
    (mid d pc : Nat) (ls st : List Value) (M : am_M) : X :=
  match am_find (am_tb mid) pc with
  | none => s
  | some (ins, len, a, b, c, _, z, sw) =>
    match ins with
    | .iconst _ | .bipush _ | .sipush _ | .ldc_w _ => go mid d (pc + len) ls (.int (am_i z) :: st) M
    | .ldc _ => if b = 1 then go mid d (pc + len) ls (.ref 1 :: st) M else go mid d (pc + len) ls (.int (am_i z) :: st) M
    | .lconst _ | .ldc2_w _ => go mid d (pc + len) ls (.long (am_l z) :: st) M
    | .iload_n _ | .iload _ => am_xI (am_nth ls a) (fun x => go mid d (pc + len) ls (.int x :: st) M) s
    | .lload_n _ | .lload _ => am_xL (am_nth ls a) (fun x => go mid d (pc + len) ls (.long x :: st) M) s
    | .aload_n _ | .aload _ => am_xR (am_nth ls a) (fun x => go mid d (pc + len) ls (.ref x :: st) M) s
    | .istore_n _ | .istore _ => am_tI st (fun x t => go mid d (pc + len) (am_st1 ls a (.int x)) t M) s
    | .astore_n _ | .astore _ => am_tR st (fun x t => go mid d (pc + len) (am_st1 ls a (.ref x)) t M) s
    | .lstore_n _ | .lstore _ => am_tL st (fun x t => go mid d (pc + len) (am_st2 ls a (.long x)) t M) s
    | .iinc _ _ => am_xI (am_nth ls a) (fun x => go mid d (pc + len) (am_st1 ls a (.int (x + am_i z))) st M) s
    | .iadd => am_tI st (fun y t => am_tI t (fun x t => go mid d (pc + len) ls (.int (x + y) :: t) M) s) s
    | .isub => am_tI st (fun y t => am_tI t (fun x t => go mid d (pc + len) ls (.int (x - y) :: t) M) s) s
    | .imul => am_tI st (fun y t => am_tI t (fun x t => go mid d (pc + len) ls (.int (x * y) :: t) M) s) s
    | .iand => am_tI st (fun y t => am_tI t (fun x t => go mid d (pc + len) ls (.int (x &&& y) :: t) M) s) s
    | .ior => am_tI st (fun y t => am_tI t (fun x t => go mid d (pc + len) ls (.int (x ||| y) :: t) M) s) s
    | .ixor => am_tI st (fun y t => am_tI t (fun x t => go mid d (pc + len) ls (.int (x ^^^ y) :: t) M) s) s
    | .ishl => am_tI st (fun y t => am_tI t (fun x t => go mid d (pc + len) ls (.int (x <<< (y &&& 31)) :: t) M) s) s
    | .ishr => am_tI st (fun y t => am_tI t (fun x t => go mid d (pc + len) ls (.int (x >>> (y &&& 31)) :: t) M) s) s
    | .iushr => am_tI st (fun y t => am_tI t (fun x t => go mid d (pc + len) ls (.int ((x.toUInt32 >>> (y.toUInt32 &&& Int32.toUInt32 31)).toInt32) :: t) M) s) s
    | .idiv => am_tI st (fun y t => am_tI t (fun x t => am_if (y = 0) s (go mid d (pc + len) ls (.int (x / y) :: t) M)) s) s
    | .irem => am_tI st (fun y t => am_tI t (fun x t => am_if (y = 0) s (go mid d (pc + len) ls (.int (x - x / y * y) :: t) M)) s) s
    | .ladd => am_tL st (fun y t => am_tL t (fun x t => go mid d (pc + len) ls (.long (x + y) :: t) M) s) s
    | .lsub => am_tL st (fun y t => am_tL t (fun x t => go mid d (pc + len) ls (.long (x - y) :: t) M) s) s
    | .lmul => am_tL st (fun y t => am_tL t (fun x t => go mid d (pc + len) ls (.long (x * y) :: t) M) s) s
    | .land => am_tL st (fun y t => am_tL t (fun x t => go mid d (pc + len) ls (.long (x &&& y) :: t) M) s) s
    | .lor => am_tL st (fun y t => am_tL t (fun x t => go mid d (pc + len) ls (.long (x ||| y) :: t) M) s) s
    | .lxor => am_tL st (fun y t => am_tL t (fun x t => go mid d (pc + len) ls (.long (x ^^^ y) :: t) M) s) s
    | .lshl => am_tI st (fun y t => am_tL t (fun x t => go mid d (pc + len) ls (.long (x <<< (y.toInt64 &&& 63)) :: t) M) s) s
    | .ldiv => am_tL st (fun y t => am_tL t (fun x t => am_if (y = 0) s (go mid d (pc + len) ls (.long (x / y) :: t) M)) s) s
    | .lrem => am_tL st (fun y t => am_tL t (fun x t => am_if (y = 0) s (go mid d (pc + len) ls (.long (x - x / y * y) :: t) M)) s) s
    | .lcmp => am_tL st (fun y t => am_tL t (fun x t => go mid d (pc + len) ls (.int (lg_cmp x y) :: t) M) s) s
    | .i2l => am_tI st (fun x t => go mid d (pc + len) ls (.long x.toInt64 :: t) M) s
    | .l2i => am_tL st (fun x t => go mid d (pc + len) ls (.int x.toInt32 :: t) M) s
    | .i2c => am_tI st (fun x t => go mid d (pc + len) ls (.int ((x.toUInt32 % 65536).toInt32) :: t) M) s
    | .dup => am_tI st (fun x t => go mid d (pc + len) ls (.int x :: .int x :: t) M) (am_tR st (fun x t => go mid d (pc + len) ls (.ref x :: .ref x :: t) M) s)
    | .pop => am_tI st (fun _ t => go mid d (pc + len) ls t M) (am_tR st (fun _ t => go mid d (pc + len) ls t M) s)
    | .dup2 => am_tI st (fun y t => am_tR t (fun x t => go mid d (pc + len) ls (.int y :: .ref x :: .int y :: .ref x :: t) M) s) (am_tL st (fun x t => go mid d (pc + len) ls (.long x :: .long x :: t) M) s)
    | .goto _ => go mid d a ls st M
    | .ifCond q _ => am_tI st (fun x t => am_br q x (am_i 0) (go mid d a ls t M) (go mid d (pc + len) ls t M)) s
    | .if_icmp q _ => am_tI st (fun y t => am_tI t (fun x t => am_br q x y (go mid d a ls t M) (go mid d (pc + len) ls t M)) s) s
    | .tableswitch _ _ _ _ | .lookupswitch _ _ => am_tI st (fun x t => am_sw sw a x (fun q => go mid d q ls t M)) s
    | .iaload => am_tI st (fun i t => am_tR t (fun r t => am_ix M r 2 i (go mid d (pc + len) ls (.int (am_I M r i.toNatClampNeg) :: t) M) s) s) s
    | .caload => am_tI st (fun i t => am_tR t (fun r t => am_ix M r 4 i (go mid d (pc + len) ls (.int (am_I M r i.toNatClampNeg) :: t) M) s) s) s
    | .laload => am_tI st (fun i t => am_tR t (fun r t => am_ix M r 3 i (go mid d (pc + len) ls (.long (am_L M r i.toNatClampNeg) :: t) M) s) s) s
    | .aaload => am_tI st (fun i t => am_tR t (fun r t => am_iq M r i (am_gr (am_R M r i.toNatClampNeg) (fun q => go mid d (pc + len) ls (.ref q :: t) M) s) s) s) s
    | .iastore => am_tI st (fun v t => am_tI t (fun i t => am_tR t (fun r t => am_iw M r 2 i (go mid d (pc + len) ls t (am_sI M r i.toNatClampNeg v)) s) s) s) s
    | .castore => am_tI st (fun v t => am_tI t (fun i t => am_tR t (fun r t => am_iw M r 4 i (am_if (vp_nar .char v = v) (go mid d (pc + len) ls t (am_sI M r i.toNatClampNeg v)) s) s) s) s) s
    | .lastore => am_tL st (fun v t => am_tI t (fun i t => am_tR t (fun r t => am_iw M r 3 i (go mid d (pc + len) ls t (am_sL M r i.toNatClampNeg v)) s) s) s) s
    | .aastore => am_tR st (fun v t => am_tI t (fun i t => am_tR t (fun r t => am_iw M r 5 i (am_if (am_K M v = (1, 0) ∧ 2 ≤ v) (go mid d (pc + len) ls t (am_sR M r i.toNatClampNeg v)) s) s) s) s) s
    | .arraylength => am_tR st (fun r t => am_if (2 ≤ (am_K M r).1 ∧ (am_K M r).1 ≤ 6) (go mid d (pc + len) ls (.int (nI (am_K M r).2) :: t) M) s) s
    | .getfield _ => am_tR st (fun r t => am_ob M r a (match c with
        | 1 => go mid d (pc + len) ls (.int (am_I M r b) :: t) M
        | 4 => go mid d (pc + len) ls (.int (am_I M r b) :: t) M
        | 2 => go mid d (pc + len) ls (.long (am_L M r b) :: t) M
        | _ => am_gr (am_R M r b) (fun q => go mid d (pc + len) ls (.ref q :: t) M) s) s) s
    | .putfield _ => (match c with
        | 1 => am_tI st (fun v t => am_tR t (fun r t => am_ob M r a (go mid d (pc + len) ls t (am_sI M r b v)) s) s) s
        | 4 => am_tI st (fun v t => am_tR t (fun r t => am_ob M r a (am_tr v (go mid d (pc + len) ls t (am_sI M r b v)) s) s) s) s
        | 2 => am_tL st (fun v t => am_tR t (fun r t => am_ob M r a (go mid d (pc + len) ls t (am_sL M r b v)) s) s) s
        | _ => am_tR st (fun v t => am_tR t (fun r t => am_ob M r a (go mid d (pc + len) ls t (am_sR M r b v)) s) s) s)
    | .new _ => go mid d (pc + len) ls (.ref (am_n M) :: st) (am_nw M (1, a) b)
    | .newarray _ => am_tI st (fun n t => am_if (n < 0 ∨ 65536 < n.toNatClampNeg) s (go mid d (pc + len) ls (.ref (am_n M) :: t) (am_nw M (a, n.toNatClampNeg) n.toNatClampNeg))) s
    | .anewarray _ => am_tI st (fun n t => am_if (n < 0 ∨ 65536 < n.toNatClampNeg) s (go mid d (pc + len) ls (.ref (am_n M) :: t) (am_nw M (5, n.toNatClampNeg) n.toNatClampNeg))) s
    | .multianewarray _ _ => am_tI st (fun k t => am_tI t (fun n t => am_if (n < 0 ∨ 65536 < n.toNatClampNeg ∨ k < 0 ∨ 65536 < k.toNatClampNeg) s (go mid d (pc + len) ls (.ref (am_n M) :: t) (am_nm M n.toNatClampNeg k.toNatClampNeg))) s) s
    | .invokespecial _ => (match d with
      | 0 => s
      | d + 1 => (match c with
        | 9 => am_tR st (fun _ t => am_if (am_cat t ≤ 8) (go mid (d + 1) (pc + len) ls t M) s) s
        | _ => am_if (am_cok a b st = true) (am_tR (am_tk st b []) (fun _ _ => cV a d (am_tk st b []) M (fun M => go mid (d + 1) (pc + len) ls (am_dp st b) M)) s) s))
    | .invokestatic _ => (match d with
      | 0 => s
      | d + 1 => (match c with
        | 8 => am_tI st (fun n t => am_tI t (fun dp t => am_tR t (fun q t => am_tI t (fun sp t => am_tR t (fun r t => am_if (2 ≤ r ∧ 2 ≤ q ∧ r ≠ q ∧ (am_K M r).1 = 2 ∧ (am_K M q).1 = 2 ∧ ¬ n < 0 ∧ ¬ dp < 0 ∧ ¬ sp < 0 ∧ sp.toNatClampNeg + n.toNatClampNeg ≤ (am_K M r).2 ∧ dp.toNatClampNeg + n.toNatClampNeg ≤ (am_K M q).2 ∧ am_cat t ≤ 8)
            (go mid (d + 1) (pc + len) ls t (am_cp M r sp.toNatClampNeg q dp.toNatClampNeg n.toNatClampNeg)) s) s) s) s) s) s
        | 2 => am_if (am_cok a b st = true) (cL a d (am_tk st b []) M (fun x M => go mid (d + 1) (pc + len) ls (.long x :: am_dp st b) M)) s
        | _ => am_if (am_cok a b st = true) (cI a d (am_tk st b []) M (fun x M => go mid (d + 1) (pc + len) ls (.int x :: am_dp st b) M)) s))
    | .invokevirtual _ => (match d with
      | 0 => s
      | d + 1 => (match c with
        | 10 => am_tR st (fun r t => am_if (r = 1 ∧ 8 ≤ d + 1 ∧ am_cat t ≤ 8) (go mid (d + 1) (pc + len) ls (.int (nI am_words.length) :: t) M) s) s
        | 11 => am_tI st (fun i t => am_tR t (fun r t => am_if (r = 1 ∧ 8 ≤ d + 1 ∧ ¬ (i < 0 ∨ am_words.length ≤ i.toNatClampNeg) ∧ am_cat t ≤ 8) (go mid (d + 1) (pc + len) ls (.int (am_ch i.toNatClampNeg) :: t) M) s) s) s
        | 0 => am_if (am_cok a b st = true) (am_tR (am_tk st b []) (fun r _ => am_ob M r z.toNat (cV a d (am_tk st b []) M (fun M => go mid (d + 1) (pc + len) ls (am_dp st b) M)) s) s) s
        | 2 => am_if (am_cok a b st = true) (am_tR (am_tk st b []) (fun r _ => am_ob M r z.toNat (cL a d (am_tk st b []) M (fun x M => go mid (d + 1) (pc + len) ls (.long x :: am_dp st b) M)) s) s) s
        | 3 => am_if (am_cok a b st = true) (am_tR (am_tk st b []) (fun r _ => am_ob M r z.toNat (cR a d (am_tk st b []) M (fun x M => go mid (d + 1) (pc + len) ls (.ref x :: am_dp st b) M)) s) s) s
        | _ => am_if (am_cok a b st = true) (am_tR (am_tk st b []) (fun r _ => am_ob M r z.toNat (cI a d (am_tk st b []) M (fun x M => go mid (d + 1) (pc + len) ls (.int x :: am_dp st b) M)) s) s) s))
    | .ireturn => am_tI st (fun x t => am_e0 t (match c with
        | 4 => am_tr x (ret (some (.int x)) M) s
        | _ => ret (some (.int x)) M) s) s
    | .lreturn => am_tL st (fun x t => am_e0 t (ret (some (.long x)) M) s) s
    | .return_ => am_e0 st (ret none M) s
    | _ => s
abbrev am_Q : Type := Option (Option Value × am_M)
abbrev am_F : Type := Nat → Nat → Nat → List Value → List Value → am_M → am_Q
def am_bI (r : am_Q) (f : Int32 → am_M → am_Q) : am_Q := match r with
  | some (some (.int x), M) => f x M
  | _ => none
def am_bL (r : am_Q) (f : Int64 → am_M → am_Q) : am_Q := match r with
  | some (some (.long x), M) => f x M
  | _ => none
def am_bR (r : am_Q) (f : Nat → am_M → am_Q) : am_Q := match r with
  | some (some (.ref x), M) => f x M
  | _ => none
def am_bV (r : am_Q) (f : am_M → am_Q) : am_Q := match r with
  | some (none, M) => f M
  | _ => none
/-- a step, and k from there on -/
noncomputable def am_nx (k : am_F) : am_F := am_step (fun v M => some (v, M)) k
  (fun m d a M f => am_bI (k m d 0 (am_lc m a) [] M) f) (fun m d a M f => am_bL (k m d 0 (am_lc m a) [] M) f) (fun m d a M f => am_bR (k m d 0 (am_lc m a) [] M) f) (fun m d a M f => am_bV (k m d 0 (am_lc m a) [] M) f) none
noncomputable def am_run : Nat → am_F
  | 0 => fun _ _ _ _ _ _ => none
  | n + 1 => am_nx (am_run n)
