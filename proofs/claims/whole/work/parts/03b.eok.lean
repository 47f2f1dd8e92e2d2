/-! What a row of a table must be, to agree with the class files. -/
def am_pl (e : Nat) (w : Jvm.Cond) : Bool := decide (am_wt e = some w) && goodWord w
/-- the same, of a word that is carried apart -/
def am_pm (e : Nat) (w : Jvm.Cond) : Bool := decide (am_wt e = some w)
def am_tg (pc : Nat) (off : Int) (a : Nat) : Bool := decide ((pc : Int) + off = (a : Int))
def am_kd (h : am_S) : Nat := h.2.2.2.2.1
def am_rc (h : am_S) : Nat := h.2.2.2.2.2.1
def am_na (h : am_S) : Nat := h.2.2.2.2.2.2.1
def am_ci (h : am_S) : Nat := h.2.2.2.2.2.2.2.1
def am_sok (h : am_S) : Bool := match h with
  | (y, by_, ml, ret, kind, rc, na, ci, pc, pi, ps, pn) =>
    (match rc with
      | 0 => decide (ret = none)
      | 1 => decide (ret = some .int)
      | 2 => decide (ret = some .long)
      | 4 => decide (ret = some .boolean)
      | _ => false) && Nat.ble ml 100 && (Nat.beq kind 3 || (
      plainFor y && decide (y.cls ≠ "java/lang/invoke/MethodHandle") && decide (y.cls ≠ "java/lang/invoke/VarHandle") && goodWord (.code y by_ ml ret) && am_pl pn (.initialized y.cls) &&
      decide ((parseMethodDescriptor y.desc).map (fun d => d.parameters.length) = some (if kind = 0 then na else na - 1)) &&
      (match kind with
        | 0 => am_pl pi (.static y)
        | 1 => Nat.ble 1 na && am_pl pi (.instanceMethod y) && am_pl ps (.selects y.cls y y) && Nat.blt ci 7 && decide (am_cR ci = y.cls)
        | 2 => Nat.ble 1 na && am_pl pi (.instanceMethod y) && decide (y.name = "<init>") && decide (ret = none) && Nat.beq rc 0
        | _ => false)))
def am_wstr (own : String) (k : Nat) : Jvm.Cond := .stringRef own k am_words
/-- a head's code is the class files': the law's apart -/
def am_sop (h : am_S) : Prop := am_kd h = 3 ∨ am_wt h.2.2.2.2.2.2.2.2.1 = some (.code h.1 h.2.1 h.2.2.1 h.2.2.2.1)
/-- a row of a method's table -/
noncomputable def am_eok (h : am_S) (q : Nat × am_E) : Bool := match q with
  | (pc, ins, len, a, b, c, e, z, sw) =>
    decide (decode h.2.1 pc = .ok (ins, len)) && (match ins with
      | .iconst n => Nat.beq len 1 && decide (Int32.ofInt n = am_i z)
      | .bipush n => Nat.beq len 2 && decide ((Int8.ofInt n).toInt32 = am_i z)
      | .sipush n => Nat.beq len 3 && decide ((Int16.ofInt n).toInt32 = am_i z)
      | .ldc k => Nat.beq len 2 && (if b = 1 then am_pm e (am_wstr h.1.cls k) else am_pl e (.constant h.1.cls k (am_i z)))
      | .ldc_w k => Nat.beq len 3 && am_pl e (.constant h.1.cls k (am_i z))
      | .lconst n => Nat.beq len 1 && decide (Int64.ofNat (n : Nat) = am_l z)
      | .ldc2_w k => Nat.beq len 3 && am_pl e (.constantLong h.1.cls k (am_l z))
      | .iload_n n | .lload_n n | .aload_n n => Nat.beq len 1 && Nat.beq (n : Nat) a
      | .iload k | .lload k | .aload k => Nat.beq len 2 && Nat.beq k a
      | .istore_n n | .astore_n n => Nat.beq len 1 && Nat.beq (n : Nat) a && Nat.blt a h.2.2.1
      | .istore k | .astore k => Nat.beq len 2 && Nat.beq k a && Nat.blt a h.2.2.1
      | .lstore_n n => Nat.beq len 1 && Nat.beq (n : Nat) a && Nat.blt (a + 1) h.2.2.1
      | .lstore k => Nat.beq len 2 && Nat.beq k a && Nat.blt (a + 1) h.2.2.1
      | .iinc k n => Nat.beq len 3 && Nat.beq k a && decide (n = z) && Nat.blt a h.2.2.1
      | .iadd | .isub | .imul | .iand | .ior | .ixor | .ishl | .ishr | .iushr | .idiv | .irem | .ladd | .lsub | .lmul | .land | .lor | .lxor | .lshl | .ldiv | .lrem | .lcmp | .i2l | .l2i | .i2c | .dup | .pop | .dup2 => Nat.beq len 1
      | .goto off => Nat.beq len 3 && am_tg pc off a
      | .ifCond _ off => Nat.beq len 3 && am_tg pc off a
      | .if_icmp _ off => Nat.beq len 3 && am_tg pc off a
      | .tableswitch d lo hi offs => am_tg pc d a && decide (sw.map (fun x => ((x.2 : Int) - pc)) = offs.toList) && decide (sw.map (fun x => x.1) = (List.range sw.length).map (fun (j : Nat) => lo + (j : Int))) && decide (lo + (sw.length : Int) = hi + 1) && sw.all (fun x => decide ((am_i x.1).toInt = x.1))
      | .lookupswitch d ps => am_tg pc d a && decide (ps.toList = []) && decide (sw = [])
      | .iaload | .caload | .laload | .aaload | .iastore | .castore | .lastore | .aastore | .arraylength => Nat.beq len 1
      | .getfield k => Nat.beq len 3 && Nat.blt a 7 && Nat.blt b (am_nf a) && Nat.beq c (am_ft a b) && am_pl e (.fieldLink h.1.cls k (am_cT a b).1 (am_cT a b).2.1 (am_cT a b).2.2.1)
      | .putfield k => Nat.beq len 3 && Nat.blt a 7 && Nat.blt b (am_nf a) && Nat.beq c (am_ft a b) && am_pl e (.fieldLink h.1.cls k (am_cT a b).1 (am_cT a b).2.1 (am_cT a b).2.2.1) && (!(am_cT a b).2.2.2 || (Nat.beq (am_kd h) 2 && decide ((am_cT a b).1 = h.1.cls)))
      | .new k => Nat.beq len 3 && Nat.blt a 7 && Nat.beq b (am_nf a) && am_pl e (.classLink h.1.cls k (am_cR a)) && decide (Cond.instantiable (am_cR a) (am_nf a) ∈ lw_tbl) && decide (Cond.initialized (am_cR a) ∈ lw_tbl)
      | .newarray t => Nat.beq len 2 && (match t with
        | .int => Nat.beq a 2
        | .long => Nat.beq a 3
        | .char => Nat.beq a 4
        | _ => false)
      | .anewarray k => Nat.beq len 3 && am_pl e (.classLink h.1.cls k RX0)
      | .multianewarray k n => Nat.beq len 4 && decide (n = 2) && am_pl e (.classLink h.1.cls k ("[" ++ (FieldType.array .int).toString))
      | .invokespecial k => Nat.beq len 3 && (match c with
        | 9 => am_pl e (.methodLink h.1.cls k objectInit)
        | _ => Nat.beq (am_kd (am_hd a)) 2 && Nat.beq b (am_na (am_hd a)) && (match sw with
          | [] => am_pl e (.methodLink h.1.cls k (am_hd a).1)
          | _ => am_pm e (.methodLinkNest h.1.cls k (am_hd a).1 "FourOnOne")))
      | .invokestatic k => Nat.beq len 3 && (match c with
        | 8 => am_pl e (.methodLink h.1.cls k arraycopyName)
        | _ => Nat.beq (am_kd (am_hd a)) 0 && Nat.beq b (am_na (am_hd a)) && Nat.beq c (am_rc (am_hd a)) && !(Nat.beq c 0) && am_pl e (.methodLink h.1.cls k (am_hd a).1))
      | .invokevirtual k => Nat.beq len 3 && (match c with
        | 10 => am_pl e (.methodLink h.1.cls k yJ0_length_8abf5)
        | 11 => am_pl e (.methodLink h.1.cls k yJ0_charAt_5068e)
        | _ => Nat.beq (am_kd (am_hd a)) 1 && Nat.beq b (am_na (am_hd a)) && Nat.beq c (am_rc (am_hd a)) && Nat.beq z.toNat (am_ci (am_hd a)) && am_pl e (.methodLink h.1.cls k (am_hd a).1))
      | .ireturn => Nat.beq len 1 && Nat.beq c (am_rc h) && (Nat.beq c 1 || Nat.beq c 4)
      | .lreturn => Nat.beq len 1 && Nat.beq (am_rc h) 2
      | .return_ => Nat.beq len 1 && Nat.beq (am_rc h) 0
      | _ => true)
theorem am_all_app {α : Type} {p : α → Bool} {a b : List α} (ha : a.all p = true) (hb : b.all p = true) : (a ++ b).all p = true := by
  rw [List.all_append, ha, hb]
  rfl
