/-! The text constant: loaded, its length, its words. -/
section AMT
variable {p : Program} {l : Launch} {e : Env} {R : Room} {s : State} {m : MethodId} {args : Array Value} {below : List Frame} {meth : Method} {c : Code} {H : Heap} {locs : List Loc} {cells slots : Nat} {Q : State → Prop}
variable {cc : ByteArray} {pc nL : Nat} {ls : Array Slot} {rest : List Value} {G : am_G} {M : am_M} {own : String}
theorem am_r_lds (hx : p.tables.exec = Jvm.exec) (hb : c.code = cc) (hown : s.vm.findClass own = some m.cls) (hW : am_Wd G s) {index : Nat} (hw : Cond.stringRef own index am_words ∈ lw_tbl) (hdg : decode cc pc = .ok (.ldc index, 2))
    (kk : W p l e R s m args below meth c H locs cells slots Q (F0 m (pc + 2) ls (.ref (am_gt G) :: rest))) : W p l e R s m args below meth c H locs cells slots Q (F0 m pc ls rest) :=
  va_ldcS hx hb hown (hW.2.2.2.2.2.2.2.1 own index hw) hdg kk
theorem am_r_len (hx : p.tables.exec = Jvm.exec) (hb : c.code = cc) (hml : c.maxLocals = nL) (hls : ls.size = nL) (hts : ∀ w ∈ am_W, w.before args s = true) (hown : s.vm.findClass own = some m.cls) (hW : am_Wd G s) (hM : am_Mm G M H) (hlo : am_lo G locs) {index : Nat} (hlink : Cond.methodLink own index yJ0_length_8abf5 ∈ am_W) (hfr : 8 ≤ R.frames) (hlc : 1000 ≤ R.locals) (hcl : cells ≤ R.cells) (hsl : slots ≤ R.slots)
    (hrest : (rest.map fun v => v.category).sum ≤ 8) (hdg : decode cc pc = .ok (.invokevirtual index, 3))
    (kk : ∀ (H1 : Heap) (locs1 : List Loc), am_Mm G M H1 → am_lo G locs1 → W p l e R s m args below meth c H1 locs1 cells slots Q (F0 m (pc + 3) ls (.int (nI am_words.length) :: rest))) : W p l e R s m args below meth c H locs cells slots Q (F0 m pc ls (.ref (am_gt G) :: rest)) := by
  sorry
theorem am_r_chr (hx : p.tables.exec = Jvm.exec) (hb : c.code = cc) (hml : c.maxLocals = nL) (hls : ls.size = nL) (hts : ∀ w ∈ am_W, w.before args s = true) (hown : s.vm.findClass own = some m.cls) (hW : am_Wd G s) (hM : am_Mm G M H) (hlo : am_lo G locs) {index : Nat} (hlink : Cond.methodLink own index yJ0_charAt_5068e ∈ am_W) (hfr : 8 ≤ R.frames) (hlc : 1000 ≤ R.locals) (hcl : cells ≤ R.cells) (hsl : slots ≤ R.slots)
    {i : Int32} (hin : ¬ (i < 0 ∨ am_words.length ≤ i.toNatClampNeg)) (hrest : (rest.map fun v => v.category).sum ≤ 8) (hdg : decode cc pc = .ok (.invokevirtual index, 3))
    (kk : ∀ (H1 : Heap) (locs1 : List Loc), am_Mm G M H1 → am_lo G locs1 → W p l e R s m args below meth c H1 locs1 cells slots Q (F0 m (pc + 3) ls (.int (am_ch i.toNatClampNeg) :: rest))) : W p l e R s m args below meth c H locs cells slots Q (F0 m pc ls (.int i :: .ref (am_gt G) :: rest)) := by
  sorry
end AMT
