/-! A SMALL MACHINE: the same instructions over cells that are numbered from 0 on; its runs are runs of the machine (parts behind). Values are the machine's; '.ref k' is the small machine's cell k, '.retAddr 0' the script, '.retAddr 1' the row FIRST_SLOT, '.retAddr 2' the text of the words, '.retAddr 3' its bytes, '.retAddr 4' what nobody looks at. -/
abbrev nC : Type := (Nat × Nat × ((Nat → Int32) ⊕ (Nat → Int64) ⊕ (Nat → Option Nat))) ⊕ (Nat × List Value)
abbrev nLv : Type := List (Nat × Value)
/-- an instruction of a method: its place, itself, three numbers that say what it means here, a place in the tables -/
abbrev nE : Type := Nat × Instr × Nat × Nat × Int × Nat
def nj_get (lv : nLv) (k : Nat) : Option Value := (lv.find? (fun q => q.1 == k)).map (fun q => q.2)
def nj_put (lv : nLv) (i : Nat) (v : Value) : nLv := (i, v) :: lv.filter (fun q => !(q.1 == i) && !(q.1 + 1 == i && q.2.category == 2))
def nj_put2 (lv : nLv) (i : Nat) (v : Value) : nLv := (i, v) :: lv.filter (fun q => !(q.1 == i) && (!(q.1 == i + 1) && !(q.1 + 1 == i && q.2.category == 2)))
def nj_go (pc : Nat) (off : Int) (lv : nLv) (st : List Value) : Option (Nat × nLv × List Value) := if 0 ≤ (pc : Int) + off then some (((pc : Int) + off).toNat, lv, st) else none
def nj_br (pc : Nat) (off : Int) (c : Bool) (lv : nLv) (st : List Value) : Option (Nat × nLv × List Value) := if 0 ≤ (pc : Int) + off then (if c = true then some (((pc : Int) + off).toNat, lv, st) else some (pc + 3, lv, st)) else none
def nj_cmp (c : Jvm.ClassFile.Cond) (x y : Int32) : Bool := match c with
  | .eq => decide (x = y)
  | .ne => decide (¬ x = y)
  | .lt => decide (x < y)
  | .ge => decide (y ≤ x)
  | .gt => decide (y < x)
  | .le => decide (x ≤ y)
def nj_ldi (lv : nLv) (pc : Nat) (k : Nat) (st : List Value) : Option (Nat × nLv × List Value) := match nj_get lv k with
  | some (.int x) => some (pc, lv, .int x :: st)
  | _ => none
def nj_ldl (lv : nLv) (pc : Nat) (k : Nat) (st : List Value) : Option (Nat × nLv × List Value) := match nj_get lv k with
  | some (.long x) => some (pc, lv, .long x :: st)
  | _ => none
def nj_lda (lv : nLv) (pc : Nat) (k : Nat) (st : List Value) : Option (Nat × nLv × List Value) := match nj_get lv k with
  | some (.ref x) => some (pc, lv, .ref x :: st)
  | some (.retAddr x) => some (pc, lv, .retAddr x :: st)
  | _ => none
def nj_sti (lv : nLv) (mL pc k : Nat) (st : List Value) : Option (Nat × nLv × List Value) := match st with
  | .int x :: r => if k < mL then some (pc, nj_put lv k (.int x), r) else none
  | _ => none
def nj_stl (lv : nLv) (mL pc k : Nat) (st : List Value) : Option (Nat × nLv × List Value) := match st with
  | .long x :: r => if k + 1 < mL then some (pc, nj_put2 lv k (.long x), r) else none
  | _ => none
def nj_sta (lv : nLv) (mL pc k : Nat) (st : List Value) : Option (Nat × nLv × List Value) := match st with
  | .ref x :: r => if k < mL then some (pc, nj_put lv k (.ref x), r) else none
  | .retAddr x :: r => if k < mL then some (pc, nj_put lv k (.retAddr x), r) else none
  | _ => none
def nj_b2 (f : Int32 → Int32 → Int32) (lv : nLv) (pc : Nat) (st : List Value) : Option (Nat × nLv × List Value) := match st with
  | .int y :: .int x :: r => some (pc + 1, lv, .int (f x y) :: r)
  | _ => none
def nj_l2 (f : Int64 → Int64 → Int64) (lv : nLv) (pc : Nat) (st : List Value) : Option (Nat × nLv × List Value) := match st with
  | .long y :: .long x :: r => some (pc + 1, lv, .long (f x y) :: r)
  | _ => none
def nj_i1 (f : Int32 → Int32) (lv : nLv) (pc : Nat) (st : List Value) : Option (Nat × nLv × List Value) := match st with
  | .int x :: r => some (pc + 1, lv, .int (f x) :: r)
  | _ => none
def nj_tab (pc : Nat) (lv : nLv) (d lo hi : Int) (offs : Array Int) (x : Int32) (r : List Value) : Option (Nat × nLv × List Value) :=
  if x.toInt < lo ∨ hi < x.toInt then nj_go pc d lv r else match offs[(x.toInt - lo).toNat]? with
    | some o => nj_go pc o lv r
    | none => none
/-- what only the frame needs -/
def nj_pure (lv : nLv) (mL pc : Nat) (st : List Value) (i : Instr) : Option (Nat × nLv × List Value) := match i with
  | .iconst n => some (pc + 1, lv, .int (Int32.ofInt n) :: st)
  | .bipush n => some (pc + 2, lv, .int (Int8.ofInt n).toInt32 :: st)
  | .sipush n => some (pc + 3, lv, .int (Int16.ofInt n).toInt32 :: st)
  | .lconst n => some (pc + 1, lv, .long (Int64.ofNat (n : Nat)) :: st)
  | .iload_n k => nj_ldi lv (pc + 1) k st
  | .iload k => nj_ldi lv (pc + 2) k st
  | .lload_n k => nj_ldl lv (pc + 1) k st
  | .lload k => nj_ldl lv (pc + 2) k st
  | .aload_n k => nj_lda lv (pc + 1) k st
  | .aload k => nj_lda lv (pc + 2) k st
  | .istore_n k => nj_sti lv mL (pc + 1) k st
  | .istore k => nj_sti lv mL (pc + 2) k st
  | .lstore_n k => nj_stl lv mL (pc + 1) k st
  | .lstore k => nj_stl lv mL (pc + 2) k st
  | .astore_n k => nj_sta lv mL (pc + 1) k st
  | .astore k => nj_sta lv mL (pc + 2) k st
  | .iinc k n => match nj_get lv k with
    | some (.int x) => if k < mL then some (pc + 3, nj_put lv k (.int (x + Int32.ofInt n)), st) else none
    | _ => none
  | .iadd => nj_b2 (fun x y => x + y) lv pc st
  | .isub => nj_b2 (fun x y => x - y) lv pc st
  | .imul => nj_b2 (fun x y => x * y) lv pc st
  | .iand => nj_b2 (fun x y => x &&& y) lv pc st
  | .ior => nj_b2 (fun x y => x ||| y) lv pc st
  | .ixor => nj_b2 (fun x y => x ^^^ y) lv pc st
  | .ishl => nj_b2 (fun x y => x <<< (y &&& 31)) lv pc st
  | .ishr => nj_b2 (fun x y => x >>> (y &&& 31)) lv pc st
  | .iushr => nj_b2 (fun x y => (x.toUInt32 >>> (y.toUInt32 &&& Int32.toUInt32 31)).toInt32) lv pc st
  | .irem => match st with
    | .int y :: .int x :: r => if y = 0 then none else some (pc + 1, lv, .int (x - x / y * y) :: r)
    | _ => none
  | .ladd => nj_l2 (fun x y => x + y) lv pc st
  | .lsub => nj_l2 (fun x y => x - y) lv pc st
  | .lmul => nj_l2 (fun x y => x * y) lv pc st
  | .lor => nj_l2 (fun x y => x ||| y) lv pc st
  | .lshl => match st with
    | .int y :: .long x :: r => some (pc + 1, lv, .long (x <<< (y.toInt64 &&& 63)) :: r)
    | _ => none
  | .lcmp => match st with
    | .long y :: .long x :: r => some (pc + 1, lv, .int (lg_cmp x y) :: r)
    | _ => none
  | .i2l => match st with
    | .int x :: r => some (pc + 1, lv, .long x.toInt64 :: r)
    | _ => none
  | .l2i => match st with
    | .long x :: r => some (pc + 1, lv, .int x.toInt32 :: r)
    | _ => none
  | .i2b => nj_i1 (fun x => x.toInt8.toInt32) lv pc st
  | .i2c => nj_i1 (fun x => (x.toUInt32 % 65536).toInt32) lv pc st
  | .dup => match st with
    | x :: r => if x.category = 1 then some (pc + 1, lv, x :: x :: r) else none
    | _ => none
  | .pop => match st with
    | x :: r => if x.category = 1 then some (pc + 1, lv, r) else none
    | _ => none
  | .dup2 => match st with
    | x :: y :: r => if x.category = 1 ∧ y.category = 1 then some (pc + 1, lv, x :: y :: x :: y :: r) else none
    | _ => none
  | .ifCond c off => match st with
    | .int x :: r => nj_br pc off (nj_cmp c x 0) lv r
    | _ => none
  | .if_icmp c off => match st with
    | .int y :: .int x :: r => nj_br pc off (nj_cmp c x y) lv r
    | _ => none
  | .goto off => nj_go pc off lv st
  | .tableswitch d lo hi offs => match st with
    | .int x :: r => nj_tab pc lv d lo hi offs x r
    | _ => none
  | .lookupswitch d ps => match st with
    | .int x :: r => if (ps.toList.zip (ps.toList.drop 1)).all (fun (a, next) => a.1 < next.1) = true then nj_go pc (Op.lookupswitch.offset ps.toList d x.toInt) lv r else none
    | _ => none
  | _ => none
/-- how long an instruction is (a switch's length stands in the table) -/
def nj_len (i : Instr) (b : Nat) : Nat := match i with
  | .bipush _ | .iload _ | .lload _ | .aload _ | .istore _ | .lstore _ | .astore _ | .ldc _ | .newarray _ => 2
  | .sipush _ | .iinc _ _ | .ifCond _ _ | .if_icmp _ _ | .goto _ | .ldc_w _ | .ldc2_w _ | .getfield _ | .putfield _ | .getstatic _ | .invokevirtual _ | .invokespecial _ | .invokestatic _ | .new _ | .anewarray _ => 3
  | .tableswitch _ _ _ _ | .lookupswitch _ _ => b
  | _ => 1
/-- the small machine's values in the machine -/
def nj_rl (base : Nat) (ext : Nat → Option Nat) : Value → Value
  | .ref k => .ref (base + k)
  | .retAddr j => va_rf (ext j)
  | v => v
theorem nj_rl_cat (base : Nat) (ext : Nat → Option Nat) (v : Value) : (nj_rl base ext v).category = v.category := by
  cases v with
  | retAddr j => show (va_rf (ext j)).category = 1; cases ext j <;> rfl
  | _ => rfl
def nj_rlv (base : Nat) (ext : Nat → Option Nat) (lv : nLv) : List (Nat × Value) := lv.map (fun q => (q.1, nj_rl base ext q.2))
theorem nj_get_mem {lv : nLv} {k : Nat} {v : Value} (h : nj_get lv k = some v) : (k, v) ∈ lv := by
  unfold nj_get at h
  cases hf : lv.find? (fun q => q.1 == k) with
  | none => rw [hf] at h; cases h
  | some q =>
    rw [hf] at h
    have h1 := List.mem_of_find?_eq_some hf
    have h2 := List.find?_some hf
    have h3 : q.2 = v := Option.some.inj h
    have h4 : q.1 = k := by simpa using h2
    rw [← h3, ← h4]
    exact h1
theorem nj_get_at {base : Nat} {ext : Nat → Option Nat} {ls : Array Slot} {mL : Nat} {lv : nLv} {k : Nat} {v : Value} (hl : lv_has ls mL (nj_rlv base ext lv)) (h : nj_get lv k = some v) : ls[k]? = some (.val (nj_rl base ext v)) :=
  hl.2.2 (k, nj_rl base ext v) (List.mem_map.mpr ⟨(k, v), nj_get_mem h, rfl⟩)
theorem nj_put_rl (base : Nat) (ext : Nat → Option Nat) (lv : nLv) (i : Nat) (v : Value) : (i, nj_rl base ext v) :: (nj_rlv base ext lv).filter (fun q => !(q.1 == i) && !(q.1 + 1 == i && q.2.category == 2)) = nj_rlv base ext (nj_put lv i v) := by
  simp only [nj_rlv, nj_put, List.map_cons, List.filter_map]
  congr 2
  apply List.filter_congr
  intro q _
  simp [Function.comp, nj_rl_cat]
theorem nj_put2_rl (base : Nat) (ext : Nat → Option Nat) (lv : nLv) (i : Nat) (v : Value) : (i, nj_rl base ext v) :: (nj_rlv base ext lv).filter (fun q => !(q.1 == i) && (!(q.1 == i + 1) && !(q.1 + 1 == i && q.2.category == 2))) = nj_rlv base ext (nj_put2 lv i v) := by
  simp only [nj_rlv, nj_put2, List.map_cons, List.filter_map]
  congr 2
  apply List.filter_congr
  intro q _
  simp [Function.comp, nj_rl_cat]
