/-- a method: name, bytes, locals, what it returns, places of its words in the tables, instructions -/
abbrev nM : Type := MethodName × ByteArray × Nat × Option FieldType × List Nat × List nE
def nj_copy (st : List Value) (h : List nC) : Option (List Value × List nC) := match st with
  | .int n :: .int dp :: .ref q1 :: .int sp :: .ref q0 :: r => match h[q0]?, h[q1]? with
    | some (.inl (k0, n0, .inl f)), some (.inl (k1, n1, .inl g)) => if k0 = 0 ∧ k1 = 0 ∧ ¬ sp < 0 ∧ ¬ dp < 0 ∧ ¬ n < 0 ∧ sp.toNatClampNeg + n.toNatClampNeg ≤ n0 ∧ dp.toNatClampNeg + n.toNatClampNeg ≤ n1 then some (r, h.set q1 (.inl (0, n1, .inl (va_cpy f g sp.toNatClampNeg dp.toNatClampNeg n.toNatClampNeg)))) else none
    | some (.inl (k0, n0, .inr (.inl f))), some (.inl (k1, n1, .inr (.inl g))) => if k0 = 3 ∧ k1 = 3 ∧ ¬ sp < 0 ∧ ¬ dp < 0 ∧ ¬ n < 0 ∧ sp.toNatClampNeg + n.toNatClampNeg ≤ n0 ∧ dp.toNatClampNeg + n.toNatClampNeg ≤ n1 then some (r, h.set q1 (.inl (3, n1, .inr (.inl (va_cpy f g sp.toNatClampNeg dp.toNatClampNeg n.toNatClampNeg))))) else none
    | _, _ => none
  | _ => none
def nj_sum (r : List Value) : Nat := (r.map fun v => v.category).sum
/-- the receiver is of the method's own kind -/
def nj_recv (mz : nM) (as : List Value) (h : List nC) : Bool := match as with
  | .ref q :: _ => match h[q]? with
    | some (.inr (ci, _)) => decide ((nj_cl[ci]?).map (fun z => z.1) = some mz.1.cls)
    | _ => false
  | .retAddr j :: _ => decide (j = 2) && decide (mz.1.cls = "java/lang/String")
  | _ => false
def nj_isref (as : List Value) : Bool := match as with
  | .ref _ :: _ => true
  | _ => false
def nj_ret (ret : Option FieldType) (i : Instr) (st : List Value) : Option (Option Value) := match i with
  | .ireturn => match st, ret with
    | [.int x], some ty => if narrow ty (.int x) = .int x then some (some (.int x)) else none
    | _, _ => none
  | .lreturn => match st with
    | [.long x] => if ret = some .long then some (some (.long x)) else none
    | _ => none
  | .return_ => match st, ret with
    | [], none => some none
    | _, _ => none
  | _ => none
/-- a call: may it be made; its arguments, what is left on the stack -/
def nj_pass (mz : nM) (i : Instr) (b : Nat) (st : List Value) (h : List nC) : Bool := decide (b ≤ st.length) && (decide (nj_sum (st.drop b) ≤ 8) && (decide ((lg_sl (st.take b).reverse).length ≤ mz.2.2.1) && (match i with
  | .invokevirtual _ => nj_recv mz (st.take b).reverse h
  | .invokespecial _ => nj_isref (st.take b).reverse
  | .invokestatic _ => true
  | _ => false)))
def nj_isinv (i : Instr) : Bool := match i with
  | .invokevirtual _ | .invokespecial _ | .invokestatic _ => true
  | _ => false
abbrev nX : Type := Nat → List Value → List nC → Option (Int32 × List nC × Nat × Nat)
abbrev nRes : Type := Option Value × List nC × Nat × Nat × Nat
abbrev nS1 : Type := Nat × nLv × List Value × List nC × Nat × Nat × Nat
/-- a call of a method of ours -/
def nj_inv (M : Nat → Option nM) (run : Nat → nM → nLv → List nC → Nat → Option nRes) (d : Nat) (pc : Nat) (i : Instr) (a b : Nat) (lv : nLv) (st : List Value) (h : List nC) (g : Nat) : Option nS1 := match d, M a with
  | d1 + 1, some mz => if nj_pass mz i b st h = true then (match run d1 mz (lv_args 0 (st.take b).reverse) h g with
    | some (rv, h1, g1, mc, ms) => some (pc + 3, lv, rv.toList ++ st.drop b, h1, g1, mc, ms)
    | none => none) else none
  | _, _ => none
/-- calls: Object's constructor (4), arraycopy (5), what stands outside (6), Math.min (7), methods of ours -/
def nj_calls (M : Nat → Option nM) (X : nX) (run : Nat → nM → nLv → List nC → Nat → Option nRes) (d : Nat) (pc : Nat) (i : Instr) (a b : Nat) (v : Int) (lv : nLv) (st : List Value) (h : List nC) (g : Nat) : Option nS1 :=
  if nj_isinv i = false then none
  else if v = 4 then (match st with
    | .ref _ :: r => if nj_sum r ≤ 8 then some (pc + 3, lv, r, h, g, 0, 0) else none
    | _ => none)
  else if v = 5 then (match nj_copy st h with
    | some (r, h1) => if nj_sum r ≤ 8 then some (pc + 3, lv, r, h1, g, 0, 0) else none
    | none => none)
  else if v = 6 then (if b ≤ st.length ∧ nj_sum (st.drop b) ≤ 8 then (match X a (st.take b).reverse h with
    | some (r, h1, dg, ms) => some (pc + 3, lv, .int r :: st.drop b, h1, g + dg, dg, ms)
    | none => none) else none)
  else if v = 7 then (match st with
    | .int y :: .int x :: r => if nj_sum r ≤ 8 then some (pc + 3, lv, .int (if y < x then y else x) :: r, h, g, 0, 0) else none
    | _ => none)
  else nj_inv M run d pc i a b lv st h g
/-- one instruction that isn't a return -/
def nj_step (M : Nat → Option nM) (X : nX) (L : Nat) (xs : Nat → Int32) (run : Nat → nM → nLv → List nC → Nat → Option nRes) (d : Nat) (mt : nM) (i : Instr) (a b : Nat) (v : Int) (pc : Nat) (lv : nLv) (st : List Value) (h : List nC) (g : Nat) : Option nS1 :=
  match nj_pure lv mt.2.2.1 pc st i with
  | some (pc1, lv1, st1) => some (pc1, lv1, st1, h, g, 0, 0)
  | none =>
    match nj_mem L xs (mt.1.name == "<init>") pc a b v st h i with
    | some (pc1, st1, h1) => some (pc1, lv, st1, h1, g, 0, 0)
    | none =>
      match nj_new pc a st h i with
      | some (pc1, st1, x, z) => if g = 0 then some (pc1, lv, st1, h ++ [x], 0, 1, z) else none
      | none => nj_calls M X run d pc i a b v lv st h g
def nj_run (M : Nat → Option nM) (X : nX) (L : Nat) (xs : Nat → Int32) : Nat → Nat → nM → Nat → nLv → List Value → List nC → Nat → Option nRes
  | 0, _, _, _, _, _, _, _ => none
  | n + 1, d, mt, pc, lv, st, h, g =>
    match mt.2.2.2.2.2.find? (fun q => q.1 == pc) with
    | none => none
    | some (_, i, a, b, v, _) =>
      match nj_ret mt.2.2.2.1 i st with
      | some rv => some (rv, h, g, 0, 0)
      | none =>
        match nj_step M X L xs (fun d1 mz lv0 h0 g0 => nj_run M X L xs n d1 mz 0 lv0 [] h0 g0) d mt i a b v pc lv st h g with
        | none => none
        | some (pc1, lv1, st1, h1, g1, mc1, ms1) =>
          match nj_run M X L xs n d mt pc1 lv1 st1 h1 g1 with
          | none => none
          | some (rv, h2, g2, mc2, ms2) => some (rv, h2, g2, mc1 + mc2, ms1 + ms2)
/-- the words of calls -/
def nj_okc (M : Nat → Option nM) (own : String) (i : Instr) (a b : Nat) (v : Int) (pos : Nat) : Bool := match i with
  | .invokevirtual idx => decide (v = 0) && (match M a with
    | some mz => nj_w pos (.methodLink own idx mz.1) && (nj_w (mz.2.2.2.2.1.getD 2 0) (.instanceMethod mz.1) && (nj_w (mz.2.2.2.2.1.getD 3 0) (.selects mz.1.cls mz.1 mz.1) && decide ((parseMethodDescriptor mz.1.desc).map (fun d => d.parameters.length + 1) = some b)))
    | none => false)
  | .invokespecial idx => if v = 4 then nj_w pos (.methodLink own idx objectInit) else match M a with
    | some mz => (nj_w (mz.2.2.2.2.1.getD 2 0) (.instanceMethod mz.1) && (decide (mz.1.name = "<init>") && (decide (mz.2.2.2.1 = none) && decide ((parseMethodDescriptor mz.1.desc).map (fun d => d.parameters.length + 1) = some b)))) && (if v = 1 then nj_w pos (.methodLink own idx mz.1) else decide (v = 3) && decide (Cond.methodLinkNest own idx mz.1 RX8 ∈ nj_nw))
    | none => false
  | .invokestatic idx => if v = 5 then nj_w pos (.methodLink own idx arraycopyName) else if v = 6 then true else if v = 7 then nj_w pos (.methodLink own idx Lib.Math.min.name) else match M a with
    | some mz => decide (v = 2) && (nj_w pos (.methodLink own idx mz.1) && (nj_w (mz.2.2.2.2.1.getD 2 0) (.static mz.1) && decide ((parseMethodDescriptor mz.1.desc).map (fun d => d.parameters.length) = some b)))
    | none => false
  | _ => true
/-- an entry of a method's code is what the bytes are, and has its words -/
def nj_oke (M : Nat → Option nM) (own : String) (bytes : ByteArray) (q : nE) : Bool :=
  decide (decode bytes q.1 = .ok (q.2.1, nj_len q.2.1 q.2.2.2.1)) && (nj_okm own q.2.1 q.2.2.1 q.2.2.2.1 q.2.2.2.2.1 q.2.2.2.2.2 && (nj_okn own q.2.1 q.2.2.1 q.2.2.2.1 q.2.2.2.2.1 q.2.2.2.2.2 && nj_okc M own q.2.1 q.2.2.1 q.2.2.2.1 q.2.2.2.2.1 q.2.2.2.2.2))
def nj_okE (M : Nat → Option nM) (mt : nM) : Prop := ∀ q ∈ mt.2.2.2.2.2, nj_oke M mt.1.cls mt.2.1 q = true
def nj_okM (M : Nat → Option nM) (mt : nM) : Prop :=
  plainName mt.1.cls = true ∧ (Cond.code mt.1 mt.2.1 mt.2.2.1 mt.2.2.2.1 ∈ nj_T) ∧ (mt.1.cls ≠ "java/lang/invoke/MethodHandle" ∧ mt.1.cls ≠ "java/lang/invoke/VarHandle") ∧ (Cond.initialized mt.1.cls ∈ nj_T) ∧ mt.2.2.1 ≤ 40 ∧ nj_okE M mt
def nj_Pre (base : Nat) (ext : Nat → Option Nat) (cA : Nat → ClassId) (D : va_G) (L : Nat) (xs : Nat → Int32) (h : List nC) (g : Nat) (U : State) : Prop := va_P D nj_cl (nj_ws base ext cA h) U.heap ∧ va_K D nj_cl (nj_tys cA) U ∧ nj_Env base ext L xs U ∧ U.heap.size = base + h.length + g
def nj_Qc (base : Nat) (ext : Nat → Option Nat) (cA : Nat → ClassId) (D : va_G) (rv : Option Value) (h : List nC) (g : Nat) : Array Value → State → Outcome → State → Prop := fun _ st o t => o = .returned (rv.map (nj_rl base ext)) ∧ va_P D nj_cl (nj_ws base ext cA h) t.heap ∧ t.heap.size = base + h.length + g ∧ va_F (nj_A base) st t
def nj_rm (d mc ms : Nat) : Room := { frames := d + 1, cells := mc, slots := ms, locals := 64 * (d + 1) }
abbrev nj_wsm (mt : nM) : List Cond := .code mt.1 mt.2.1 mt.2.2.1 mt.2.2.2.1 :: nj_T
theorem nj_args_rl (base : Nat) (ext : Nat → Option Nat) (as : List Value) : ∀ i : Nat, lv_args i (as.map (nj_rl base ext)) = nj_rlv base ext (lv_args i as) := by
  induction as with
  | nil => intro i; rfl
  | cons v as ih =>
    intro i
    simp only [List.map_cons, lv_args, nj_rlv, nj_rl_cat]
    congr 1
    exact ih _
theorem nj_sl_len (base : Nat) (ext : Nat → Option Nat) (as : List Value) : (lg_sl (as.map (nj_rl base ext))).length = (lg_sl as).length := by
  induction as with
  | nil => rfl
  | cons v as ih =>
    simp only [lg_sl, List.map_cons, List.flatMap_cons, List.length_append, nj_rl_cat] at ih ⊢
    rw [ih]
    split <;> rfl
theorem nj_sum_rl (base : Nat) (ext : Nat → Option Nat) (as : List Value) : ((as.map (nj_rl base ext)).map fun v => v.category).sum = nj_sum as := by
  simp only [nj_sum, List.map_map]
  congr 1
  apply List.map_congr_left
  intro v _
  exact nj_rl_cat base ext v
