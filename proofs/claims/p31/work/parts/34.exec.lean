/-! the walk by what is known -/
abbrev aF : Type := Nat × Nat × List (Nat × aV) × List aV
def aArgs : Nat → List aV → List (Nat × aV)
  | _, [] => []
  | i, a :: as => (i, a) :: aArgs (i + aCat a) as
def aSum (st : List aV) : Nat := (st.map aCat).sum
def nj_isret (i : Instr) : Bool := match i with
  | .ireturn | .lreturn | .return_ => true
  | _ => false
def aRetV (s : aS) (ret : Option FieldType) (i : Instr) (st : List aV) : Option (Option aV) := match i with
  | .ireturn => match st with
    | [x] => if aIsI x = true ∧ (ret = some .int ∨ (ret = some .boolean ∧ 0 ≤ (aIv s.1 x).1 ∧ (aIv s.1 x).2 ≤ 1)) then some (some x) else none
    | _ => none
  | .lreturn => match st with
    | [x] => if aIsL x = true ∧ ret = some .long then some (some x) else none
    | _ => none
  | .return_ => if st = [] ∧ ret = none then some none else none
  | _ => none
def aId (m t : Nat) : aSg := ((List.range m).map (fun i => aSym i), List.range t)
/-- the end is one of those promised -/
def aEnd (s : aS) (m t : Nat) (o : Option aV) (po : aS × Option aV) : Bool := match po.2, o with
  | none, none => (aInst s (aId m t) po.1 [] []).isSome
  | some p, some x => (aInst s (aId m t) po.1 [p] [x]).isSome
  | _, _ => false
def aSub (c : nK) (mf : List (Nat × Nat)) (ma : List Nat) : Bool := c.2.2.2.2.1.all (fun x => decide (x ∈ mf)) && c.2.2.2.2.2.1.all (fun x => decide (x ∈ ma))
def aUse (mf : List (Nat × Nat)) (ma : List Nat) (dep : Nat) (s : aS) (a : Nat) (args : List aV) : List nK → Option (nK × aSg)
  | [] => none
  | c :: cs => if c.1 = a ∧ c.2.1 < dep ∧ aSub c mf ma = true then (match aInst s ([], []) c.2.2.1 c.2.2.2.1 args with
    | some sg => some (c, sg)
    | none => aUse mf ma dep s a args cs) else aUse mf ma dep s a args cs
def aRcv (s : aS) (mz : nM) (args : List aV) : Bool := match args with
  | .inr (.inr (.inl j)) :: _ => match s.2.1[j]? with
    | some t => (match oT t with
      | some c => decide ((nj_cl[c]?).map (fun z => z.1) = some mz.1.cls)
      | none => false)
    | none => false
  | _ => false
def aRcvI (s : aS) (mz : nM) (i : Instr) (args : List aV) : Bool := match i with
  | .invokevirtual _ => aRcv s mz args
  | .invokestatic _ => true
  | _ => false
def aMin (s : aS) (pc : Nat) (st : List aV) : Option (aS × List aV) := match st with
  | y :: x :: r => if aIsI x = true ∧ aIsI y = true ∧ aSum r ≤ 8 then some (aNew s (min (aIv s.1 x).1 (aIv s.1 y).1, min (aIv s.1 x).2 (aIv s.1 y).2), aSym s.1.length :: r) else none
  | _ => none
/-- arraycopy from place 0 to place 0 -/
def aCpy (AT : Nat → Option aTy) (ma : List Nat) (s : aS) (st : List aV) : Option (aS × List aV) := match st with
  | n :: .inl d0 :: .inr (.inr (.inl j1)) :: .inl s0 :: .inr (.inr (.inl j0)) :: r => match s.2.1[j0]?, s.2.1[j1]? with
    | some t0, some t1 => match AT t0, AT t1 with
      | some (k0, n0, .inl g0), some (k1, n1, .inl g1) => if ((oT t0 = none ∧ oT t1 = none ∧ t1 ∈ ma) ∧ d0 = 0 ∧ s0 = 0 ∧ k0 = 0 ∧ k1 = 0 ∧ aSum r ≤ 8) ∧ aIsI n = true ∧ 0 ≤ (aIv s.1 n).1 ∧ (aIv s.1 n).2 ≤ (n0 : Int) ∧ (aIv s.1 n).2 ≤ (n1 : Int) ∧ g1.all (fun q => !q.2.2.2) = true ∧ (t0 = t1 ∨ g0.all (fun q => g1.all (fun z => decide (z.2.1 ≤ q.2.1) && decide (q.2.2.1 ≤ z.2.2.1))) = true) then some ((s.1, s.2.1, s.2.2.1, aKeep s t1, s.2.2.2.2), r) else none
      | some (k0, n0, .inr (.inr _)), some (k1, n1, .inr (.inr _)) => if ((oT t0 = none ∧ oT t1 = none ∧ t1 ∈ ma) ∧ d0 = 0 ∧ s0 = 0 ∧ k0 = 3 ∧ k1 = 3 ∧ aSum r ≤ 8) ∧ aIsI n = true ∧ 0 ≤ (aIv s.1 n).1 ∧ (aIv s.1 n).2 ≤ (n0 : Int) ∧ (aIv s.1 n).2 ≤ (n1 : Int) then some (s, r) else none
      | _, _ => none
    | _, _ => none
  | _ => none
/-- a call -/
def aInvk (M : Nat → Option nM) (AT : Nat → Option aTy) (ctx : List nK) (mf : List (Nat × Nat)) (ma : List Nat) (dep : Nat) (s : aS) (k pc : Nat) (al : List (Nat × aV)) (st : List aV) (r : List aF) (i : Instr) (a b : Nat) (v : Int) : Option (List (aS × List aF)) :=
  if v = 5 then (match aCpy AT ma s st with
    | some (s1, st1) => some [(s1, (k, pc + 3, al, st1) :: r)]
    | none => none)
  else if v = 7 then (match aMin s pc st with
    | some (s1, st1) => some [(s1, (k, pc + 3, al, st1) :: r)]
    | none => none)
  else if v = 4 ∨ v = 6 then none
  else match M a with
    | none => none
    | some mz => if (b ≤ st.length ∧ aSum (st.drop b) ≤ 8 ∧ aSum (st.take b) ≤ mz.2.2.1) ∧ aRcvI s mz i (st.take b).reverse = true then (match aUse mf ma dep s a (st.take b).reverse ctx with
        | some (c, sg) => some (c.2.2.2.2.2.2.map (fun po => (aPost s sg c.2.2.2.2.1 c.2.2.2.2.2.1 po.1, (k, pc + 3, al, (po.2.map (aSb (aSgP s sg po.1))).toList ++ st.drop b) :: r)))
        | none => if 0 < dep then some [(s, (a, 0, aArgs 0 (st.take b).reverse, []) :: (k, pc + 3, al, st.drop b) :: r)] else none) else none
/-- one instruction of the top frame: the states behind it -/
def aStep (M : Nat → Option nM) (FT : Nat → Nat → Option fTy) (AT : Nat → Option aTy) (ctx : List nK) (ls : Option Nat) (mf : List (Nat × Nat)) (ma : List Nat) (posts : List (aS × Option aV)) (m0 t0 D0 : Nat) (s : aS) (fs : List aF) : Option (List (aS × List aF)) := match fs with
  | [] => none
  | (k, pc, al, st) :: r => match M k with
    | none => none
    | some mt => match mt.2.2.2.2.2.find? (fun q => q.1 == pc) with
      | none => none
      | some (_, i, a, b, v, _) =>
        if nj_isret i = true then (match aRetV s mt.2.2.2.1 i st with
          | none => none
          | some o => match r with
            | [] => if posts.any (aEnd s m0 t0 o) = true then some [] else none
            | (k2, pc2, al2, st2) :: r2 => some [(s, (k2, pc2, al2, o.toList ++ st2) :: r2)])
        else if nj_isinv i = true then aInvk M AT ctx mf ma (D0 - r.length) s k pc al st r i a b v
        else match aPure s mt.2.2.1 pc al st i with
          | some l => some (l.map (fun y => (y.1, (k, y.2.1, y.2.2.1, y.2.2.2) :: r)))
          | none => match aMem FT AT ls mf ma s a b v st i with
            | some (s1, st1) => some [(s1, (k, pc + nj_len i b, al, st1) :: r)]
            | none => none
