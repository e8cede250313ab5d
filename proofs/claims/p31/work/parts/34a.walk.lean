/-- a number that is known is its value -/
def aCan (s : aS) (a : aV) : aV := match a with
  | .inr (.inl (i, c)) => (match s.1[i]? with
    | some r => if r.1 = r.2 then .inl (r.1 + c) else .inr (.inl (i, c))
    | none => .inr (.inl (i, c)))
  | x => x
/-- only where the pattern is a number itself -/
def aCanP (s : aS) : List aV → List aV → List aV
  | .inl _ :: ps, x :: xs => aCan s x :: aCanP s ps xs
  | _ :: ps, x :: xs => x :: aCanP s ps xs
  | _, xs => xs
def aGetLs (al : List (Nat × aV)) : List Nat → Option (List aV)
  | [] => some []
  | k :: ks => match aGetL al k, aGetLs al ks with
    | some x, some xs => some (x :: xs)
    | _, _ => none
/-- narrower ranges for numbers that have names already -/
def aRfn : List aV → aRho → aS → Option aS
  | x :: xs, r :: rs, s => if aFitX s x = true then (match aLe s.1 x r.2 with
    | some rho1 => match aGe rho1 x r.1 with
      | some rho2 => aRfn xs rs (rho2, s.2)
      | none => none
    | none => none) else aRfn xs rs s
  | _, _, s => some s
/-- what is known at a place of a method beside what the walk knows: the method, the place, locals, the state and values that it asks for, the states of which one is so -/
abbrev nGt : Type := Nat × Nat × List Nat × aS × List aV × List aS
/-- a named write: 0 for a row, 1 for a field; the field; locals; the state, locals' values and values it asks for; what may change; the states behind it -/
abbrev nSt : Type := (Nat × (Nat × Nat) × List Nat × List aV) × aS × List aV × List (Nat × Nat) × List Nat × List aS
abbrev nWk : Type := List nGt × List nSt
def aGhoT (s : aS) (al : List (Nat × aV)) (g : nGt) : Option aSg := match aGetLs al g.2.2.1 with
  | none => none
  | some xs => aInst s ([], []) g.2.2.2.1 g.2.2.2.2.1 (aCanP s g.2.2.2.2.1 xs)
def aGho (gs : List nGt) (s : aS) (k pc : Nat) (al : List (Nat × aV)) : List aS := match gs.find? (fun g => g.1 == k && (g.2.1 == pc && (aGhoT s al g).isSome)) with
  | none => [s]
  | some g => match aGhoT s al g with
    | none => [s]
    | some sg => g.2.2.2.2.2.filterMap (fun po => aRfn sg.1 po.1 (aPost s sg [] [] po))
def aSubW (mf0 : List (Nat × Nat)) (ma0 : List Nat) (mf : List (Nat × Nat)) (ma : List Nat) : Bool := mf0.all (fun x => decide (x ∈ mf)) && ma0.all (fun x => decide (x ∈ ma))
def aSpI (i : Instr) (a b : Nat) (v : Int) (c : nSt) : Bool := match i with
  | .iastore => decide (c.1.1 = 0)
  | .putfield _ => decide (c.1.1 = 1) && (decide (c.1.2.1 = (a, b)) && decide (v = 0))
  | _ => false
def aSpec (mf : List (Nat × Nat)) (ma : List Nat) (s : aS) (a b : Nat) (v : Int) (al : List (Nat × aV)) (st : List aV) (i : Instr) : List nSt → Option (List (aS × List aV))
  | [] => none
  | c :: cs => if aSpI i a b v c = true ∧ aSubW c.2.2.2.1 c.2.2.2.2.1 mf ma = true ∧ c.1.2.2.2.length = c.1.2.2.1.length then (match aGetLs al c.1.2.2.1 with
    | some xs => (match aInst s ([], []) c.2.1 (c.1.2.2.2 ++ c.2.2.1) (xs ++ st.take c.2.2.1.length) with
      | some sg => some (c.2.2.2.2.2.map (fun po => (aPost s sg c.2.2.2.1 c.2.2.2.2.1 po, st.drop c.2.2.1.length)))
      | none => aSpec mf ma s a b v al st i cs)
    | none => aSpec mf ma s a b v al st i cs) else aSpec mf ma s a b v al st i cs
def aStep3 (M : Nat → Option nM) (FT : Nat → Nat → Option fTy) (AT : Nat → Option aTy) (ctx : List nK) (W : nWk) (ls : Option Nat) (mf : List (Nat × Nat)) (ma : List Nat) (posts : List (aS × Option aV)) (m0 t0 D0 : Nat) (s : aS) (k pc : Nat) (al : List (Nat × aV)) (st : List aV) (r : List aF) : Option (List (aS × List aF)) :=
  match aStep M FT AT ctx ls mf ma posts m0 t0 D0 s ((k, pc, al, st) :: r) with
  | some l => some l
  | none => match M k with
    | none => none
    | some mt => match mt.2.2.2.2.2.find? (fun q => q.1 == pc) with
      | none => none
      | some (_, i, a, b, v, _) => match aSpec mf ma s a b v al st i W.2 with
        | some l => some (l.map (fun y => (y.1, (k, pc + nj_len i b, al, y.2) :: r)))
        | none => none
def aCat2 : List (Option (List (aS × List aF))) → Option (List (aS × List aF))
  | [] => some []
  | x :: xs => match x, aCat2 xs with
    | some l, some l2 => some (l ++ l2)
    | _, _ => none
def aStep2 (M : Nat → Option nM) (FT : Nat → Nat → Option fTy) (AT : Nat → Option aTy) (ctx : List nK) (W : nWk) (ls : Option Nat) (mf : List (Nat × Nat)) (ma : List Nat) (posts : List (aS × Option aV)) (m0 t0 D0 : Nat) (s : aS) (fs : List aF) : Option (List (aS × List aF)) := match fs with
  | [] => none
  | (k, pc, al, st) :: r => aCat2 ((aGho W.1 s k pc al).map (fun s1 => aStep3 M FT AT ctx W ls mf ma posts m0 t0 D0 s1 k pc al (st.map (aCan s1)) r))
/-- a place where the walk is cut: its number, what is known there, the frame's places, the rank -/
abbrev aCt : Type := Nat × aS × List (Nat × aV) × aLin
/-- the state at hand is one of the cut's, and its rank is below rk -/
def aHit (s : aS) (al : List (Nat × aV)) (st : List aV) (m0 t0 : Nat) (rk : Option aLin) (c : aCt) : Bool := match aGetLs al (c.2.2.1.map (fun q => q.1)) with
  | none => false
  | some xs => match aInst s (aId m0 t0) c.2.1 (c.2.2.1.map (fun q => q.2)) (aCanP s (c.2.2.1.map (fun q => q.2)) xs) with
    | none => false
    | some sg => decide (st = []) && (match rk with
      | none => true
      | some r0 => match lSb sg c.2.2.2.1 with
        | none => false
        | some l => aPr s (lAdd l.1 (lNeg r0.1), l.2 + c.2.2.2.2 - r0.2 + 1) && aPr s (lNeg l.1, - (l.2 + c.2.2.2.2)))
def aCutAt (cuts : List aCt) (k0 : Nat) (fs : List aF) : Option (Nat × List (Nat × aV) × List aV) := match fs with
  | [(k, pc, al, st)] => if k = k0 ∧ cuts.any (fun c => c.1 == pc) = true then some (pc, al, st) else none
  | _ => none
def aExec (M : Nat → Option nM) (FT : Nat → Nat → Option fTy) (AT : Nat → Option aTy) (ctx : List nK) (W : nWk) (ls : Option Nat) (mf : List (Nat × Nat)) (ma : List Nat) (posts : List (aS × Option aV)) (m0 t0 D0 k0 : Nat) (cuts : List aCt) (rk : Option aLin) : Nat → aS → List aF → Bool
  | 0, _, _ => false
  | n + 1, s, fs => match aCutAt cuts k0 fs with
    | some (pc, al, st) => cuts.any (fun c => c.1 == pc && aHit s al st m0 t0 rk c)
    | none => match aStep2 M FT AT ctx W ls mf ma posts m0 t0 D0 s fs with
      | none => false
      | some l => l.all (fun y => aExec M FT AT ctx W ls mf ma posts m0 t0 D0 k0 cuts rk n y.1 y.2)
/-- from a cut on -/
def aFrom (M : Nat → Option nM) (FT : Nat → Nat → Option fTy) (AT : Nat → Option aTy) (ctx : List nK) (W : nWk) (ls : Option Nat) (mf : List (Nat × Nat)) (ma : List Nat) (posts : List (aS × Option aV)) (m0 t0 D0 k0 : Nat) (cuts : List aCt) (fuel : Nat) (c : aCt) : Bool := (c.2.2.2.1.all (fun t => decide (t.2 < c.2.1.1.length)) && (decide (m0 ≤ c.2.1.1.length) && decide (t0 ≤ c.2.1.2.1.length))) && (match aStep2 M FT AT ctx W ls mf ma posts m0 t0 D0 c.2.1 [(k0, c.1, c.2.2.1, [])] with
  | none => false
  | some l => l.all (fun y => aExec M FT AT ctx W ls mf ma posts m0 t0 D0 k0 cuts (some c.2.2.2) fuel y.1 y.2))
/-- the whole check of a promise -/
def aChk (M : Nat → Option nM) (FT : Nat → Nat → Option fTy) (AT : Nat → Option aTy) (ctx : List nK) (W : nWk) (ls : Option Nat) (cuts : List aCt) (fuel : Nat) (c : nK) : Bool :=
  cuts.all (aFrom M FT AT ctx W ls c.2.2.2.2.1 c.2.2.2.2.2.1 c.2.2.2.2.2.2 c.2.2.1.1.length c.2.2.1.2.1.length c.2.1 c.1 cuts fuel) &&
  aExec M FT AT ctx W ls c.2.2.2.2.1 c.2.2.2.2.2.1 c.2.2.2.2.2.2 c.2.2.1.1.length c.2.2.1.2.1.length c.2.1 c.1 cuts none fuel c.2.2.1 [(c.1, 0, aArgs 0 c.2.2.2.1, [])]
