abbrev aY : Type := aS × Nat × List (Nat × aV) × List aV
def aIsR (a : aV) : Bool := match a with
  | .inr (.inr (.inl _)) => true
  | .inr (.inr (.inr (.inl _))) => true
  | _ => false
def aIsL (a : aV) : Bool := match a with
  | .inr (.inr (.inr (.inr _))) => true
  | _ => false
/-- a fresh number -/
def aNew (s : aS) (r : Int × Int) : aS := (s.1 ++ [r], s.2.1, s.2.2.1, s.2.2.2.1, s.2.2.2.2)
def aNewF (s : aS) (r : Int × Int) (l : List aDf) : aS := (s.1 ++ [r], s.2.1, s.2.2.1, s.2.2.2.1, l ++ s.2.2.2.2)
def aFitX (s : aS) (a : aV) : Bool := match a with
  | .inl c => aFit (c, c)
  | .inr (.inl (i, c)) => match s.1[i]? with
    | some r => aFit (r.1 + c, r.2 + c)
    | none => false
  | _ => false
/-- a sum: as it is, or a new name where it may leave an int's range -/
def aAddN (s : aS) (x : aV) (n : Int) : aS × aV := if aFitX s (aAdd x n) = true then (s, aAdd x n) else (aNew s aFull, aSym s.1.length)
/-- the number's low m bits are 0 -/
def aMul (s : aS) (m : Nat) (a : aV) : Bool := match a with
  | .inl c => decide (Int32.ofInt c &&& Int32.ofNat (2 ^ m - 1) = 0)
  | .inr (.inl (i, c)) => decide (c = 0) && s.2.2.2.2.any (fun e => match e with
    | .inr q => decide (q = (i, m))
    | .inl _ => false)
  | _ => false
def aMs (s : aS) (a : aV) : List Nat := match a with
  | .inr (.inl (i, _)) => s.2.2.2.2.filterMap (fun e => match e with
    | .inr q => if q.1 = i then some q.2 else none
    | .inl _ => none)
  | _ => []
/-- what is known of a result -/
def aOpF (s : aS) (i : Instr) (x y : aV) : List aDf := match i with
  | .imul => (match x, y with
    | .inl c, .inr (.inl (j, d)) => if 0 ≤ c ∧ aFit (c, c) = true ∧ aFitX s y = true ∧ aFit (c * (aIv s.1 y).1, c * (aIv s.1 y).2) = true then [.inl ([(1, s.1.length), (-c, j)], -(c * d)), .inl ([(-1, s.1.length), (c, j)], c * d)] else []
    | .inr (.inl (j, d)), .inl c => if 0 ≤ c ∧ aFit (c, c) = true ∧ aFitX s x = true ∧ aFit (c * (aIv s.1 x).1, c * (aIv s.1 x).2) = true then [.inl ([(1, s.1.length), (-c, j)], -(c * d)), .inl ([(-1, s.1.length), (c, j)], c * d)] else []
    | _, _ => [])
  | .ior => ((aMs s x ++ aMs s y).filter (fun m => aMul s m x && aMul s m y)).map (fun m => .inr (s.1.length, m))
  | .ishl => if x = .inl 1 ∧ 0 ≤ (aIv s.1 y).1 ∧ (aIv s.1 y).2 ≤ 30 then [.inr (s.1.length, (aIv s.1 y).1.toNat)] else []
  | .ishr => if 0 ≤ (aIv s.1 y).1 ∧ (aIv s.1 y).2 ≤ 30 ∧ (aMs s x).any (fun m => decide (m ≤ 31) && (decide ((aIv s.1 y).2 < (m : Int)) && aMul s m x)) = true then [.inr (s.1.length, 1)] else []
  | _ => []
def aB2 (s : aS) (i : Instr) (pc : Nat) (al : List (Nat × aV)) (st : List aV) : Option (List aY) := match st with
  | y :: x :: r => if aIsI x = true ∧ aIsI y = true then (match i, y with
    | .iadd, .inl c => some [((aAddN s x c).1, pc + 1, al, (aAddN s x c).2 :: r)]
    | .isub, .inl c => some [((aAddN s x (-c)).1, pc + 1, al, (aAddN s x (-c)).2 :: r)]
    | .iadd, _ => (match x with
      | .inl c => some [((aAddN s y c).1, pc + 1, al, (aAddN s y c).2 :: r)]
      | _ => some [(aNew s (aRg i (aIv s.1 x) (aIv s.1 y)), pc + 1, al, aSym s.1.length :: r)])
    | .ior, .inl 0 => some [(s, pc + 1, al, x :: r)]
    | .iand, .inl 255 => if -256 ≤ (aIv s.1 x).1 ∧ (aIv s.1 x).2 ≤ 255 then some ((match aGe s.1 x 0 with
        | some r1 => [((r1, s.2.1, s.2.2.1, s.2.2.2.1, s.2.2.2.2), pc + 1, al, x :: r)]
        | none => []) ++ (match aLe s.1 x (-1) with
        | some r1 => [((r1, s.2.1, s.2.2.1, s.2.2.2.1, s.2.2.2.2), pc + 1, al, aAdd x 256 :: r)]
        | none => [])) else some [(aNew s (aRg i (aIv s.1 x) (aIv s.1 y)), pc + 1, al, aSym s.1.length :: r)]
    | .iand, .inl 1 => if aMul s 1 x = true then some [(s, pc + 1, al, .inl 0 :: r)] else some [(aNew s (aRg i (aIv s.1 x) (aIv s.1 y)), pc + 1, al, aSym s.1.length :: r)]
    | .ior, _ => (match x with
      | .inl 0 => some [(s, pc + 1, al, y :: r)]
      | _ => some [(aNewF s (aRg i (aIv s.1 x) (aIv s.1 y)) (aOpF s i x y), pc + 1, al, aSym s.1.length :: r)])
    | _, _ => some [(aNewF s (aRg i (aIv s.1 x) (aIv s.1 y)) (aOpF s i x y), pc + 1, al, aSym s.1.length :: r)]) else none
  | _ => none
def aRem (s : aS) (pc : Nat) (al : List (Nat × aV)) (st : List aV) : Option (List aY) := match st with
  | y :: x :: r => if aIsI x = true ∧ aIsI y = true ∧ 0 ≤ (aIv s.1 x).1 ∧ 1 ≤ (aIv s.1 y).1 then some [(aNew s (0, (aIv s.1 y).2 - 1), pc + 1, al, aSym s.1.length :: r)] else none
  | _ => none
def lDf (i j : Nat) (c : Int) : aDf := .inl ([(1, i), (-1, j)], -c)
def aFact (rho : aRho) (c : Jvm.ClassFile.Cond) (a b : aV) : List aDf := match a, b with
  | .inr (.inl (i, c1)), .inr (.inl (j, c2)) => match rho[i]?, rho[j]? with
    | some ri, some rj => if aFit (ri.1 + c1, ri.2 + c1) = true ∧ aFit (rj.1 + c2, rj.2 + c2) = true then (match c with
      | .eq => [lDf i j (c2 - c1), lDf j i (c1 - c2)]
      | .ne => []
      | .lt => [lDf i j (c2 - c1 - 1)]
      | .ge => [lDf j i (c1 - c2)]
      | .gt => [lDf j i (c1 - c2 - 1)]
      | .le => [lDf i j (c2 - c1)]) else []
    | _, _ => []
  | _, _ => []
/-- the comparison can't hold, by what is known beside ranges -/
def aCtr (s : aS) (c : Jvm.ClassFile.Cond) (a b : aV) : Bool := match a, b with
  | .inr (.inl (i, c1)), .inr (.inl (j, c2)) => match s.1[i]?, s.1[j]? with
    | some ri, some rj => if aFit (ri.1 + c1, ri.2 + c1) = true ∧ aFit (rj.1 + c2, rj.2 + c2) = true then (match c with
      | .eq => aPrF s ([(1, i), (-1, j)], c1 - c2 + 1) || aPrF s ([(1, j), (-1, i)], c2 - c1 + 1)
      | .ne => false
      | .lt => aPrF s ([(1, j), (-1, i)], c2 - c1)
      | .ge => aPrF s ([(1, i), (-1, j)], c1 - c2 + 1)
      | .gt => aPrF s ([(1, i), (-1, j)], c1 - c2)
      | .le => aPrF s ([(1, j), (-1, i)], c2 - c1 + 1)) else false
    | _, _ => false
  | _, _ => false
/-- the state where the comparison holds -/
def aIf (s : aS) (c : Jvm.ClassFile.Cond) (a b : aV) (pc : Nat) (al : List (Nat × aV)) (st : List aV) : List aY := if aCtr s c a b = true then [] else match aAsm s.1 c a b with
  | some r => [((r, s.2.1, s.2.2.1, s.2.2.2.1, aFact s.1 c a b ++ s.2.2.2.2), pc, al, st)]
  | none => []
/-- where they differ: below, or above, if the number lies in the middle -/
def aIfN (s : aS) (c : Jvm.ClassFile.Cond) (a b : aV) (pc : Nat) (al : List (Nat × aV)) (st : List aV) : List aY := if c = .ne ∧ (aIv s.1 b).1 = (aIv s.1 b).2 ∧ (aIv s.1 a).1 < (aIv s.1 b).1 ∧ (aIv s.1 b).1 < (aIv s.1 a).2 then aIf s .lt a b pc al st ++ aIf s .gt a b pc al st else aIf s c a b pc al st
def aBr (s : aS) (c : Jvm.ClassFile.Cond) (a b : aV) (pc : Nat) (off : Int) (al : List (Nat × aV)) (st : List aV) : Option (List aY) := if 0 ≤ (pc : Int) + off ∧ aIsI a = true ∧ aIsI b = true then some (aIfN s c a b ((pc : Int) + off).toNat al st ++ aIfN s (aNeg c) a b (pc + 3) al st) else none
def aGo (s : aS) (pc : Nat) (off : Int) (al : List (Nat × aV)) (st : List aV) : Option aY := if 0 ≤ (pc : Int) + off then some (s, ((pc : Int) + off).toNat, al, st) else none
def aEq (s : aS) (a : aV) (k : Int) (pc : Nat) (off : Int) (al : List (Nat × aV)) (st : List aV) : Option (List aY) := match aGo s pc off al st with
  | some y => some (match aAsm s.1 .eq a (.inl k) with
    | some r => [((r, s.2.1, s.2.2.1, s.2.2.2.1, s.2.2.2.2), y.2)]
    | none => [])
  | none => none
/-- a table's rows from number k on -/
def aTab (s : aS) (a : aV) (pc : Nat) (al : List (Nat × aV)) (st : List aV) : List Int → Int → Option (List aY)
  | [], _ => some []
  | o :: os, k => match aEq s a k pc o al st, aTab s a pc al st os (k + 1) with
    | some l1, some l2 => some (l1 ++ l2)
    | _, _ => none
def aSw (s : aS) (a : aV) (pc : Nat) (al : List (Nat × aV)) (st : List aV) : List (Int × Int) → Option (List aY)
  | [] => some []
  | o :: os => match aEq s a o.1 pc o.2 al st, aSw s a pc al st os with
    | some l1, some l2 => some (l1 ++ l2)
    | _, _ => none
def aTsw (s : aS) (a : aV) (pc : Nat) (d lo hi : Int) (offs : Array Int) (al : List (Nat × aV)) (st : List aV) : Option (List aY) := if aIsI a = true ∧ (offs.toList.length : Int) = hi - lo + 1 ∧ aFit (lo, hi) = true ∧ lo ≤ hi then (match aGo s pc d al st, aTab s a pc al st offs.toList lo with
    | some y, some l => some ((match aAsm s.1 .lt a (.inl lo) with
      | some r => [((r, s.2.1, s.2.2.1, s.2.2.2.1, s.2.2.2.2), y.2)]
      | none => []) ++ ((match aAsm s.1 .gt a (.inl hi) with
      | some r => [((r, s.2.1, s.2.2.1, s.2.2.2.1, s.2.2.2.2), y.2)]
      | none => []) ++ l))
    | _, _ => none) else none
def aGp0 (s : aS) (a : aV) (p : Option Int) : Option aRho := match p with
  | some b => aGe s.1 a (b + 1)
  | none => some s.1
/-- between the rows of a table -/
def aGap (s : aS) (a : aV) (z : Nat × List (Nat × aV) × List aV) : Option Int → List (Int × Int) → List aY
  | p, [] => (match aGp0 s a p with
    | some r => [((r, s.2.1, s.2.2.1, s.2.2.2.1, s.2.2.2.2), z)]
    | none => [])
  | p, o :: os => (match aGp0 s a p with
    | some r => (match aLe r a (o.1 - 1) with
      | some r2 => [((r2, s.2.1, s.2.2.1, s.2.2.2.1, s.2.2.2.2), z)]
      | none => [])
    | none => []) ++ aGap s a z (some o.1) os
def aLsw (s : aS) (a : aV) (pc : Nat) (d : Int) (ps : Array (Int × Int)) (al : List (Nat × aV)) (st : List aV) : Option (List aY) := if aIsI a = true ∧ (ps.toList.zip (ps.toList.drop 1)).all (fun (a, next) => a.1 < next.1) = true ∧ ps.toList.all (fun q => aFit (q.1, q.1)) = true then (match aGo s pc d al st, aSw s a pc al st ps.toList with
    | some y, some l => some (aGap s a y.2 none ps.toList ++ l)
    | _, _ => none) else none
def aLoad (f : aV → Bool) (s : aS) (pc k : Nat) (al : List (Nat × aV)) (st : List aV) : Option (List aY) := match aGetL al k with
  | some x => if f x = true then some [(s, pc, al, x :: st)] else none
  | none => none
def aStore (f : aV → Bool) (s : aS) (mL pc k : Nat) (al : List (Nat × aV)) (st : List aV) : Option (List aY) := match st with
  | x :: r => if f x = true ∧ k < mL then some [(s, pc, aPut al k x, r)] else none
  | _ => none
def aPure (s : aS) (mL pc : Nat) (al : List (Nat × aV)) (st : List aV) (i : Instr) : Option (List aY) := match i with
  | .iconst n => some [(s, pc + 1, al, .inl n :: st)]
  | .bipush n => if -128 ≤ n ∧ n ≤ 127 then some [(s, pc + 2, al, .inl n :: st)] else none
  | .sipush n => if -32768 ≤ n ∧ n ≤ 32767 then some [(s, pc + 3, al, .inl n :: st)] else none
  | .lconst _ => some [(s, pc + 1, al, aLong :: st)]
  | .iload_n k => aLoad aIsI s (pc + 1) k al st
  | .iload k => aLoad aIsI s (pc + 2) k al st
  | .lload_n k => aLoad aIsL s (pc + 1) k al st
  | .lload k => aLoad aIsL s (pc + 2) k al st
  | .aload_n k => aLoad aIsR s (pc + 1) k al st
  | .aload k => aLoad aIsR s (pc + 2) k al st
  | .istore_n k => aStore aIsI s mL (pc + 1) k al st
  | .istore k => aStore aIsI s mL (pc + 2) k al st
  | .astore_n k => aStore aIsR s mL (pc + 1) k al st
  | .astore k => aStore aIsR s mL (pc + 2) k al st
  | .lstore_n k => match st with
    | x :: r => if aIsL x = true ∧ (k : Nat) + 1 < mL then some [(s, pc + 1, aPut2 al k x, r)] else none
    | _ => none
  | .iinc k n => match aGetL al k with
    | some x => if aIsI x = true ∧ k < mL then some [((aAddN s x n).1, pc + 3, aPut al k (aAddN s x n).2, st)] else none
    | none => none
  | .iadd => aB2 s .iadd pc al st
  | .isub => aB2 s .isub pc al st
  | .imul => aB2 s .imul pc al st
  | .iand => aB2 s .iand pc al st
  | .ior => aB2 s .ior pc al st
  | .ixor => aB2 s .ixor pc al st
  | .ishl => aB2 s .ishl pc al st
  | .ishr => aB2 s .ishr pc al st
  | .iushr => aB2 s .iushr pc al st
  | .irem => aRem s pc al st
  | .ladd | .lsub | .lmul | .lor => match st with
    | y :: x :: r => if aIsL x = true ∧ aIsL y = true then some [(s, pc + 1, al, aLong :: r)] else none
    | _ => none
  | .lshl => match st with
    | y :: x :: r => if aIsL x = true ∧ aIsI y = true then some [(s, pc + 1, al, aLong :: r)] else none
    | _ => none
  | .lcmp => match st with
    | y :: x :: r => if aIsL x = true ∧ aIsL y = true then some [(aNew s (-1, 1), pc + 1, al, aSym s.1.length :: r)] else none
    | _ => none
  | .i2l => match st with
    | x :: r => if aIsI x = true then some [(s, pc + 1, al, aLong :: r)] else none
    | _ => none
  | .l2i => match st with
    | x :: r => if aIsL x = true then some [(aNew s aFull, pc + 1, al, aSym s.1.length :: r)] else none
    | _ => none
  | .i2b => match st with
    | x :: r => if aIsI x = true then some [(aNew s (-128, 127), pc + 1, al, aSym s.1.length :: r)] else none
    | _ => none
  | .dup => match st with
    | x :: r => if aCat x = 1 then some [(s, pc + 1, al, x :: x :: r)] else none
    | _ => none
  | .pop => match st with
    | x :: r => if aCat x = 1 then some [(s, pc + 1, al, r)] else none
    | _ => none
  | .dup2 => match st with
    | x :: y :: r => if aCat x = 1 ∧ aCat y = 1 then some [(s, pc + 1, al, x :: y :: x :: y :: r)] else none
    | _ => none
  | .ifCond c off => match st with
    | x :: r => aBr s c x (.inl 0) pc off al r
    | _ => none
  | .if_icmp c off => match st with
    | y :: x :: r => aBr s c x y pc off al r
    | _ => none
  | .goto off => match aGo s pc off al st with
    | some y => some [y]
    | none => none
  | .tableswitch d lo hi offs => match st with
    | x :: r => aTsw s x pc d lo hi offs al r
    | _ => none
  | .lookupswitch d ps => match st with
    | x :: r => aLsw s x pc d ps al r
    | _ => none
  | _ => none
section APU
variable {S : List Nat} {h : List nC} {nu : List Int} {mu : List Nat} {s : aS} {pc mL : Nat} {lv : nLv} {st : List Value} {al : List (Nat × aV)} {ast : List aV} {l : List aY}
/-- some of the states is the next one -/
def aNx (S : List Nat) (h : List nC) (nu : List Int) (mu : List Nat) (l : List aY) (r : Nat × nLv × List Value) : Prop := ∃ nu1, aX nu mu nu1 mu ∧ ∃ y ∈ l, y.2.1 = r.1 ∧ aOk S h nu1 mu y.1 ∧ aLv nu1 mu y.2.2.1 r.2.1 ∧ aSt nu1 mu y.2.2.2 r.2.2
theorem aNx.one {y : aY} {r : Nat × nLv × List Value} (h0 : y.2.1 = r.1) (h1 : aOk S h nu mu y.1) (h2 : aLv nu mu y.2.2.1 r.2.1) (h3 : aSt nu mu y.2.2.2 r.2.2) : aNx S h nu mu [y] r := ⟨nu, aX.rf, y, List.mem_singleton.mpr rfl, h0, h1, h2, h3⟩
theorem aNx.new {x : Int32} {rg : Int × Int} {pc1 : Nat} {r : List aV} {rst : List Value} (k : aOk S h nu mu s) (hl : aLv nu mu al lv) (hs : aSt nu mu r rst) (hx : rg.1 ≤ x.toInt ∧ x.toInt ≤ rg.2) : aNx S h nu mu [(aNew s rg, pc1, al, aSym s.1.length :: r)] (pc1, lv, .int x :: rst) := by
  have X : aX nu mu (nu ++ [x.toInt]) mu := ⟨[x.toInt], [], rfl, by simp⟩
  have hle : s.1.length = nu.length := k.1.1
  exact ⟨nu ++ [x.toInt], X, _, List.mem_singleton.mpr rfl, rfl, k.pushI hx, hl.x X, by rw [hle]; exact aR_sym nu mu x, hs.x X⟩
theorem aNx.app1 {l2 : List aY} {r : Nat × nLv × List Value} (k : aNx S h nu mu l r) : aNx S h nu mu (l ++ l2) r := by
  obtain ⟨nu1, X, y, hy, k⟩ := k
  exact ⟨nu1, X, y, List.mem_append_left _ hy, k⟩
theorem aNx.app2 {l2 : List aY} {r : Nat × nLv × List Value} (k : aNx S h nu mu l2 r) : aNx S h nu mu (l ++ l2) r := by
  obtain ⟨nu1, X, y, hy, k⟩ := k
  exact ⟨nu1, X, y, List.mem_append_right _ hy, k⟩
theorem aIsI_v {a : aV} {v : Value} (hi : aIsI a = true) (h : aR nu mu a v) : ∃ x, v = .int x := by
  unfold aIsI at hi
  split at hi
  · exact ⟨_, h⟩
  · obtain ⟨z, -, e⟩ := h; exact ⟨_, e⟩
  · cases hi
theorem aIsL_v {a : aV} {v : Value} (hi : aIsL a = true) (h : aR nu mu a v) : ∃ x, v = .long x := by
  unfold aIsL at hi
  split at hi
  · exact h
  · cases hi
theorem aAddN_ok {a : aV} {x : Int32} (k : aOk S h nu mu s) (ha : aR nu mu a (.int x)) (n : Int) : ∃ nu1, aX nu mu nu1 mu ∧ aOk S h nu1 mu (aAddN s a n).1 ∧ aR nu1 mu (aAddN s a n).2 (.int (x + Int32.ofInt n)) := by
  unfold aAddN
  split
  · exact ⟨nu, aX.rf, k, aAdd_ok ha n⟩
  · have hle : s.1.length = nu.length := k.1.1
    refine ⟨nu ++ [(x + Int32.ofInt n).toInt], ⟨[(x + Int32.ofInt n).toInt], [], rfl, by simp⟩, k.pushI (aFull_ok _), ?_⟩
    show aR _ mu (aSym s.1.length) _
    rw [hle]
    exact aR_sym nu mu _
theorem lDf_ok {i j : Nat} {c x y : Int} (hx : nu[i]? = some x) (hy : nu[j]? = some y) (h : x ≤ y + c) : dfOk nu (lDf i j c) := by
  refine ⟨fun t ht => ?_, ?_⟩
  · rcases List.mem_cons.mp ht with rfl | ht
    · exact (List.getElem?_eq_some_iff.mp hx).1
    · have := List.mem_singleton.mp ht
      subst this
      exact (List.getElem?_eq_some_iff.mp hy).1
  · simp only [lS, List.map_cons, List.map_nil, List.sum_cons, List.sum_nil, List.getD_eq_getElem?_getD, hx, hy, Option.getD_some]
    omega
theorem aFact_ok {a b : aV} {x y : Int32} {c : Jvm.ClassFile.Cond} (k : aOk S h nu mu s) (ha : aR nu mu a (.int x)) (hb : aR nu mu b (.int y)) (hc : nj_cmp c x y = true) : ∀ e ∈ aFact s.1 c a b, dfOk nu e := by
  intro e he
  unfold aFact at he
  split at he
  · next i c1 j c2 =>
    split at he
    · next ri rj hri hrj =>
      split at he
      · next hf =>
        obtain ⟨z, hz, ez⟩ := ha
        obtain ⟨w, hw, ew⟩ := hb
        have b1 := k.1.2 i z ri hz hri
        have b2 := k.1.2 j w rj hw hrj
        simp only [aFit, Bool.and_eq_true, decide_eq_true_eq] at hf
        have ex : x.toInt = z + c1 := by
          have : x = Int32.ofInt (z + c1) := by cases ez; rfl
          rw [this, a32 (by omega) (by omega)]
        have ey : y.toInt = w + c2 := by
          have : y = Int32.ofInt (w + c2) := by cases ew; rfl
          rw [this, a32 (by omega) (by omega)]
        cases c <;> simp only [nj_cmp, decide_eq_true_eq] at hc
        · have hc2 : x.toInt = y.toInt := by rw [hc]
          rcases List.mem_cons.mp he with rfl | he
          · exact lDf_ok hz hw (by omega)
          · have := List.mem_singleton.mp he
            subst this
            exact lDf_ok hw hz (by omega)
        · cases he
        · rw [Int32.lt_iff_toInt_lt] at hc
          have := List.mem_singleton.mp he
          subst this
          exact lDf_ok hz hw (by omega)
        · rw [Int32.le_iff_toInt_le] at hc
          have := List.mem_singleton.mp he
          subst this
          exact lDf_ok hw hz (by omega)
        · rw [Int32.lt_iff_toInt_lt] at hc
          have := List.mem_singleton.mp he
          subst this
          exact lDf_ok hw hz (by omega)
        · rw [Int32.le_iff_toInt_le] at hc
          have := List.mem_singleton.mp he
          subst this
          exact lDf_ok hz hw (by omega)
      · cases he
    · cases he
  · cases he
theorem aCtr_ok {a b : aV} {x y : Int32} {c : Jvm.ClassFile.Cond} (k : aOk S h nu mu s) (ha : aR nu mu a (.int x)) (hb : aR nu mu b (.int y)) (hc : nj_cmp c x y = true) : ¬ aCtr s c a b = true := by
  intro he
  unfold aCtr at he
  split at he
  · next i c1 j c2 =>
    split at he
    · next ri rj hri hrj =>
      split at he
      · next hf =>
        obtain ⟨z, hz, ez⟩ := ha
        obtain ⟨w, hw, ew⟩ := hb
        have b1 := k.1.2 i z ri hz hri
        have b2 := k.1.2 j w rj hw hrj
        simp only [aFit, Bool.and_eq_true, decide_eq_true_eq] at hf
        have ex : x.toInt = z + c1 := by
          have : x = Int32.ofInt (z + c1) := by cases ez; rfl
          rw [this, a32 (by omega) (by omega)]
        have ey : y.toInt = w + c2 := by
          have : y = Int32.ofInt (w + c2) := by cases ew; rfl
          rw [this, a32 (by omega) (by omega)]
        have key1 : ∀ q : Int, aPrF s ([(1, i), (-1, j)], q) = true → z - w + q ≤ 0 := fun q hq => by
          have := aPrF_ok k hq
          simp only [lS, List.map_cons, List.map_nil, List.sum_cons, List.sum_nil, List.getD_eq_getElem?_getD, hz, hw, Option.getD_some] at this
          omega
        have key2 : ∀ q : Int, aPrF s ([(1, j), (-1, i)], q) = true → w - z + q ≤ 0 := fun q hq => by
          have := aPrF_ok k hq
          simp only [lS, List.map_cons, List.map_nil, List.sum_cons, List.sum_nil, List.getD_eq_getElem?_getD, hz, hw, Option.getD_some] at this
          omega
        cases c <;> simp only [nj_cmp, decide_eq_true_eq] at hc
        · have hc2 : x.toInt = y.toInt := by rw [hc]
          simp only [Bool.or_eq_true] at he
          rcases he with he | he
          · have := key1 _ he; omega
          · have := key2 _ he; omega
        · cases he
        · rw [Int32.lt_iff_toInt_lt] at hc
          have := key2 _ he
          omega
        · rw [Int32.le_iff_toInt_le] at hc
          have := key1 _ he
          omega
        · rw [Int32.lt_iff_toInt_lt] at hc
          have := key1 _ he
          omega
        · rw [Int32.le_iff_toInt_le] at hc
          have := key2 _ he
          omega
      · cases he
    · cases he
  · cases he
theorem aIf_ok {a b : aV} {x y : Int32} {c : Jvm.ClassFile.Cond} {pc1 : Nat} (k : aOk S h nu mu s) (hl : aLv nu mu al lv) (hs : aSt nu mu ast st) (ha : aR nu mu a (.int x)) (hb : aR nu mu b (.int y)) (hia : aIsI a = true) (hib : aIsI b = true) (hc : nj_cmp c x y = true) : aNx S h nu mu (aIf s c a b pc1 al ast) (pc1, lv, st) := by
  obtain ⟨r, hr, hE⟩ := aAsm_ok k.1 ha hb hia hib hc
  unfold aIf
  rw [if_neg (aCtr_ok k ha hb hc), hr]
  refine aNx.one rfl ⟨hE, k.2.1, k.2.2.1, k.2.2.2.1, fun e he => ?_⟩ hl hs
  rcases List.mem_append.mp he with he | he
  · exact aFact_ok k ha hb hc e he
  · exact k.2.2.2.2 e he
theorem aIfN_ok {a b : aV} {x y : Int32} {c : Jvm.ClassFile.Cond} {pc1 : Nat} (k : aOk S h nu mu s) (hl : aLv nu mu al lv) (hs : aSt nu mu ast st) (ha : aR nu mu a (.int x)) (hb : aR nu mu b (.int y)) (hia : aIsI a = true) (hib : aIsI b = true) (hc : nj_cmp c x y = true) : aNx S h nu mu (aIfN s c a b pc1 al ast) (pc1, lv, st) := by
  unfold aIfN
  split
  · next hq =>
    have e := hq.1
    subst e
    simp only [nj_cmp, decide_eq_true_eq] at hc
    have hne : ¬ x.toInt = y.toInt := fun q => hc (Int32.toInt_inj.mp q)
    by_cases hlt : x.toInt < y.toInt
    · exact (aIf_ok k hl hs ha hb hia hib (c := .lt) (by simp only [nj_cmp, decide_eq_true_eq]; rw [Int32.lt_iff_toInt_lt]; exact hlt)).app1
    · exact (aIf_ok k hl hs ha hb hia hib (c := .gt) (by simp only [nj_cmp, decide_eq_true_eq]; rw [Int32.lt_iff_toInt_lt]; omega)).app2
  · exact aIf_ok k hl hs ha hb hia hib hc
theorem aBr_ok {a b : aV} {x y : Int32} {c : Jvm.ClassFile.Cond} {off : Int} (k : aOk S h nu mu s) (hl : aLv nu mu al lv) (hs : aSt nu mu ast st) (ha : aR nu mu a (.int x)) (hb : aR nu mu b (.int y)) (hr : aBr s c a b pc off al ast = some l) : ∃ r, nj_br pc off (nj_cmp c x y) lv st = some r ∧ aNx S h nu mu l r := by
  unfold aBr at hr
  split at hr
  · next hc =>
    cases hr
    unfold nj_br
    rw [if_pos hc.1]
    cases hcmp : nj_cmp c x y with
    | true => exact ⟨_, rfl, (aIfN_ok k hl hs ha hb hc.2.1 hc.2.2 hcmp).app1⟩
    | false => exact ⟨_, rfl, (aIfN_ok k hl hs ha hb hc.2.1 hc.2.2 (aNeg_ok hcmp)).app2⟩
  · cases hr
theorem aGo_ok {off : Int} {y : aY} (hr : aGo s pc off al ast = some y) : nj_go pc off lv st = some (y.2.1, lv, st) ∧ y = (s, y.2.1, al, ast) := by
  unfold aGo at hr
  split at hr
  · next hc =>
    cases hr
    exact ⟨by simp only [nj_go, if_pos hc], rfl⟩
  · cases hr
theorem aEq_ok {a : aV} {x : Int32} {kx off : Int} (k : aOk S h nu mu s) (hl : aLv nu mu al lv) (hs : aSt nu mu ast st) (ha : aR nu mu a (.int x)) (hia : aIsI a = true) (hf : aFit (kx, kx) = true) (hx : x.toInt = kx) (hr : aEq s a kx pc off al ast = some l) : ∃ r, nj_go pc off lv st = some r ∧ aNx S h nu mu l r := by
  unfold aEq at hr
  split at hr
  · next y hy =>
    cases hr
    obtain ⟨g1, g2⟩ := aGo_ok (lv := lv) (st := st) hy
    refine ⟨_, g1, ?_⟩
    have hb : aR nu mu (.inl kx) (.int x) := by
      show Value.int x = .int _
      rw [← hx, Int32.ofInt_toInt]
    obtain ⟨r, hr, hE⟩ := aAsm_ok (c := .eq) k.1 ha hb hia rfl (by simp [nj_cmp])
    rw [hr]
    rw [g2]
    exact aNx.one rfl ⟨hE, k.2.1, k.2.2.1, k.2.2.2.1, k.2.2.2.2⟩ hl hs
  · cases hr
end APU
