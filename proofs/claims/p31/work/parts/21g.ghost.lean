/-! numbers told of a whole cell: they are no field, and hang on rows and fields that only named writes may touch -/
def gA (h : List nC) (fs : List Value) (k : Nat) : Nat → Int32 := match fs[k]? with
  | some (.ref q) => (match h[q]? with
    | some (.inl (_, _, .inl f)) => f
    | _ => fun _ => 0)
  | _ => fun _ => 0
def gI (fs : List Value) (k : Nat) : Int := match fs[k]? with
  | some (.int x) => x.toInt
  | _ => 0
/-- how high the truths stand behind the first codes; none where a code finds too few -/
def gH (f : Nat → Int32) (b : Nat) : Nat → Option Nat
  | 0 => some 0
  | i + 1 => match gH f b i with
    | none => none
    | some n => if (f (b + 3 * i)).toInt = 20 then (if 1 ≤ n then some n else none)
      else if (f (b + 3 * i)).toInt = 21 ∨ (f (b + 3 * i)).toInt = 22 then (if 2 ≤ n then some (n - 1) else none)
      else if 0 ≤ (f (b + 3 * i)).toInt ∧ (f (b + 3 * i)).toInt < 20 ∧ ((f (b + 3 * i)).toInt = 2 → 0 ≤ (f (b + 3 * i + 2)).toInt ∧ (f (b + 3 * i + 2)).toInt ≤ 5) ∧ ((f (b + 3 * i)).toInt = 3 → 0 ≤ (f (b + 3 * i + 2)).toInt ∧ (f (b + 3 * i + 2)).toInt ≤ 9) then some (n + 1) else none
/-- joins that wait -/
def gB (f : Nat → Int32) : Nat → Nat
  | 0 => 0
  | i + 1 => gB f i + (if (f i).toInt = 21 ∨ (f i).toInt = 22 then 1 else 0)
def gC (f : Nat → Int32) (i : Nat) : Bool := decide (0 ≤ (f (3 * i)).toInt ∧ (f (3 * i)).toInt ≤ 3 ∧ ((f (3 * i)).toInt = 0 → 0 ≤ (f (3 * i + 1)).toInt ∧ (f (3 * i + 1)).toInt ≤ 9 ∧ 0 ≤ (f (3 * i + 2)).toInt ∧ (f (3 * i + 2)).toInt ≤ 3) ∧ ((f (3 * i)).toInt = 1 → 0 ≤ (f (3 * i + 1)).toInt ∧ (f (3 * i + 1)).toInt ≤ 9) ∧ ((f (3 * i)).toInt = 2 → 0 ≤ (f (3 * i + 1)).toInt ∧ (f (3 * i + 1)).toInt ≤ 5 ∧ 0 ≤ (f (3 * i + 2)).toInt ∧ (f (3 * i + 2)).toInt ≤ 9))
/-- how far two rows are alike -/
def gE (f g : Nat → Int32) : Nat → Nat
  | 0 => 0
  | i + 1 => if gE f g i = i ∧ f i = g i then i + 1 else gE f g i
def gV (f : Nat → Int32) (b : Nat) : Int32 := if 0 ≤ (f b).toInt ∧ (f b).toInt ≤ 44 ∧ (gH f (b + 1) (f b).toInt.toNat).isSome = true then 1 else 0
def gAll (p : Nat → Bool) (n : Int) : Int32 := if (List.range n.toNat).all p = true then 1 else 0
def nG9 (k : Nat) (s kept rd sk : Nat → Int32) (codes top told : Int) : Int32 :=
  if k = 1000 then (match gH rd 0 codes.toNat with
    | some n => Int32.ofInt ((n : Int) - (gB sk top.toNat : Int))
    | none => -1000)
  else if k = 1001 then gAll (gC rd) told
  else if k = 1002 then gV s 179
  else if k = 1003 then gV kept 179
  else if k = 1004 then gV kept 539
  else if k = 1005 then Int32.ofNat (gE (fun j => s (179 + j)) (fun j => kept (179 + j)) 181)
  else if k = 1006 then Int32.ofNat (gE (fun j => s (179 + j)) (fun j => kept (539 + j)) 181)
  else if k = 1007 then Int32.ofNat (gE (fun j => s (180 + j)) rd 135)
  else if k = 1008 then rd (3 * codes.toNat)
  else if k = 1009 then rd (3 * codes.toNat + 2)
  else if k = 1010 then rd (3 * told.toNat)
  else if k = 1011 then rd (3 * told.toNat + 1)
  else if k = 1012 then rd (3 * told.toNat + 2)
  else if 1020 ≤ k ∧ k < 1066 then (match gH s 180 (k - 1020) with
    | some n => Int32.ofNat n
    | none => -1000)
  else 0
def nG4 (kd vl : Nat → Int32) (n : Int) : Int32 := gAll (fun i => decide (((kd i).toInt = 116 → 0 ≤ (vl i).toInt ∧ (vl i).toInt ≤ 5) ∧ ((kd i).toInt = 117 → 0 ≤ (vl i).toInt ∧ (vl i).toInt ≤ 9))) n
def nG6 (kd a b : Nat → Int32) (n : Int) : Int32 := gAll (fun i => decide (((kd i).toInt = 107 → 0 ≤ (a i).toInt ∧ (a i).toInt ≤ 9 ∧ 0 ≤ (b i).toInt ∧ (b i).toInt ≤ 3) ∧ ((kd i).toInt = 108 → 0 ≤ (a i).toInt ∧ (a i).toInt ≤ 9) ∧ ((kd i).toInt = 109 → 0 ≤ (a i).toInt ∧ (a i).toInt ≤ 5 ∧ 0 ≤ (b i).toInt ∧ (b i).toInt ≤ 9))) n
def gCut (b : Bool) (f : Nat → Int32) (j : Nat) : Int32 := if b then (if 179 ≤ j then f j else 0) else (if (179 ≤ j ∧ j < 360) ∨ 539 ≤ j then f j else 0)
def nGh (k : Nat) (h : List nC) (ci : Nat) (fs : List Value) : Int32 :=
  if ci = 9 then nG9 k (gCut true (gA h fs 6)) (gCut false (gA h fs 45)) (gA h fs 8) (gA h fs 38) (gI fs 39) (gI fs 41) (gI fs 35)
  else if ci = 4 then nG4 (gA h fs 0) (gA h fs 2) (gI fs 4)
  else if ci = 6 then nG6 (gA h fs 0) (gA h fs 1) (gA h fs 2) (gI fs 3)
  else 0
/-- fields that only named writes may touch -/
def nSp (t b : Nat) : Bool := (t == 9 && (b == 6 || (b == 8 || (b == 35 || (b == 38 || (b == 39 || (b == 41 || b == 45))))))) || ((t == 4 && (b == 0 || (b == 2 || b == 4))) || (t == 6 && decide (b < 4)))
/-- a field, or a number told of the cell -/
def nFd (h : List nC) (ci : Nat) (fs : List Value) (k : Nat) : Option Value := if k < 1000 then fs[k]? else some (.int (nGh k h ci fs))
def nGp (S : List Nat) (h h1 : List nC) : Prop := ∀ (q t ci : Nat) (fs fs1 : List Value) (k : Nat), S[q]? = some t → h[q]? = some (.inr (ci, fs)) → h1[q]? = some (.inr (ci, fs1)) → nGh k h1 ci fs1 = nGh k h ci fs
theorem nFd_gp {S : List Nat} {h h1 : List nC} (hG : nGp S h h1) {q t ci : Nat} {fs fs1 : List Value} {k : Nat} (ht : S[q]? = some t) (hq : h[q]? = some (.inr (ci, fs))) (hq1 : h1[q]? = some (.inr (ci, fs1))) (hk : k < 1000 → fs1[k]? = fs[k]?) : nFd h1 ci fs1 k = nFd h ci fs k := by
  unfold nFd
  split
  · next e => exact hk e
  · rw [hG q t ci fs fs1 k ht hq hq1]
theorem nGp.rf {S : List Nat} {h : List nC} : nGp S h h := fun q t ci fs fs1 k _ h1 h2 => by
  cases h1.symm.trans h2
  rfl
