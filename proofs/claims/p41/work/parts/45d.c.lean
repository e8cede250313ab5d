def inB (fs : List Value) (k : Nat) (n : Int) : Bool := match fs[k]? with
  | some (.int r) => decide (r = Int32.ofInt n)
  | _ => false
theorem inB_ok {fs : List Value} {k : Nat} {n : Int} (h : inB fs k n = true) : fs[k]? = some (.int (Int32.ofInt n)) := by
  unfold inB at h
  split at h
  · next r e =>
    have e2 := of_decide_eq_true h
    subst e2
    exact e
  · cases h
def rwB (h : List nC) (q : Nat) (a b : Nat) : Bool := match h[q]? with
  | some (.inl (5, 2, .inr (.inr f))) => decide (f 0 = some a) && decide (f 1 = some b)
  | _ => false
theorem rwB_ok {h : List nC} {q a b : Nat} (k : rwB h q a b = true) : ∃ fr, h[q]? = some (.inl (5, 2, .inr (.inr fr))) ∧ fr 0 = some a ∧ fr 1 = some b := by
  unfold rwB at k
  split at k
  · next f e =>
    rw [Bool.and_eq_true] at k
    exact ⟨f, e, of_decide_eq_true k.1, of_decide_eq_true k.2⟩
  · cases k
def boB (h : List nC) (q : Nat) : Bool := match h[q]? with
  | some (.inl (2, 2, .inl f)) => decide (f 0 = 0) && decide (f 1 = 0)
  | _ => false
theorem boB_ok {h : List nC} {q : Nat} (k : boB h q = true) : ∃ fa, h[q]? = some (.inl (2, 2, .inl fa)) ∧ fa 0 = 0 ∧ fa 1 = 0 := by
  unfold boB at k
  split at k
  · next f e =>
    rw [Bool.and_eq_true] at k
    exact ⟨f, e, of_decide_eq_true k.1, of_decide_eq_true k.2⟩
  · cases k
set_option maxRecDepth 1000000 in
theorem f_flag : fChk (fun _ h2 _ _ _ _ => obB (h2 ++ [fArr]) 0 8 (fun fx => rfB fx 9 113) && (rwB (h2 ++ [fArr]) 113 114 141 && (obB (h2 ++ [fArr]) 114 1 (fun f => inB f 3 0) && (obB (h2 ++ [fArr]) 141 1 (fun f => inB f 3 0) && (obB (h2 ++ [fArr]) 175 9 (fun fm => rfB fm 47 194) && boB (h2 ++ [fArr]) 194))))) = true := by decide +kernel
