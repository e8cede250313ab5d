def inB (fs : List Value) (k : Nat) (n : Int) : Bool := match fs[k]? with
  | some (.int r) => decide (r = Int32.ofInt n)
  | _ => false
theorem inB_ok {fs : List Value} {k : Nat} {n : Int} (h : inB fs k n = true) : fs[k]? = some (.int (Int32.ofInt n)) := by
  unfold inB at h
  split at h
  · next r e =>
    have e2 := of_decide_eq_true h
    subst e2
    exact e
  · cases h
set_option maxRecDepth 1000000 in
theorem f_len : fChk (fun _ h2 _ _ _ _ => obB (h2 ++ [fArr]) 0 8 (fun fx => rfB fx 0 1) && (obB (h2 ++ [fArr]) 1 7 (fun ft => inB ft 5 0) && obB (h2 ++ [fArr]) 175 9 (fun fm => inB fm 2 0))) = true := by decide +kernel
