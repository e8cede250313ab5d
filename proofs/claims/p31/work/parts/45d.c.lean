def inB (fs : List Value) (k : Nat) (n : Int) : Bool := match fs[k]? with
  | some (.int r) => decide (r = Int32.ofInt n)
  | _ => false
theorem inB_ok {fs : List Value} {k : Nat} {n : Int} (h : inB fs k n = true) : fs[k]? = some (.int (Int32.ofInt n)) := by
  unfold inB at h
  split at h
  · next r e =>
    have e2 := of_decide_eq_true h
    subst e2
    exact e
  · cases h
set_option maxRecDepth 1000000 in
theorem f_len : fChk (fun _ h2 _ _ _ _ => obB (h2 ++ [fArr]) 0 8 (fun fx => rfB fx 0 1) && (obB (h2 ++ [fArr]) 1 7 (fun ft => inB ft 5 0) && obB (h2 ++ [fArr]) 175 9 (fun fm => inB fm 2 0))) = true := by decide +kernel
/-- what never changes, in the first heap -/
def fxB (h : List nC) : Bool := FX.all (fun e => match h[e.1]? with
  | some (.inr (c, fs)) => decide (c = e.2.1) && (match fs[e.2.2.1]?, e.2.2.2 with
    | none, none => true
    | some (.ref r), some (.ref r2) => decide (r = r2)
    | _, _ => false)
  | _ => false)
theorem fxB_ok {h : List nC} (k : fxB h = true) : fxOk h := by
  intro e he
  have k1 := List.all_eq_true.mp k e he
  split at k1
  · next c fs e1 =>
    rw [Bool.and_eq_true] at k1
    have c1 := of_decide_eq_true k1.1
    refine ⟨fs, by rw [e1, c1], ?_⟩
    have k2 := k1.2
    split at k2
    · next e2 e3 => rw [e2, e3]
    · next r r2 e2 e3 =>
      rw [e2, e3, of_decide_eq_true k2]
    · cases k2
  · cases k1
def ljB (h : List nC) (q n : Nat) (P : Nat → Int64 → Bool) : Bool := match h[q]? with
  | some (.inl (k, m, .inr (.inl f))) => decide (k = 3) && (decide (m = n) && (List.range n).all (fun j => P j (f j)))
  | _ => false
theorem ljB_ok {h : List nC} {q n : Nat} {P : Nat → Int64 → Bool} (k : ljB h q n P = true) : ∃ f, h[q]? = some (.inl (3, n, .inr (.inl f))) ∧ ∀ j, j < n → P j (f j) = true := by
  unfold ljB at k
  split at k
  · next kk m f e =>
    simp only [Bool.and_eq_true, decide_eq_true_eq] at k
    obtain ⟨k1, k2, k3⟩ := k
    subst k1
    subst k2
    exact ⟨f, e, fun j hj => List.all_eq_true.mp k3 j (List.mem_range.mpr hj)⟩
  · cases k
def byB (h : List nC) (q : Nat) : Bool := match h[q]? with
  | some (.inl (k, m, .inl f)) => decide (k = 1) && (decide (m = 940) && (List.range 940).all (fun j => decide (f j = 0)))
  | _ => false
theorem byB_ok {h : List nC} {q : Nat} (k : byB h q = true) : ∃ f, h[q]? = some (.inl (1, 940, .inl f)) ∧ ∀ j, j < 940 → f j = (fun _ => (0 : Int32)) j := by
  unfold byB at k
  split at k
  · next kk m f e =>
    simp only [Bool.and_eq_true, decide_eq_true_eq] at k
    obtain ⟨k1, k2, k3⟩ := k
    subst k1
    subst k2
    exact ⟨f, e, fun j hj => of_decide_eq_true (List.all_eq_true.mp k3 j (List.mem_range.mpr hj))⟩
  · cases k
set_option maxRecDepth 1000000 in
theorem f_fix : fChk (fun _ h2 _ _ _ _ => fxB (h2 ++ [fArr]) && (ljB (h2 ++ [fArr]) 6 22 (fun j x => decide (x = Int64.ofNat (e32 (keyws.getD j []) 0))) && (ljB (h2 ++ [fArr]) 181 22 (fun j x => decide (x = Int64.ofNat (e256 (keyws.getD j []) 0))) && (byB (h2 ++ [fArr]) 2 && byB (h2 ++ [fArr]) 176)))) = true := by decide +kernel
