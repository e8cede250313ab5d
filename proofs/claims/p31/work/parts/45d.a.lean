def tOk1 (S : List Nat) (h : List nC) (q : Nat) : Bool := match S[q]?, h[q]? with
  | some t, some c => cOkB S t c
  | _, _ => false
def tOkR (S : List Nat) (h : List nC) (a n : Nat) : Bool := (List.range n).all (fun i => tOk1 S h (a + i))
theorem tOkR_at {S : List Nat} {h : List nC} {a n q : Nat} (k : tOkR S h a n = true) (h1 : a ≤ q) (h2 : q < a + n) : tOk1 S h q = true := by
  have := List.all_eq_true.mp k (q - a) (List.mem_range.mpr (by omega))
  rw [show a + (q - a) = q by omega] at this
  exact this
def jB (S : List Nat) (qx qm ql qb : Nat) (h : List nC) : Bool := nJJB S h && (obB h qm 9 (fun fm => decide (nGh 1002 h 9 fm = 1) && (decide (nGh 1003 h 9 fm = 1) && decide (nGh 1004 h 9 fm = 1))) && (obB h qx 8 (fun fx => rfB fx 3 ql) && obB h ql 2 (fun fl => rfB fl 0 qb)))
theorem jB_ok {S : List Nat} {qx qm ql qb : Nat} {h : List nC} (k : jB S qx qm ql qb h = true) (t : ∀ q, q < S.length → tOk1 S h q = true) : lwI S qx qm ql qb h := by
  refine lwB_ok ?_
  unfold jB at k
  unfold lwB
  rw [Bool.and_eq_true] at k ⊢
  refine ⟨k.1, ?_⟩
  rw [Bool.and_eq_true]
  exact ⟨List.all_eq_true.mpr (fun q hq => t q (List.mem_range.mp hq)), k.2⟩
theorem f_get {p : List nC → List nC → Nat → Nat → Nat → Nat → Bool} (h : fChk p = true) : ∃ h1 h2 mc1 ms1 mc2 ms2, fRun = some (h1, h2, mc1, ms1, mc2, ms2) ∧ p h1 h2 mc1 ms1 mc2 ms2 = true := by
  unfold fChk at h
  generalize fRun = r at h ⊢
  split at h
  · next h1 h2 mc1 ms1 mc2 ms2 => exact ⟨h1, h2, mc1, ms1, mc2, ms2, rfl, h⟩
  · cases h
theorem f_use {p : List nC → List nC → Nat → Nat → Nat → Nat → Bool} (h : fChk p = true) {h1 h2 : List nC} {mc1 ms1 mc2 ms2 : Nat} (e : fRun = some (h1, h2, mc1, ms1, mc2, ms2)) : p h1 h2 mc1 ms1 mc2 ms2 = true := by
  unfold fChk at h
  rw [e] at h
  exact h
