/-! sums of multiples of named numbers -/
def lIns (t : Int × Nat) : List (Int × Nat) → List (Int × Nat)
  | [] => [t]
  | u :: r => if u.2 = t.2 then (u.1 + t.1, u.2) :: r else u :: lIns t r
def lSup (rho : aRho) : List (Int × Nat) → Option Int
  | [] => some 0
  | t :: r => match lSup rho r, rho[t.2]? with
    | some z, some q => if t.1 = 0 then some z else if 0 < t.1 then some (z + t.1 * q.2) else some (z + t.1 * q.1)
    | _, _ => none
def lNeg (l : List (Int × Nat)) : List (Int × Nat) := l.map (fun t => (-t.1, t.2))
def lAdd (l m : List (Int × Nat)) : List (Int × Nat) := l.foldr lIns m
section ALI
variable {nu : List Int} {mu : List Nat} {rho : aRho}
theorem lS_ins (t : Int × Nat) : ∀ l : List (Int × Nat), lS nu (lIns t l) = t.1 * nu.getD t.2 0 + lS nu l := by
  intro l
  induction l with
  | nil => simp [lIns, lS]
  | cons u l ih =>
    unfold lIns
    split
    · next e =>
      simp only [lS, List.map_cons, List.sum_cons, e, Int.add_mul] at ih ⊢
      omega
    · simp only [lS, List.map_cons, List.sum_cons] at ih ⊢
      omega
theorem lS_add (l m : List (Int × Nat)) : lS nu (lAdd l m) = lS nu l + lS nu m := by
  induction l with
  | nil => simp [lAdd, lS]
  | cons t l ih =>
    have e : lAdd (t :: l) m = lIns t (lAdd l m) := rfl
    rw [e, lS_ins, ih]
    simp only [lS, List.map_cons, List.sum_cons]
    omega
theorem lS_neg (l : List (Int × Nat)) : lS nu (lNeg l) = - lS nu l := by
  induction l with
  | nil => simp [lNeg, lS]
  | cons t l ih =>
    simp only [lNeg, lS, List.map_cons, List.sum_cons, Int.neg_mul] at ih ⊢
    omega
theorem lSup_ok (hE : aE rho nu) : ∀ (ts : List (Int × Nat)) (z : Int), lSup rho ts = some z → lS nu ts ≤ z := by
  intro ts
  induction ts with
  | nil => intro z h; cases h; simp [lS]
  | cons t ts ih =>
    intro z h
    simp only [lSup] at h
    split at h
    · next z0 q h0 hq =>
      have h1 := ih z0 h0
      have hlt : t.2 < nu.length := by rw [← hE.1]; exact (List.getElem?_eq_some_iff.mp hq).1
      have hb := hE.2 t.2 _ q (List.getElem?_eq_getElem hlt) hq
      have e1 : nu.getD t.2 0 = nu[t.2] := by rw [List.getD_eq_getElem?_getD, List.getElem?_eq_getElem hlt]; rfl
      simp only [lS, List.map_cons, List.sum_cons, e1] at h1 ⊢
      split at h
      · next ht =>
        cases h
        rw [ht, Int.zero_mul]
        omega
      · split at h
        · next ht =>
          cases h
          have := Int.mul_le_mul_of_nonneg_left hb.2 (Int.le_of_lt ht)
          omega
        · next ht0 ht =>
          cases h
          have hneg : 0 ≤ - t.1 := by omega
          have := Int.mul_le_mul_of_nonneg_left hb.1 hneg
          rw [Int.neg_mul, Int.neg_mul] at this
          omega
    · cases h
def aPr1 (rho : aRho) (l : aLin) : Bool := match lSup rho l.1 with
  | some z => decide (z + l.2 ≤ 0)
  | none => false
def lSub (l f : aLin) : aLin := (lAdd l.1 (lNeg f.1), l.2 - f.2)
def lSh (l : List (Int × Nat)) (f : List (Int × Nat)) : Bool := l.any (fun t => f.any (fun u => u.2 == t.2))
/-- the term with the greatest number -/
def lTop : List (Int × Nat) → Option (Int × Nat)
  | [] => none
  | t :: r => match lTop r with
    | none => if t.1 = 0 then none else some t
    | some u => if t.1 = 0 then some u else if u.2 < t.2 then some t else some u
def lCo (l : List (Int × Nat)) (v : Nat) : Int := match l.find? (fun t => t.2 == v) with
  | some t => t.1
  | none => 0
/-- a term's bound by its range -/
def lRg (rho : aRho) (t : Int × Nat) : aLin := match rho[t.2]? with
  | some q => if 0 < t.1 then ([t], -(t.1 * q.2)) else ([t], -(t.1 * q.1))
  | none => ([t], 1)
/-- a chain of things known, each of which takes the term with the greatest number away -/
def aPrC (s : aS) : Nat → aLin → Bool
  | 0, l => aPr1 s.1 l
  | n + 1, l => aPr1 s.1 l || (match lTop l.1 with
    | none => false
    | some t => s.2.2.2.2.any (fun e => match e with
      | .inl f => decide (lCo f.1 t.2 = t.1) && aPrC s n (lSub l f)
      | .inr _ => false) || (aPr1 s.1 (lRg s.1 t) && aPrC s n (lSub l (lRg s.1 t))))
/-- is the sum at most 0, by ranges and at most two things known, or by a chain -/
def aPr (s : aS) (l : aLin) : Bool := aPr1 s.1 l || (aPrC s 9 l || (s.2.2.2.2.any (fun e => match e with
  | .inl f => lSh l.1 f.1 && aPr1 s.1 (lSub l f)
  | .inr _ => false) || s.2.2.2.2.any (fun e => match e with
  | .inl f => lSh l.1 f.1 && s.2.2.2.2.any (fun e2 => match e2 with
    | .inl f2 => lSh (lSub l f).1 f2.1 && aPr1 s.1 (lSub (lSub l f) f2)
    | .inr _ => false)
  | .inr _ => false)))
def aPrF (s : aS) (l : aLin) : Bool := s.2.2.2.2.any (fun e => match e with
  | .inl f => lSh l.1 f.1 && aPr1 s.1 (lSub l f)
  | .inr _ => false)
theorem aPr1_ok (hE : aE rho nu) {l : aLin} (h : aPr1 rho l = true) : lS nu l.1 + l.2 ≤ 0 := by
  unfold aPr1 at h
  split at h
  · next z hz =>
    have := lSup_ok hE _ _ hz
    have := of_decide_eq_true h
    omega
  · cases h
theorem lSub_ok (l f : aLin) : lS nu (lSub l f).1 + (lSub l f).2 = (lS nu l.1 + l.2) - (lS nu f.1 + f.2) := by
  show lS nu (lAdd l.1 (lNeg f.1)) + (l.2 - f.2) = _
  rw [lS_add, lS_neg]
  omega
theorem aPrF_ok {S : List Nat} {h : List nC} {s : aS} (k : aOk S h nu mu s) {l : aLin} (hp : aPrF s l = true) : lS nu l.1 + l.2 ≤ 0 := by
  obtain ⟨e, he, h1⟩ := List.any_eq_true.mp hp
  have hd := k.2.2.2.2 e he
  split at h1
  · next f =>
    rw [Bool.and_eq_true] at h1
    have := aPr1_ok k.1 h1.2
    rw [lSub_ok] at this
    have := hd.2
    omega
  · cases h1
theorem aPrC_ok {S : List Nat} {h : List nC} {s : aS} (k : aOk S h nu mu s) : ∀ (n : Nat) {l : aLin}, aPrC s n l = true → lS nu l.1 + l.2 ≤ 0 := by
  intro n
  induction n with
  | zero => intro l hp; exact aPr1_ok k.1 hp
  | succ n ih =>
    intro l hp
    simp only [aPrC, Bool.or_eq_true] at hp
    rcases hp with hp | hp
    · exact aPr1_ok k.1 hp
    · split at hp
      · cases hp
      · rw [Bool.or_eq_true] at hp
        rcases hp with hp | hp
        · obtain ⟨e, he, h1⟩ := List.any_eq_true.mp hp
          have hd := k.2.2.2.2 e he
          split at h1
          · next f =>
            rw [Bool.and_eq_true] at h1
            have := ih h1.2
            rw [lSub_ok] at this
            have := hd.2
            omega
          · cases h1
        · rw [Bool.and_eq_true] at hp
          have h1 := aPr1_ok k.1 hp.1
          have := ih hp.2
          rw [lSub_ok] at this
          omega
theorem aPr_ok {S : List Nat} {h : List nC} {s : aS} (k : aOk S h nu mu s) {l : aLin} (hp : aPr s l = true) : lS nu l.1 + l.2 ≤ 0 := by
  unfold aPr at hp
  rw [Bool.or_eq_true, Bool.or_eq_true, Bool.or_eq_true] at hp
  rcases hp with hp | hp | hp | hp
  · exact aPr1_ok k.1 hp
  · exact aPrC_ok k _ hp
  · obtain ⟨e, he, h1⟩ := List.any_eq_true.mp hp
    have hd := k.2.2.2.2 e he
    split at h1
    · next f =>
      rw [Bool.and_eq_true] at h1
      have := aPr1_ok k.1 h1.2
      rw [lSub_ok] at this
      have := hd.2
      omega
    · cases h1
  · obtain ⟨e, he, h1⟩ := List.any_eq_true.mp hp
    have hd := k.2.2.2.2 e he
    split at h1
    · next f =>
      rw [Bool.and_eq_true] at h1
      obtain ⟨e2, he2, h2⟩ := List.any_eq_true.mp h1.2
      have hd2 := k.2.2.2.2 e2 he2
      split at h2
      · next f2 =>
        rw [Bool.and_eq_true] at h2
        have := aPr1_ok k.1 h2.2
        rw [lSub_ok, lSub_ok] at this
        have := hd.2
        have := hd2.2
        omega
      · cases h2
    · cases h1
end ALI
