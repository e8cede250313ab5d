section AS4
variable {nu : List Int} {mu : List Nat} {rho : aRho}
def lS (nu : List Int) (l : List (Int × Nat)) : Int := (l.map (fun t => t.1 * nu.getD t.2 0)).sum
theorem lS_ins (t : Int × Nat) : ∀ l : List (Int × Nat), lS nu (lIns t l) = t.1 * nu.getD t.2 0 + lS nu l := by
  intro l
  induction l with
  | nil => simp [lIns, lS]
  | cons u l ih =>
    unfold lIns
    split
    · next e =>
      simp only [lS, List.map_cons, List.sum_cons, e, Int.add_mul] at ih ⊢
      omega
    · simp only [lS, List.map_cons, List.sum_cons] at ih ⊢
      omega
theorem lS_add (l m : List (Int × Nat)) : lS nu (lAdd l m) = lS nu l + lS nu m := by
  induction l with
  | nil => simp [lAdd, lS]
  | cons t l ih =>
    have e : lAdd (t :: l) m = lIns t (lAdd l m) := rfl
    rw [e, lS_ins, ih]
    simp only [lS, List.map_cons, List.sum_cons]
    omega
theorem lS_neg (l : List (Int × Nat)) : lS nu (lNeg l) = - lS nu l := by
  induction l with
  | nil => simp [lNeg, lS]
  | cons t l ih =>
    simp only [lNeg, lS, List.map_cons, List.sum_cons, Int.neg_mul] at ih ⊢
    omega
theorem lSb_ok {sg : aSg} (hg : aGd nu mu sg) : ∀ (ts : List (Int × Nat)) (l : aLin), lSb sg ts = some l → lS (aN nu sg) ts = lS nu l.1 + l.2 := by
  intro ts
  induction ts with
  | nil => intro l h; cases h; simp [lS]
  | cons t ts ih =>
    intro l h
    simp only [lSb] at h
    split at h
    · next l0 c h0 hc =>
      cases h
      have := ih l0 h0
      have e1 : (aN nu sg).getD t.2 0 = c := by
        simp only [aN, List.getD_eq_getElem?_getD, List.getElem?_map, hc, Option.map_some, aEv, Option.getD_some]
      simp only [lS, List.map_cons, List.sum_cons, e1] at this ⊢
      omega
    · next l0 a c h0 hc =>
      cases h
      have := ih l0 h0
      have e1 : (aN nu sg).getD t.2 0 = nu.getD a 0 + c := by
        simp only [aN, List.getD_eq_getElem?_getD, List.getElem?_map, hc, Option.map_some, aEv, Option.getD_some]
      have e2 := lS_ins (nu := nu) (t.1, a) l0.1
      simp only at e2
      rw [e2]
      simp only [lS, List.map_cons, List.sum_cons, e1, Int.mul_add] at this ⊢
      omega
    · cases h
theorem lSup_ok (hE : aE rho nu) : ∀ (ts : List (Int × Nat)) (z : Int), lSup rho ts = some z → lS nu ts ≤ z := by
  intro ts
  induction ts with
  | nil => intro z h; cases h; simp [lS]
  | cons t ts ih =>
    intro z h
    simp only [lSup] at h
    split at h
    · next z0 q h0 hq =>
      have h1 := ih z0 h0
      have hlt : t.2 < nu.length := by rw [← hE.1]; exact (List.getElem?_eq_some_iff.mp hq).1
      have hb := hE.2 t.2 _ q (List.getElem?_eq_getElem hlt) hq
      have e1 : nu.getD t.2 0 = nu[t.2] := by rw [List.getD_eq_getElem?_getD, List.getElem?_eq_getElem hlt]; rfl
      simp only [lS, List.map_cons, List.sum_cons, e1] at h1 ⊢
      split at h
      · next ht =>
        cases h
        rw [ht, Int.zero_mul]
        omega
      · split at h
        · next ht =>
          cases h
          have := Int.mul_le_mul_of_nonneg_left hb.2 (Int.le_of_lt ht)
          omega
        · next ht0 ht =>
          cases h
          have hneg : 0 ≤ - t.1 := by omega
          have := Int.mul_le_mul_of_nonneg_left hb.1 hneg
          rw [Int.neg_mul, Int.neg_mul] at this
          omega
    · cases h
theorem lS_x {nu1 : List Int} {mu1 : List Nat} (X : aX nu mu nu1 mu1) (l : List (Int × Nat)) (hl : ∀ t ∈ l, t.2 < nu.length) : lS nu1 l = lS nu l := by
  unfold lS
  congr 1
  apply List.map_congr_left
  intro t ht
  have := X.nu (List.getElem?_eq_getElem (hl t ht))
  rw [List.getD_eq_getElem?_getD, List.getD_eq_getElem?_getD, this, List.getElem?_eq_getElem (hl t ht)]
theorem aGetLs_ok {al : List (Nat × aV)} {lv : nLv} (hl : aLv nu mu al lv) : ∀ (ks : List Nat) (xs : List aV), aGetLs al ks = some xs → ∃ vs : List Value, aSt nu mu xs vs ∧ vs.length = ks.length ∧ ∀ (j k : Nat) (v : Value), ks[j]? = some k → vs[j]? = some v → nj_get lv k = some v := by
  intro ks
  induction ks with
  | nil => intro xs h; cases h; exact ⟨[], trivial, rfl, fun j k v h => by simp at h⟩
  | cons k ks ih =>
    intro xs h
    simp only [aGetLs] at h
    split at h
    · next x xs0 hx hxs =>
      cases h
      obtain ⟨v, g1, g2⟩ := aGetL_ok hl hx
      obtain ⟨vs, s1, s2, s3⟩ := ih xs0 hxs
      refine ⟨v :: vs, ⟨g2, s1⟩, by simp [s2], fun j k2 v2 h1 h2 => ?_⟩
      cases j with
      | zero => simp at h1 h2; rw [← h1, ← h2]; exact g1
      | succ j => simp at h1 h2; exact s3 j k2 v2 h1 h2
    · cases h
theorem aSt_get {nu : List Int} {mu : List Nat} : ∀ {as : List aV} {vs : List Value} {j : Nat} {a : aV}, aSt nu mu as vs → as[j]? = some a → ∃ v, vs[j]? = some v ∧ aR nu mu a v := by
  intro as
  induction as with
  | nil => intro vs j a h hj; simp at hj
  | cons b as ih =>
    intro vs j a h hj
    obtain ⟨v, r, rfl, hb, hr⟩ := h.cons
    cases j with
    | zero => simp at hj; subst hj; exact ⟨v, by simp, hb⟩
    | succ j => simp at hj; obtain ⟨w, h1, h2⟩ := ih hr hj; exact ⟨w, by simpa using h1, h2⟩
end AS4
