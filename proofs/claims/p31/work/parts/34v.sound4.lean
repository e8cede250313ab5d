section AS4
variable {nu : List Int} {mu : List Nat} {rho : aRho}
theorem aGetLs_ok {al : List (Nat × aV)} {lv : nLv} (hl : aLv nu mu al lv) : ∀ (ks : List Nat) (xs : List aV), aGetLs al ks = some xs → ∃ vs : List Value, aSt nu mu xs vs ∧ vs.length = ks.length ∧ ∀ (j k : Nat) (v : Value), ks[j]? = some k → vs[j]? = some v → nj_get lv k = some v := by
  intro ks
  induction ks with
  | nil => intro xs h; cases h; exact ⟨[], trivial, rfl, fun j k v h => by simp at h⟩
  | cons k ks ih =>
    intro xs h
    simp only [aGetLs] at h
    split at h
    · next x xs0 hx hxs =>
      cases h
      obtain ⟨v, g1, g2⟩ := aGetL_ok hl hx
      obtain ⟨vs, s1, s2, s3⟩ := ih xs0 hxs
      refine ⟨v :: vs, ⟨g2, s1⟩, by simp [s2], fun j k2 v2 h1 h2 => ?_⟩
      cases j with
      | zero => simp at h1 h2; rw [← h1, ← h2]; exact g1
      | succ j => simp at h1 h2; exact s3 j k2 v2 h1 h2
    · cases h
theorem aSt_get {nu : List Int} {mu : List Nat} : ∀ {as : List aV} {vs : List Value} {j : Nat} {a : aV}, aSt nu mu as vs → as[j]? = some a → ∃ v, vs[j]? = some v ∧ aR nu mu a v := by
  intro as
  induction as with
  | nil => intro vs j a h hj; simp at hj
  | cons b as ih =>
    intro vs j a h hj
    obtain ⟨v, r, rfl, hb, hr⟩ := h.cons
    cases j with
    | zero => simp at hj; subst hj; exact ⟨v, by simp, hb⟩
    | succ j => simp at hj; obtain ⟨w, h1, h2⟩ := ih hr hj; exact ⟨w, by simpa using h1, h2⟩
end AS4
