/-! the check of a promise, place by place -/
theorem aChk_of {M : Nat → Option nM} {FT : Nat → Nat → Option fTy} {AT : Nat → Option aTy} {ctx : List nK} {W : nWk} {ls : Option Nat} {cuts : List aCt} {fuel : Nat} {c : nK} (h1 : ∀ x ∈ cuts, aFrom M FT AT ctx W ls c.2.2.2.2.1 c.2.2.2.2.2.1 c.2.2.2.2.2.2 c.2.2.1.1.length c.2.2.1.2.1.length c.2.1 c.1 cuts fuel x = true) (h2 : aExec M FT AT ctx W ls c.2.2.2.2.1 c.2.2.2.2.2.1 c.2.2.2.2.2.2 c.2.2.1.1.length c.2.2.1.2.1.length c.2.1 c.1 cuts none fuel c.2.2.1 [(c.1, 0, aArgs 0 c.2.2.2.1, [])] = true) : aChk M FT AT ctx W ls cuts fuel c = true := by
  unfold aChk
  rw [Bool.and_eq_true]
  exact ⟨List.all_eq_true.mpr h1, h2⟩
