theorem f_inW {h1 h2 : List nC} {mc1 ms1 mc2 ms2 : Nat} (e : fRun = some (h1, h2, mc1, ms1, mc2, ms2)) : lwW (h2 ++ [fArr]) := by
  have k := f_use f_flag e
  simp only [Bool.and_eq_true] at k
  obtain ⟨k1, k2, k3, k4, k5, k6⟩ := k
  obtain ⟨fx, hx, a⟩ := obB_ok k1
  obtain ⟨f0, h0, b⟩ := obB_ok k3
  obtain ⟨f1, h1, c⟩ := obB_ok k4
  obtain ⟨fm, hm, d⟩ := obB_ok k5
  exact ⟨0, 0, ⟨Or.inl rfl, Or.inl rfl⟩, f_inv e, ⟨⟨fx, hx, rfB_ok a⟩, rwB_ok k2, ⟨f0, h0, inB_ok b⟩, ⟨f1, h1, inB_ok c⟩, fm, hm, rfB_ok d⟩, boB_ok k6⟩
