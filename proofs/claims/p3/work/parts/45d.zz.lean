theorem f_inW {h1 h2 : List nC} {mc1 ms1 mc2 ms2 : Nat} (e : fRun = some (h1, h2, mc1, ms1, mc2, ms2)) : lwW fS 0 175 37 38 1 (h2 ++ [fArr]) := by
  have k := f_use f_len e
  simp only [Bool.and_eq_true] at k
  obtain ⟨fx, hx, a⟩ := obB_ok k.1
  obtain ⟨ft, ht, b⟩ := obB_ok k.2.1
  obtain ⟨fm, hm, c⟩ := obB_ok k.2.2
  exact ⟨0, ⟨by decide, by decide⟩, f_inv e, ⟨fx, hx, rfB_ok a⟩, ⟨ft, ht, inB_ok b⟩, fm, hm, inB_ok c⟩
