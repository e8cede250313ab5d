theorem f_inv {h1 h2 : List nC} {mc1 ms1 mc2 ms2 : Nat} (e : fRun = some (h1, h2, mc1, ms1, mc2, ms2)) : lwI fS 0 175 37 38 (h2 ++ [fArr]) := by
  refine jB_ok (f_use f_j e) (fun q hq => ?_)
  have hq2 : q < 196 := hq
  by_cases c0 : q < 4
  · exact tOkR_at (f_use f_t0 e) (by omega) (by omega)
  by_cases c1 : q < 56
  · exact tOkR_at (f_use f_t1 e) (by omega) (by omega)
  by_cases c2 : q < 177
  · exact tOkR_at (f_use f_t2 e) (by omega) (by omega)
  exact tOkR_at (f_use f_t3 e) (by omega) (by omega)
