theorem f_inv {h1 h2 : List nC} {mc1 ms1 mc2 ms2 : Nat} (e : fRun = some (h1, h2, mc1, ms1, mc2, ms2)) : lwI fS 0 175 37 38 (h2 ++ [fArr]) := by
  refine jB_ok (f_use f_j e) (fun q hq => ?_)
  have hq2 : q < 196 := hq
  by_cases c0 : q < 3
  · exact tOkR_at (f_use f_t0 e) (by omega) (by omega)
  by_cases c1 : q < 4
  · exact tOkR_at (f_use f_t1 e) (by omega) (by omega)
  by_cases c2 : q < 5
  · exact tOkR_at (f_use f_t2 e) (by omega) (by omega)
  by_cases c3 : q < 13
  · exact tOkR_at (f_use f_t3 e) (by omega) (by omega)
  by_cases c4 : q < 83
  · exact tOkR_at (f_use f_t4 e) (by omega) (by omega)
  by_cases c5 : q < 166
  · exact tOkR_at (f_use f_t5 e) (by omega) (by omega)
  by_cases c6 : q < 176
  · exact tOkR_at (f_use f_t6 e) (by omega) (by omega)
  by_cases c7 : q < 177
  · exact tOkR_at (f_use f_t7 e) (by omega) (by omega)
  by_cases c8 : q < 183
  · exact tOkR_at (f_use f_t8 e) (by omega) (by omega)
  by_cases c9 : q < 192
  · exact tOkR_at (f_use f_t9 e) (by omega) (by omega)
  exact tOkR_at (f_use f_t10 e) (by omega) (by omega)
