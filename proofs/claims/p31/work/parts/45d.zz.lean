theorem f_in4 {h1 h2 : List nC} {mc1 ms1 mc2 ms2 : Nat} (e : fRun = some (h1, h2, mc1, ms1, mc2, ms2)) : lwZ 0 0 (fun _ => 0) (fun _ => 0) (h2 ++ [fArr]) := by
  have k := f_use f_len e
  simp only [Bool.and_eq_true] at k
  obtain ⟨fx, hx, a⟩ := obB_ok k.1
  obtain ⟨ft, ht, b⟩ := obB_ok k.2.1
  obtain ⟨fm, hm, c⟩ := obB_ok k.2.2
  have k2 := f_use f_fix e
  simp only [Bool.and_eq_true] at k2
  obtain ⟨q1, q2, q3, q4, q5⟩ := k2
  obtain ⟨f1, e1, p1⟩ := ljB_ok q2
  obtain ⟨f2, e2, p2⟩ := ljB_ok q3
  exact ⟨⟨f_inv e, ⟨fx, hx, rfB_ok a⟩, ⟨ft, ht, inB_ok b⟩, fm, hm, inB_ok c⟩, fxB_ok q1, ⟨f1, e1, fun j hj => of_decide_eq_true (p1 j hj)⟩, ⟨f2, e2, fun j hj => of_decide_eq_true (p2 j hj)⟩, byB_ok q4, byB_ok q5⟩
