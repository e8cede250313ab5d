theorem all_cut {l : List nE} {f : nE → Bool} {a b : Nat} (h1 : ((l.drop a).take b).all f = true) (h2 : (l.drop (a + b)).all f = true) : (l.drop a).all f = true := by
  rw [← List.take_append_drop b (l.drop a), List.all_append, h1, List.drop_drop, h2]
  rfl
set_option maxRecDepth 100000 in
theorem ne_265_0 : ((nm_265.2.2.2.2.2.drop 0).take 85).all (nj_oke nj_M nm_265.1.cls nm_265.2.1) = true := by decide +kernel
set_option maxRecDepth 100000 in
theorem ne_265_1 : ((nm_265.2.2.2.2.2.drop 85).take 85).all (nj_oke nj_M nm_265.1.cls nm_265.2.1) = true := by decide +kernel
set_option maxRecDepth 100000 in
theorem ne_265_2 : ((nm_265.2.2.2.2.2.drop 170).take 85).all (nj_oke nj_M nm_265.1.cls nm_265.2.1) = true := by decide +kernel
set_option maxRecDepth 100000 in
theorem ne_265_3 : ((nm_265.2.2.2.2.2.drop 255).take 85).all (nj_oke nj_M nm_265.1.cls nm_265.2.1) = true := by decide +kernel
set_option maxRecDepth 100000 in
theorem ne_265_4 : ((nm_265.2.2.2.2.2.drop 340).take 85).all (nj_oke nj_M nm_265.1.cls nm_265.2.1) = true := by decide +kernel
