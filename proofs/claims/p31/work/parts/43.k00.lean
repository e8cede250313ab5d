/-- Slip_image0 -/
def nk_349 : nK := (151, 1, ([(0, 0)], [8], [], [], []), [.inr (.inr (.inl 0)), .inr (.inl (0, 0))], [(0, 14), (0, 15), (1, 3), (2, 5), (2, 6), (2, 7), (2, 8), (2, 9), (2, 10), (2, 11), (4, 4), (4, 5)], [10, 11, 12, 13, 14, 15, 16, 17, 18, 19, 20, 21, 22, 23, 24, 25, 26, 27, 28, 30, 31, 32], [(([(0, 0), (1, 1)], [8], [], [], []), some (.inr (.inl (1, 0))))])
def nu_349 : List aCt := []
set_option maxRecDepth 100000 in
theorem vk_349 {X : nX} {L : Nat} {xs : Nat → Int32} {g : Nat} {S : List Nat} : nV nj_M X L xs g nFT nAT S (nJJ S) nk_349 :=
  aChk_ok (ctx := [nk_15, nk_37, nk_154]) (W := ([], [])) (ls := none) (cuts := nu_349) (fuel := 29) (nJJ_ok S)
    ⟨(fun c hc => nomatch hc), (fun c hc => nomatch hc)⟩
    ((fun c hc => by
    simp only [List.mem_cons, List.not_mem_nil, or_false] at hc
    rcases hc with rfl | rfl | rfl
    · exact vk_15
    · exact vk_37
    · exact vk_154))
    (fun _ _ _ _ y hy => by cases hy) (by decide +kernel)
/-- Model_image0 -/
def nk_350 : nK := (262, 1, ([(0, 0)], [9], [(0, 1002, .inl 1), (0, 1003, .inl 1), (0, 1004, .inl 1)], [], []), [.inr (.inr (.inl 0)), .inr (.inl (0, 0))], [(9, 0), (9, 1003), (9, 1005)], [65, 66, 67], [(([(0, 0)], [9], [(0, 1002, .inl 1), (0, 1003, .inl 1), (0, 1004, .inl 1)], [], []), some (.inl 1))])
def nu_350 : List aCt := [(18, ([(0, 0), (0, 178), (0, 181)], [9], [(0, 1005, .inr (.inl (2, 0))), (0, 1002, .inl 1), (0, 1004, .inl 1)], [], []), [(0, .inr (.inr (.inl 0))), (1, .inl 0), (2, .inr (.inl (1, 0)))], ([((-1), 1)], 500)), (18, ([(0, 0), (179, 360), (0, 181)], [9], [(0, 1005, .inr (.inl (2, 0))), (0, 1002, .inl 1), (0, 1004, .inl 1)], [], [.inl ([(1, 1), ((-1), 2)], (-179))]), [(0, .inr (.inr (.inl 0))), (1, .inl 0), (2, .inr (.inl (1, 0)))], ([((-1), 1)], 500)), (51, ([(0, 0), (0, 26)], [9], [(0, 1002, .inl 1), (0, 1003, .inl 1), (0, 1004, .inl 1)], [], []), [(0, .inr (.inr (.inl 0))), (1, .inl 0), (2, .inr (.inl (1, 0)))], ([((-1), 1)], 30))]
set_option maxRecDepth 100000 in
theorem vk_350 {X : nX} {L : Nat} {xs : Nat → Int32} {g : Nat} {S : List Nat} : nV nj_M X L xs g nFT nAT S (nJJ S) nk_350 :=
  aChk_ok (ctx := []) (W := ([gh_47, gh_48, gh_51, gh_53], [sw_46])) (ls := none) (cuts := nu_350) (fuel := 22) (nJJ_ok S)
    ⟨(fun c hc => by
    simp only [List.mem_cons, List.not_mem_nil, or_false] at hc
    rcases hc with rfl | rfl | rfl | rfl
    · exact gh_47_ok
    · exact gh_48_ok
    · exact gh_51_ok
    · exact gh_53_ok), (fun c hc => by
    simp only [List.mem_cons, List.not_mem_nil, or_false] at hc
    subst hc
    · exact sw_46_ok)⟩
    ((fun c hc => nomatch hc))
    (fun _ _ _ _ y hy => by cases hy) (by decide +kernel)
/-- Slip_image1 -/
def nk_351 : nK := (151, 1, ([(1, 1)], [8], [], [], []), [.inr (.inr (.inl 0)), .inr (.inl (0, 0))], [(0, 14), (0, 15), (1, 3), (2, 5), (2, 6), (2, 7), (2, 8), (2, 9), (2, 10), (2, 11), (4, 4), (4, 5)], [10, 11, 12, 13, 14, 15, 16, 17, 18, 19, 20, 21, 22, 23, 24, 25, 26, 27, 28, 30, 31, 32], [(([(1, 1), (1, 1)], [8], [], [], []), some (.inr (.inl (1, 0))))])
def nu_351 : List aCt := []
set_option maxRecDepth 100000 in
theorem vk_351 {X : nX} {L : Nat} {xs : Nat → Int32} {g : Nat} {S : List Nat} : nV nj_M X L xs g nFT nAT S (nJJ S) nk_351 :=
  aChk_ok (ctx := [nk_15, nk_37, nk_154]) (W := ([], [])) (ls := none) (cuts := nu_351) (fuel := 32) (nJJ_ok S)
    ⟨(fun c hc => nomatch hc), (fun c hc => nomatch hc)⟩
    ((fun c hc => by
    simp only [List.mem_cons, List.not_mem_nil, or_false] at hc
    rcases hc with rfl | rfl | rfl
    · exact vk_15
    · exact vk_37
    · exact vk_154))
    (fun _ _ _ _ y hy => by cases hy) (by decide +kernel)
/-- Model_image1 -/
def nk_352 : nK := (262, 1, ([(1, 1)], [9], [(0, 1002, .inl 1), (0, 1003, .inl 1), (0, 1004, .inl 1)], [], []), [.inr (.inr (.inl 0)), .inr (.inl (0, 0))], [(9, 0), (9, 1004), (9, 1006)], [65, 66, 67], [(([(1, 1)], [9], [(0, 1002, .inl 1), (0, 1003, .inl 1), (0, 1004, .inl 1)], [], []), some (.inl 1))])
def nu_352 : List aCt := [(18, ([(1, 1), (0, 178), (0, 181)], [9], [(0, 1006, .inr (.inl (2, 0))), (0, 1002, .inl 1), (0, 1003, .inl 1)], [], []), [(0, .inr (.inr (.inl 0))), (1, .inl 1), (2, .inr (.inl (1, 0)))], ([((-1), 1)], 500)), (18, ([(1, 1), (179, 360), (0, 181)], [9], [(0, 1006, .inr (.inl (2, 0))), (0, 1002, .inl 1), (0, 1003, .inl 1)], [], [.inl ([(1, 1), ((-1), 2)], (-179))]), [(0, .inr (.inr (.inl 0))), (1, .inl 1), (2, .inr (.inl (1, 0)))], ([((-1), 1)], 500)), (51, ([(1, 1), (0, 26)], [9], [(0, 1002, .inl 1), (0, 1003, .inl 1), (0, 1004, .inl 1)], [], []), [(0, .inr (.inr (.inl 0))), (1, .inl 1), (2, .inr (.inl (1, 0)))], ([((-1), 1)], 30))]
set_option maxRecDepth 100000 in
theorem vk_352 {X : nX} {L : Nat} {xs : Nat → Int32} {g : Nat} {S : List Nat} : nV nj_M X L xs g nFT nAT S (nJJ S) nk_352 :=
  aChk_ok (ctx := []) (W := ([gh_47, gh_48, gh_55, gh_57], [sw_48])) (ls := none) (cuts := nu_352) (fuel := 22) (nJJ_ok S)
    ⟨(fun c hc => by
    simp only [List.mem_cons, List.not_mem_nil, or_false] at hc
    rcases hc with rfl | rfl | rfl | rfl
    · exact gh_47_ok
    · exact gh_48_ok
    · exact gh_55_ok
    · exact gh_57_ok), (fun c hc => by
    simp only [List.mem_cons, List.not_mem_nil, or_false] at hc
    subst hc
    · exact sw_48_ok)⟩
    ((fun c hc => nomatch hc))
    (fun _ _ _ _ y hy => by cases hy) (by decide +kernel)
/-- Slip_imageN -/
def nk_353 : nK := (151, 0, ([((-2147483648), (-1))], [8], [], [], []), [.inr (.inr (.inl 0)), .inr (.inl (0, 0))], [], [], [(([((-2147483648), (-1)), (0, 0)], [8], [], [], []), some (.inr (.inl (1, 0))))])
def nu_353 : List aCt := []
set_option maxRecDepth 100000 in
theorem vk_353 {X : nX} {L : Nat} {xs : Nat → Int32} {g : Nat} {S : List Nat} : nV nj_M X L xs g nFT nAT S (nJJ S) nk_353 :=
  aChk_ok (ctx := []) (W := ([], [])) (ls := none) (cuts := nu_353) (fuel := 9) (nJJ_ok S)
    ⟨(fun c hc => nomatch hc), (fun c hc => nomatch hc)⟩
    ((fun c hc => nomatch hc))
    (fun _ _ _ _ y hy => by cases hy) (by decide +kernel)
/-- Model_imageN -/
def nk_354 : nK := (262, 1, ([((-2147483648), (-1))], [9], [(0, 1002, .inl 1), (0, 1003, .inl 1), (0, 1004, .inl 1)], [], []), [.inr (.inr (.inl 0)), .inr (.inl (0, 0))], [(9, 0)], [], [(([((-2147483648), (-1))], [9], [(0, 1002, .inl 1), (0, 1003, .inl 1), (0, 1004, .inl 1)], [], []), some (.inl 0))])
def nu_354 : List aCt := []
set_option maxRecDepth 100000 in
theorem vk_354 {X : nX} {L : Nat} {xs : Nat → Int32} {g : Nat} {S : List Nat} : nV nj_M X L xs g nFT nAT S (nJJ S) nk_354 :=
  aChk_ok (ctx := []) (W := ([], [])) (ls := none) (cuts := nu_354) (fuel := 17) (nJJ_ok S)
    ⟨(fun c hc => nomatch hc), (fun c hc => nomatch hc)⟩
    ((fun c hc => nomatch hc))
    (fun _ _ _ _ y hy => by cases hy) (by decide +kernel)
/-- Slip_imageP -/
def nk_355 : nK := (151, 0, ([(2, 2147483647)], [8], [], [], []), [.inr (.inr (.inl 0)), .inr (.inl (0, 0))], [], [], [(([(2, 2147483647), (0, 0)], [8], [], [], []), some (.inr (.inl (1, 0))))])
def nu_355 : List aCt := []
set_option maxRecDepth 100000 in
theorem vk_355 {X : nX} {L : Nat} {xs : Nat → Int32} {g : Nat} {S : List Nat} : nV nj_M X L xs g nFT nAT S (nJJ S) nk_355 :=
  aChk_ok (ctx := []) (W := ([], [])) (ls := none) (cuts := nu_355) (fuel := 9) (nJJ_ok S)
    ⟨(fun c hc => nomatch hc), (fun c hc => nomatch hc)⟩
    ((fun c hc => nomatch hc))
    (fun _ _ _ _ y hy => by cases hy) (by decide +kernel)
/-- Model_imageP -/
def nk_356 : nK := (262, 1, ([(2, 2147483647)], [9], [(0, 1002, .inl 1), (0, 1003, .inl 1), (0, 1004, .inl 1)], [], []), [.inr (.inr (.inl 0)), .inr (.inl (0, 0))], [(9, 0)], [], [(([(2, 2147483647)], [9], [(0, 1002, .inl 1), (0, 1003, .inl 1), (0, 1004, .inl 1)], [], []), some (.inl 0))])
def nu_356 : List aCt := []
set_option maxRecDepth 100000 in
theorem vk_356 {X : nX} {L : Nat} {xs : Nat → Int32} {g : Nat} {S : List Nat} : nV nj_M X L xs g nFT nAT S (nJJ S) nk_356 :=
  aChk_ok (ctx := []) (W := ([], [])) (ls := none) (cuts := nu_356) (fuel := 20) (nJJ_ok S)
    ⟨(fun c hc => nomatch hc), (fun c hc => nomatch hc)⟩
    ((fun c hc => nomatch hc))
    (fun _ _ _ _ y hy => by cases hy) (by decide +kernel)
