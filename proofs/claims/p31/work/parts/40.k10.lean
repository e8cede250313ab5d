/-- Model_person -/
def nk_246 : nK := (186, 2, ([((-2147483648), 2147483647), ((-2147483648), 2147483647)], [9], [], [], []), [.inr (.inr (.inl 0)), .inr (.inl (0, 0)), .inr (.inl (1, 0))], [(9, 0)], [], [(([((-2147483648), 2147483647), ((-2147483648), 2147483647), ((-2147483648), 2147483647)], [9], [], [], []), some (.inr (.inl (2, 0))))])
def nu_246 : List aCt := []
set_option maxRecDepth 100000 in
theorem vk_246 {X : nX} {L : Nat} {xs : Nat → Int32} {g : Nat} {S : List Nat} : nV nj_M X L xs g nFT nAT S (nJJ S) nk_246 :=
  aChk_ok (ctx := [nk_221, nk_245]) (W := ([], [])) (ls := none) (cuts := nu_246) (fuel := 76) (nJJ_ok S)
    ⟨(fun c hc => nomatch hc), (fun c hc => nomatch hc)⟩
    ((fun c hc => by
    simp only [List.mem_cons, List.not_mem_nil, or_false] at hc
    rcases hc with rfl | rfl
    · exact vk_221
    · exact vk_245))
    (fun _ _ _ _ y hy => by cases hy) (by decide +kernel)
/-- Model_error -/
def nk_247 : nK := (192, 2, ([((-2147483648), 2147483647), ((-2147483648), 2147483647)], [9], [], [], []), [.inr (.inr (.inl 0)), .inr (.inl (0, 0)), .inr (.inl (1, 0))], [(9, 0)], [], [(([((-2147483648), 2147483647), ((-2147483648), 2147483647), ((-2147483648), 2147483647)], [9], [], [], []), some (.inr (.inl (2, 0))))])
def nu_247 : List aCt := []
set_option maxRecDepth 100000 in
theorem vk_247 {X : nX} {L : Nat} {xs : Nat → Int32} {g : Nat} {S : List Nat} : nV nj_M X L xs g nFT nAT S (nJJ S) nk_247 :=
  aChk_ok (ctx := []) (W := ([], [])) (ls := none) (cuts := nu_247) (fuel := 37) (nJJ_ok S)
    ⟨(fun c hc => nomatch hc), (fun c hc => nomatch hc)⟩
    ((fun c hc => nomatch hc))
    (fun _ _ _ _ y hy => by cases hy) (by decide +kernel)
/-- Model_deed -/
def nk_248 : nK := (194, 2, ([((-2147483648), 2147483647), ((-2147483648), 2147483647)], [9], [], [], []), [.inr (.inr (.inl 0)), .inr (.inl (0, 0)), .inr (.inl (1, 0))], [(9, 0)], [], [(([((-2147483648), 2147483647), ((-2147483648), 2147483647), ((-2147483648), 2147483647)], [9], [], [], []), some (.inr (.inl (2, 0))))])
def nu_248 : List aCt := []
set_option maxRecDepth 100000 in
theorem vk_248 {X : nX} {L : Nat} {xs : Nat → Int32} {g : Nat} {S : List Nat} : nV nj_M X L xs g nFT nAT S (nJJ S) nk_248 :=
  aChk_ok (ctx := []) (W := ([], [])) (ls := none) (cuts := nu_248) (fuel := 64) (nJJ_ok S)
    ⟨(fun c hc => nomatch hc), (fun c hc => nomatch hc)⟩
    ((fun c hc => nomatch hc))
    (fun _ _ _ _ y hy => by cases hy) (by decide +kernel)
/-- Model_now -/
def nk_249 : nK := (196, 1, ([((-2147483648), 2147483647)], [9], [], [], []), [.inr (.inr (.inl 0)), .inr (.inl (0, 0))], [(9, 0)], [], [(([((-2147483648), 2147483647), ((-2147483648), 2147483647)], [9], [], [], []), some (.inr (.inl (1, 0))))])
def nu_249 : List aCt := []
set_option maxRecDepth 100000 in
theorem vk_249 {X : nX} {L : Nat} {xs : Nat → Int32} {g : Nat} {S : List Nat} : nV nj_M X L xs g nFT nAT S (nJJ S) nk_249 :=
  aChk_ok (ctx := [nk_245]) (W := ([], [])) (ls := none) (cuts := nu_249) (fuel := 14) (nJJ_ok S)
    ⟨(fun c hc => nomatch hc), (fun c hc => nomatch hc)⟩
    ((fun c hc => by
    simp only [List.mem_cons, List.not_mem_nil, or_false] at hc
    subst hc
    · exact vk_245))
    (fun _ _ _ _ y hy => by cases hy) (by decide +kernel)
/-- Model_keep -/
def nk_250 : nK := (198, 0, ([], [9], [], [], []), [.inr (.inr (.inl 0))], [(9, 24)], [56], [(([(1, 8)], [9], [(0, 24, .inr (.inl (0, 0)))], [], []), none)])
def nu_250 : List aCt := [(11, ([(0, 329)], [9], [], [], []), [(0, .inr (.inr (.inl 0))), (1, .inr (.inl (0, 0)))], ([((-1), 0)], 400)), (47, ([(0, 47), (0, 7)], [9], [(0, 24, .inr (.inl (1, 0)))], [], []), [(0, .inr (.inr (.inl 0))), (1, .inr (.inl (0, 0)))], ([((-1), 0)], 47))]
set_option maxRecDepth 100000 in
theorem vk_250 {X : nX} {L : Nat} {xs : Nat → Int32} {g : Nat} {S : List Nat} : nV nj_M X L xs g nFT nAT S (nJJ S) nk_250 :=
  aChk_ok (ctx := []) (W := ([gh_7, gh_8], [])) (ls := none) (cuts := nu_250) (fuel := 23) (nJJ_ok S)
    ⟨(fun c hc => by
    simp only [List.mem_cons, List.not_mem_nil, or_false] at hc
    rcases hc with rfl | rfl
    · exact gh_7_ok
    · exact gh_8_ok), (fun c hc => nomatch hc)⟩
    ((fun c hc => nomatch hc))
    (fun _ _ _ _ y hy => by cases hy) (by decide +kernel)
/-- Model_undo -/
def nk_251 : nK := (212, 0, ([], [9], [], [], []), [.inr (.inr (.inl 0))], [(9, 0), (9, 24)], [50], [(([((-1), 7)], [9], [], [], []), some (.inr (.inl (0, 0))))])
def nu_251 : List aCt := [(26, ([(0, 47), (0, 7)], [9], [(0, 24, .inr (.inl (1, 0)))], [], []), [(0, .inr (.inr (.inl 0))), (1, .inr (.inl (0, 0)))], ([((-1), 0)], 47))]
set_option maxRecDepth 100000 in
theorem wk_251 {X : nX} {L : Nat} {xs : Nat → Int32} {g : Nat} {S : List Nat} {cc : Option (Nat → Int32)} : nV nj_M X L xs g nFT nAT2 S (nJC S cc) nk_251 :=
  aChk_ok (ctx := []) (W := ([gh_9], [])) (ls := none) (cuts := nu_251) (fuel := 23) (nJC_ok S cc)
    ⟨(fun c hc => by
    simp only [List.mem_cons, List.not_mem_nil, or_false] at hc
    subst hc
    · exact gh_cc gh_9_ok), (fun c hc => nomatch hc)⟩
    ((fun c hc => nomatch hc))
    (fun _ _ _ _ y hy => by cases hy) (by decide +kernel)
theorem vk_251 {X : nX} {L : Nat} {xs : Nat → Int32} {g : Nat} {S : List Nat} : nV nj_M X L xs g nFT nAT S (nJJ S) nk_251 := nV_dd wk_251
/-- Model_tries0 -/
def nk_252 : nK := (216, 0, ([((-1), 9)], [9, 50], [(0, 6, .inr (.inr (.inl 1)))], [(1, .inl 138, .inr (.inl (0, 0)))], []), [.inr (.inr (.inl 0))], [], [57], [(([((-1), 9)], [9, 50, 57], [(0, 23, .inr (.inr (.inl 2)))], [(2, .inl 6, .inr (.inl (0, 0)))], []), none)])
def nu_252 : List aCt := [(2, ([((-1), 9), (0, 6)], [9, 50], [(0, 6, .inr (.inr (.inl 1)))], [(1, .inl 138, .inr (.inl (0, 0)))], []), [(0, .inr (.inr (.inl 0))), (1, .inr (.inl (1, 0)))], ([((-1), 1)], 60)), (2, ([((-1), 9), (7, 47)], [9, 50, 57], [(0, 6, .inr (.inr (.inl 1))), (0, 23, .inr (.inr (.inl 2)))], [(1, .inl 138, .inr (.inl (0, 0))), (2, .inl 6, .inr (.inl (0, 0)))], []), [(0, .inr (.inr (.inl 0))), (1, .inr (.inl (1, 0)))], ([((-1), 1)], 60))]
set_option maxRecDepth 100000 in
theorem vk_252 {X : nX} {L : Nat} {xs : Nat → Int32} {g : Nat} {S : List Nat} : nV nj_M X L xs g nFT nAT S (nJJ S) nk_252 :=
  aChk_ok (ctx := []) (W := ([gh_11], [])) (ls := none) (cuts := nu_252) (fuel := 18) (nJJ_ok S)
    ⟨(fun c hc => by
    simp only [List.mem_cons, List.not_mem_nil, or_false] at hc
    subst hc
    · exact gh_11_ok), (fun c hc => nomatch hc)⟩
    ((fun c hc => nomatch hc))
    (fun _ _ _ _ y hy => by cases hy) (by decide +kernel)
/-- Model_tries1 -/
def nk_253 : nK := (216, 0, ([((-1), 9)], [9, 50], [(0, 6, .inr (.inr (.inl 1)))], [(1, .inl 139, .inr (.inl (0, 0)))], []), [.inr (.inr (.inl 0))], [], [57], [(([((-1), 9)], [9, 50, 57], [(0, 23, .inr (.inr (.inl 2)))], [(2, .inl 7, .inr (.inl (0, 0)))], []), none)])
def nu_253 : List aCt := [(2, ([((-1), 9), (0, 7)], [9, 50], [(0, 6, .inr (.inr (.inl 1)))], [(1, .inl 139, .inr (.inl (0, 0)))], []), [(0, .inr (.inr (.inl 0))), (1, .inr (.inl (1, 0)))], ([((-1), 1)], 60)), (2, ([((-1), 9), (8, 47)], [9, 50, 57], [(0, 6, .inr (.inr (.inl 1))), (0, 23, .inr (.inr (.inl 2)))], [(1, .inl 139, .inr (.inl (0, 0))), (2, .inl 7, .inr (.inl (0, 0)))], []), [(0, .inr (.inr (.inl 0))), (1, .inr (.inl (1, 0)))], ([((-1), 1)], 60))]
set_option maxRecDepth 100000 in
theorem vk_253 {X : nX} {L : Nat} {xs : Nat → Int32} {g : Nat} {S : List Nat} : nV nj_M X L xs g nFT nAT S (nJJ S) nk_253 :=
  aChk_ok (ctx := []) (W := ([gh_11], [])) (ls := none) (cuts := nu_253) (fuel := 18) (nJJ_ok S)
    ⟨(fun c hc => by
    simp only [List.mem_cons, List.not_mem_nil, or_false] at hc
    subst hc
    · exact gh_11_ok), (fun c hc => nomatch hc)⟩
    ((fun c hc => nomatch hc))
    (fun _ _ _ _ y hy => by cases hy) (by decide +kernel)
/-- Model_tries2 -/
def nk_254 : nK := (216, 0, ([((-1), 9)], [9, 50], [(0, 6, .inr (.inr (.inl 1)))], [(1, .inl 140, .inr (.inl (0, 0)))], []), [.inr (.inr (.inl 0))], [], [57], [(([((-1), 9)], [9, 50, 57], [(0, 23, .inr (.inr (.inl 2)))], [(2, .inl 8, .inr (.inl (0, 0)))], []), none)])
def nu_254 : List aCt := [(2, ([((-1), 9), (0, 8)], [9, 50], [(0, 6, .inr (.inr (.inl 1)))], [(1, .inl 140, .inr (.inl (0, 0)))], []), [(0, .inr (.inr (.inl 0))), (1, .inr (.inl (1, 0)))], ([((-1), 1)], 60)), (2, ([((-1), 9), (9, 47)], [9, 50, 57], [(0, 6, .inr (.inr (.inl 1))), (0, 23, .inr (.inr (.inl 2)))], [(1, .inl 140, .inr (.inl (0, 0))), (2, .inl 8, .inr (.inl (0, 0)))], []), [(0, .inr (.inr (.inl 0))), (1, .inr (.inl (1, 0)))], ([((-1), 1)], 60))]
set_option maxRecDepth 100000 in
theorem vk_254 {X : nX} {L : Nat} {xs : Nat → Int32} {g : Nat} {S : List Nat} : nV nj_M X L xs g nFT nAT S (nJJ S) nk_254 :=
  aChk_ok (ctx := []) (W := ([gh_11], [])) (ls := none) (cuts := nu_254) (fuel := 18) (nJJ_ok S)
    ⟨(fun c hc => by
    simp only [List.mem_cons, List.not_mem_nil, or_false] at hc
    subst hc
    · exact gh_11_ok), (fun c hc => nomatch hc)⟩
    ((fun c hc => nomatch hc))
    (fun _ _ _ _ y hy => by cases hy) (by decide +kernel)
/-- Model_tries3 -/
def nk_255 : nK := (216, 0, ([((-1), 9)], [9, 50], [(0, 6, .inr (.inr (.inl 1)))], [(1, .inl 141, .inr (.inl (0, 0)))], []), [.inr (.inr (.inl 0))], [], [57], [(([((-1), 9)], [9, 50, 57], [(0, 23, .inr (.inr (.inl 2)))], [(2, .inl 9, .inr (.inl (0, 0)))], []), none)])
def nu_255 : List aCt := [(2, ([((-1), 9), (0, 9)], [9, 50], [(0, 6, .inr (.inr (.inl 1)))], [(1, .inl 141, .inr (.inl (0, 0)))], []), [(0, .inr (.inr (.inl 0))), (1, .inr (.inl (1, 0)))], ([((-1), 1)], 60)), (2, ([((-1), 9), (10, 47)], [9, 50, 57], [(0, 6, .inr (.inr (.inl 1))), (0, 23, .inr (.inr (.inl 2)))], [(1, .inl 141, .inr (.inl (0, 0))), (2, .inl 9, .inr (.inl (0, 0)))], []), [(0, .inr (.inr (.inl 0))), (1, .inr (.inl (1, 0)))], ([((-1), 1)], 60))]
set_option maxRecDepth 100000 in
theorem vk_255 {X : nX} {L : Nat} {xs : Nat → Int32} {g : Nat} {S : List Nat} : nV nj_M X L xs g nFT nAT S (nJJ S) nk_255 :=
  aChk_ok (ctx := []) (W := ([gh_11], [])) (ls := none) (cuts := nu_255) (fuel := 18) (nJJ_ok S)
    ⟨(fun c hc => by
    simp only [List.mem_cons, List.not_mem_nil, or_false] at hc
    subst hc
    · exact gh_11_ok), (fun c hc => nomatch hc)⟩
    ((fun c hc => nomatch hc))
    (fun _ _ _ _ y hy => by cases hy) (by decide +kernel)
/-- Model_tries4 -/
def nk_256 : nK := (216, 0, ([((-1), 9)], [9, 50], [(0, 6, .inr (.inr (.inl 1)))], [(1, .inl 142, .inr (.inl (0, 0)))], []), [.inr (.inr (.inl 0))], [], [57], [(([((-1), 9)], [9, 50, 57], [(0, 23, .inr (.inr (.inl 2)))], [(2, .inl 10, .inr (.inl (0, 0)))], []), none)])
def nu_256 : List aCt := [(2, ([((-1), 9), (0, 10)], [9, 50], [(0, 6, .inr (.inr (.inl 1)))], [(1, .inl 142, .inr (.inl (0, 0)))], []), [(0, .inr (.inr (.inl 0))), (1, .inr (.inl (1, 0)))], ([((-1), 1)], 60)), (2, ([((-1), 9), (11, 47)], [9, 50, 57], [(0, 6, .inr (.inr (.inl 1))), (0, 23, .inr (.inr (.inl 2)))], [(1, .inl 142, .inr (.inl (0, 0))), (2, .inl 10, .inr (.inl (0, 0)))], []), [(0, .inr (.inr (.inl 0))), (1, .inr (.inl (1, 0)))], ([((-1), 1)], 60))]
set_option maxRecDepth 100000 in
theorem vk_256 {X : nX} {L : Nat} {xs : Nat → Int32} {g : Nat} {S : List Nat} : nV nj_M X L xs g nFT nAT S (nJJ S) nk_256 :=
  aChk_ok (ctx := []) (W := ([gh_11], [])) (ls := none) (cuts := nu_256) (fuel := 18) (nJJ_ok S)
    ⟨(fun c hc => by
    simp only [List.mem_cons, List.not_mem_nil, or_false] at hc
    subst hc
    · exact gh_11_ok), (fun c hc => nomatch hc)⟩
    ((fun c hc => nomatch hc))
    (fun _ _ _ _ y hy => by cases hy) (by decide +kernel)
/-- Model_tries5 -/
def nk_257 : nK := (216, 0, ([((-1), 9)], [9, 50], [(0, 6, .inr (.inr (.inl 1)))], [(1, .inl 143, .inr (.inl (0, 0)))], []), [.inr (.inr (.inl 0))], [], [57], [(([((-1), 9)], [9, 50, 57], [(0, 23, .inr (.inr (.inl 2)))], [(2, .inl 11, .inr (.inl (0, 0)))], []), none)])
def nu_257 : List aCt := [(2, ([((-1), 9), (0, 11)], [9, 50], [(0, 6, .inr (.inr (.inl 1)))], [(1, .inl 143, .inr (.inl (0, 0)))], []), [(0, .inr (.inr (.inl 0))), (1, .inr (.inl (1, 0)))], ([((-1), 1)], 60)), (2, ([((-1), 9), (12, 47)], [9, 50, 57], [(0, 6, .inr (.inr (.inl 1))), (0, 23, .inr (.inr (.inl 2)))], [(1, .inl 143, .inr (.inl (0, 0))), (2, .inl 11, .inr (.inl (0, 0)))], []), [(0, .inr (.inr (.inl 0))), (1, .inr (.inl (1, 0)))], ([((-1), 1)], 60))]
set_option maxRecDepth 100000 in
theorem vk_257 {X : nX} {L : Nat} {xs : Nat → Int32} {g : Nat} {S : List Nat} : nV nj_M X L xs g nFT nAT S (nJJ S) nk_257 :=
  aChk_ok (ctx := []) (W := ([gh_11], [])) (ls := none) (cuts := nu_257) (fuel := 18) (nJJ_ok S)
    ⟨(fun c hc => by
    simp only [List.mem_cons, List.not_mem_nil, or_false] at hc
    subst hc
    · exact gh_11_ok), (fun c hc => nomatch hc)⟩
    ((fun c hc => nomatch hc))
    (fun _ _ _ _ y hy => by cases hy) (by decide +kernel)
/-- Model_back0 -/
def nk_258 : nK := (217, 0, ([((-1), 9)], [9, 57, 50], [(0, 23, .inr (.inr (.inl 1))), (0, 6, .inr (.inr (.inl 2)))], [(1, .inl 6, .inr (.inl (0, 0)))], []), [.inr (.inr (.inl 0))], [], [50], [(([((-1), 9)], [9, 57, 50], [], [(2, .inl 138, .inr (.inl (0, 0)))], []), none)])
def nu_258 : List aCt := [(2, ([((-1), 9), (0, 6)], [9, 57, 50], [(0, 23, .inr (.inr (.inl 1))), (0, 6, .inr (.inr (.inl 2)))], [(1, .inl 6, .inr (.inl (0, 0)))], []), [(0, .inr (.inr (.inl 0))), (1, .inr (.inl (1, 0)))], ([((-1), 1)], 60)), (2, ([((-1), 9), (7, 47)], [9, 57, 50], [(0, 23, .inr (.inr (.inl 1))), (0, 6, .inr (.inr (.inl 2)))], [(1, .inl 6, .inr (.inl (0, 0))), (2, .inl 138, .inr (.inl (0, 0)))], []), [(0, .inr (.inr (.inl 0))), (1, .inr (.inl (1, 0)))], ([((-1), 1)], 60))]
set_option maxRecDepth 100000 in
theorem wk_258 {X : nX} {L : Nat} {xs : Nat → Int32} {g : Nat} {S : List Nat} {cc : Option (Nat → Int32)} : nV nj_M X L xs g nFT nAT2 S (nJC S cc) nk_258 :=
  aChk_ok (ctx := []) (W := ([gh_12], [])) (ls := none) (cuts := nu_258) (fuel := 18) (nJC_ok S cc)
    ⟨(fun c hc => by
    simp only [List.mem_cons, List.not_mem_nil, or_false] at hc
    subst hc
    · exact gh_cc gh_12_ok), (fun c hc => nomatch hc)⟩
    ((fun c hc => nomatch hc))
    (fun _ _ _ _ y hy => by cases hy) (by decide +kernel)
theorem vk_258 {X : nX} {L : Nat} {xs : Nat → Int32} {g : Nat} {S : List Nat} : nV nj_M X L xs g nFT nAT S (nJJ S) nk_258 := nV_dd wk_258
/-- Model_back1 -/
def nk_259 : nK := (217, 0, ([((-1), 9)], [9, 57, 50], [(0, 23, .inr (.inr (.inl 1))), (0, 6, .inr (.inr (.inl 2)))], [(1, .inl 7, .inr (.inl (0, 0)))], []), [.inr (.inr (.inl 0))], [], [50], [(([((-1), 9)], [9, 57, 50], [], [(2, .inl 139, .inr (.inl (0, 0)))], []), none)])
def nu_259 : List aCt := [(2, ([((-1), 9), (0, 7)], [9, 57, 50], [(0, 23, .inr (.inr (.inl 1))), (0, 6, .inr (.inr (.inl 2)))], [(1, .inl 7, .inr (.inl (0, 0)))], []), [(0, .inr (.inr (.inl 0))), (1, .inr (.inl (1, 0)))], ([((-1), 1)], 60)), (2, ([((-1), 9), (8, 47)], [9, 57, 50], [(0, 23, .inr (.inr (.inl 1))), (0, 6, .inr (.inr (.inl 2)))], [(1, .inl 7, .inr (.inl (0, 0))), (2, .inl 139, .inr (.inl (0, 0)))], []), [(0, .inr (.inr (.inl 0))), (1, .inr (.inl (1, 0)))], ([((-1), 1)], 60))]
set_option maxRecDepth 100000 in
theorem wk_259 {X : nX} {L : Nat} {xs : Nat → Int32} {g : Nat} {S : List Nat} {cc : Option (Nat → Int32)} : nV nj_M X L xs g nFT nAT2 S (nJC S cc) nk_259 :=
  aChk_ok (ctx := []) (W := ([gh_12], [])) (ls := none) (cuts := nu_259) (fuel := 18) (nJC_ok S cc)
    ⟨(fun c hc => by
    simp only [List.mem_cons, List.not_mem_nil, or_false] at hc
    subst hc
    · exact gh_cc gh_12_ok), (fun c hc => nomatch hc)⟩
    ((fun c hc => nomatch hc))
    (fun _ _ _ _ y hy => by cases hy) (by decide +kernel)
theorem vk_259 {X : nX} {L : Nat} {xs : Nat → Int32} {g : Nat} {S : List Nat} : nV nj_M X L xs g nFT nAT S (nJJ S) nk_259 := nV_dd wk_259
