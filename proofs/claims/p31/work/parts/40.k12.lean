/-- Model_who -/
def nk_283 : nK := (228, 3, ([((-2147483648), 2147483647)], [9], [], [], []), [.inr (.inr (.inl 0)), .inr (.inl (0, 0))], [(9, 0), (9, 2), (9, 3), (9, 4), (9, 5)], [50, 55, 57], [(([((-2147483648), 2147483647), ((-2147483648), 2147483647)], [9], [], [], []), some (.inr (.inl (1, 0))))])
def nu_283 : List aCt := [(53, ([(0, 3), ((-2147483648), 2147483647), (0, 10), (0, 12)], [9], [(0, 3, .inr (.inl (3, 0)))], [], []), [(0, .inr (.inr (.inl 0))), (1, .inr (.inl (0, 0))), (2, .inr (.inl (1, 0))), (3, .inr (.inl (2, 0)))], ([((-31), 2)], 340)), (91, ([(0, 3), ((-2147483648), 2147483647), (0, 9), (0, 1), (0, 12), (0, 12)], [9], [(0, 3, .inr (.inl (5, 0)))], [], []), [(0, .inr (.inr (.inl 0))), (1, .inr (.inl (0, 0))), (2, .inr (.inl (1, 0))), (3, .inr (.inl (2, 0))), (4, .inr (.inl (3, 0))), (5, .inr (.inl (4, 0)))], ([((-31), 2), ((-2), 4)], 335))]
set_option maxRecDepth 100000 in
theorem wk_283 {X : nX} {L : Nat} {xs : Nat → Int32} {g : Nat} {S : List Nat} {cc : Option (Nat → Int32)} : nV nj_M X L xs g nFT nAT2 S (nJC S cc) nk_283 :=
  aChk_ok (ctx := [nk_264, nk_265, nk_268]) (W := ([], [])) (ls := none) (cuts := nu_283) (fuel := 528) (nJC_ok S cc)
    ⟨(fun c hc => nomatch hc), (fun c hc => nomatch hc)⟩
    ((fun c hc => by
    simp only [List.mem_cons, List.not_mem_nil, or_false] at hc
    rcases hc with rfl | rfl | rfl
    · exact nV_cc vk_264 (by decide)
    · exact wk_265
    · exact wk_268))
    (fun _ _ _ _ y hy => by cases hy) (by decide +kernel)
theorem vk_283 {X : nX} {L : Nat} {xs : Nat → Int32} {g : Nat} {S : List Nat} : nV nj_M X L xs g nFT nAT S (nJJ S) nk_283 := nV_dd wk_283
/-- Model_wornBy -/
def nk_284 : nK := (230, 0, ([], [9], [], [], []), [.inr (.inr (.inl 0))], [(9, 0)], [], [(([((-2147483648), 2147483647)], [9], [], [], []), some (.inr (.inl (0, 0))))])
def nu_284 : List aCt := []
set_option maxRecDepth 100000 in
theorem vk_284 {X : nX} {L : Nat} {xs : Nat → Int32} {g : Nat} {S : List Nat} : nV nj_M X L xs g nFT nAT S (nJJ S) nk_284 :=
  aChk_ok (ctx := []) (W := ([], [])) (ls := none) (cuts := nu_284) (fuel := 12) (nJJ_ok S)
    ⟨(fun c hc => nomatch hc), (fun c hc => nomatch hc)⟩
    ((fun c hc => nomatch hc))
    (fun _ _ _ _ y hy => by cases hy) (by decide +kernel)
/-- Model_wornLoss -/
def nk_285 : nK := (231, 0, ([], [9], [], [], []), [.inr (.inr (.inl 0))], [(9, 0)], [], [(([((-2147483648), 2147483647)], [9], [], [], []), some (.inr (.inl (0, 0))))])
def nu_285 : List aCt := []
set_option maxRecDepth 100000 in
theorem vk_285 {X : nX} {L : Nat} {xs : Nat → Int32} {g : Nat} {S : List Nat} : nV nj_M X L xs g nFT nAT S (nJJ S) nk_285 :=
  aChk_ok (ctx := []) (W := ([], [])) (ls := none) (cuts := nu_285) (fuel := 12) (nJJ_ok S)
    ⟨(fun c hc => nomatch hc), (fun c hc => nomatch hc)⟩
    ((fun c hc => nomatch hc))
    (fun _ _ _ _ y hy => by cases hy) (by decide +kernel)
/-- Model_giftsBy -/
def nk_286 : nK := (233, 3, ([((-2147483648), 2147483647)], [9], [], [], []), [.inr (.inr (.inl 0)), .inr (.inl (0, 0))], [], [61], [(([((-2147483648), 2147483647), ((-2147483648), 2147483647)], [9], [], [], []), some (.inr (.inl (1, 0))))])
def nu_286 : List aCt := [(7, ([((-2147483648), 2147483647), ((-2147483648), 2147483647), ((-2147483648), 2147483647), (0, 6)], [9], [], [], []), [(0, .inr (.inr (.inl 0))), (1, .inr (.inl (0, 0))), (2, .inr (.inl (1, 0))), (3, .inr (.inl (2, 0))), (4, .inr (.inl (3, 0)))], ([((-2), 3)], 13))]
set_option maxRecDepth 100000 in
theorem vk_286 {X : nX} {L : Nat} {xs : Nat → Int32} {g : Nat} {S : List Nat} : nV nj_M X L xs g nFT nAT S (nJJ S) nk_286 :=
  aChk_ok (ctx := [nk_271]) (W := ([], [])) (ls := none) (cuts := nu_286) (fuel := 113) (nJJ_ok S)
    ⟨(fun c hc => nomatch hc), (fun c hc => nomatch hc)⟩
    ((fun c hc => by
    simp only [List.mem_cons, List.not_mem_nil, or_false] at hc
    subst hc
    · exact vk_271))
    (fun _ _ _ _ y hy => by cases hy) (by decide +kernel)
/-- Model_gifts -/
def nk_287 : nK := (232, 4, ([], [9], [], [], []), [.inr (.inr (.inl 0))], [(9, 0), (9, 33)], [60, 61], [(([((-1), 2147483647)], [9], [], [], []), some (.inr (.inl (0, 0))))])
def nu_287 : List aCt := [(9, ([((-1), 2147483647), (0, 2147483647)], [9], [], [], []), [(0, .inr (.inr (.inl 0))), (1, .inr (.inl (0, 0))), (2, .inr (.inl (1, 0)))], ([((-19), 1)], 40802189311)), (48, ([(0, 2147483647), (0, 2147483646), (0, 6)], [9], [], [], []), [(0, .inr (.inr (.inl 0))), (1, .inr (.inl (0, 0))), (2, .inr (.inl (1, 0))), (4, .inr (.inl (2, 0)))], ([((-19), 1), ((-2), 2)], 40802189306))]
set_option maxRecDepth 100000 in
theorem vk_287 {X : nX} {L : Nat} {xs : Nat → Int32} {g : Nat} {S : List Nat} : nV nj_M X L xs g nFT nAT S (nJJ S) nk_287 :=
  aChk_ok (ctx := [nk_286]) (W := ([], [])) (ls := none) (cuts := nu_287) (fuel := 26) (nJJ_ok S)
    ⟨(fun c hc => nomatch hc), (fun c hc => nomatch hc)⟩
    ((fun c hc => by
    simp only [List.mem_cons, List.not_mem_nil, or_false] at hc
    subst hc
    · exact vk_286))
    (fun _ _ _ _ y hy => by cases hy) (by decide +kernel)
/-- Model_gift -/
def nk_288 : nK := (234, 1, ([((-2147483648), 2147483647)], [9], [], [], []), [.inr (.inr (.inl 0)), .inr (.inl (0, 0))], [(9, 0)], [], [(([((-2147483648), 2147483647), ((-2147483648), 2147483647)], [9], [], [], []), some (.inr (.inl (1, 0))))])
def nu_288 : List aCt := []
set_option maxRecDepth 100000 in
theorem vk_288 {X : nX} {L : Nat} {xs : Nat → Int32} {g : Nat} {S : List Nat} : nV nj_M X L xs g nFT nAT S (nJJ S) nk_288 :=
  aChk_ok (ctx := []) (W := ([], [])) (ls := none) (cuts := nu_288) (fuel := 28) (nJJ_ok S)
    ⟨(fun c hc => nomatch hc), (fun c hc => nomatch hc)⟩
    ((fun c hc => nomatch hc))
    (fun _ _ _ _ y hy => by cases hy) (by decide +kernel)
/-- Model_madeBy -/
def nk_289 : nK := (237, 1, ([((-2147483648), 2147483647), ((-2147483648), 2147483647)], [9], [], [], []), [.inr (.inr (.inl 0)), .inr (.inl (0, 0)), .inr (.inl (1, 0))], [], [], [(([((-2147483648), 2147483647), ((-2147483648), 2147483647), ((-2147483648), 2147483647)], [9], [], [], []), some (.inr (.inl (2, 0))))])
def nu_289 : List aCt := [(5, ([((-2147483648), 2147483647), ((-2147483648), 2147483647), ((-2147483648), 2147483647), (0, 6)], [9], [], [], []), [(0, .inr (.inr (.inl 0))), (1, .inr (.inl (0, 0))), (3, .inr (.inl (2, 0))), (4, .inr (.inl (3, 0)))], ([((-2), 3)], 13))]
set_option maxRecDepth 100000 in
theorem vk_289 {X : nX} {L : Nat} {xs : Nat → Int32} {g : Nat} {S : List Nat} : nV nj_M X L xs g nFT nAT S (nJJ S) nk_289 :=
  aChk_ok (ctx := []) (W := ([], [])) (ls := none) (cuts := nu_289) (fuel := 40) (nJJ_ok S)
    ⟨(fun c hc => nomatch hc), (fun c hc => nomatch hc)⟩
    ((fun c hc => nomatch hc))
    (fun _ _ _ _ y hy => by cases hy) (by decide +kernel)
/-- Model_together -/
def nk_290 : nK := (235, 2, ([((-2147483648), 2147483647), ((-2147483648), 2147483647)], [9], [], [], []), [.inr (.inr (.inl 0)), .inr (.inl (0, 0)), .inr (.inl (1, 0))], [(9, 0)], [], [(([((-2147483648), 2147483647), ((-2147483648), 2147483647), ((-2147483648), 2147483647)], [9], [], [], []), some (.inr (.inl (2, 0))))])
def nu_290 : List aCt := []
set_option maxRecDepth 100000 in
theorem vk_290 {X : nX} {L : Nat} {xs : Nat → Int32} {g : Nat} {S : List Nat} : nV nj_M X L xs g nFT nAT S (nJJ S) nk_290 :=
  aChk_ok (ctx := [nk_289]) (W := ([], [])) (ls := none) (cuts := nu_290) (fuel := 51) (nJJ_ok S)
    ⟨(fun c hc => nomatch hc), (fun c hc => nomatch hc)⟩
    ((fun c hc => by
    simp only [List.mem_cons, List.not_mem_nil, or_false] at hc
    subst hc
    · exact vk_289))
    (fun _ _ _ _ y hy => by cases hy) (by decide +kernel)
/-- Model_rests -/
def nk_291 : nK := (238, 2, ([((-2147483648), 2147483647)], [9], [], [], []), [.inr (.inr (.inl 0)), .inr (.inl (0, 0))], [(9, 0)], [], [(([((-2147483648), 2147483647), ((-1), 6)], [9], [], [], []), some (.inr (.inl (1, 0))))])
def nu_291 : List aCt := [(28, ([(0, 2147483646), ((-2147483648), 2147483647), (0, 7)], [9], [], [], []), [(0, .inr (.inr (.inl 0))), (1, .inr (.inl (0, 0))), (2, .inr (.inl (1, 0))), (3, .inr (.inl (2, 0)))], ([((-19), 2)], 151)), (40, ([(0, 2147483646), ((-2147483648), 2147483647), (0, 6), ((-2147483648), 2147483647), (0, 6)], [9], [], [], []), [(0, .inr (.inr (.inl 0))), (1, .inr (.inl (0, 0))), (2, .inr (.inl (1, 0))), (3, .inr (.inl (2, 0))), (4, .inr (.inl (3, 0))), (5, .inr (.inl (4, 0)))], ([((-19), 2), ((-2), 4)], 146))]
set_option maxRecDepth 100000 in
theorem vk_291 {X : nX} {L : Nat} {xs : Nat → Int32} {g : Nat} {S : List Nat} : nV nj_M X L xs g nFT nAT S (nJJ S) nk_291 :=
  aChk_ok (ctx := [nk_289]) (W := ([], [])) (ls := none) (cuts := nu_291) (fuel := 35) (nJJ_ok S)
    ⟨(fun c hc => nomatch hc), (fun c hc => nomatch hc)⟩
    ((fun c hc => by
    simp only [List.mem_cons, List.not_mem_nil, or_false] at hc
    subst hc
    · exact vk_289))
    (fun _ _ _ _ y hy => by cases hy) (by decide +kernel)
/-- Model_isRightBy -/
def nk_292 : nK := (240, 2, ([((-2147483648), 2147483647), (0, 3)], [9], [], [], []), [.inr (.inr (.inl 0)), .inr (.inl (0, 0)), .inr (.inl (1, 0))], [], [], [(([((-2147483648), 2147483647), (0, 3), (0, 1)], [9], [], [], []), some (.inr (.inl (2, 0))))])
def nu_292 : List aCt := [(2, ([((-2147483648), 2147483647), (0, 3), (0, 12)], [9], [], [], []), [(0, .inr (.inr (.inl 0))), (1, .inr (.inl (0, 0))), (2, .inr (.inl (1, 0))), (3, .inr (.inl (2, 0)))], ([((-2), 2)], 25))]
set_option maxRecDepth 100000 in
theorem vk_292 {X : nX} {L : Nat} {xs : Nat → Int32} {g : Nat} {S : List Nat} : nV nj_M X L xs g nFT nAT S (nJJ S) nk_292 :=
  aChk_ok (ctx := [nk_289]) (W := ([], [])) (ls := none) (cuts := nu_292) (fuel := 37) (nJJ_ok S)
    ⟨(fun c hc => nomatch hc), (fun c hc => nomatch hc)⟩
    ((fun c hc => by
    simp only [List.mem_cons, List.not_mem_nil, or_false] at hc
    subst hc
    · exact vk_289))
    (fun _ _ _ _ y hy => by cases hy) (by decide +kernel)
/-- Model_cancel -/
def nk_293 : nK := (239, 3, ([((-2147483648), 2147483647), ((-2147483648), 2147483647)], [9], [], [], []), [.inr (.inr (.inl 0)), .inr (.inl (0, 0)), .inr (.inl (1, 0))], [(9, 0)], [], [(([((-2147483648), 2147483647), ((-2147483648), 2147483647), ((-2147483648), 2147483647)], [9], [], [], []), some (.inr (.inl (2, 0))))])
def nu_293 : List aCt := [(25, ([(0, 3), ((-1), 2147483647), ((-2147483648), 2147483647), (0, 6)], [9], [], [], []), [(0, .inr (.inr (.inl 0))), (1, .inr (.inl (0, 0))), (2, .inr (.inl (1, 0))), (3, .inr (.inl (2, 0))), (4, .inr (.inl (3, 0)))], ([((-17), 3)], 118)), (42, ([(0, 3), ((-1), 2147483647), ((-2147483648), 2147483647), (0, 5), (1, 6)], [9], [], [], []), [(0, .inr (.inr (.inl 0))), (1, .inr (.inl (0, 0))), (2, .inr (.inl (1, 0))), (3, .inr (.inl (2, 0))), (4, .inr (.inl (3, 0))), (5, .inr (.inl (4, 0)))], ([((-17), 3), ((-2), 4)], 115))]
set_option maxRecDepth 100000 in
theorem vk_293 {X : nX} {L : Nat} {xs : Nat → Int32} {g : Nat} {S : List Nat} : nV nj_M X L xs g nFT nAT S (nJJ S) nk_293 :=
  aChk_ok (ctx := [nk_292]) (W := ([], [])) (ls := none) (cuts := nu_293) (fuel := 42) (nJJ_ok S)
    ⟨(fun c hc => nomatch hc), (fun c hc => nomatch hc)⟩
    ((fun c hc => by
    simp only [List.mem_cons, List.not_mem_nil, or_false] at hc
    subst hc
    · exact vk_292))
    (fun _ _ _ _ y hy => by cases hy) (by decide +kernel)
/-- Model_under -/
def nk_294 : nK := (241, 2, ([((-2147483648), 2147483647)], [9], [], [], []), [.inr (.inr (.inl 0)), .inr (.inl (0, 0))], [(9, 0)], [], [(([((-2147483648), 2147483647), ((-2147483648), 2147483647)], [9], [], [], []), some (.inr (.inl (1, 0))))])
def nu_294 : List aCt := []
set_option maxRecDepth 100000 in
theorem vk_294 {X : nX} {L : Nat} {xs : Nat → Int32} {g : Nat} {S : List Nat} : nV nj_M X L xs g nFT nAT S (nJJ S) nk_294 :=
  aChk_ok (ctx := [nk_222]) (W := ([], [])) (ls := none) (cuts := nu_294) (fuel := 33) (nJJ_ok S)
    ⟨(fun c hc => nomatch hc), (fun c hc => nomatch hc)⟩
    ((fun c hc => by
    simp only [List.mem_cons, List.not_mem_nil, or_false] at hc
    subst hc
    · exact vk_222))
    (fun _ _ _ _ y hy => by cases hy) (by decide +kernel)
/-- Model_common -/
def nk_295 : nK := (242, 2, ([((-2147483648), 2147483647), ((-2147483648), 2147483647)], [9], [], [], []), [.inr (.inr (.inl 0)), .inr (.inl (0, 0)), .inr (.inl (1, 0))], [(9, 0)], [], [(([((-2147483648), 2147483647), ((-2147483648), 2147483647), ((-1), 9)], [9], [], [], []), some (.inr (.inl (2, 0))))])
def nu_295 : List aCt := [(25, ([((-2147483648), 2147483647), ((-2147483648), 2147483647), ((-1), 9)], [9], [], [], []), [(0, .inr (.inr (.inl 0))), (2, .inr (.inl (1, 0))), (3, .inr (.inl (2, 0)))], ([(1, 2)], 1)), (25, ([(0, 9), ((-2147483648), 2147483647)], [9], [], [], []), [(0, .inr (.inr (.inl 0))), (2, .inr (.inl (1, 0))), (3, .inr (.inl (0, 0)))], ([(1, 0)], 2))]
set_option maxRecDepth 100000 in
theorem vk_295 {X : nX} {L : Nat} {xs : Nat → Int32} {g : Nat} {S : List Nat} : nV nj_M X L xs g nFT nAT S (nJJ S) nk_295 :=
  aChk_ok (ctx := [nk_222]) (W := ([gh_14], [])) (ls := none) (cuts := nu_295) (fuel := 54) (nJJ_ok S)
    ⟨(fun c hc => by
    simp only [List.mem_cons, List.not_mem_nil, or_false] at hc
    subst hc
    · exact gh_14_ok), (fun c hc => nomatch hc)⟩
    ((fun c hc => by
    simp only [List.mem_cons, List.not_mem_nil, or_false] at hc
    subst hc
    · exact vk_222))
    (fun _ _ _ _ y hy => by cases hy) (by decide +kernel)
/-- Model_draws -/
def nk_296 : nK := (244, 5, ([(1, 60), ((-2147483648), 2147483647)], [9], [], [], []), [.inr (.inr (.inl 0)), .inr (.inl (0, 0)), .inr (.inl (1, 0))], [(9, 34)], [50, 55], [(([(1, 60), ((-2147483648), 2147483647)], [9], [], [], []), none)])
def nu_296 : List aCt := [(7, ([(1, 60), ((-2147483648), 2147483647), (0, 64)], [9], [], [], []), [(0, .inr (.inr (.inl 0))), (1, .inr (.inl (0, 0))), (3, .inr (.inl (2, 0)))], ([((-27), 2)], 1754)), (15, ([(1, 60), ((-2147483648), 2147483647), (0, 60), (0, 10)], [9], [], [], []), [(0, .inr (.inr (.inl 0))), (1, .inr (.inl (0, 0))), (3, .inr (.inl (2, 0))), (4, .inr (.inl (3, 0)))], ([((-27), 2), ((-2), 3)], 1749))]
set_option maxRecDepth 100000 in
theorem wk_296 {X : nX} {L : Nat} {xs : Nat → Int32} {g : Nat} {S : List Nat} {cc : Option (Nat → Int32)} : nV nj_M X L xs g nFT nAT2 S (nJC S cc) nk_296 :=
  aChk_ok (ctx := [nk_269, nk_270]) (W := ([], [])) (ls := none) (cuts := nu_296) (fuel := 101) (nJC_ok S cc)
    ⟨(fun c hc => nomatch hc), (fun c hc => nomatch hc)⟩
    ((fun c hc => by
    simp only [List.mem_cons, List.not_mem_nil, or_false] at hc
    rcases hc with rfl | rfl
    · exact wk_269
    · exact wk_270))
    (fun _ _ _ _ y hy => by cases hy) (by decide +kernel)
theorem vk_296 {X : nX} {L : Nat} {xs : Nat → Int32} {g : Nat} {S : List Nat} : nV nj_M X L xs g nFT nAT S (nJJ S) nk_296 := nV_dd wk_296
/-- Model_drawn -/
def nk_297 : nK := (243, 6, ([((-2147483648), 2147483647), ((-2147483648), 2147483647)], [9], [], [], []), [.inr (.inr (.inl 0)), .inr (.inl (0, 0)), .inr (.inl (1, 0))], [(9, 0), (9, 24), (9, 34)], [50, 55, 56], [(([((-2147483648), 2147483647), ((-2147483648), 2147483647), ((-2147483648), 2147483647)], [9], [], [], []), some (.inr (.inl (2, 0))))])
def nu_297 : List aCt := []
set_option maxRecDepth 100000 in
theorem wk_297 {X : nX} {L : Nat} {xs : Nat → Int32} {g : Nat} {S : List Nat} {cc : Option (Nat → Int32)} : nV nj_M X L xs g nFT nAT2 S (nJC S cc) nk_297 :=
  aChk_ok (ctx := [nk_250, nk_296]) (W := ([], [])) (ls := none) (cuts := nu_297) (fuel := 38) (nJC_ok S cc)
    ⟨(fun c hc => nomatch hc), (fun c hc => nomatch hc)⟩
    ((fun c hc => by
    simp only [List.mem_cons, List.not_mem_nil, or_false] at hc
    rcases hc with rfl | rfl
    · exact nV_cc vk_250 (by decide)
    · exact wk_296))
    (fun _ _ _ _ y hy => by cases hy) (by decide +kernel)
theorem vk_297 {X : nX} {L : Nat} {xs : Nat → Int32} {g : Nat} {S : List Nat} : nV nj_M X L xs g nFT nAT S (nJJ S) nk_297 := nV_dd wk_297
/-- Model_odds -/
def nk_298 : nK := (246, 6, ([((-2147483648), 2147483647), ((-2147483648), 2147483647), ((-2147483648), 2147483647)], [9], [], [], []), [.inr (.inr (.inl 0)), .inr (.inl (0, 0)), .inr (.inl (1, 0)), .inr (.inl (2, 0))], [(9, 0), (9, 34)], [50, 55, 57], [(([((-2147483648), 2147483647), ((-2147483648), 2147483647), ((-2147483648), 2147483647), ((-2147483648), 2147483647)], [9], [], [], []), some (.inr (.inl (3, 0))))])
def nu_298 : List aCt := [(52, ([(0, 5), (1, 40), ((-2147483648), 2147483647), ((-2147483648), 2147483647), (0, 40)], [9], [], [], []), [(0, .inr (.inr (.inl 0))), (1, .inr (.inl (0, 0))), (2, .inr (.inl (1, 0))), (3, .inr (.inl (2, 0))), (4, .inr (.inl (3, 0))), (5, .inr (.inl (4, 0)))], ([((-2), 4)], 81))]
set_option maxRecDepth 100000 in
theorem wk_298 {X : nX} {L : Nat} {xs : Nat → Int32} {g : Nat} {S : List Nat} {cc : Option (Nat → Int32)} : nV nj_M X L xs g nFT nAT2 S (nJC S cc) nk_298 :=
  aChk_ok (ctx := [nk_264, nk_265, nk_296]) (W := ([], [])) (ls := none) (cuts := nu_298) (fuel := 57) (nJC_ok S cc)
    ⟨(fun c hc => nomatch hc), (fun c hc => nomatch hc)⟩
    ((fun c hc => by
    simp only [List.mem_cons, List.not_mem_nil, or_false] at hc
    rcases hc with rfl | rfl | rfl
    · exact nV_cc vk_264 (by decide)
    · exact wk_265
    · exact wk_296))
    (fun _ _ _ _ y hy => by cases hy) (by decide +kernel)
theorem vk_298 {X : nX} {L : Nat} {xs : Nat → Int32} {g : Nat} {S : List Nat} : nV nj_M X L xs g nFT nAT S (nJJ S) nk_298 := nV_dd wk_298
/-- Model_told -/
def nk_299 : nK := (250, 1, ([((-2147483648), 2147483647)], [9], [], [], []), [.inr (.inr (.inl 0)), .inr (.inl (0, 0))], [(9, 0)], [], [(([((-2147483648), 2147483647), ((-2147483648), 2147483647)], [9], [], [], []), some (.inr (.inl (1, 0))))])
def nu_299 : List aCt := []
set_option maxRecDepth 100000 in
theorem vk_299 {X : nX} {L : Nat} {xs : Nat → Int32} {g : Nat} {S : List Nat} : nV nj_M X L xs g nFT nAT S (nJJ S) nk_299 :=
  aChk_ok (ctx := []) (W := ([], [])) (ls := none) (cuts := nu_299) (fuel := 28) (nJJ_ok S)
    ⟨(fun c hc => nomatch hc), (fun c hc => nomatch hc)⟩
    ((fun c hc => nomatch hc))
    (fun _ _ _ _ y hy => by cases hy) (by decide +kernel)
/-- Model_count -/
def nk_300 : nK := (264, 1, ([((-2147483648), 2147483647)], [9], [], [], []), [.inr (.inr (.inl 0)), .inr (.inl (0, 0))], [(9, 0)], [], [(([((-2147483648), 2147483647), ((-1), 940)], [9], [], [], []), some (.inr (.inl (1, 0))))])
def nu_300 : List aCt := []
set_option maxRecDepth 100000 in
theorem vk_300 {X : nX} {L : Nat} {xs : Nat → Int32} {g : Nat} {S : List Nat} : nV nj_M X L xs g nFT nAT S (nJJ S) nk_300 :=
  aChk_ok (ctx := []) (W := ([], [])) (ls := none) (cuts := nu_300) (fuel := 28) (nJJ_ok S)
    ⟨(fun c hc => nomatch hc), (fun c hc => nomatch hc)⟩
    ((fun c hc => nomatch hc))
    (fun _ _ _ _ y hy => by cases hy) (by decide +kernel)
/-- Model_areSteps -/
def nk_301 : nK := (223, 2, ([], [9], [], [], []), [.inr (.inr (.inl 0))], [], [], [(([(0, 1)], [9], [], [], []), some (.inr (.inl (0, 0))))])
def nu_301 : List aCt := [(2, ([(0, 940)], [9], [], [], []), [(0, .inr (.inr (.inl 0))), (1, .inr (.inl (0, 0)))], ([((-2), 0)], 1881))]
set_option maxRecDepth 100000 in
theorem vk_301 {X : nX} {L : Nat} {xs : Nat → Int32} {g : Nat} {S : List Nat} : nV nj_M X L xs g nFT nAT S (nJJ S) nk_301 :=
  aChk_ok (ctx := []) (W := ([], [])) (ls := none) (cuts := nu_301) (fuel := 41) (nJJ_ok S)
    ⟨(fun c hc => nomatch hc), (fun c hc => nomatch hc)⟩
    ((fun c hc => nomatch hc))
    (fun _ _ _ _ y hy => by cases hy) (by decide +kernel)
/-- Model_nextRow1 -/
def nk_302 : nK := (226, 0, ([(0, 5), (0, 5), (0, 5), (0, 5), (0, 5), (0, 5)], [9, 58], [(0, 25, .inr (.inr (.inl 1)))], [(1, .inl 0, .inr (.inl (0, 0))), (1, .inl 1, .inr (.inl (1, 0))), (1, .inl 2, .inr (.inl (2, 0))), (1, .inl 3, .inr (.inl (3, 0))), (1, .inl 4, .inr (.inl (4, 0))), (1, .inl 5, .inr (.inl (5, 0)))], []), [.inr (.inr (.inl 0)), .inl 1], [], [58], [(([(0, 5), (0, 5), (0, 5), (0, 5), (0, 5), (0, 5)], [9, 58], [], [], []), some (.inl 0)), (([(0, 5), (0, 5), (0, 5), (0, 5), (0, 5), (0, 5), (0, 5), (0, 5), (0, 5), (0, 5), (0, 5), (0, 5)], [9, 58], [], [(1, .inl 0, .inr (.inl (6, 0))), (1, .inl 1, .inr (.inl (7, 0))), (1, .inl 2, .inr (.inl (8, 0))), (1, .inl 3, .inr (.inl (9, 0))), (1, .inl 4, .inr (.inl (10, 0))), (1, .inl 5, .inr (.inl (11, 0)))], [.inl ([(155520, 0), (25920, 1), (4320, 2), (720, 3), (120, 4), (20, 5), ((-155520), 6), ((-25920), 7), ((-4320), 8), ((-720), 9), ((-120), 10), ((-20), 11)], 20)]), some (.inl 1))])
def nu_302 : List aCt := []
set_option maxRecDepth 100000 in
theorem vk_302 {X : nX} {L : Nat} {xs : Nat → Int32} {g : Nat} {S : List Nat} : nV nj_M X L xs g nFT nAT S (nJJ S) nk_302 :=
  aChk_ok (ctx := []) (W := ([], [])) (ls := none) (cuts := nu_302) (fuel := 36) (nJJ_ok S)
    ⟨(fun c hc => nomatch hc), (fun c hc => nomatch hc)⟩
    ((fun c hc => nomatch hc))
    (fun _ _ _ _ y hy => by cases hy) (by decide +kernel)
/-- Model_nextRow2 -/
def nk_303 : nK := (226, 0, ([(0, 5), (0, 5), (0, 5), (0, 5), (0, 5), (0, 5)], [9, 58], [(0, 25, .inr (.inr (.inl 1)))], [(1, .inl 0, .inr (.inl (0, 0))), (1, .inl 1, .inr (.inl (1, 0))), (1, .inl 2, .inr (.inl (2, 0))), (1, .inl 3, .inr (.inl (3, 0))), (1, .inl 4, .inr (.inl (4, 0))), (1, .inl 5, .inr (.inl (5, 0)))], []), [.inr (.inr (.inl 0)), .inl 2], [], [58], [(([(0, 5), (0, 5), (0, 5), (0, 5), (0, 5), (0, 5)], [9, 58], [], [], []), some (.inl 0)), (([(0, 5), (0, 5), (0, 5), (0, 5), (0, 5), (0, 5), (0, 5), (0, 5), (0, 5), (0, 5), (0, 5), (0, 5)], [9, 58], [], [(1, .inl 0, .inr (.inl (6, 0))), (1, .inl 1, .inr (.inl (7, 0))), (1, .inl 2, .inr (.inl (8, 0))), (1, .inl 3, .inr (.inl (9, 0))), (1, .inl 4, .inr (.inl (10, 0))), (1, .inl 5, .inr (.inl (11, 0)))], [.inl ([(155520, 0), (25920, 1), (4320, 2), (720, 3), (120, 4), (20, 5), ((-155520), 6), ((-25920), 7), ((-4320), 8), ((-720), 9), ((-120), 10), ((-20), 11)], 20)]), some (.inl 1))])
def nu_303 : List aCt := []
set_option maxRecDepth 100000 in
theorem vk_303 {X : nX} {L : Nat} {xs : Nat → Int32} {g : Nat} {S : List Nat} : nV nj_M X L xs g nFT nAT S (nJJ S) nk_303 :=
  aChk_ok (ctx := []) (W := ([], [])) (ls := none) (cuts := nu_303) (fuel := 62) (nJJ_ok S)
    ⟨(fun c hc => nomatch hc), (fun c hc => nomatch hc)⟩
    ((fun c hc => nomatch hc))
    (fun _ _ _ _ y hy => by cases hy) (by decide +kernel)
