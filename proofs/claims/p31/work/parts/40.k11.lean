/-- Model_back2 -/
def nk_260 : nK := (217, 0, ([((-1), 9)], [9, 57, 50], [(0, 23, .inr (.inr (.inl 1))), (0, 6, .inr (.inr (.inl 2)))], [(1, .inl 8, .inr (.inl (0, 0)))], []), [.inr (.inr (.inl 0))], [], [50], [(([((-1), 9)], [9, 57, 50], [], [(2, .inl 140, .inr (.inl (0, 0)))], []), none)])
def nu_260 : List aCt := [(2, ([((-1), 9), (0, 8)], [9, 57, 50], [(0, 23, .inr (.inr (.inl 1))), (0, 6, .inr (.inr (.inl 2)))], [(1, .inl 8, .inr (.inl (0, 0)))], []), [(0, .inr (.inr (.inl 0))), (1, .inr (.inl (1, 0)))], ([((-1), 1)], 60)), (2, ([((-1), 9), (9, 47)], [9, 57, 50], [(0, 23, .inr (.inr (.inl 1))), (0, 6, .inr (.inr (.inl 2)))], [(1, .inl 8, .inr (.inl (0, 0))), (2, .inl 140, .inr (.inl (0, 0)))], []), [(0, .inr (.inr (.inl 0))), (1, .inr (.inl (1, 0)))], ([((-1), 1)], 60))]
set_option maxRecDepth 100000 in
theorem wk_260 {X : nX} {L : Nat} {xs : Nat → Int32} {g : Nat} {S : List Nat} {cc : Option (Nat → Int32)} : nV nj_M X L xs g nFT nAT2 S (nJC S cc) nk_260 :=
  aChk_ok (ctx := []) (W := ([gh_12], [])) (ls := none) (cuts := nu_260) (fuel := 18) (nJC_ok S cc)
    ⟨(fun c hc => by
    simp only [List.mem_cons, List.not_mem_nil, or_false] at hc
    subst hc
    · exact gh_cc gh_12_ok), (fun c hc => nomatch hc)⟩
    ((fun c hc => nomatch hc))
    (fun _ _ _ _ y hy => by cases hy) (by decide +kernel)
theorem vk_260 {X : nX} {L : Nat} {xs : Nat → Int32} {g : Nat} {S : List Nat} : nV nj_M X L xs g nFT nAT S (nJJ S) nk_260 := nV_dd wk_260
/-- Model_back3 -/
def nk_261 : nK := (217, 0, ([((-1), 9)], [9, 57, 50], [(0, 23, .inr (.inr (.inl 1))), (0, 6, .inr (.inr (.inl 2)))], [(1, .inl 9, .inr (.inl (0, 0)))], []), [.inr (.inr (.inl 0))], [], [50], [(([((-1), 9)], [9, 57, 50], [], [(2, .inl 141, .inr (.inl (0, 0)))], []), none)])
def nu_261 : List aCt := [(2, ([((-1), 9), (0, 9)], [9, 57, 50], [(0, 23, .inr (.inr (.inl 1))), (0, 6, .inr (.inr (.inl 2)))], [(1, .inl 9, .inr (.inl (0, 0)))], []), [(0, .inr (.inr (.inl 0))), (1, .inr (.inl (1, 0)))], ([((-1), 1)], 60)), (2, ([((-1), 9), (10, 47)], [9, 57, 50], [(0, 23, .inr (.inr (.inl 1))), (0, 6, .inr (.inr (.inl 2)))], [(1, .inl 9, .inr (.inl (0, 0))), (2, .inl 141, .inr (.inl (0, 0)))], []), [(0, .inr (.inr (.inl 0))), (1, .inr (.inl (1, 0)))], ([((-1), 1)], 60))]
set_option maxRecDepth 100000 in
theorem wk_261 {X : nX} {L : Nat} {xs : Nat → Int32} {g : Nat} {S : List Nat} {cc : Option (Nat → Int32)} : nV nj_M X L xs g nFT nAT2 S (nJC S cc) nk_261 :=
  aChk_ok (ctx := []) (W := ([gh_12], [])) (ls := none) (cuts := nu_261) (fuel := 18) (nJC_ok S cc)
    ⟨(fun c hc => by
    simp only [List.mem_cons, List.not_mem_nil, or_false] at hc
    subst hc
    · exact gh_cc gh_12_ok), (fun c hc => nomatch hc)⟩
    ((fun c hc => nomatch hc))
    (fun _ _ _ _ y hy => by cases hy) (by decide +kernel)
theorem vk_261 {X : nX} {L : Nat} {xs : Nat → Int32} {g : Nat} {S : List Nat} : nV nj_M X L xs g nFT nAT S (nJJ S) nk_261 := nV_dd wk_261
/-- Model_back4 -/
def nk_262 : nK := (217, 0, ([((-1), 9)], [9, 57, 50], [(0, 23, .inr (.inr (.inl 1))), (0, 6, .inr (.inr (.inl 2)))], [(1, .inl 10, .inr (.inl (0, 0)))], []), [.inr (.inr (.inl 0))], [], [50], [(([((-1), 9)], [9, 57, 50], [], [(2, .inl 142, .inr (.inl (0, 0)))], []), none)])
def nu_262 : List aCt := [(2, ([((-1), 9), (0, 10)], [9, 57, 50], [(0, 23, .inr (.inr (.inl 1))), (0, 6, .inr (.inr (.inl 2)))], [(1, .inl 10, .inr (.inl (0, 0)))], []), [(0, .inr (.inr (.inl 0))), (1, .inr (.inl (1, 0)))], ([((-1), 1)], 60)), (2, ([((-1), 9), (11, 47)], [9, 57, 50], [(0, 23, .inr (.inr (.inl 1))), (0, 6, .inr (.inr (.inl 2)))], [(1, .inl 10, .inr (.inl (0, 0))), (2, .inl 142, .inr (.inl (0, 0)))], []), [(0, .inr (.inr (.inl 0))), (1, .inr (.inl (1, 0)))], ([((-1), 1)], 60))]
set_option maxRecDepth 100000 in
theorem wk_262 {X : nX} {L : Nat} {xs : Nat → Int32} {g : Nat} {S : List Nat} {cc : Option (Nat → Int32)} : nV nj_M X L xs g nFT nAT2 S (nJC S cc) nk_262 :=
  aChk_ok (ctx := []) (W := ([gh_12], [])) (ls := none) (cuts := nu_262) (fuel := 18) (nJC_ok S cc)
    ⟨(fun c hc => by
    simp only [List.mem_cons, List.not_mem_nil, or_false] at hc
    subst hc
    · exact gh_cc gh_12_ok), (fun c hc => nomatch hc)⟩
    ((fun c hc => nomatch hc))
    (fun _ _ _ _ y hy => by cases hy) (by decide +kernel)
theorem vk_262 {X : nX} {L : Nat} {xs : Nat → Int32} {g : Nat} {S : List Nat} : nV nj_M X L xs g nFT nAT S (nJJ S) nk_262 := nV_dd wk_262
/-- Model_back5 -/
def nk_263 : nK := (217, 0, ([((-1), 9)], [9, 57, 50], [(0, 23, .inr (.inr (.inl 1))), (0, 6, .inr (.inr (.inl 2)))], [(1, .inl 11, .inr (.inl (0, 0)))], []), [.inr (.inr (.inl 0))], [], [50], [(([((-1), 9)], [9, 57, 50], [], [(2, .inl 143, .inr (.inl (0, 0)))], []), none)])
def nu_263 : List aCt := [(2, ([((-1), 9), (0, 11)], [9, 57, 50], [(0, 23, .inr (.inr (.inl 1))), (0, 6, .inr (.inr (.inl 2)))], [(1, .inl 11, .inr (.inl (0, 0)))], []), [(0, .inr (.inr (.inl 0))), (1, .inr (.inl (1, 0)))], ([((-1), 1)], 60)), (2, ([((-1), 9), (12, 47)], [9, 57, 50], [(0, 23, .inr (.inr (.inl 1))), (0, 6, .inr (.inr (.inl 2)))], [(1, .inl 11, .inr (.inl (0, 0))), (2, .inl 143, .inr (.inl (0, 0)))], []), [(0, .inr (.inr (.inl 0))), (1, .inr (.inl (1, 0)))], ([((-1), 1)], 60))]
set_option maxRecDepth 100000 in
theorem wk_263 {X : nX} {L : Nat} {xs : Nat → Int32} {g : Nat} {S : List Nat} {cc : Option (Nat → Int32)} : nV nj_M X L xs g nFT nAT2 S (nJC S cc) nk_263 :=
  aChk_ok (ctx := []) (W := ([gh_12], [])) (ls := none) (cuts := nu_263) (fuel := 18) (nJC_ok S cc)
    ⟨(fun c hc => by
    simp only [List.mem_cons, List.not_mem_nil, or_false] at hc
    subst hc
    · exact gh_cc gh_12_ok), (fun c hc => nomatch hc)⟩
    ((fun c hc => nomatch hc))
    (fun _ _ _ _ y hy => by cases hy) (by decide +kernel)
theorem vk_263 {X : nX} {L : Nat} {xs : Nat → Int32} {g : Nat} {S : List Nat} : nV nj_M X L xs g nFT nAT S (nJJ S) nk_263 := nV_dd wk_263
/-- Model_tries -/
def nk_264 : nK := (216, 0, ([], [9], [], [], []), [.inr (.inr (.inl 0))], [], [57], [(([], [9], [], [], []), none)])
def nu_264 : List aCt := [(2, ([(0, 47)], [9], [], [], []), [(0, .inr (.inr (.inl 0))), (1, .inr (.inl (0, 0)))], ([((-2), 0)], 95))]
set_option maxRecDepth 100000 in
theorem vk_264 {X : nX} {L : Nat} {xs : Nat → Int32} {g : Nat} {S : List Nat} : nV nj_M X L xs g nFT nAT S (nJJ S) nk_264 :=
  aChk_ok (ctx := []) (W := ([gh_11], [])) (ls := none) (cuts := nu_264) (fuel := 18) (nJJ_ok S)
    ⟨(fun c hc => by
    simp only [List.mem_cons, List.not_mem_nil, or_false] at hc
    subst hc
    · exact gh_11_ok), (fun c hc => nomatch hc)⟩
    ((fun c hc => nomatch hc))
    (fun _ _ _ _ y hy => by cases hy) (by decide +kernel)
/-- Model_back -/
def nk_265 : nK := (217, 0, ([], [9], [], [], []), [.inr (.inr (.inl 0))], [], [50], [(([], [9], [], [], []), none)])
def nu_265 : List aCt := [(2, ([(0, 47)], [9], [], [], []), [(0, .inr (.inr (.inl 0))), (1, .inr (.inl (0, 0)))], ([((-2), 0)], 95))]
set_option maxRecDepth 100000 in
theorem wk_265 {X : nX} {L : Nat} {xs : Nat → Int32} {g : Nat} {S : List Nat} {cc : Option (Nat → Int32)} : nV nj_M X L xs g nFT nAT2 S (nJC S cc) nk_265 :=
  aChk_ok (ctx := []) (W := ([gh_12], [])) (ls := none) (cuts := nu_265) (fuel := 18) (nJC_ok S cc)
    ⟨(fun c hc => by
    simp only [List.mem_cons, List.not_mem_nil, or_false] at hc
    subst hc
    · exact gh_cc gh_12_ok), (fun c hc => nomatch hc)⟩
    ((fun c hc => nomatch hc))
    (fun _ _ _ _ y hy => by cases hy) (by decide +kernel)
theorem vk_265 {X : nX} {L : Nat} {xs : Nat → Int32} {g : Nat} {S : List Nat} : nV nj_M X L xs g nFT nAT S (nJJ S) nk_265 := nV_dd wk_265
/-- Model_makes -/
def nk_266 : nK := (202, 0, ([(0, 9), (0, 5)], [9], [], [], []), [.inr (.inr (.inl 0)), .inr (.inl (0, 0)), .inr (.inl (1, 0))], [], [50], [(([(0, 9), (0, 5)], [9], [], [], []), none)])
def nu_266 : List aCt := []
set_option maxRecDepth 100000 in
theorem wk_266 {X : nX} {L : Nat} {xs : Nat → Int32} {g : Nat} {S : List Nat} {cc : Option (Nat → Int32)} : nV nj_M X L xs g nFT nAT2 S (nJC S cc) nk_266 :=
  aChk_ok (ctx := []) (W := ([], [])) (ls := none) (cuts := nu_266) (fuel := 89) (nJC_ok S cc)
    ⟨(fun c hc => nomatch hc), (fun c hc => nomatch hc)⟩
    ((fun c hc => nomatch hc))
    (fun _ _ _ _ y hy => by cases hy) (by decide +kernel)
theorem vk_266 {X : nX} {L : Nat} {xs : Nat → Int32} {g : Nat} {S : List Nat} : nV nj_M X L xs g nFT nAT S (nJJ S) nk_266 := nV_dd wk_266
/-- Model_taken -/
def nk_267 : nK := (201, 1, ([(0, 9), ((-2147483648), 2147483647)], [9], [], [], []), [.inr (.inr (.inl 0)), .inr (.inl (0, 0)), .inr (.inl (1, 0))], [], [50], [(([(0, 9), ((-2147483648), 2147483647), ((-2147483648), 2147483647)], [9], [], [], []), some (.inr (.inl (2, 0))))])
def nu_267 : List aCt := [(5, ([(0, 9), ((-2147483648), 2147483647), ((-2147483648), 2147483647), (0, 6)], [9], [], [], []), [(0, .inr (.inr (.inl 0))), (1, .inr (.inl (0, 0))), (3, .inr (.inl (2, 0))), (4, .inr (.inl (3, 0)))], ([((-2), 3)], 13))]
set_option maxRecDepth 100000 in
theorem wk_267 {X : nX} {L : Nat} {xs : Nat → Int32} {g : Nat} {S : List Nat} {cc : Option (Nat → Int32)} : nV nj_M X L xs g nFT nAT2 S (nJC S cc) nk_267 :=
  aChk_ok (ctx := [nk_266]) (W := ([], [])) (ls := none) (cuts := nu_267) (fuel := 38) (nJC_ok S cc)
    ⟨(fun c hc => nomatch hc), (fun c hc => nomatch hc)⟩
    ((fun c hc => by
    simp only [List.mem_cons, List.not_mem_nil, or_false] at hc
    subst hc
    · exact wk_266))
    (fun _ _ _ _ y hy => by cases hy) (by decide +kernel)
theorem vk_267 {X : nX} {L : Nat} {xs : Nat → Int32} {g : Nat} {S : List Nat} : nV nj_M X L xs g nFT nAT S (nJJ S) nk_267 := nV_dd wk_267
/-- Model_acts -/
def nk_268 : nK := (200, 2, ([(0, 9), (0, 3)], [9], [], [], []), [.inr (.inr (.inl 0)), .inr (.inl (0, 0)), .inr (.inl (1, 0))], [], [50, 55], [(([(0, 9), (0, 3), ((-2147483648), 2147483647)], [9], [], [], []), some (.inr (.inl (2, 0))))])
def nu_268 : List aCt := [(5, ([(0, 9), (0, 3), ((-2147483648), 2147483647), (0, 12)], [9], [], [], []), [(0, .inr (.inr (.inl 0))), (1, .inr (.inl (0, 0))), (2, .inr (.inl (1, 0))), (3, .inr (.inl (2, 0))), (4, .inr (.inl (3, 0)))], ([((-2), 3)], 25))]
set_option maxRecDepth 100000 in
theorem wk_268 {X : nX} {L : Nat} {xs : Nat → Int32} {g : Nat} {S : List Nat} {cc : Option (Nat → Int32)} : nV nj_M X L xs g nFT nAT2 S (nJC S cc) nk_268 :=
  aChk_ok (ctx := [nk_267]) (W := ([], [])) (ls := none) (cuts := nu_268) (fuel := 43) (nJC_ok S cc)
    ⟨(fun c hc => nomatch hc), (fun c hc => nomatch hc)⟩
    ((fun c hc => by
    simp only [List.mem_cons, List.not_mem_nil, or_false] at hc
    subst hc
    · exact wk_267))
    (fun _ _ _ _ y hy => by cases hy) (by decide +kernel)
theorem vk_268 {X : nX} {L : Nat} {xs : Nat → Int32} {g : Nat} {S : List Nat} : nV nj_M X L xs g nFT nAT S (nJJ S) nk_268 := nV_dd wk_268
/-- Model_does -/
def nk_269 : nK := (199, 3, ([(0, 9), (0, 3)], [9], [], [], []), [.inr (.inr (.inl 0)), .inr (.inl (0, 0)), .inr (.inl (1, 0))], [], [50, 55], [(([(0, 9), (0, 3)], [9], [], [], []), none)])
def nu_269 : List aCt := [(59, ([(0, 9), (0, 3), (0, 12)], [9], [], [], []), [(0, .inr (.inr (.inl 0))), (4, .inr (.inl (2, 0)))], ([((-2), 2)], 25))]
set_option maxRecDepth 100000 in
theorem wk_269 {X : nX} {L : Nat} {xs : Nat → Int32} {g : Nat} {S : List Nat} {cc : Option (Nat → Int32)} : nV nj_M X L xs g nFT nAT2 S (nJC S cc) nk_269 :=
  aChk_ok (ctx := [nk_268]) (W := ([], [])) (ls := none) (cuts := nu_269) (fuel := 39) (nJC_ok S cc)
    ⟨(fun c hc => nomatch hc), (fun c hc => nomatch hc)⟩
    ((fun c hc => by
    simp only [List.mem_cons, List.not_mem_nil, or_false] at hc
    subst hc
    · exact wk_268))
    (fun _ _ _ _ y hy => by cases hy) (by decide +kernel)
theorem vk_269 {X : nX} {L : Nat} {xs : Nat → Int32} {g : Nat} {S : List Nat} : nV nj_M X L xs g nFT nAT S (nJJ S) nk_269 := nV_dd wk_269
/-- Model_dies -/
def nk_270 : nK := (204, 4, ([(0, 9)], [9], [], [], []), [.inr (.inr (.inl 0)), .inr (.inl (0, 0))], [], [50], [(([(0, 9)], [9], [], [], []), none)])
def nu_270 : List aCt := [(8, ([(0, 9), ((-1), 10), (0, 6)], [9], [], [], []), [(0, .inr (.inr (.inl 0))), (1, .inr (.inl (0, 0))), (2, .inr (.inl (1, 0))), (3, .inr (.inl (2, 0)))], ([((-2), 2)], 13))]
set_option maxRecDepth 100000 in
theorem wk_270 {X : nX} {L : Nat} {xs : Nat → Int32} {g : Nat} {S : List Nat} {cc : Option (Nat → Int32)} : nV nj_M X L xs g nFT nAT2 S (nJC S cc) nk_270 :=
  aChk_ok (ctx := [nk_244]) (W := ([], [])) (ls := none) (cuts := nu_270) (fuel := 26) (nJC_ok S cc)
    ⟨(fun c hc => nomatch hc), (fun c hc => nomatch hc)⟩
    ((fun c hc => by
    simp only [List.mem_cons, List.not_mem_nil, or_false] at hc
    subst hc
    · exact nV_cc vk_244 (by decide)))
    (fun _ _ _ _ y hy => by cases hy) (by decide +kernel)
theorem vk_270 {X : nX} {L : Nat} {xs : Nat → Int32} {g : Nat} {S : List Nat} : nV nj_M X L xs g nFT nAT S (nJJ S) nk_270 := nV_dd wk_270
/-- Model_whyGive -/
def nk_271 : nK := (210, 2, ([(0, 5), (0, 9)], [9], [], [], []), [.inr (.inr (.inl 0)), .inr (.inl (0, 0)), .inr (.inl (1, 0))], [], [], [(([(0, 5), (0, 9), (0, 4)], [9], [], [], []), some (.inr (.inl (2, 0))))])
def nu_271 : List aCt := []
set_option maxRecDepth 100000 in
theorem vk_271 {X : nX} {L : Nat} {xs : Nat → Int32} {g : Nat} {S : List Nat} : nV nj_M X L xs g nFT nAT S (nJJ S) nk_271 :=
  aChk_ok (ctx := []) (W := ([], [])) (ls := none) (cuts := nu_271) (fuel := 75) (nJJ_ok S)
    ⟨(fun c hc => nomatch hc), (fun c hc => nomatch hc)⟩
    ((fun c hc => nomatch hc))
    (fun _ _ _ _ y hy => by cases hy) (by decide +kernel)
/-- Model_act -/
def nk_272 : nK := (197, 4, ([((-2147483648), 2147483647), ((-2147483648), 2147483647)], [9], [], [], []), [.inr (.inr (.inl 0)), .inr (.inl (0, 0)), .inr (.inl (1, 0))], [(9, 0), (9, 24)], [50, 55, 56], [(([((-2147483648), 2147483647), ((-2147483648), 2147483647), ((-1), 1)], [9], [], [], []), some (.inr (.inl (2, 0))))])
def nu_272 : List aCt := []
set_option maxRecDepth 100000 in
theorem wk_272 {X : nX} {L : Nat} {xs : Nat → Int32} {g : Nat} {S : List Nat} {cc : Option (Nat → Int32)} : nV nj_M X L xs g nFT nAT2 S (nJC S cc) nk_272 :=
  aChk_ok (ctx := [nk_250, nk_269]) (W := ([], [])) (ls := none) (cuts := nu_272) (fuel := 79) (nJC_ok S cc)
    ⟨(fun c hc => nomatch hc), (fun c hc => nomatch hc)⟩
    ((fun c hc => by
    simp only [List.mem_cons, List.not_mem_nil, or_false] at hc
    rcases hc with rfl | rfl
    · exact nV_cc vk_250 (by decide)
    · exact wk_269))
    (fun _ _ _ _ y hy => by cases hy) (by decide +kernel)
theorem vk_272 {X : nX} {L : Nat} {xs : Nat → Int32} {g : Nat} {S : List Nat} : nV nj_M X L xs g nFT nAT S (nJJ S) nk_272 := nV_dd wk_272
/-- Model_die -/
def nk_273 : nK := (203, 5, ([((-2147483648), 2147483647)], [9], [], [], []), [.inr (.inr (.inl 0)), .inr (.inl (0, 0))], [(9, 0), (9, 24)], [50, 56], [(([((-2147483648), 2147483647), ((-1), 1)], [9], [], [], []), some (.inr (.inl (1, 0))))])
def nu_273 : List aCt := []
set_option maxRecDepth 100000 in
theorem wk_273 {X : nX} {L : Nat} {xs : Nat → Int32} {g : Nat} {S : List Nat} {cc : Option (Nat → Int32)} : nV nj_M X L xs g nFT nAT2 S (nJC S cc) nk_273 :=
  aChk_ok (ctx := [nk_250, nk_270]) (W := ([], [])) (ls := none) (cuts := nu_273) (fuel := 55) (nJC_ok S cc)
    ⟨(fun c hc => nomatch hc), (fun c hc => nomatch hc)⟩
    ((fun c hc => by
    simp only [List.mem_cons, List.not_mem_nil, or_false] at hc
    rcases hc with rfl | rfl
    · exact nV_cc vk_250 (by decide)
    · exact wk_270))
    (fun _ _ _ _ y hy => by cases hy) (by decide +kernel)
theorem vk_273 {X : nX} {L : Nat} {xs : Nat → Int32} {g : Nat} {S : List Nat} : nV nj_M X L xs g nFT nAT S (nJJ S) nk_273 := nV_dd wk_273
/-- Model_give -/
def nk_274 : nK := (209, 3, ([((-2147483648), 2147483647), ((-2147483648), 2147483647)], [9], [], [], []), [.inr (.inr (.inl 0)), .inr (.inl (0, 0)), .inr (.inl (1, 0))], [(9, 0), (9, 24)], [50, 56], [(([((-2147483648), 2147483647), ((-2147483648), 2147483647), ((-1), 4)], [9], [], [], []), some (.inr (.inl (2, 0))))])
def nu_274 : List aCt := []
set_option maxRecDepth 100000 in
theorem wk_274 {X : nX} {L : Nat} {xs : Nat → Int32} {g : Nat} {S : List Nat} {cc : Option (Nat → Int32)} : nV nj_M X L xs g nFT nAT2 S (nJC S cc) nk_274 :=
  aChk_ok (ctx := [nk_250, nk_271]) (W := ([], [])) (ls := none) (cuts := nu_274) (fuel := 69) (nJC_ok S cc)
    ⟨(fun c hc => nomatch hc), (fun c hc => nomatch hc)⟩
    ((fun c hc => by
    simp only [List.mem_cons, List.not_mem_nil, or_false] at hc
    rcases hc with rfl | rfl
    · exact nV_cc vk_250 (by decide)
    · exact nV_cc vk_271 (by decide)))
    (fun _ _ _ _ y hy => by cases hy) (by decide +kernel)
theorem vk_274 {X : nX} {L : Nat} {xs : Nat → Int32} {g : Nat} {S : List Nat} : nV nj_M X L xs g nFT nAT S (nJJ S) nk_274 := nV_dd wk_274
/-- Model_years -/
def nk_275 : nK := (211, 1, ([((-2147483648), 2147483647)], [9], [], [], []), [.inr (.inr (.inl 0)), .inr (.inl (0, 0))], [(9, 0), (9, 24)], [50, 56], [(([((-2147483648), 2147483647), ((-2147483648), 2147483647)], [9], [], [], []), some (.inr (.inl (1, 0))))])
def nu_275 : List aCt := []
set_option maxRecDepth 100000 in
theorem wk_275 {X : nX} {L : Nat} {xs : Nat → Int32} {g : Nat} {S : List Nat} {cc : Option (Nat → Int32)} : nV nj_M X L xs g nFT nAT2 S (nJC S cc) nk_275 :=
  aChk_ok (ctx := [nk_250]) (W := ([], [])) (ls := none) (cuts := nu_275) (fuel := 42) (nJC_ok S cc)
    ⟨(fun c hc => nomatch hc), (fun c hc => nomatch hc)⟩
    ((fun c hc => by
    simp only [List.mem_cons, List.not_mem_nil, or_false] at hc
    subst hc
    · exact nV_cc vk_250 (by decide)))
    (fun _ _ _ _ y hy => by cases hy) (by decide +kernel)
theorem vk_275 {X : nX} {L : Nat} {xs : Nat → Int32} {g : Nat} {S : List Nat} : nV nj_M X L xs g nFT nAT S (nJJ S) nk_275 := nV_dd wk_275
/-- Model_came -/
def nk_276 : nK := (213, 1, ([((-2147483648), 2147483647)], [9], [], [], []), [.inr (.inr (.inl 0)), .inr (.inl (0, 0))], [(9, 0)], [], [(([((-2147483648), 2147483647), ((-2147483648), 2147483647)], [9], [], [], []), some (.inr (.inl (1, 0))))])
def nu_276 : List aCt := []
set_option maxRecDepth 100000 in
theorem vk_276 {X : nX} {L : Nat} {xs : Nat → Int32} {g : Nat} {S : List Nat} : nV nj_M X L xs g nFT nAT S (nJJ S) nk_276 :=
  aChk_ok (ctx := []) (W := ([], [])) (ls := none) (cuts := nu_276) (fuel := 35) (nJJ_ok S)
    ⟨(fun c hc => nomatch hc), (fun c hc => nomatch hc)⟩
    ((fun c hc => nomatch hc))
    (fun _ _ _ _ y hy => by cases hy) (by decide +kernel)
/-- Model_comes -/
def nk_277 : nK := (214, 3, ([((-2147483648), 2147483647), ((-2147483648), 2147483647), ((-2147483648), 2147483647)], [9], [], [], []), [.inr (.inr (.inl 0)), .inr (.inl (0, 0)), .inr (.inl (1, 0)), .inr (.inl (2, 0))], [(9, 0)], [50, 55, 57], [(([((-2147483648), 2147483647), ((-2147483648), 2147483647), ((-2147483648), 2147483647), ((-2147483648), 2147483647)], [9], [], [], []), some (.inr (.inl (3, 0))))])
def nu_277 : List aCt := []
set_option maxRecDepth 100000 in
theorem wk_277 {X : nX} {L : Nat} {xs : Nat → Int32} {g : Nat} {S : List Nat} {cc : Option (Nat → Int32)} : nV nj_M X L xs g nFT nAT2 S (nJC S cc) nk_277 :=
  aChk_ok (ctx := [nk_264, nk_265, nk_268]) (W := ([], [])) (ls := none) (cuts := nu_277) (fuel := 117) (nJC_ok S cc)
    ⟨(fun c hc => nomatch hc), (fun c hc => nomatch hc)⟩
    ((fun c hc => by
    simp only [List.mem_cons, List.not_mem_nil, or_false] at hc
    rcases hc with rfl | rfl | rfl
    · exact nV_cc vk_264 (by decide)
    · exact wk_265
    · exact wk_268))
    (fun _ _ _ _ y hy => by cases hy) (by decide +kernel)
theorem vk_277 {X : nX} {L : Nat} {xs : Nat → Int32} {g : Nat} {S : List Nat} : nV nj_M X L xs g nFT nAT S (nJJ S) nk_277 := nV_dd wk_277
/-- Model_right -/
def nk_278 : nK := (218, 3, ([((-2147483648), 2147483647)], [9], [], [], []), [.inr (.inr (.inl 0)), .inr (.inl (0, 0))], [(9, 0)], [50, 55, 57], [(([((-2147483648), 2147483647), ((-2147483648), 2147483647)], [9], [], [], []), some (.inr (.inl (1, 0))))])
def nu_278 : List aCt := [(23, ([(0, 3), ((-2147483648), 2147483647), (0, 10)], [9], [], [], []), [(0, .inr (.inr (.inl 0))), (1, .inr (.inl (0, 0))), (2, .inr (.inl (1, 0))), (3, .inr (.inl (2, 0)))], ([((-2), 2)], 21))]
set_option maxRecDepth 100000 in
theorem wk_278 {X : nX} {L : Nat} {xs : Nat → Int32} {g : Nat} {S : List Nat} {cc : Option (Nat → Int32)} : nV nj_M X L xs g nFT nAT2 S (nJC S cc) nk_278 :=
  aChk_ok (ctx := [nk_264, nk_265, nk_268]) (W := ([], [])) (ls := none) (cuts := nu_278) (fuel := 45) (nJC_ok S cc)
    ⟨(fun c hc => nomatch hc), (fun c hc => nomatch hc)⟩
    ((fun c hc => by
    simp only [List.mem_cons, List.not_mem_nil, or_false] at hc
    rcases hc with rfl | rfl | rfl
    · exact nV_cc vk_264 (by decide)
    · exact wk_265
    · exact wk_268))
    (fun _ _ _ _ y hy => by cases hy) (by decide +kernel)
theorem vk_278 {X : nX} {L : Nat} {xs : Nat → Int32} {g : Nat} {S : List Nat} : nV nj_M X L xs g nFT nAT S (nJJ S) nk_278 := nV_dd wk_278
/-- Model_loss -/
def nk_279 : nK := (219, 3, ([((-2147483648), 2147483647), ((-2147483648), 2147483647)], [9], [], [], []), [.inr (.inr (.inl 0)), .inr (.inl (0, 0)), .inr (.inl (1, 0))], [(9, 0)], [50, 55, 57], [(([((-2147483648), 2147483647), ((-2147483648), 2147483647), ((-2147483648), 2147483647)], [9], [], [], []), some (.inr (.inl (2, 0))))])
def nu_279 : List aCt := []
set_option maxRecDepth 100000 in
theorem wk_279 {X : nX} {L : Nat} {xs : Nat → Int32} {g : Nat} {S : List Nat} {cc : Option (Nat → Int32)} : nV nj_M X L xs g nFT nAT2 S (nJC S cc) nk_279 :=
  aChk_ok (ctx := [nk_264, nk_265, nk_268]) (W := ([], [])) (ls := none) (cuts := nu_279) (fuel := 107) (nJC_ok S cc)
    ⟨(fun c hc => nomatch hc), (fun c hc => nomatch hc)⟩
    ((fun c hc => by
    simp only [List.mem_cons, List.not_mem_nil, or_false] at hc
    rcases hc with rfl | rfl | rfl
    · exact nV_cc vk_264 (by decide)
    · exact wk_265
    · exact wk_268))
    (fun _ _ _ _ y hy => by cases hy) (by decide +kernel)
theorem vk_279 {X : nX} {L : Nat} {xs : Nat → Int32} {g : Nat} {S : List Nat} : nV nj_M X L xs g nFT nAT S (nJJ S) nk_279 := nV_dd wk_279
/-- Model_heir -/
def nk_280 : nK := (220, 4, ([((-2147483648), 2147483647)], [9], [], [], []), [.inr (.inr (.inl 0)), .inr (.inl (0, 0))], [(9, 0)], [], [(([((-2147483648), 2147483647), ((-1), 10)], [9], [], [], []), some (.inr (.inl (1, 0))))])
def nu_280 : List aCt := []
set_option maxRecDepth 100000 in
theorem vk_280 {X : nX} {L : Nat} {xs : Nat → Int32} {g : Nat} {S : List Nat} : nV nj_M X L xs g nFT nAT S (nJJ S) nk_280 :=
  aChk_ok (ctx := [nk_244]) (W := ([], [])) (ls := none) (cuts := nu_280) (fuel := 60) (nJJ_ok S)
    ⟨(fun c hc => nomatch hc), (fun c hc => nomatch hc)⟩
    ((fun c hc => by
    simp only [List.mem_cons, List.not_mem_nil, or_false] at hc
    subst hc
    · exact vk_244))
    (fun _ _ _ _ y hy => by cases hy) (by decide +kernel)
/-- Model_line -/
def nk_281 : nK := (221, 4, ([((-2147483648), 2147483647), ((-2147483648), 2147483647)], [9], [], [], []), [.inr (.inr (.inl 0)), .inr (.inl (0, 0)), .inr (.inl (1, 0))], [(9, 0)], [50], [(([((-2147483648), 2147483647), ((-2147483648), 2147483647), ((-1), 10)], [9], [], [], []), some (.inr (.inl (2, 0))))])
def nu_281 : List aCt := [(40, ([(0, 9), (1, 10), ((-2147483648), 2147483647), ((-1), 10), (0, 10)], [9], [], [], []), [(0, .inr (.inr (.inl 0))), (2, .inr (.inl (1, 0))), (3, .inr (.inl (2, 0))), (4, .inr (.inl (3, 0))), (5, .inr (.inl (4, 0)))], ([((-2), 4)], 21))]
set_option maxRecDepth 100000 in
theorem wk_281 {X : nX} {L : Nat} {xs : Nat → Int32} {g : Nat} {S : List Nat} {cc : Option (Nat → Int32)} : nV nj_M X L xs g nFT nAT2 S (nJC S cc) nk_281 :=
  aChk_ok (ctx := [nk_244]) (W := ([], [])) (ls := none) (cuts := nu_281) (fuel := 79) (nJC_ok S cc)
    ⟨(fun c hc => nomatch hc), (fun c hc => nomatch hc)⟩
    ((fun c hc => by
    simp only [List.mem_cons, List.not_mem_nil, or_false] at hc
    subst hc
    · exact nV_cc vk_244 (by decide)))
    (fun _ _ _ _ y hy => by cases hy) (by decide +kernel)
theorem vk_281 {X : nX} {L : Nat} {xs : Nat → Int32} {g : Nat} {S : List Nat} : nV nj_M X L xs g nFT nAT S (nJJ S) nk_281 := nV_dd wk_281
/-- Model_planned -/
def nk_282 : nK := (227, 1, ([((-2147483648), 2147483647)], [9], [], [], []), [.inr (.inr (.inl 0)), .inr (.inl (0, 0))], [(9, 0)], [], [(([((-2147483648), 2147483647), ((-2147483648), 2147483647)], [9], [], [], []), some (.inr (.inl (1, 0))))])
def nu_282 : List aCt := []
set_option maxRecDepth 100000 in
theorem vk_282 {X : nX} {L : Nat} {xs : Nat → Int32} {g : Nat} {S : List Nat} : nV nj_M X L xs g nFT nAT S (nJJ S) nk_282 :=
  aChk_ok (ctx := []) (W := ([], [])) (ls := none) (cuts := nu_282) (fuel := 28) (nJJ_ok S)
    ⟨(fun c hc => nomatch hc), (fun c hc => nomatch hc)⟩
    ((fun c hc => nomatch hc))
    (fun _ _ _ _ y hy => by cases hy) (by decide +kernel)
