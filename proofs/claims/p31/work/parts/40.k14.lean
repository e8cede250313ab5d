/-- Model_worn -/
def nk_309 : nK := (229, 3, ([((-2147483648), 2147483647)], [9], [], [], []), [.inr (.inr (.inl 0)), .inr (.inl (0, 0))], [(9, 0), (9, 28), (9, 29), (9, 30)], [50, 55, 57], [(([((-2147483648), 2147483647), ((-2147483648), 2147483647)], [9], [], [], []), some (.inr (.inl (1, 0))))])
def nu_309 : List aCt := [(62, ([((-2147483648), 2147483647), ((-2147483648), 2147483647), ((-2147483648), 2147483647), ((-2147483648), 2147483647), (0, 4), ((-1), 9)], [9, 50, 57], [(0, 6, .inr (.inr (.inl 1))), (0, 23, .inr (.inr (.inl 2)))], [(1, .inl 138, .inr (.inl (5, 0))), (2, .inl 6, .inr (.inl (5, 0)))], []), [(0, .inr (.inr (.inl 0))), (1, .inl 0), (2, .inr (.inl (1, 0))), (3, .inr (.inl (2, 0))), (4, .inr (.inl (3, 0))), (5, .inr (.inl (4, 0)))], ([((-30), 4)], 150)), (111, ([((-2147483648), 2147483647), ((-2147483648), 2147483647), ((-2147483648), 2147483647), ((-2147483648), 2147483647), (0, 3), (0, 9), ((-2147483648), 2147483647), (0, 20)], [9, 50, 57], [(0, 6, .inr (.inr (.inl 1))), (0, 23, .inr (.inr (.inl 2)))], [(2, .inl 6, .inr (.inl (5, 0)))], []), [(0, .inr (.inr (.inl 0))), (1, .inl 0), (2, .inr (.inl (1, 0))), (3, .inr (.inl (2, 0))), (4, .inr (.inl (3, 0))), (5, .inr (.inl (4, 0))), (6, .inr (.inl (5, 0))), (7, .inr (.inl (6, 0))), (8, .inr (.inl (7, 0)))], ([((-30), 4), ((-1), 7)], 148)), (62, ([((-2147483648), 2147483647), ((-2147483648), 2147483647), ((-2147483648), 2147483647), ((-2147483648), 2147483647), (0, 4), ((-1), 9)], [9, 50, 57], [(0, 6, .inr (.inr (.inl 1))), (0, 23, .inr (.inr (.inl 2)))], [(1, .inl 139, .inr (.inl (5, 0))), (2, .inl 7, .inr (.inl (5, 0)))], []), [(0, .inr (.inr (.inl 0))), (1, .inl 1), (2, .inr (.inl (1, 0))), (3, .inr (.inl (2, 0))), (4, .inr (.inl (3, 0))), (5, .inr (.inl (4, 0)))], ([((-30), 4)], 150)), (111, ([((-2147483648), 2147483647), ((-2147483648), 2147483647), ((-2147483648), 2147483647), ((-2147483648), 2147483647), (0, 3), (0, 9), ((-2147483648), 2147483647), (0, 20)], [9, 50, 57], [(0, 6, .inr (.inr (.inl 1))), (0, 23, .inr (.inr (.inl 2)))], [(2, .inl 7, .inr (.inl (5, 0)))], []), [(0, .inr (.inr (.inl 0))), (1, .inl 1), (2, .inr (.inl (1, 0))), (3, .inr (.inl (2, 0))), (4, .inr (.inl (3, 0))), (5, .inr (.inl (4, 0))), (6, .inr (.inl (5, 0))), (7, .inr (.inl (6, 0))), (8, .inr (.inl (7, 0)))], ([((-30), 4), ((-1), 7)], 148)), (62, ([((-2147483648), 2147483647), ((-2147483648), 2147483647), ((-2147483648), 2147483647), ((-2147483648), 2147483647), (0, 4), ((-1), 9)], [9, 50, 57], [(0, 6, .inr (.inr (.inl 1))), (0, 23, .inr (.inr (.inl 2)))], [(1, .inl 140, .inr (.inl (5, 0))), (2, .inl 8, .inr (.inl (5, 0)))], []), [(0, .inr (.inr (.inl 0))), (1, .inl 2), (2, .inr (.inl (1, 0))), (3, .inr (.inl (2, 0))), (4, .inr (.inl (3, 0))), (5, .inr (.inl (4, 0)))], ([((-30), 4)], 150)), (111, ([((-2147483648), 2147483647), ((-2147483648), 2147483647), ((-2147483648), 2147483647), ((-2147483648), 2147483647), (0, 3), (0, 9), ((-2147483648), 2147483647), (0, 20)], [9, 50, 57], [(0, 6, .inr (.inr (.inl 1))), (0, 23, .inr (.inr (.inl 2)))], [(2, .inl 8, .inr (.inl (5, 0)))], []), [(0, .inr (.inr (.inl 0))), (1, .inl 2), (2, .inr (.inl (1, 0))), (3, .inr (.inl (2, 0))), (4, .inr (.inl (3, 0))), (5, .inr (.inl (4, 0))), (6, .inr (.inl (5, 0))), (7, .inr (.inl (6, 0))), (8, .inr (.inl (7, 0)))], ([((-30), 4), ((-1), 7)], 148)), (62, ([((-2147483648), 2147483647), ((-2147483648), 2147483647), ((-2147483648), 2147483647), ((-2147483648), 2147483647), (0, 4), ((-1), 9)], [9, 50, 57], [(0, 6, .inr (.inr (.inl 1))), (0, 23, .inr (.inr (.inl 2)))], [(1, .inl 141, .inr (.inl (5, 0))), (2, .inl 9, .inr (.inl (5, 0)))], []), [(0, .inr (.inr (.inl 0))), (1, .inl 3), (2, .inr (.inl (1, 0))), (3, .inr (.inl (2, 0))), (4, .inr (.inl (3, 0))), (5, .inr (.inl (4, 0)))], ([((-30), 4)], 150)), (111, ([((-2147483648), 2147483647), ((-2147483648), 2147483647), ((-2147483648), 2147483647), ((-2147483648), 2147483647), (0, 3), (0, 9), ((-2147483648), 2147483647), (0, 20)], [9, 50, 57], [(0, 6, .inr (.inr (.inl 1))), (0, 23, .inr (.inr (.inl 2)))], [(2, .inl 9, .inr (.inl (5, 0)))], []), [(0, .inr (.inr (.inl 0))), (1, .inl 3), (2, .inr (.inl (1, 0))), (3, .inr (.inl (2, 0))), (4, .inr (.inl (3, 0))), (5, .inr (.inl (4, 0))), (6, .inr (.inl (5, 0))), (7, .inr (.inl (6, 0))), (8, .inr (.inl (7, 0)))], ([((-30), 4), ((-1), 7)], 148)), (62, ([((-2147483648), 2147483647), ((-2147483648), 2147483647), ((-2147483648), 2147483647), ((-2147483648), 2147483647), (0, 4), ((-1), 9)], [9, 50, 57], [(0, 6, .inr (.inr (.inl 1))), (0, 23, .inr (.inr (.inl 2)))], [(1, .inl 142, .inr (.inl (5, 0))), (2, .inl 10, .inr (.inl (5, 0)))], []), [(0, .inr (.inr (.inl 0))), (1, .inl 4), (2, .inr (.inl (1, 0))), (3, .inr (.inl (2, 0))), (4, .inr (.inl (3, 0))), (5, .inr (.inl (4, 0)))], ([((-30), 4)], 150)), (111, ([((-2147483648), 2147483647), ((-2147483648), 2147483647), ((-2147483648), 2147483647), ((-2147483648), 2147483647), (0, 3), (0, 9), ((-2147483648), 2147483647), (0, 20)], [9, 50, 57], [(0, 6, .inr (.inr (.inl 1))), (0, 23, .inr (.inr (.inl 2)))], [(2, .inl 10, .inr (.inl (5, 0)))], []), [(0, .inr (.inr (.inl 0))), (1, .inl 4), (2, .inr (.inl (1, 0))), (3, .inr (.inl (2, 0))), (4, .inr (.inl (3, 0))), (5, .inr (.inl (4, 0))), (6, .inr (.inl (5, 0))), (7, .inr (.inl (6, 0))), (8, .inr (.inl (7, 0)))], ([((-30), 4), ((-1), 7)], 148)), (62, ([((-2147483648), 2147483647), ((-2147483648), 2147483647), ((-2147483648), 2147483647), ((-2147483648), 2147483647), (0, 4), ((-1), 9)], [9, 50, 57], [(0, 6, .inr (.inr (.inl 1))), (0, 23, .inr (.inr (.inl 2)))], [(1, .inl 143, .inr (.inl (5, 0))), (2, .inl 11, .inr (.inl (5, 0)))], []), [(0, .inr (.inr (.inl 0))), (1, .inl 5), (2, .inr (.inl (1, 0))), (3, .inr (.inl (2, 0))), (4, .inr (.inl (3, 0))), (5, .inr (.inl (4, 0)))], ([((-30), 4)], 150)), (111, ([((-2147483648), 2147483647), ((-2147483648), 2147483647), ((-2147483648), 2147483647), ((-2147483648), 2147483647), (0, 3), (0, 9), ((-2147483648), 2147483647), (0, 20)], [9, 50, 57], [(0, 6, .inr (.inr (.inl 1))), (0, 23, .inr (.inr (.inl 2)))], [(2, .inl 11, .inr (.inl (5, 0)))], []), [(0, .inr (.inr (.inl 0))), (1, .inl 5), (2, .inr (.inl (1, 0))), (3, .inr (.inl (2, 0))), (4, .inr (.inl (3, 0))), (5, .inr (.inl (4, 0))), (6, .inr (.inl (5, 0))), (7, .inr (.inl (6, 0))), (8, .inr (.inl (7, 0)))], ([((-30), 4), ((-1), 7)], 148))]
set_option maxRecDepth 100000 in
theorem wk_309 {X : nX} {L : Nat} {xs : Nat → Int32} {g : Nat} {S : List Nat} {cc : Option (Nat → Int32)} : nV nj_M X L xs g nFT nAT2 S (nJC S cc) nk_309 :=
  aChk_ok (ctx := [nk_252, nk_253, nk_254, nk_255, nk_256, nk_257, nk_258, nk_259, nk_260, nk_261, nk_262, nk_263, nk_268]) (W := ([gh_46], [])) (ls := none) (cuts := nu_309) (fuel := 56) (nJC_ok S cc)
    ⟨(fun c hc => by
    simp only [List.mem_cons, List.not_mem_nil, or_false] at hc
    subst hc
    · exact gh_cc gh_46_ok), (fun c hc => nomatch hc)⟩
    ((fun c hc => by
    simp only [List.mem_cons, List.not_mem_nil, or_false] at hc
    rcases hc with rfl | rfl | rfl | rfl | rfl | rfl | rfl | rfl | rfl | rfl | rfl | rfl | rfl
    · exact nV_cc vk_252 (by decide)
    · exact nV_cc vk_253 (by decide)
    · exact nV_cc vk_254 (by decide)
    · exact nV_cc vk_255 (by decide)
    · exact nV_cc vk_256 (by decide)
    · exact nV_cc vk_257 (by decide)
    · exact wk_258
    · exact wk_259
    · exact wk_260
    · exact wk_261
    · exact wk_262
    · exact wk_263
    · exact wk_268))
    (fun _ _ _ _ y hy => by cases hy) (by decide +kernel)
theorem vk_309 {X : nX} {L : Nat} {xs : Nat → Int32} {g : Nat} {S : List Nat} : nV nj_M X L xs g nFT nAT S (nJJ S) nk_309 := nV_dd wk_309
/-- Model_code_not -/
def nk_310 : nK := (253, 0, ([(20, 20), ((-2147483648), 2147483647), ((-2147483648), 2147483647), (0, 43)], [9], [(0, 39, .inr (.inl (3, 0))), (0, 1000, .inl 1)], [], []), [.inr (.inr (.inl 0)), .inr (.inl (0, 0)), .inr (.inl (1, 0)), .inr (.inl (2, 0))], [(9, 39), (9, 1000), (9, 1001), (9, 1007), (9, 1008), (9, 1009), (9, 1010), (9, 1011), (9, 1012)], [52], [(([(20, 20), ((-2147483648), 2147483647), ((-2147483648), 2147483647), (0, 43), (1, 44)], [9], [(0, 39, .inr (.inl (4, 0))), (0, 1000, .inl 1)], [], [.inl ([(1, 4), ((-1), 3)], (-1)), .inl ([((-1), 4), (1, 3)], 1)]), none)])
def nu_310 : List aCt := []
set_option maxRecDepth 100000 in
theorem vk_310 {X : nX} {L : Nat} {xs : Nat → Int32} {g : Nat} {S : List Nat} : nV nj_M X L xs g nFT nAT S (nJJ S) nk_310 :=
  aChk_ok (ctx := []) (W := ([], [sw_23, sw_24, sw_25, sw_27])) (ls := none) (cuts := nu_310) (fuel := 37) (nJJ_ok S)
    ⟨(fun c hc => nomatch hc), (fun c hc => by
    simp only [List.mem_cons, List.not_mem_nil, or_false] at hc
    rcases hc with rfl | rfl | rfl | rfl
    · exact sw_23_ok
    · exact sw_24_ok
    · exact sw_25_ok
    · exact sw_27_ok)⟩
    ((fun c hc => nomatch hc))
    (fun _ _ _ _ y hy => by cases hy) (by decide +kernel)
/-- Model_code_join -/
def nk_311 : nK := (253, 0, ([(21, 22), ((-2147483648), 2147483647), ((-2147483648), 2147483647), (0, 43)], [9], [(0, 39, .inr (.inl (3, 0))), (0, 1000, .inl 2)], [], []), [.inr (.inr (.inl 0)), .inr (.inl (0, 0)), .inr (.inl (1, 0)), .inr (.inl (2, 0))], [(9, 39), (9, 1000), (9, 1001), (9, 1007), (9, 1008), (9, 1009), (9, 1010), (9, 1011), (9, 1012)], [52], [(([(21, 22), ((-2147483648), 2147483647), ((-2147483648), 2147483647), (0, 43), (1, 44)], [9], [(0, 39, .inr (.inl (4, 0))), (0, 1000, .inl 1)], [], [.inl ([(1, 4), ((-1), 3)], (-1)), .inl ([((-1), 4), (1, 3)], 1)]), none)])
def nu_311 : List aCt := []
set_option maxRecDepth 100000 in
theorem vk_311 {X : nX} {L : Nat} {xs : Nat → Int32} {g : Nat} {S : List Nat} : nV nj_M X L xs g nFT nAT S (nJJ S) nk_311 :=
  aChk_ok (ctx := []) (W := ([], [sw_23, sw_24, sw_25, sw_28])) (ls := none) (cuts := nu_311) (fuel := 37) (nJJ_ok S)
    ⟨(fun c hc => nomatch hc), (fun c hc => by
    simp only [List.mem_cons, List.not_mem_nil, or_false] at hc
    rcases hc with rfl | rfl | rfl | rfl
    · exact sw_23_ok
    · exact sw_24_ok
    · exact sw_25_ok
    · exact sw_28_ok)⟩
    ((fun c hc => nomatch hc))
    (fun _ _ _ _ y hy => by cases hy) (by decide +kernel)
/-- Model_code_leafa -/
def nk_312 : nK := (253, 0, ([(0, 1), ((-2147483648), 2147483647), ((-2147483648), 2147483647), (0, 43)], [9], [(0, 39, .inr (.inl (3, 0))), (0, 1000, .inl 0)], [], []), [.inr (.inr (.inl 0)), .inr (.inl (0, 0)), .inr (.inl (1, 0)), .inr (.inl (2, 0))], [(9, 39), (9, 1000), (9, 1001), (9, 1007), (9, 1008), (9, 1009), (9, 1010), (9, 1011), (9, 1012)], [52], [(([(0, 1), ((-2147483648), 2147483647), ((-2147483648), 2147483647), (0, 43), (1, 44)], [9], [(0, 39, .inr (.inl (4, 0))), (0, 1000, .inl 1)], [], [.inl ([(1, 4), ((-1), 3)], (-1)), .inl ([((-1), 4), (1, 3)], 1)]), none)])
def nu_312 : List aCt := []
set_option maxRecDepth 100000 in
theorem vk_312 {X : nX} {L : Nat} {xs : Nat → Int32} {g : Nat} {S : List Nat} : nV nj_M X L xs g nFT nAT S (nJJ S) nk_312 :=
  aChk_ok (ctx := []) (W := ([], [sw_23, sw_24, sw_25, sw_29])) (ls := none) (cuts := nu_312) (fuel := 37) (nJJ_ok S)
    ⟨(fun c hc => nomatch hc), (fun c hc => by
    simp only [List.mem_cons, List.not_mem_nil, or_false] at hc
    rcases hc with rfl | rfl | rfl | rfl
    · exact sw_23_ok
    · exact sw_24_ok
    · exact sw_25_ok
    · exact sw_29_ok)⟩
    ((fun c hc => nomatch hc))
    (fun _ _ _ _ y hy => by cases hy) (by decide +kernel)
/-- Model_code_leafb -/
def nk_313 : nK := (253, 0, ([(2, 2), ((-2147483648), 2147483647), (0, 5), (0, 43)], [9], [(0, 39, .inr (.inl (3, 0))), (0, 1000, .inl 0)], [], []), [.inr (.inr (.inl 0)), .inr (.inl (0, 0)), .inr (.inl (1, 0)), .inr (.inl (2, 0))], [(9, 39), (9, 1000), (9, 1001), (9, 1007), (9, 1008), (9, 1009), (9, 1010), (9, 1011), (9, 1012)], [52], [(([(2, 2), ((-2147483648), 2147483647), (0, 5), (0, 43), (1, 44)], [9], [(0, 39, .inr (.inl (4, 0))), (0, 1000, .inl 1)], [], [.inl ([(1, 4), ((-1), 3)], (-1)), .inl ([((-1), 4), (1, 3)], 1)]), none)])
def nu_313 : List aCt := []
set_option maxRecDepth 100000 in
theorem vk_313 {X : nX} {L : Nat} {xs : Nat → Int32} {g : Nat} {S : List Nat} : nV nj_M X L xs g nFT nAT S (nJJ S) nk_313 :=
  aChk_ok (ctx := []) (W := ([], [sw_23, sw_24, sw_25, sw_30])) (ls := none) (cuts := nu_313) (fuel := 37) (nJJ_ok S)
    ⟨(fun c hc => nomatch hc), (fun c hc => by
    simp only [List.mem_cons, List.not_mem_nil, or_false] at hc
    rcases hc with rfl | rfl | rfl | rfl
    · exact sw_23_ok
    · exact sw_24_ok
    · exact sw_25_ok
    · exact sw_30_ok)⟩
    ((fun c hc => nomatch hc))
    (fun _ _ _ _ y hy => by cases hy) (by decide +kernel)
/-- Model_code_leafc -/
def nk_314 : nK := (253, 0, ([(3, 3), ((-2147483648), 2147483647), (0, 9), (0, 43)], [9], [(0, 39, .inr (.inl (3, 0))), (0, 1000, .inl 0)], [], []), [.inr (.inr (.inl 0)), .inr (.inl (0, 0)), .inr (.inl (1, 0)), .inr (.inl (2, 0))], [(9, 39), (9, 1000), (9, 1001), (9, 1007), (9, 1008), (9, 1009), (9, 1010), (9, 1011), (9, 1012)], [52], [(([(3, 3), ((-2147483648), 2147483647), (0, 9), (0, 43), (1, 44)], [9], [(0, 39, .inr (.inl (4, 0))), (0, 1000, .inl 1)], [], [.inl ([(1, 4), ((-1), 3)], (-1)), .inl ([((-1), 4), (1, 3)], 1)]), none)])
def nu_314 : List aCt := []
set_option maxRecDepth 100000 in
theorem vk_314 {X : nX} {L : Nat} {xs : Nat → Int32} {g : Nat} {S : List Nat} : nV nj_M X L xs g nFT nAT S (nJJ S) nk_314 :=
  aChk_ok (ctx := []) (W := ([], [sw_23, sw_24, sw_25, sw_31])) (ls := none) (cuts := nu_314) (fuel := 37) (nJJ_ok S)
    ⟨(fun c hc => nomatch hc), (fun c hc => by
    simp only [List.mem_cons, List.not_mem_nil, or_false] at hc
    rcases hc with rfl | rfl | rfl | rfl
    · exact sw_23_ok
    · exact sw_24_ok
    · exact sw_25_ok
    · exact sw_31_ok)⟩
    ((fun c hc => nomatch hc))
    (fun _ _ _ _ y hy => by cases hy) (by decide +kernel)
/-- Model_code_leafd -/
def nk_315 : nK := (253, 0, ([(4, 19), ((-2147483648), 2147483647), ((-2147483648), 2147483647), (0, 43)], [9], [(0, 39, .inr (.inl (3, 0))), (0, 1000, .inl 0)], [], []), [.inr (.inr (.inl 0)), .inr (.inl (0, 0)), .inr (.inl (1, 0)), .inr (.inl (2, 0))], [(9, 39), (9, 1000), (9, 1001), (9, 1007), (9, 1008), (9, 1009), (9, 1010), (9, 1011), (9, 1012)], [52], [(([(4, 19), ((-2147483648), 2147483647), ((-2147483648), 2147483647), (0, 43), (1, 44)], [9], [(0, 39, .inr (.inl (4, 0))), (0, 1000, .inl 1)], [], [.inl ([(1, 4), ((-1), 3)], (-1)), .inl ([((-1), 4), (1, 3)], 1)]), none)])
def nu_315 : List aCt := []
set_option maxRecDepth 100000 in
theorem vk_315 {X : nX} {L : Nat} {xs : Nat → Int32} {g : Nat} {S : List Nat} : nV nj_M X L xs g nFT nAT S (nJJ S) nk_315 :=
  aChk_ok (ctx := []) (W := ([], [sw_23, sw_24, sw_25, sw_32])) (ls := none) (cuts := nu_315) (fuel := 37) (nJJ_ok S)
    ⟨(fun c hc => nomatch hc), (fun c hc => by
    simp only [List.mem_cons, List.not_mem_nil, or_false] at hc
    rcases hc with rfl | rfl | rfl | rfl
    · exact sw_23_ok
    · exact sw_24_ok
    · exact sw_25_ok
    · exact sw_32_ok)⟩
    ((fun c hc => nomatch hc))
    (fun _ _ _ _ y hy => by cases hy) (by decide +kernel)
/-- Model_nots -/
def nk_316 : nK := (252, 1, ([(0, 40), (0, 40)], [9], [(0, 41, .inr (.inl (0, 0))), (0, 39, .inr (.inl (1, 0))), (0, 1000, .inl 1)], [], [.inl ([(1, 0), (1, 1)], (-40))]), [.inr (.inr (.inl 0))], [(9, 39), (9, 41), (9, 42), (9, 1000), (9, 1001), (9, 1007), (9, 1008), (9, 1009), (9, 1010), (9, 1011), (9, 1012)], [52], [(([(0, 40), (0, 40), (0, 40), (0, 40)], [9], [(0, 41, .inr (.inl (2, 0))), (0, 39, .inr (.inl (3, 0))), (0, 1000, .inl 1)], [], [.inl ([(1, 2), (1, 3), ((-1), 0), ((-1), 1)], 0)]), none)])
def nu_316 : List aCt := [(0, ([(0, 40), (0, 40)], [9], [(0, 41, .inr (.inl (0, 0))), (0, 39, .inr (.inl (1, 0))), (0, 1000, .inl 1)], [], [.inl ([(1, 0), (1, 1)], (-40))]), [(0, .inr (.inr (.inl 0)))], ([(1, 0)], 1)), (0, ([(0, 40), (0, 40), (0, 40), (0, 40)], [9], [(0, 41, .inr (.inl (2, 0))), (0, 39, .inr (.inl (3, 0))), (0, 1000, .inl 1)], [], [.inl ([(1, 2), (1, 3), ((-1), 0), ((-1), 1)], 0), .inl ([(1, 2), (1, 3)], (-40))]), [(0, .inr (.inr (.inl 0)))], ([(1, 2)], 0))]
set_option maxRecDepth 100000 in
theorem vk_316 {X : nX} {L : Nat} {xs : Nat → Int32} {g : Nat} {S : List Nat} : nV nj_M X L xs g nFT nAT S (nJJ S) nk_316 :=
  aChk_ok (ctx := [nk_310]) (W := ([], [sw_35])) (ls := none) (cuts := nu_316) (fuel := 33) (nJJ_ok S)
    ⟨(fun c hc => nomatch hc), (fun c hc => by
    simp only [List.mem_cons, List.not_mem_nil, or_false] at hc
    subst hc
    · exact sw_35_ok)⟩
    ((fun c hc => by
    simp only [List.mem_cons, List.not_mem_nil, or_false] at hc
    subst hc
    · exact vk_310))
    (fun _ _ _ _ y hy => by cases hy) (by decide +kernel)
/-- Model_joins21 -/
def nk_317 : nK := (254, 1, ([(0, 40), (0, 40)], [9], [(0, 41, .inr (.inl (0, 0))), (0, 39, .inr (.inl (1, 0))), (0, 1000, .inl 1)], [], [.inl ([(1, 0), (1, 1)], (-40))]), [.inr (.inr (.inl 0)), .inl 21], [(9, 39), (9, 41), (9, 1000), (9, 1001), (9, 1007), (9, 1008), (9, 1009), (9, 1010), (9, 1011), (9, 1012)], [52], [(([(0, 40), (0, 40), (0, 40), (0, 40)], [9], [(0, 41, .inr (.inl (2, 0))), (0, 39, .inr (.inl (3, 0))), (0, 1000, .inl 1)], [], [.inl ([(1, 2), (1, 3), ((-1), 0), ((-1), 1)], 0)]), none)])
def nu_317 : List aCt := [(0, ([(0, 40), (0, 40)], [9], [(0, 41, .inr (.inl (0, 0))), (0, 39, .inr (.inl (1, 0))), (0, 1000, .inl 1)], [], [.inl ([(1, 0), (1, 1)], (-40))]), [(0, .inr (.inr (.inl 0))), (1, .inl 21)], ([(1, 0)], 1)), (0, ([(0, 40), (0, 40), (0, 40), (0, 40)], [9], [(0, 41, .inr (.inl (2, 0))), (0, 39, .inr (.inl (3, 0))), (0, 1000, .inl 1)], [], [.inl ([(1, 2), (1, 3), ((-1), 0), ((-1), 1)], 0), .inl ([(1, 2), (1, 3)], (-40))]), [(0, .inr (.inr (.inl 0))), (1, .inl 21)], ([(1, 2)], 0))]
set_option maxRecDepth 100000 in
theorem vk_317 {X : nX} {L : Nat} {xs : Nat → Int32} {g : Nat} {S : List Nat} : nV nj_M X L xs g nFT nAT S (nJJ S) nk_317 :=
  aChk_ok (ctx := [nk_311]) (W := ([], [sw_34])) (ls := none) (cuts := nu_317) (fuel := 31) (nJJ_ok S)
    ⟨(fun c hc => nomatch hc), (fun c hc => by
    simp only [List.mem_cons, List.not_mem_nil, or_false] at hc
    subst hc
    · exact sw_34_ok)⟩
    ((fun c hc => by
    simp only [List.mem_cons, List.not_mem_nil, or_false] at hc
    subst hc
    · exact vk_311))
    (fun _ _ _ _ y hy => by cases hy) (by decide +kernel)
/-- Model_joins22 -/
def nk_318 : nK := (254, 1, ([(0, 40), (0, 40)], [9], [(0, 41, .inr (.inl (0, 0))), (0, 39, .inr (.inl (1, 0))), (0, 1000, .inl 1)], [], [.inl ([(1, 0), (1, 1)], (-40))]), [.inr (.inr (.inl 0)), .inl 22], [(9, 39), (9, 41), (9, 1000), (9, 1001), (9, 1007), (9, 1008), (9, 1009), (9, 1010), (9, 1011), (9, 1012)], [52], [(([(0, 40), (0, 40), (0, 0), (0, 40)], [9], [(0, 41, .inr (.inl (2, 0))), (0, 39, .inr (.inl (3, 0))), (0, 1000, .inl 1)], [], [.inl ([(1, 2), (1, 3), ((-1), 0), ((-1), 1)], 0)]), none), (([(0, 40), (0, 40), (1, 40), (0, 40), ((-2147483648), 20)], [9, 63], [(0, 41, .inr (.inl (2, 0))), (0, 39, .inr (.inl (3, 0))), (0, 1000, .inl 1), (0, 38, .inr (.inr (.inl 1)))], [(1, .inr (.inl (2, (-1))), .inr (.inl (4, 0)))], [.inl ([(1, 2), (1, 3), ((-1), 0), ((-1), 1)], 0)]), none), (([(0, 40), (0, 40), (1, 40), (0, 40), (23, 2147483647)], [9, 63], [(0, 41, .inr (.inl (2, 0))), (0, 39, .inr (.inl (3, 0))), (0, 1000, .inl 1), (0, 38, .inr (.inr (.inl 1)))], [(1, .inr (.inl (2, (-1))), .inr (.inl (4, 0)))], [.inl ([(1, 2), (1, 3), ((-1), 0), ((-1), 1)], 0)]), none)])
def nu_318 : List aCt := [(0, ([(0, 40), (0, 40)], [9], [(0, 41, .inr (.inl (0, 0))), (0, 39, .inr (.inl (1, 0))), (0, 1000, .inl 1)], [], [.inl ([(1, 0), (1, 1)], (-40))]), [(0, .inr (.inr (.inl 0))), (1, .inl 22)], ([(1, 0)], 1)), (0, ([(0, 40), (0, 40), (0, 40), (0, 40)], [9], [(0, 41, .inr (.inl (2, 0))), (0, 39, .inr (.inl (3, 0))), (0, 1000, .inl 1)], [], [.inl ([(1, 2), (1, 3), ((-1), 0), ((-1), 1)], 0), .inl ([(1, 2), (1, 3)], (-40))]), [(0, .inr (.inr (.inl 0))), (1, .inl 22)], ([(1, 2)], 0))]
set_option maxRecDepth 100000 in
theorem vk_318 {X : nX} {L : Nat} {xs : Nat → Int32} {g : Nat} {S : List Nat} : nV nj_M X L xs g nFT nAT S (nJJ S) nk_318 :=
  aChk_ok (ctx := [nk_311]) (W := ([], [sw_34])) (ls := none) (cuts := nu_318) (fuel := 43) (nJJ_ok S)
    ⟨(fun c hc => nomatch hc), (fun c hc => by
    simp only [List.mem_cons, List.not_mem_nil, or_false] at hc
    subst hc
    · exact sw_34_ok)⟩
    ((fun c hc => by
    simp only [List.mem_cons, List.not_mem_nil, or_false] at hc
    subst hc
    · exact vk_311))
    (fun _ _ _ _ y hy => by cases hy) (by decide +kernel)
/-- Model_leafOf0 -/
def nk_319 : nK := (257, 1, ([(0, 0)], [9], [(0, 11, .inr (.inl (0, 0)))], [], []), [.inr (.inr (.inl 0))], [], [], [(([(0, 0), ((-1), (-1))], [9], [], [], []), some (.inr (.inl (1, 0))))])
def nu_319 : List aCt := []
set_option maxRecDepth 100000 in
theorem vk_319 {X : nX} {L : Nat} {xs : Nat → Int32} {g : Nat} {S : List Nat} : nV nj_M X L xs g nFT nAT S (nJJ S) nk_319 :=
  aChk_ok (ctx := [nk_163]) (W := ([], [])) (ls := none) (cuts := nu_319) (fuel := 36) (nJJ_ok S)
    ⟨(fun c hc => nomatch hc), (fun c hc => nomatch hc)⟩
    ((fun c hc => by
    simp only [List.mem_cons, List.not_mem_nil, or_false] at hc
    subst hc
    · exact vk_163))
    (fun _ _ _ _ y hy => by cases hy) (by decide +kernel)
/-- Model_leafOf4 -/
def nk_320 : nK := (257, 1, ([(4, 4)], [9], [(0, 11, .inr (.inl (0, 0)))], [], []), [.inr (.inr (.inl 0))], [], [], [(([(4, 4), ((-1), (-1))], [9], [], [], []), some (.inr (.inl (1, 0))))])
def nu_320 : List aCt := []
set_option maxRecDepth 100000 in
theorem vk_320 {X : nX} {L : Nat} {xs : Nat → Int32} {g : Nat} {S : List Nat} : nV nj_M X L xs g nFT nAT S (nJJ S) nk_320 :=
  aChk_ok (ctx := [nk_164]) (W := ([], [])) (ls := none) (cuts := nu_320) (fuel := 36) (nJJ_ok S)
    ⟨(fun c hc => nomatch hc), (fun c hc => nomatch hc)⟩
    ((fun c hc => by
    simp only [List.mem_cons, List.not_mem_nil, or_false] at hc
    subst hc
    · exact vk_164))
    (fun _ _ _ _ y hy => by cases hy) (by decide +kernel)
/-- Model_leafOf -/
def nk_321 : nK := (257, 1, ([], [9], [], [], []), [.inr (.inr (.inl 0))], [], [], [(([((-1), 7)], [9], [], [], []), some (.inr (.inl (0, 0))))])
def nu_321 : List aCt := []
set_option maxRecDepth 100000 in
theorem vk_321 {X : nX} {L : Nat} {xs : Nat → Int32} {g : Nat} {S : List Nat} : nV nj_M X L xs g nFT nAT S (nJJ S) nk_321 :=
  aChk_ok (ctx := [nk_165]) (W := ([], [])) (ls := none) (cuts := nu_321) (fuel := 37) (nJJ_ok S)
    ⟨(fun c hc => nomatch hc), (fun c hc => nomatch hc)⟩
    ((fun c hc => by
    simp only [List.mem_cons, List.not_mem_nil, or_false] at hc
    subst hc
    · exact vk_165))
    (fun _ _ _ _ y hy => by cases hy) (by decide +kernel)
/-- Model_operand0 -/
def nk_322 : nK := (256, 2, ([(0, 940), (0, 40), (0, 40), (0, 20), (0, 0)], [9], [(0, 4, .inr (.inl (0, 0))), (0, 41, .inr (.inl (1, 0))), (0, 39, .inr (.inl (2, 0))), (0, 40, .inr (.inl (3, 0))), (0, 1000, .inl 0), (0, 11, .inr (.inl (4, 0))), (0, 43, .inl 0)], [], [.inl ([(1, 1), (1, 2), ((-2), 3)], 0)]), [.inr (.inr (.inl 0))], [(9, 15), (9, 16)], [], [(([(0, 940), (0, 40), (0, 40), (0, 20), (0, 0)], [9], [], [], []), some (.inl 0))])
def nu_322 : List aCt := []
set_option maxRecDepth 100000 in
theorem vk_322 {X : nX} {L : Nat} {xs : Nat → Int32} {g : Nat} {S : List Nat} : nV nj_M X L xs g nFT nAT S (nJJ S) nk_322 :=
  aChk_ok (ctx := [nk_163, nk_319]) (W := ([], [])) (ls := none) (cuts := nu_322) (fuel := 38) (nJJ_ok S)
    ⟨(fun c hc => nomatch hc), (fun c hc => nomatch hc)⟩
    ((fun c hc => by
    simp only [List.mem_cons, List.not_mem_nil, or_false] at hc
    rcases hc with rfl | rfl
    · exact vk_163
    · exact vk_319))
    (fun _ _ _ _ y hy => by cases hy) (by decide +kernel)
/-- Model_behind0 -/
def nk_323 : nK := (255, 2, ([(0, 940), (0, 40), (0, 40), (0, 20), (0, 0)], [9], [(0, 4, .inr (.inl (0, 0))), (0, 41, .inr (.inl (1, 0))), (0, 39, .inr (.inl (2, 0))), (0, 40, .inr (.inl (3, 0))), (0, 1000, .inl 1), (0, 11, .inr (.inl (4, 0))), (0, 43, .inl 1)], [], [.inl ([(1, 1), (1, 2), ((-2), 3)], 1)]), [.inr (.inr (.inl 0))], [(9, 15), (9, 16), (9, 39), (9, 41), (9, 42), (9, 1000), (9, 1001), (9, 1007), (9, 1008), (9, 1009), (9, 1010), (9, 1011), (9, 1012)], [52], [(([(0, 940), (0, 40), (0, 40), (0, 20), (0, 0)], [9], [], [], []), some (.inl 0))])
def nu_323 : List aCt := []
set_option maxRecDepth 100000 in
theorem vk_323 {X : nX} {L : Nat} {xs : Nat → Int32} {g : Nat} {S : List Nat} : nV nj_M X L xs g nFT nAT S (nJJ S) nk_323 :=
  aChk_ok (ctx := [nk_163, nk_316, nk_318]) (W := ([], [])) (ls := none) (cuts := nu_323) (fuel := 38) (nJJ_ok S)
    ⟨(fun c hc => nomatch hc), (fun c hc => nomatch hc)⟩
    ((fun c hc => by
    simp only [List.mem_cons, List.not_mem_nil, or_false] at hc
    rcases hc with rfl | rfl | rfl
    · exact vk_163
    · exact vk_316
    · exact vk_318))
    (fun _ _ _ _ y hy => by cases hy) (by decide +kernel)
/-- Model_operand4 -/
def nk_324 : nK := (256, 2, ([(0, 940), (0, 40), (0, 40), (0, 20), (4, 4)], [9], [(0, 4, .inr (.inl (0, 0))), (0, 41, .inr (.inl (1, 0))), (0, 39, .inr (.inl (2, 0))), (0, 40, .inr (.inl (3, 0))), (0, 1000, .inl 0), (0, 11, .inr (.inl (4, 0))), (0, 43, .inl 0)], [], [.inl ([(1, 1), (1, 2), ((-2), 3)], 0)]), [.inr (.inr (.inl 0))], [(9, 15), (9, 16)], [], [(([(0, 940), (0, 40), (0, 40), (0, 20), (4, 4)], [9], [], [], []), some (.inl 0))])
def nu_324 : List aCt := []
set_option maxRecDepth 100000 in
theorem vk_324 {X : nX} {L : Nat} {xs : Nat → Int32} {g : Nat} {S : List Nat} : nV nj_M X L xs g nFT nAT S (nJJ S) nk_324 :=
  aChk_ok (ctx := [nk_164, nk_320]) (W := ([], [])) (ls := none) (cuts := nu_324) (fuel := 38) (nJJ_ok S)
    ⟨(fun c hc => nomatch hc), (fun c hc => nomatch hc)⟩
    ((fun c hc => by
    simp only [List.mem_cons, List.not_mem_nil, or_false] at hc
    rcases hc with rfl | rfl
    · exact vk_164
    · exact vk_320))
    (fun _ _ _ _ y hy => by cases hy) (by decide +kernel)
/-- Model_behind4 -/
def nk_325 : nK := (255, 2, ([(0, 940), (0, 40), (0, 40), (0, 20), (4, 4)], [9], [(0, 4, .inr (.inl (0, 0))), (0, 41, .inr (.inl (1, 0))), (0, 39, .inr (.inl (2, 0))), (0, 40, .inr (.inl (3, 0))), (0, 1000, .inl 1), (0, 11, .inr (.inl (4, 0))), (0, 43, .inl 1)], [], [.inl ([(1, 1), (1, 2), ((-2), 3)], 1)]), [.inr (.inr (.inl 0))], [(9, 15), (9, 16), (9, 39), (9, 41), (9, 42), (9, 1000), (9, 1001), (9, 1007), (9, 1008), (9, 1009), (9, 1010), (9, 1011), (9, 1012)], [52], [(([(0, 940), (0, 40), (0, 40), (0, 20), (4, 4)], [9], [], [], []), some (.inl 0))])
def nu_325 : List aCt := []
set_option maxRecDepth 100000 in
theorem vk_325 {X : nX} {L : Nat} {xs : Nat → Int32} {g : Nat} {S : List Nat} : nV nj_M X L xs g nFT nAT S (nJJ S) nk_325 :=
  aChk_ok (ctx := [nk_164, nk_316, nk_318]) (W := ([], [])) (ls := none) (cuts := nu_325) (fuel := 38) (nJJ_ok S)
    ⟨(fun c hc => nomatch hc), (fun c hc => nomatch hc)⟩
    ((fun c hc => by
    simp only [List.mem_cons, List.not_mem_nil, or_false] at hc
    rcases hc with rfl | rfl | rfl
    · exact vk_164
    · exact vk_316
    · exact vk_318))
    (fun _ _ _ _ y hy => by cases hy) (by decide +kernel)
