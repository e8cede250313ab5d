/-- Model_eldest1 -/
def nk_224 : nK := (206, 1, ([((-2147483648), 2147483647)], [9], [], [], [.inr (0, 1)]), [.inr (.inr (.inl 0)), .inr (.inl (0, 0))], [], [], [(([((-2147483648), 2147483647)], [9], [], [], []), some (.inl (-1))), (([((-2147483648), 2147483647), (1, 9)], [9], [], [], []), some (.inr (.inl (1, 0))))])
def nu_224 : List aCt := [(4, ([((-2147483648), 2147483647), (1, 9), (0, 10)], [9], [], [], [.inr (0, 1)]), [(0, .inr (.inr (.inl 0))), (1, .inr (.inl (0, 0))), (2, .inr (.inl (1, 0))), (3, .inr (.inl (2, 0)))], ([((-1), 2)], 11)), (4, ([((-2147483648), 2147483647), (0, 10)], [9], [], [], [.inr (0, 1)]), [(0, .inr (.inr (.inl 0))), (1, .inr (.inl (0, 0))), (2, .inl (-1)), (3, .inr (.inl (1, 0)))], ([((-1), 1)], 11))]
set_option maxRecDepth 100000 in
theorem vk_224 {X : nX} {L : Nat} {xs : Nat → Int32} {g : Nat} {S : List Nat} : nV nj_M X L xs g nFT nAT S (nJJ S) nk_224 :=
  aChk_ok (ctx := []) (W := ([gh_17], [])) (ls := none) (cuts := nu_224) (fuel := 42) (nJJ_ok S)
    ⟨(fun c hc => by
    simp only [List.mem_cons, List.not_mem_nil, or_false] at hc
    subst hc
    · exact gh_17_ok), (fun c hc => nomatch hc)⟩
    ((fun c hc => nomatch hc))
    (fun _ _ _ _ y hy => by cases hy) (by decide +kernel)
/-- Model_withLiving2 -/
def nk_225 : nK := (207, 2, ([((-2147483648), 2147483647)], [9], [], [], [.inr (0, 2)]), [.inr (.inr (.inl 0)), .inr (.inl (0, 0))], [], [], [(([((-2147483648), 2147483647), ((-2147483648), 2147483647)], [9], [], [], [.inr (1, 2)]), some (.inr (.inl (1, 0))))])
def nu_225 : List aCt := [(4, ([((-2147483648), 2147483647), ((-2147483648), 2147483647), (0, 10)], [9], [], [], [.inr (0, 2), .inr (1, 2)]), [(0, .inr (.inr (.inl 0))), (1, .inr (.inl (0, 0))), (2, .inr (.inl (1, 0))), (3, .inr (.inl (2, 0)))], ([((-1), 2)], 11)), (4, ([((-2147483648), 2147483647), (0, 10)], [9], [], [], [.inr (0, 2)]), [(0, .inr (.inr (.inl 0))), (1, .inr (.inl (0, 0))), (2, .inl 0), (3, .inr (.inl (1, 0)))], ([((-1), 1)], 11))]
set_option maxRecDepth 100000 in
theorem vk_225 {X : nX} {L : Nat} {xs : Nat → Int32} {g : Nat} {S : List Nat} : nV nj_M X L xs g nFT nAT S (nJJ S) nk_225 :=
  aChk_ok (ctx := [nk_222]) (W := ([gh_19], [])) (ls := none) (cuts := nu_225) (fuel := 43) (nJJ_ok S)
    ⟨(fun c hc => by
    simp only [List.mem_cons, List.not_mem_nil, or_false] at hc
    subst hc
    · exact gh_19_ok), (fun c hc => nomatch hc)⟩
    ((fun c hc => by
    simp only [List.mem_cons, List.not_mem_nil, or_false] at hc
    subst hc
    · exact vk_222))
    (fun _ _ _ _ y hy => by cases hy) (by decide +kernel)
/-- Model_eldest2 -/
def nk_226 : nK := (206, 1, ([((-2147483648), 2147483647)], [9], [], [], [.inr (0, 2)]), [.inr (.inr (.inl 0)), .inr (.inl (0, 0))], [], [], [(([((-2147483648), 2147483647)], [9], [], [], []), some (.inl (-1))), (([((-2147483648), 2147483647), (2, 9)], [9], [], [], []), some (.inr (.inl (1, 0))))])
def nu_226 : List aCt := [(4, ([((-2147483648), 2147483647), (2, 9), (0, 10)], [9], [], [], [.inr (0, 2)]), [(0, .inr (.inr (.inl 0))), (1, .inr (.inl (0, 0))), (2, .inr (.inl (1, 0))), (3, .inr (.inl (2, 0)))], ([((-1), 2)], 11)), (4, ([((-2147483648), 2147483647), (0, 10)], [9], [], [], [.inr (0, 2)]), [(0, .inr (.inr (.inl 0))), (1, .inr (.inl (0, 0))), (2, .inl (-1)), (3, .inr (.inl (1, 0)))], ([((-1), 1)], 11))]
set_option maxRecDepth 100000 in
theorem vk_226 {X : nX} {L : Nat} {xs : Nat → Int32} {g : Nat} {S : List Nat} : nV nj_M X L xs g nFT nAT S (nJJ S) nk_226 :=
  aChk_ok (ctx := []) (W := ([gh_20], [])) (ls := none) (cuts := nu_226) (fuel := 42) (nJJ_ok S)
    ⟨(fun c hc => by
    simp only [List.mem_cons, List.not_mem_nil, or_false] at hc
    subst hc
    · exact gh_20_ok), (fun c hc => nomatch hc)⟩
    ((fun c hc => nomatch hc))
    (fun _ _ _ _ y hy => by cases hy) (by decide +kernel)
/-- Model_withLiving3 -/
def nk_227 : nK := (207, 2, ([((-2147483648), 2147483647)], [9], [], [], [.inr (0, 3)]), [.inr (.inr (.inl 0)), .inr (.inl (0, 0))], [], [], [(([((-2147483648), 2147483647), ((-2147483648), 2147483647)], [9], [], [], [.inr (1, 3)]), some (.inr (.inl (1, 0))))])
def nu_227 : List aCt := [(4, ([((-2147483648), 2147483647), ((-2147483648), 2147483647), (0, 10)], [9], [], [], [.inr (0, 3), .inr (1, 3)]), [(0, .inr (.inr (.inl 0))), (1, .inr (.inl (0, 0))), (2, .inr (.inl (1, 0))), (3, .inr (.inl (2, 0)))], ([((-1), 2)], 11)), (4, ([((-2147483648), 2147483647), (0, 10)], [9], [], [], [.inr (0, 3)]), [(0, .inr (.inr (.inl 0))), (1, .inr (.inl (0, 0))), (2, .inl 0), (3, .inr (.inl (1, 0)))], ([((-1), 1)], 11))]
set_option maxRecDepth 100000 in
theorem vk_227 {X : nX} {L : Nat} {xs : Nat → Int32} {g : Nat} {S : List Nat} : nV nj_M X L xs g nFT nAT S (nJJ S) nk_227 :=
  aChk_ok (ctx := [nk_222]) (W := ([gh_22], [])) (ls := none) (cuts := nu_227) (fuel := 43) (nJJ_ok S)
    ⟨(fun c hc => by
    simp only [List.mem_cons, List.not_mem_nil, or_false] at hc
    subst hc
    · exact gh_22_ok), (fun c hc => nomatch hc)⟩
    ((fun c hc => by
    simp only [List.mem_cons, List.not_mem_nil, or_false] at hc
    subst hc
    · exact vk_222))
    (fun _ _ _ _ y hy => by cases hy) (by decide +kernel)
/-- Model_eldest3 -/
def nk_228 : nK := (206, 1, ([((-2147483648), 2147483647)], [9], [], [], [.inr (0, 3)]), [.inr (.inr (.inl 0)), .inr (.inl (0, 0))], [], [], [(([((-2147483648), 2147483647)], [9], [], [], []), some (.inl (-1))), (([((-2147483648), 2147483647), (3, 9)], [9], [], [], []), some (.inr (.inl (1, 0))))])
def nu_228 : List aCt := [(4, ([((-2147483648), 2147483647), (3, 9), (0, 10)], [9], [], [], [.inr (0, 3)]), [(0, .inr (.inr (.inl 0))), (1, .inr (.inl (0, 0))), (2, .inr (.inl (1, 0))), (3, .inr (.inl (2, 0)))], ([((-1), 2)], 11)), (4, ([((-2147483648), 2147483647), (0, 10)], [9], [], [], [.inr (0, 3)]), [(0, .inr (.inr (.inl 0))), (1, .inr (.inl (0, 0))), (2, .inl (-1)), (3, .inr (.inl (1, 0)))], ([((-1), 1)], 11))]
set_option maxRecDepth 100000 in
theorem vk_228 {X : nX} {L : Nat} {xs : Nat → Int32} {g : Nat} {S : List Nat} : nV nj_M X L xs g nFT nAT S (nJJ S) nk_228 :=
  aChk_ok (ctx := []) (W := ([gh_23], [])) (ls := none) (cuts := nu_228) (fuel := 42) (nJJ_ok S)
    ⟨(fun c hc => by
    simp only [List.mem_cons, List.not_mem_nil, or_false] at hc
    subst hc
    · exact gh_23_ok), (fun c hc => nomatch hc)⟩
    ((fun c hc => nomatch hc))
    (fun _ _ _ _ y hy => by cases hy) (by decide +kernel)
/-- Model_withLiving4 -/
def nk_229 : nK := (207, 2, ([((-2147483648), 2147483647)], [9], [], [], [.inr (0, 4)]), [.inr (.inr (.inl 0)), .inr (.inl (0, 0))], [], [], [(([((-2147483648), 2147483647), ((-2147483648), 2147483647)], [9], [], [], [.inr (1, 4)]), some (.inr (.inl (1, 0))))])
def nu_229 : List aCt := [(4, ([((-2147483648), 2147483647), ((-2147483648), 2147483647), (0, 10)], [9], [], [], [.inr (0, 4), .inr (1, 4)]), [(0, .inr (.inr (.inl 0))), (1, .inr (.inl (0, 0))), (2, .inr (.inl (1, 0))), (3, .inr (.inl (2, 0)))], ([((-1), 2)], 11)), (4, ([((-2147483648), 2147483647), (0, 10)], [9], [], [], [.inr (0, 4)]), [(0, .inr (.inr (.inl 0))), (1, .inr (.inl (0, 0))), (2, .inl 0), (3, .inr (.inl (1, 0)))], ([((-1), 1)], 11))]
set_option maxRecDepth 100000 in
theorem vk_229 {X : nX} {L : Nat} {xs : Nat → Int32} {g : Nat} {S : List Nat} : nV nj_M X L xs g nFT nAT S (nJJ S) nk_229 :=
  aChk_ok (ctx := [nk_222]) (W := ([gh_25], [])) (ls := none) (cuts := nu_229) (fuel := 43) (nJJ_ok S)
    ⟨(fun c hc => by
    simp only [List.mem_cons, List.not_mem_nil, or_false] at hc
    subst hc
    · exact gh_25_ok), (fun c hc => nomatch hc)⟩
    ((fun c hc => by
    simp only [List.mem_cons, List.not_mem_nil, or_false] at hc
    subst hc
    · exact vk_222))
    (fun _ _ _ _ y hy => by cases hy) (by decide +kernel)
/-- Model_eldest4 -/
def nk_230 : nK := (206, 1, ([((-2147483648), 2147483647)], [9], [], [], [.inr (0, 4)]), [.inr (.inr (.inl 0)), .inr (.inl (0, 0))], [], [], [(([((-2147483648), 2147483647)], [9], [], [], []), some (.inl (-1))), (([((-2147483648), 2147483647), (4, 9)], [9], [], [], []), some (.inr (.inl (1, 0))))])
def nu_230 : List aCt := [(4, ([((-2147483648), 2147483647), (4, 9), (0, 10)], [9], [], [], [.inr (0, 4)]), [(0, .inr (.inr (.inl 0))), (1, .inr (.inl (0, 0))), (2, .inr (.inl (1, 0))), (3, .inr (.inl (2, 0)))], ([((-1), 2)], 11)), (4, ([((-2147483648), 2147483647), (0, 10)], [9], [], [], [.inr (0, 4)]), [(0, .inr (.inr (.inl 0))), (1, .inr (.inl (0, 0))), (2, .inl (-1)), (3, .inr (.inl (1, 0)))], ([((-1), 1)], 11))]
set_option maxRecDepth 100000 in
theorem vk_230 {X : nX} {L : Nat} {xs : Nat → Int32} {g : Nat} {S : List Nat} : nV nj_M X L xs g nFT nAT S (nJJ S) nk_230 :=
  aChk_ok (ctx := []) (W := ([gh_26], [])) (ls := none) (cuts := nu_230) (fuel := 42) (nJJ_ok S)
    ⟨(fun c hc => by
    simp only [List.mem_cons, List.not_mem_nil, or_false] at hc
    subst hc
    · exact gh_26_ok), (fun c hc => nomatch hc)⟩
    ((fun c hc => nomatch hc))
    (fun _ _ _ _ y hy => by cases hy) (by decide +kernel)
/-- Model_withLiving5 -/
def nk_231 : nK := (207, 2, ([((-2147483648), 2147483647)], [9], [], [], [.inr (0, 5)]), [.inr (.inr (.inl 0)), .inr (.inl (0, 0))], [], [], [(([((-2147483648), 2147483647), ((-2147483648), 2147483647)], [9], [], [], [.inr (1, 5)]), some (.inr (.inl (1, 0))))])
def nu_231 : List aCt := [(4, ([((-2147483648), 2147483647), ((-2147483648), 2147483647), (0, 10)], [9], [], [], [.inr (0, 5), .inr (1, 5)]), [(0, .inr (.inr (.inl 0))), (1, .inr (.inl (0, 0))), (2, .inr (.inl (1, 0))), (3, .inr (.inl (2, 0)))], ([((-1), 2)], 11)), (4, ([((-2147483648), 2147483647), (0, 10)], [9], [], [], [.inr (0, 5)]), [(0, .inr (.inr (.inl 0))), (1, .inr (.inl (0, 0))), (2, .inl 0), (3, .inr (.inl (1, 0)))], ([((-1), 1)], 11))]
set_option maxRecDepth 100000 in
theorem vk_231 {X : nX} {L : Nat} {xs : Nat → Int32} {g : Nat} {S : List Nat} : nV nj_M X L xs g nFT nAT S (nJJ S) nk_231 :=
  aChk_ok (ctx := [nk_222]) (W := ([gh_28], [])) (ls := none) (cuts := nu_231) (fuel := 43) (nJJ_ok S)
    ⟨(fun c hc => by
    simp only [List.mem_cons, List.not_mem_nil, or_false] at hc
    subst hc
    · exact gh_28_ok), (fun c hc => nomatch hc)⟩
    ((fun c hc => by
    simp only [List.mem_cons, List.not_mem_nil, or_false] at hc
    subst hc
    · exact vk_222))
    (fun _ _ _ _ y hy => by cases hy) (by decide +kernel)
/-- Model_eldest5 -/
def nk_232 : nK := (206, 1, ([((-2147483648), 2147483647)], [9], [], [], [.inr (0, 5)]), [.inr (.inr (.inl 0)), .inr (.inl (0, 0))], [], [], [(([((-2147483648), 2147483647)], [9], [], [], []), some (.inl (-1))), (([((-2147483648), 2147483647), (5, 9)], [9], [], [], []), some (.inr (.inl (1, 0))))])
def nu_232 : List aCt := [(4, ([((-2147483648), 2147483647), (5, 9), (0, 10)], [9], [], [], [.inr (0, 5)]), [(0, .inr (.inr (.inl 0))), (1, .inr (.inl (0, 0))), (2, .inr (.inl (1, 0))), (3, .inr (.inl (2, 0)))], ([((-1), 2)], 11)), (4, ([((-2147483648), 2147483647), (0, 10)], [9], [], [], [.inr (0, 5)]), [(0, .inr (.inr (.inl 0))), (1, .inr (.inl (0, 0))), (2, .inl (-1)), (3, .inr (.inl (1, 0)))], ([((-1), 1)], 11))]
set_option maxRecDepth 100000 in
theorem vk_232 {X : nX} {L : Nat} {xs : Nat → Int32} {g : Nat} {S : List Nat} : nV nj_M X L xs g nFT nAT S (nJJ S) nk_232 :=
  aChk_ok (ctx := []) (W := ([gh_29], [])) (ls := none) (cuts := nu_232) (fuel := 42) (nJJ_ok S)
    ⟨(fun c hc => by
    simp only [List.mem_cons, List.not_mem_nil, or_false] at hc
    subst hc
    · exact gh_29_ok), (fun c hc => nomatch hc)⟩
    ((fun c hc => nomatch hc))
    (fun _ _ _ _ y hy => by cases hy) (by decide +kernel)
/-- Model_withLiving6 -/
def nk_233 : nK := (207, 2, ([((-2147483648), 2147483647)], [9], [], [], [.inr (0, 6)]), [.inr (.inr (.inl 0)), .inr (.inl (0, 0))], [], [], [(([((-2147483648), 2147483647), ((-2147483648), 2147483647)], [9], [], [], [.inr (1, 6)]), some (.inr (.inl (1, 0))))])
def nu_233 : List aCt := [(4, ([((-2147483648), 2147483647), ((-2147483648), 2147483647), (0, 10)], [9], [], [], [.inr (0, 6), .inr (1, 6)]), [(0, .inr (.inr (.inl 0))), (1, .inr (.inl (0, 0))), (2, .inr (.inl (1, 0))), (3, .inr (.inl (2, 0)))], ([((-1), 2)], 11)), (4, ([((-2147483648), 2147483647), (0, 10)], [9], [], [], [.inr (0, 6)]), [(0, .inr (.inr (.inl 0))), (1, .inr (.inl (0, 0))), (2, .inl 0), (3, .inr (.inl (1, 0)))], ([((-1), 1)], 11))]
set_option maxRecDepth 100000 in
theorem vk_233 {X : nX} {L : Nat} {xs : Nat → Int32} {g : Nat} {S : List Nat} : nV nj_M X L xs g nFT nAT S (nJJ S) nk_233 :=
  aChk_ok (ctx := [nk_222]) (W := ([gh_31], [])) (ls := none) (cuts := nu_233) (fuel := 43) (nJJ_ok S)
    ⟨(fun c hc => by
    simp only [List.mem_cons, List.not_mem_nil, or_false] at hc
    subst hc
    · exact gh_31_ok), (fun c hc => nomatch hc)⟩
    ((fun c hc => by
    simp only [List.mem_cons, List.not_mem_nil, or_false] at hc
    subst hc
    · exact vk_222))
    (fun _ _ _ _ y hy => by cases hy) (by decide +kernel)
/-- Model_eldest6 -/
def nk_234 : nK := (206, 1, ([((-2147483648), 2147483647)], [9], [], [], [.inr (0, 6)]), [.inr (.inr (.inl 0)), .inr (.inl (0, 0))], [], [], [(([((-2147483648), 2147483647)], [9], [], [], []), some (.inl (-1))), (([((-2147483648), 2147483647), (6, 9)], [9], [], [], []), some (.inr (.inl (1, 0))))])
def nu_234 : List aCt := [(4, ([((-2147483648), 2147483647), (6, 9), (0, 10)], [9], [], [], [.inr (0, 6)]), [(0, .inr (.inr (.inl 0))), (1, .inr (.inl (0, 0))), (2, .inr (.inl (1, 0))), (3, .inr (.inl (2, 0)))], ([((-1), 2)], 11)), (4, ([((-2147483648), 2147483647), (0, 10)], [9], [], [], [.inr (0, 6)]), [(0, .inr (.inr (.inl 0))), (1, .inr (.inl (0, 0))), (2, .inl (-1)), (3, .inr (.inl (1, 0)))], ([((-1), 1)], 11))]
set_option maxRecDepth 100000 in
theorem vk_234 {X : nX} {L : Nat} {xs : Nat → Int32} {g : Nat} {S : List Nat} : nV nj_M X L xs g nFT nAT S (nJJ S) nk_234 :=
  aChk_ok (ctx := []) (W := ([gh_32], [])) (ls := none) (cuts := nu_234) (fuel := 42) (nJJ_ok S)
    ⟨(fun c hc => by
    simp only [List.mem_cons, List.not_mem_nil, or_false] at hc
    subst hc
    · exact gh_32_ok), (fun c hc => nomatch hc)⟩
    ((fun c hc => nomatch hc))
    (fun _ _ _ _ y hy => by cases hy) (by decide +kernel)
/-- Model_withLiving7 -/
def nk_235 : nK := (207, 2, ([((-2147483648), 2147483647)], [9], [], [], [.inr (0, 7)]), [.inr (.inr (.inl 0)), .inr (.inl (0, 0))], [], [], [(([((-2147483648), 2147483647), ((-2147483648), 2147483647)], [9], [], [], [.inr (1, 7)]), some (.inr (.inl (1, 0))))])
def nu_235 : List aCt := [(4, ([((-2147483648), 2147483647), ((-2147483648), 2147483647), (0, 10)], [9], [], [], [.inr (0, 7), .inr (1, 7)]), [(0, .inr (.inr (.inl 0))), (1, .inr (.inl (0, 0))), (2, .inr (.inl (1, 0))), (3, .inr (.inl (2, 0)))], ([((-1), 2)], 11)), (4, ([((-2147483648), 2147483647), (0, 10)], [9], [], [], [.inr (0, 7)]), [(0, .inr (.inr (.inl 0))), (1, .inr (.inl (0, 0))), (2, .inl 0), (3, .inr (.inl (1, 0)))], ([((-1), 1)], 11))]
set_option maxRecDepth 100000 in
theorem vk_235 {X : nX} {L : Nat} {xs : Nat → Int32} {g : Nat} {S : List Nat} : nV nj_M X L xs g nFT nAT S (nJJ S) nk_235 :=
  aChk_ok (ctx := [nk_222]) (W := ([gh_34], [])) (ls := none) (cuts := nu_235) (fuel := 43) (nJJ_ok S)
    ⟨(fun c hc => by
    simp only [List.mem_cons, List.not_mem_nil, or_false] at hc
    subst hc
    · exact gh_34_ok), (fun c hc => nomatch hc)⟩
    ((fun c hc => by
    simp only [List.mem_cons, List.not_mem_nil, or_false] at hc
    subst hc
    · exact vk_222))
    (fun _ _ _ _ y hy => by cases hy) (by decide +kernel)
/-- Model_eldest7 -/
def nk_236 : nK := (206, 1, ([((-2147483648), 2147483647)], [9], [], [], [.inr (0, 7)]), [.inr (.inr (.inl 0)), .inr (.inl (0, 0))], [], [], [(([((-2147483648), 2147483647)], [9], [], [], []), some (.inl (-1))), (([((-2147483648), 2147483647), (7, 9)], [9], [], [], []), some (.inr (.inl (1, 0))))])
def nu_236 : List aCt := [(4, ([((-2147483648), 2147483647), (7, 9), (0, 10)], [9], [], [], [.inr (0, 7)]), [(0, .inr (.inr (.inl 0))), (1, .inr (.inl (0, 0))), (2, .inr (.inl (1, 0))), (3, .inr (.inl (2, 0)))], ([((-1), 2)], 11)), (4, ([((-2147483648), 2147483647), (0, 10)], [9], [], [], [.inr (0, 7)]), [(0, .inr (.inr (.inl 0))), (1, .inr (.inl (0, 0))), (2, .inl (-1)), (3, .inr (.inl (1, 0)))], ([((-1), 1)], 11))]
set_option maxRecDepth 100000 in
theorem vk_236 {X : nX} {L : Nat} {xs : Nat → Int32} {g : Nat} {S : List Nat} : nV nj_M X L xs g nFT nAT S (nJJ S) nk_236 :=
  aChk_ok (ctx := []) (W := ([gh_35], [])) (ls := none) (cuts := nu_236) (fuel := 42) (nJJ_ok S)
    ⟨(fun c hc => by
    simp only [List.mem_cons, List.not_mem_nil, or_false] at hc
    subst hc
    · exact gh_35_ok), (fun c hc => nomatch hc)⟩
    ((fun c hc => nomatch hc))
    (fun _ _ _ _ y hy => by cases hy) (by decide +kernel)
/-- Model_withLiving8 -/
def nk_237 : nK := (207, 2, ([((-2147483648), 2147483647)], [9], [], [], [.inr (0, 8)]), [.inr (.inr (.inl 0)), .inr (.inl (0, 0))], [], [], [(([((-2147483648), 2147483647), ((-2147483648), 2147483647)], [9], [], [], [.inr (1, 8)]), some (.inr (.inl (1, 0))))])
def nu_237 : List aCt := [(4, ([((-2147483648), 2147483647), ((-2147483648), 2147483647), (0, 10)], [9], [], [], [.inr (0, 8), .inr (1, 8)]), [(0, .inr (.inr (.inl 0))), (1, .inr (.inl (0, 0))), (2, .inr (.inl (1, 0))), (3, .inr (.inl (2, 0)))], ([((-1), 2)], 11)), (4, ([((-2147483648), 2147483647), (0, 10)], [9], [], [], [.inr (0, 8)]), [(0, .inr (.inr (.inl 0))), (1, .inr (.inl (0, 0))), (2, .inl 0), (3, .inr (.inl (1, 0)))], ([((-1), 1)], 11))]
set_option maxRecDepth 100000 in
theorem vk_237 {X : nX} {L : Nat} {xs : Nat → Int32} {g : Nat} {S : List Nat} : nV nj_M X L xs g nFT nAT S (nJJ S) nk_237 :=
  aChk_ok (ctx := [nk_222]) (W := ([gh_37], [])) (ls := none) (cuts := nu_237) (fuel := 43) (nJJ_ok S)
    ⟨(fun c hc => by
    simp only [List.mem_cons, List.not_mem_nil, or_false] at hc
    subst hc
    · exact gh_37_ok), (fun c hc => nomatch hc)⟩
    ((fun c hc => by
    simp only [List.mem_cons, List.not_mem_nil, or_false] at hc
    subst hc
    · exact vk_222))
    (fun _ _ _ _ y hy => by cases hy) (by decide +kernel)
/-- Model_eldest8 -/
def nk_238 : nK := (206, 1, ([((-2147483648), 2147483647)], [9], [], [], [.inr (0, 8)]), [.inr (.inr (.inl 0)), .inr (.inl (0, 0))], [], [], [(([((-2147483648), 2147483647)], [9], [], [], []), some (.inl (-1))), (([((-2147483648), 2147483647), (8, 9)], [9], [], [], []), some (.inr (.inl (1, 0))))])
def nu_238 : List aCt := [(4, ([((-2147483648), 2147483647), (8, 9), (0, 10)], [9], [], [], [.inr (0, 8)]), [(0, .inr (.inr (.inl 0))), (1, .inr (.inl (0, 0))), (2, .inr (.inl (1, 0))), (3, .inr (.inl (2, 0)))], ([((-1), 2)], 11)), (4, ([((-2147483648), 2147483647), (0, 10)], [9], [], [], [.inr (0, 8)]), [(0, .inr (.inr (.inl 0))), (1, .inr (.inl (0, 0))), (2, .inl (-1)), (3, .inr (.inl (1, 0)))], ([((-1), 1)], 11))]
set_option maxRecDepth 100000 in
theorem vk_238 {X : nX} {L : Nat} {xs : Nat → Int32} {g : Nat} {S : List Nat} : nV nj_M X L xs g nFT nAT S (nJJ S) nk_238 :=
  aChk_ok (ctx := []) (W := ([gh_38], [])) (ls := none) (cuts := nu_238) (fuel := 42) (nJJ_ok S)
    ⟨(fun c hc => by
    simp only [List.mem_cons, List.not_mem_nil, or_false] at hc
    subst hc
    · exact gh_38_ok), (fun c hc => nomatch hc)⟩
    ((fun c hc => nomatch hc))
    (fun _ _ _ _ y hy => by cases hy) (by decide +kernel)
/-- Model_withLiving9 -/
def nk_239 : nK := (207, 2, ([((-2147483648), 2147483647)], [9], [], [], [.inr (0, 9)]), [.inr (.inr (.inl 0)), .inr (.inl (0, 0))], [], [], [(([((-2147483648), 2147483647), ((-2147483648), 2147483647)], [9], [], [], [.inr (1, 9)]), some (.inr (.inl (1, 0))))])
def nu_239 : List aCt := [(4, ([((-2147483648), 2147483647), ((-2147483648), 2147483647), (0, 10)], [9], [], [], [.inr (0, 9), .inr (1, 9)]), [(0, .inr (.inr (.inl 0))), (1, .inr (.inl (0, 0))), (2, .inr (.inl (1, 0))), (3, .inr (.inl (2, 0)))], ([((-1), 2)], 11)), (4, ([((-2147483648), 2147483647), (0, 10)], [9], [], [], [.inr (0, 9)]), [(0, .inr (.inr (.inl 0))), (1, .inr (.inl (0, 0))), (2, .inl 0), (3, .inr (.inl (1, 0)))], ([((-1), 1)], 11))]
set_option maxRecDepth 100000 in
theorem vk_239 {X : nX} {L : Nat} {xs : Nat → Int32} {g : Nat} {S : List Nat} : nV nj_M X L xs g nFT nAT S (nJJ S) nk_239 :=
  aChk_ok (ctx := [nk_222]) (W := ([gh_40], [])) (ls := none) (cuts := nu_239) (fuel := 43) (nJJ_ok S)
    ⟨(fun c hc => by
    simp only [List.mem_cons, List.not_mem_nil, or_false] at hc
    subst hc
    · exact gh_40_ok), (fun c hc => nomatch hc)⟩
    ((fun c hc => by
    simp only [List.mem_cons, List.not_mem_nil, or_false] at hc
    subst hc
    · exact vk_222))
    (fun _ _ _ _ y hy => by cases hy) (by decide +kernel)
/-- Model_eldest9 -/
def nk_240 : nK := (206, 1, ([((-2147483648), 2147483647)], [9], [], [], [.inr (0, 9)]), [.inr (.inr (.inl 0)), .inr (.inl (0, 0))], [], [], [(([((-2147483648), 2147483647)], [9], [], [], []), some (.inl (-1))), (([((-2147483648), 2147483647), (9, 9)], [9], [], [], []), some (.inr (.inl (1, 0))))])
def nu_240 : List aCt := [(4, ([((-2147483648), 2147483647), (9, 9), (0, 10)], [9], [], [], [.inr (0, 9)]), [(0, .inr (.inr (.inl 0))), (1, .inr (.inl (0, 0))), (2, .inr (.inl (1, 0))), (3, .inr (.inl (2, 0)))], ([((-1), 2)], 11)), (4, ([((-2147483648), 2147483647), (0, 10)], [9], [], [], [.inr (0, 9)]), [(0, .inr (.inr (.inl 0))), (1, .inr (.inl (0, 0))), (2, .inl (-1)), (3, .inr (.inl (1, 0)))], ([((-1), 1)], 11))]
set_option maxRecDepth 100000 in
theorem vk_240 {X : nX} {L : Nat} {xs : Nat → Int32} {g : Nat} {S : List Nat} : nV nj_M X L xs g nFT nAT S (nJJ S) nk_240 :=
  aChk_ok (ctx := []) (W := ([gh_41], [])) (ls := none) (cuts := nu_240) (fuel := 42) (nJJ_ok S)
    ⟨(fun c hc => by
    simp only [List.mem_cons, List.not_mem_nil, or_false] at hc
    subst hc
    · exact gh_41_ok), (fun c hc => nomatch hc)⟩
    ((fun c hc => nomatch hc))
    (fun _ _ _ _ y hy => by cases hy) (by decide +kernel)
/-- Model_withLiving10 -/
def nk_241 : nK := (207, 1, ([((-2147483648), 2147483647)], [9], [], [], [.inr (0, 10)]), [.inr (.inr (.inl 0)), .inr (.inl (0, 0))], [], [], [(([((-2147483648), 2147483647), ((-2147483648), 2147483647)], [9], [], [], [.inr (1, 10)]), some (.inr (.inl (1, 0))))])
def nu_241 : List aCt := [(4, ([((-2147483648), 2147483647), ((-2147483648), 2147483647), (0, 10)], [9], [], [], [.inr (0, 10), .inr (1, 10)]), [(0, .inr (.inr (.inl 0))), (1, .inr (.inl (0, 0))), (2, .inr (.inl (1, 0))), (3, .inr (.inl (2, 0)))], ([((-1), 2)], 11)), (4, ([((-2147483648), 2147483647), (0, 10)], [9], [], [], [.inr (0, 10)]), [(0, .inr (.inr (.inl 0))), (1, .inr (.inl (0, 0))), (2, .inl 0), (3, .inr (.inl (1, 0)))], ([((-1), 1)], 11))]
set_option maxRecDepth 100000 in
theorem vk_241 {X : nX} {L : Nat} {xs : Nat → Int32} {g : Nat} {S : List Nat} : nV nj_M X L xs g nFT nAT S (nJJ S) nk_241 :=
  aChk_ok (ctx := []) (W := ([gh_43], [])) (ls := none) (cuts := nu_241) (fuel := 28) (nJJ_ok S)
    ⟨(fun c hc => by
    simp only [List.mem_cons, List.not_mem_nil, or_false] at hc
    subst hc
    · exact gh_43_ok), (fun c hc => nomatch hc)⟩
    ((fun c hc => nomatch hc))
    (fun _ _ _ _ y hy => by cases hy) (by decide +kernel)
/-- Model_eldest10 -/
def nk_242 : nK := (206, 1, ([((-2147483648), 2147483647)], [9], [], [], [.inr (0, 10)]), [.inr (.inr (.inl 0)), .inr (.inl (0, 0))], [], [], [(([((-2147483648), 2147483647)], [9], [], [], []), some (.inl (-1)))])
def nu_242 : List aCt := [(4, ([((-2147483648), 2147483647), (0, 10)], [9], [], [], [.inr (0, 10)]), [(0, .inr (.inr (.inl 0))), (1, .inr (.inl (0, 0))), (2, .inl (-1)), (3, .inr (.inl (1, 0)))], ([((-1), 1)], 11))]
set_option maxRecDepth 100000 in
theorem vk_242 {X : nX} {L : Nat} {xs : Nat → Int32} {g : Nat} {S : List Nat} : nV nj_M X L xs g nFT nAT S (nJJ S) nk_242 :=
  aChk_ok (ctx := []) (W := ([gh_44], [])) (ls := none) (cuts := nu_242) (fuel := 24) (nJJ_ok S)
    ⟨(fun c hc => by
    simp only [List.mem_cons, List.not_mem_nil, or_false] at hc
    subst hc
    · exact gh_44_ok), (fun c hc => nomatch hc)⟩
    ((fun c hc => nomatch hc))
    (fun _ _ _ _ y hy => by cases hy) (by decide +kernel)
/-- Model_eldest -/
def nk_243 : nK := (206, 1, ([((-2147483648), 2147483647)], [9], [], [], []), [.inr (.inr (.inl 0)), .inr (.inl (0, 0))], [], [], [(([((-2147483648), 2147483647), ((-1), 9)], [9], [], [], []), some (.inr (.inl (1, 0))))])
def nu_243 : List aCt := [(4, ([((-2147483648), 2147483647), ((-1), 9), (0, 10)], [9], [], [], []), [(0, .inr (.inr (.inl 0))), (1, .inr (.inl (0, 0))), (2, .inr (.inl (1, 0))), (3, .inr (.inl (2, 0)))], ([((-2), 2)], 21))]
set_option maxRecDepth 100000 in
theorem vk_243 {X : nX} {L : Nat} {xs : Nat → Int32} {g : Nat} {S : List Nat} : nV nj_M X L xs g nFT nAT S (nJJ S) nk_243 :=
  aChk_ok (ctx := []) (W := ([], [])) (ls := none) (cuts := nu_243) (fuel := 42) (nJJ_ok S)
    ⟨(fun c hc => nomatch hc), (fun c hc => nomatch hc)⟩
    ((fun c hc => nomatch hc))
    (fun _ _ _ _ y hy => by cases hy) (by decide +kernel)
/-- Model_heirOf -/
def nk_244 : nK := (205, 3, ([((-1), 9)], [9], [], [], []), [.inr (.inr (.inl 0)), .inr (.inl (0, 0))], [], [], [(([((-1), 9), ((-1), 10)], [9], [], [], []), some (.inr (.inl (1, 0))))])
def nu_244 : List aCt := [(2, ([((-1), 9), (0, 9)], [9], [], [], []), [(0, .inr (.inr (.inl 0))), (1, .inr (.inl (0, 0))), (2, .inr (.inl (1, 0)))], ([((-1), 1)], 10)), (2, ([((-1), 9)], [9], [], [], []), [(0, .inr (.inr (.inl 0))), (1, .inr (.inl (0, 0))), (2, .inl (-1))], ([], 0)), (2, ([((-1), 9)], [9], [], [], []), [(0, .inr (.inr (.inl 0))), (1, .inr (.inl (0, 0))), (2, .inr (.inl (0, 0)))], ([], 20))]
set_option maxRecDepth 100000 in
theorem vk_244 {X : nX} {L : Nat} {xs : Nat → Int32} {g : Nat} {S : List Nat} : nV nj_M X L xs g nFT nAT S (nJJ S) nk_244 :=
  aChk_ok (ctx := [nk_211, nk_212, nk_213, nk_214, nk_215, nk_216, nk_217, nk_218, nk_219, nk_220, nk_223, nk_224, nk_225, nk_226, nk_227, nk_228, nk_229, nk_230, nk_231, nk_232, nk_233, nk_234, nk_235, nk_236, nk_237, nk_238, nk_239, nk_240, nk_241, nk_242, nk_243]) (W := ([gh_13], [])) (ls := none) (cuts := nu_244) (fuel := 38) (nJJ_ok S)
    ⟨(fun c hc => by
    simp only [List.mem_cons, List.not_mem_nil, or_false] at hc
    subst hc
    · exact gh_13_ok), (fun c hc => nomatch hc)⟩
    ((fun c hc => by
    simp only [List.mem_cons, List.not_mem_nil, or_false] at hc
    rcases hc with rfl | rfl | rfl | rfl | rfl | rfl | rfl | rfl | rfl | rfl | rfl | rfl | rfl | rfl | rfl | rfl | rfl | rfl | rfl | rfl | rfl | rfl | rfl | rfl | rfl | rfl | rfl | rfl | rfl | rfl | rfl
    · exact vk_211
    · exact vk_212
    · exact vk_213
    · exact vk_214
    · exact vk_215
    · exact vk_216
    · exact vk_217
    · exact vk_218
    · exact vk_219
    · exact vk_220
    · exact vk_223
    · exact vk_224
    · exact vk_225
    · exact vk_226
    · exact vk_227
    · exact vk_228
    · exact vk_229
    · exact vk_230
    · exact vk_231
    · exact vk_232
    · exact vk_233
    · exact vk_234
    · exact vk_235
    · exact vk_236
    · exact vk_237
    · exact vk_238
    · exact vk_239
    · exact vk_240
    · exact vk_241
    · exact vk_242
    · exact vk_243))
    (fun _ _ _ _ y hy => by cases hy) (by decide +kernel)
/-- Model_errorsOf -/
def nk_245 : nK := (190, 0, ([((-2147483648), 2147483647)], [9], [], [], []), [.inr (.inr (.inl 0)), .inr (.inl (0, 0))], [], [], [(([((-2147483648), 2147483647), ((-2147483648), 2147483647)], [9], [], [], []), some (.inr (.inl (1, 0))))])
def nu_245 : List aCt := [(4, ([((-2147483648), 2147483647), ((-2147483648), 2147483647), (0, 6)], [9], [], [], []), [(0, .inr (.inr (.inl 0))), (1, .inr (.inl (0, 0))), (2, .inr (.inl (1, 0))), (3, .inr (.inl (2, 0)))], ([((-2), 2)], 13))]
set_option maxRecDepth 100000 in
theorem vk_245 {X : nX} {L : Nat} {xs : Nat → Int32} {g : Nat} {S : List Nat} : nV nj_M X L xs g nFT nAT S (nJJ S) nk_245 :=
  aChk_ok (ctx := []) (W := ([], [])) (ls := none) (cuts := nu_245) (fuel := 26) (nJJ_ok S)
    ⟨(fun c hc => nomatch hc), (fun c hc => nomatch hc)⟩
    ((fun c hc => nomatch hc))
    (fun _ _ _ _ y hy => by cases hy) (by decide +kernel)
