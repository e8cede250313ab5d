/-- fill_counts -/
def nk_0 : nK := (17, 0, ([], [10], [], [], []), [.inr (.inr (.inl 0)), .inl 0], [], [10], [(([], [10], [], [], []), none)])
def nu_0 : List aCt := [(5, ([(0, 4)], [10], [], [], []), [(0, .inr (.inr (.inl 0))), (1, .inl 0), (2, .inr (.inl (0, 0))), (3, .inl 4)], ([((-2), 0)], 9))]
set_option maxRecDepth 100000 in
theorem vk_0 {X : nX} {L : Nat} {xs : Nat → Int32} {g : Nat} {S : List Nat} : nV nj_M X L xs g nFT nAT S (nJJ S) nk_0 :=
  aChk_ok (ctx := []) (W := ([], [])) (ls := none) (cuts := nu_0) (fuel := 12) (nJJ_ok S)
    ⟨(fun c hc => nomatch hc), (fun c hc => nomatch hc)⟩
    ((fun c hc => nomatch hc))
    (fun _ _ _ _ y hy => by cases hy) (by decide +kernel)
/-- fill_parent -/
def nk_1 : nK := (17, 0, ([], [13], [], [], []), [.inr (.inr (.inl 0)), .inl (-1)], [], [13], [(([], [13], [], [], []), none)])
def nu_1 : List aCt := [(5, ([(0, 10)], [13], [], [], []), [(0, .inr (.inr (.inl 0))), (1, .inl (-1)), (2, .inr (.inl (0, 0))), (3, .inl 10)], ([((-2), 0)], 21))]
set_option maxRecDepth 100000 in
theorem vk_1 {X : nX} {L : Nat} {xs : Nat → Int32} {g : Nat} {S : List Nat} : nV nj_M X L xs g nFT nAT S (nJJ S) nk_1 :=
  aChk_ok (ctx := []) (W := ([], [])) (ls := none) (cuts := nu_1) (fuel := 12) (nJJ_ok S)
    ⟨(fun c hc => nomatch hc), (fun c hc => nomatch hc)⟩
    ((fun c hc => nomatch hc))
    (fun _ _ _ _ y hy => by cases hy) (by decide +kernel)
/-- fill_godchild -/
def nk_2 : nK := (17, 0, ([], [14], [], [], []), [.inr (.inr (.inl 0)), .inl (-1)], [], [14], [(([], [14], [], [], []), none)])
def nu_2 : List aCt := [(5, ([(0, 10)], [14], [], [], []), [(0, .inr (.inr (.inl 0))), (1, .inl (-1)), (2, .inr (.inl (0, 0))), (3, .inl 10)], ([((-2), 0)], 21))]
set_option maxRecDepth 100000 in
theorem vk_2 {X : nX} {L : Nat} {xs : Nat → Int32} {g : Nat} {S : List Nat} : nV nj_M X L xs g nFT nAT S (nJJ S) nk_2 :=
  aChk_ok (ctx := []) (W := ([], [])) (ls := none) (cuts := nu_2) (fuel := 12) (nJJ_ok S)
    ⟨(fun c hc => nomatch hc), (fun c hc => nomatch hc)⟩
    ((fun c hc => nomatch hc))
    (fun _ _ _ _ y hy => by cases hy) (by decide +kernel)
/-- fill_care -/
def nk_3 : nK := (17, 0, ([], [15], [], [], []), [.inr (.inr (.inl 0)), .inl 1], [], [15], [(([], [15], [], [], []), none)])
def nu_3 : List aCt := [(5, ([(0, 10)], [15], [], [], []), [(0, .inr (.inr (.inl 0))), (1, .inl 1), (2, .inr (.inl (0, 0))), (3, .inl 10)], ([((-2), 0)], 21))]
set_option maxRecDepth 100000 in
theorem vk_3 {X : nX} {L : Nat} {xs : Nat → Int32} {g : Nat} {S : List Nat} : nV nj_M X L xs g nFT nAT S (nJJ S) nk_3 :=
  aChk_ok (ctx := []) (W := ([], [])) (ls := none) (cuts := nu_3) (fuel := 12) (nJJ_ok S)
    ⟨(fun c hc => nomatch hc), (fun c hc => nomatch hc)⟩
    ((fun c hc => nomatch hc))
    (fun _ _ _ _ y hy => by cases hy) (by decide +kernel)
/-- fill_made -/
def nk_4 : nK := (17, 0, ([], [26], [], [], []), [.inr (.inr (.inl 0)), .inl 0], [], [26], [(([], [26], [], [], []), none)])
def nu_4 : List aCt := [(5, ([(0, 6)], [26], [], [], []), [(0, .inr (.inr (.inl 0))), (1, .inl 0), (2, .inr (.inl (0, 0))), (3, .inl 6)], ([((-2), 0)], 13))]
set_option maxRecDepth 100000 in
theorem vk_4 {X : nX} {L : Nat} {xs : Nat → Int32} {g : Nat} {S : List Nat} : nV nj_M X L xs g nFT nAT S (nJJ S) nk_4 :=
  aChk_ok (ctx := []) (W := ([], [])) (ls := none) (cuts := nu_4) (fuel := 12) (nJJ_ok S)
    ⟨(fun c hc => nomatch hc), (fun c hc => nomatch hc)⟩
    ((fun c hc => nomatch hc))
    (fun _ _ _ _ y hy => by cases hy) (by decide +kernel)
/-- fill_madeBy -/
def nk_5 : nK := (17, 0, ([], [27], [], [], []), [.inr (.inr (.inl 0)), .inl 0], [], [27], [(([], [27], [], [], []), none)])
def nu_5 : List aCt := [(5, ([(0, 10)], [27], [], [], []), [(0, .inr (.inr (.inl 0))), (1, .inl 0), (2, .inr (.inl (0, 0))), (3, .inl 10)], ([((-2), 0)], 21))]
set_option maxRecDepth 100000 in
theorem vk_5 {X : nX} {L : Nat} {xs : Nat → Int32} {g : Nat} {S : List Nat} : nV nj_M X L xs g nFT nAT S (nJJ S) nk_5 :=
  aChk_ok (ctx := []) (W := ([], [])) (ls := none) (cuts := nu_5) (fuel := 12) (nJJ_ok S)
    ⟨(fun c hc => nomatch hc), (fun c hc => nomatch hc)⟩
    ((fun c hc => nomatch hc))
    (fun _ _ _ _ y hy => by cases hy) (by decide +kernel)
/-- fill_names -/
def nk_6 : nK := (23, 0, ([], [11], [], [], []), [.inr (.inr (.inl 0)), .inr (.inr (.inr (.inr ())))], [], [11], [(([], [11], [], [], []), none)])
def nu_6 : List aCt := [(6, ([(0, 26)], [11], [], [], []), [(0, .inr (.inr (.inl 0))), (1, .inr (.inr (.inr (.inr ())))), (3, .inr (.inl (0, 0))), (4, .inl 26)], ([((-2), 0)], 53))]
set_option maxRecDepth 100000 in
theorem vk_6 {X : nX} {L : Nat} {xs : Nat → Int32} {g : Nat} {S : List Nat} : nV nj_M X L xs g nFT nAT S (nJJ S) nk_6 :=
  aChk_ok (ctx := []) (W := ([], [])) (ls := none) (cuts := nu_6) (fuel := 12) (nJJ_ok S)
    ⟨(fun c hc => nomatch hc), (fun c hc => nomatch hc)⟩
    ((fun c hc => nomatch hc))
    (fun _ _ _ _ y hy => by cases hy) (by decide +kernel)
/-- Text_put -/
def nk_7 : nK := (19, 0, ([((-2147483648), 2147483647)], [7], [], [], []), [.inr (.inr (.inl 0)), .inr (.inl (0, 0))], [(7, 5)], [41], [(([((-2147483648), 2147483647)], [7], [], [], []), none)])
def nu_7 : List aCt := [(3, ([((-2147483648), 2147483647), ((-100), 24)], [7], [], [], []), [(0, .inr (.inr (.inl 0))), (1, .inr (.inl (0, 0))), (2, .inr (.inl (1, 0)))], ([(2, 1)], 201))]
set_option maxRecDepth 100000 in
theorem vk_7 {X : nX} {L : Nat} {xs : Nat → Int32} {g : Nat} {S : List Nat} : nV nj_M X L xs g nFT nAT S (nJJ S) nk_7 :=
  aChk_ok (ctx := []) (W := ([], [])) (ls := none) (cuts := nu_7) (fuel := 26) (nJJ_ok S)
    ⟨(fun c hc => nomatch hc), (fun c hc => nomatch hc)⟩
    ((fun c hc => nomatch hc))
    (fun _ _ _ _ y hy => by cases hy) (by decide +kernel)
/-- Text_kindOf -/
def nk_8 : nK := (30, 0, ([], [7], [], [], []), [.inr (.inr (.inl 0)), .inr (.inr (.inr (.inr ())))], [], [], [(([(2, 121)], [7], [], [], []), some (.inr (.inl (0, 0))))])
def nu_8 : List aCt := [(2, ([(0, 22)], [7], [], [], []), [(0, .inr (.inr (.inl 0))), (1, .inr (.inr (.inr (.inr ())))), (3, .inr (.inl (0, 0)))], ([((-2), 0)], 45))]
set_option maxRecDepth 100000 in
theorem vk_8 {X : nX} {L : Nat} {xs : Nat → Int32} {g : Nat} {S : List Nat} : nV nj_M X L xs g nFT nAT S (nJJ S) nk_8 :=
  aChk_ok (ctx := []) (W := ([], [])) (ls := none) (cuts := nu_8) (fuel := 16) (nJJ_ok S)
    ⟨(fun c hc => nomatch hc), (fun c hc => nomatch hc)⟩
    ((fun c hc => nomatch hc))
    (fun _ _ _ _ y hy => by cases hy) (by decide +kernel)
/-- Text_scanRun -/
def nk_9 : nK := (28, 1, ([(0, 939)], [7], [], [], []), [.inr (.inr (.inl 0)), .inr (.inl (0, 0))], [(7, 6)], [42, 43, 44], [(([(0, 939), (0, 940)], [7], [], [], []), some (.inr (.inl (1, 0))))])
def nu_9 : List aCt := [(14, ([(0, 939), ((-2147483648), 2147483647), ((-2147483648), 2147483647), ((-2147483648), 2147483647), (0, 940)], [7], [], [], []), [(0, .inr (.inr (.inl 0))), (1, .inr (.inl (0, 0))), (2, .inr (.inr (.inr (.inr ())))), (4, .inr (.inl (1, 0))), (5, .inr (.inl (2, 0))), (6, .inr (.inl (3, 0))), (7, .inr (.inl (4, 0)))], ([((-2), 4)], 1881))]
set_option maxRecDepth 100000 in
theorem vk_9 {X : nX} {L : Nat} {xs : Nat → Int32} {g : Nat} {S : List Nat} : nV nj_M X L xs g nFT nAT S (nJJ S) nk_9 :=
  aChk_ok (ctx := [nk_8]) (W := ([], [])) (ls := none) (cuts := nu_9) (fuel := 82) (nJJ_ok S)
    ⟨(fun c hc => nomatch hc), (fun c hc => nomatch hc)⟩
    ((fun c hc => by
    simp only [List.mem_cons, List.not_mem_nil, or_false] at hc
    subst hc
    · exact vk_8))
    (fun _ _ _ _ y hy => by cases hy) (by decide +kernel)
/-- Text_scan -/
def nk_10 : nK := (25, 2, ([(0, 939)], [7], [], [], []), [.inr (.inr (.inl 0)), .inr (.inl (0, 0))], [(7, 6)], [42, 43, 44], [(([(0, 939), (0, 940)], [7], [], [], []), some (.inr (.inl (1, 0))))])
def nu_10 : List aCt := []
set_option maxRecDepth 100000 in
theorem vk_10 {X : nX} {L : Nat} {xs : Nat → Int32} {g : Nat} {S : List Nat} : nV nj_M X L xs g nFT nAT S (nJJ S) nk_10 :=
  aChk_ok (ctx := [nk_9]) (W := ([], [])) (ls := none) (cuts := nu_10) (fuel := 85) (nJJ_ok S)
    ⟨(fun c hc => nomatch hc), (fun c hc => nomatch hc)⟩
    ((fun c hc => by
    simp only [List.mem_cons, List.not_mem_nil, or_false] at hc
    subst hc
    · exact vk_9))
    (fun _ _ _ _ y hy => by cases hy) (by decide +kernel)
/-- Text_open -/
def nk_11 : nK := (24, 3, ([((-2147483648), 2147483647)], [7], [], [], []), [.inr (.inr (.inl 0)), .inr (.inl (0, 0))], [(7, 6), (7, 7), (7, 9), (7, 10), (7, 11)], [42, 43, 44], [(([((-2147483648), 2147483647)], [7], [], [], []), none)])
def nu_11 : List aCt := [(19, ([((-2147483648), 2147483647), ((-2147483648), 940), (0, 940), (0, 940)], [7], [], [], []), [(0, .inr (.inr (.inl 0))), (1, .inr (.inl (0, 0))), (2, .inr (.inl (1, 0))), (3, .inr (.inl (2, 0))), (4, .inr (.inl (3, 0)))], ([((-2), 3)], 1881))]
set_option maxRecDepth 100000 in
theorem vk_11 {X : nX} {L : Nat} {xs : Nat → Int32} {g : Nat} {S : List Nat} : nV nj_M X L xs g nFT nAT S (nJJ S) nk_11 :=
  aChk_ok (ctx := [nk_10]) (W := ([], [])) (ls := none) (cuts := nu_11) (fuel := 59) (nJJ_ok S)
    ⟨(fun c hc => nomatch hc), (fun c hc => nomatch hc)⟩
    ((fun c hc => by
    simp only [List.mem_cons, List.not_mem_nil, or_false] at hc
    subst hc
    · exact vk_10))
    (fun _ _ _ _ y hy => by cases hy) (by decide +kernel)
/-- Text_takeAll -/
def nk_12 : nK := (90, 0, ([], [7], [], [], []), [.inr (.inr (.inl 0))], [(7, 5)], [], [(([(0, 940)], [7], [], [], []), some (.inr (.inl (0, 0))))])
def nu_12 : List aCt := []
set_option maxRecDepth 100000 in
theorem vk_12 {X : nX} {L : Nat} {xs : Nat → Int32} {g : Nat} {S : List Nat} : nV nj_M X L xs g nFT nAT S (nJJ S) nk_12 :=
  aChk_ok (ctx := []) (W := ([], [])) (ls := none) (cuts := nu_12) (fuel := 10) (nJJ_ok S)
    ⟨(fun c hc => nomatch hc), (fun c hc => nomatch hc)⟩
    ((fun c hc => nomatch hc))
    (fun _ _ _ _ y hy => by cases hy) (by decide +kernel)
/-- Text_takesNumber -/
def nk_13 : nK := (39, 1, ([((-2147483648), 2147483647), ((-2147483648), 2147483647)], [7], [], [], []), [.inr (.inr (.inl 0)), .inr (.inl (0, 0)), .inr (.inl (1, 0))], [(7, 7), (7, 8), (7, 10), (7, 11)], [], [(([((-2147483648), 2147483647), ((-2147483648), 2147483647)], [7], [], [], []), some (.inl 0)), (([((-2147483648), 2147483647), ((-2147483648), 2147483647)], [7], [], [], []), some (.inl 1))])
def nu_13 : List aCt := []
set_option maxRecDepth 100000 in
theorem vk_13 {X : nX} {L : Nat} {xs : Nat → Int32} {g : Nat} {S : List Nat} : nV nj_M X L xs g nFT nAT S (nJJ S) nk_13 :=
  aChk_ok (ctx := []) (W := ([], [])) (ls := none) (cuts := nu_13) (fuel := 43) (nJJ_ok S)
    ⟨(fun c hc => nomatch hc), (fun c hc => nomatch hc)⟩
    ((fun c hc => nomatch hc))
    (fun _ _ _ _ y hy => by cases hy) (by decide +kernel)
/-- Text_takes -/
def nk_14 : nK := (46, 1, ([((-2147483648), 2147483647)], [7], [], [], []), [.inr (.inr (.inl 0)), .inr (.inl (0, 0))], [(7, 7), (7, 10), (7, 11)], [], [(([((-2147483648), 2147483647)], [7], [], [], []), some (.inl 0)), (([((-2147483648), 2147483647)], [7], [], [], []), some (.inl 1))])
def nu_14 : List aCt := []
set_option maxRecDepth 100000 in
theorem vk_14 {X : nX} {L : Nat} {xs : Nat → Int32} {g : Nat} {S : List Nat} : nV nj_M X L xs g nFT nAT S (nJJ S) nk_14 :=
  aChk_ok (ctx := []) (W := ([], [])) (ls := none) (cuts := nu_14) (fuel := 27) (nJJ_ok S)
    ⟨(fun c hc => nomatch hc), (fun c hc => nomatch hc)⟩
    ((fun c hc => nomatch hc))
    (fun _ _ _ _ y hy => by cases hy) (by decide +kernel)
/-- Family_copyFrom -/
def nk_15 : nK := (49, 0, ([], [0, 0], [], [], []), [.inr (.inr (.inl 0)), .inr (.inr (.inl 1))], [(0, 14), (0, 15)], [10, 11, 12, 13, 14, 15, 16, 17, 18, 19, 20, 21, 22, 23], [(([], [0, 0], [], [], []), none)])
def nu_15 : List aCt := []
set_option maxRecDepth 100000 in
theorem vk_15 {X : nX} {L : Nat} {xs : Nat → Int32} {g : Nat} {S : List Nat} : nV nj_M X L xs g nFT nAT S (nJJ S) nk_15 :=
  aChk_ok (ctx := []) (W := ([], [])) (ls := none) (cuts := nu_15) (fuel := 151) (nJJ_ok S)
    ⟨(fun c hc => nomatch hc), (fun c hc => nomatch hc)⟩
    ((fun c hc => nomatch hc))
    (fun _ _ _ _ y hy => by cases hy) (by decide +kernel)
/-- Family_slotOf -/
def nk_16 : nK := (37, 0, ([], [0], [], [], []), [.inr (.inr (.inl 0)), .inr (.inr (.inr (.inr ())))], [], [], [(([((-1), 25)], [0], [], [], []), some (.inr (.inl (0, 0))))])
def nu_16 : List aCt := [(2, ([(0, 26)], [0], [], [], []), [(0, .inr (.inr (.inl 0))), (1, .inr (.inr (.inr (.inr ())))), (3, .inr (.inl (0, 0)))], ([((-2), 0)], 53))]
set_option maxRecDepth 100000 in
theorem vk_16 {X : nX} {L : Nat} {xs : Nat → Int32} {g : Nat} {S : List Nat} : nV nj_M X L xs g nFT nAT S (nJJ S) nk_16 :=
  aChk_ok (ctx := []) (W := ([], [])) (ls := none) (cuts := nu_16) (fuel := 17) (nJJ_ok S)
    ⟨(fun c hc => nomatch hc), (fun c hc => nomatch hc)⟩
    ((fun c hc => nomatch hc))
    (fun _ _ _ _ y hy => by cases hy) (by decide +kernel)
/-- Family_known0 -/
def nk_17 : nK := (40, 1, ([], [0, 7], [], [], []), [.inr (.inr (.inl 0)), .inr (.inr (.inl 1)), .inl 0], [(7, 10), (7, 11)], [], [(([((-1), 5)], [0, 7], [], [], []), some (.inr (.inl (0, 0))))])
def nu_17 : List aCt := []
set_option maxRecDepth 100000 in
theorem vk_17 {X : nX} {L : Nat} {xs : Nat → Int32} {g : Nat} {S : List Nat} : nV nj_M X L xs g nFT nAT S (nJJ S) nk_17 :=
  aChk_ok (ctx := [nk_16]) (W := ([], [])) (ls := none) (cuts := nu_17) (fuel := 53) (nJJ_ok S)
    ⟨(fun c hc => nomatch hc), (fun c hc => nomatch hc)⟩
    ((fun c hc => by
    simp only [List.mem_cons, List.not_mem_nil, or_false] at hc
    subst hc
    · exact vk_16))
    (fun _ _ _ _ y hy => by cases hy) (by decide +kernel)
/-- Family_known1 -/
def nk_18 : nK := (40, 1, ([], [0, 7], [], [], []), [.inr (.inr (.inl 0)), .inr (.inr (.inl 1)), .inl 1], [(7, 10), (7, 11)], [], [(([((-1), 9)], [0, 7], [], [], []), some (.inr (.inl (0, 0))))])
def nu_18 : List aCt := []
set_option maxRecDepth 100000 in
theorem vk_18 {X : nX} {L : Nat} {xs : Nat → Int32} {g : Nat} {S : List Nat} : nV nj_M X L xs g nFT nAT S (nJJ S) nk_18 :=
  aChk_ok (ctx := [nk_16]) (W := ([], [])) (ls := none) (cuts := nu_18) (fuel := 53) (nJJ_ok S)
    ⟨(fun c hc => nomatch hc), (fun c hc => nomatch hc)⟩
    ((fun c hc => by
    simp only [List.mem_cons, List.not_mem_nil, or_false] at hc
    subst hc
    · exact vk_16))
    (fun _ _ _ _ y hy => by cases hy) (by decide +kernel)
/-- Family_known2 -/
def nk_19 : nK := (40, 1, ([], [0, 7], [], [], []), [.inr (.inr (.inl 0)), .inr (.inr (.inl 1)), .inl 2], [(7, 10), (7, 11)], [], [(([((-1), 5)], [0, 7], [], [], []), some (.inr (.inl (0, 0))))])
def nu_19 : List aCt := []
set_option maxRecDepth 100000 in
theorem vk_19 {X : nX} {L : Nat} {xs : Nat → Int32} {g : Nat} {S : List Nat} : nV nj_M X L xs g nFT nAT S (nJJ S) nk_19 :=
  aChk_ok (ctx := [nk_16]) (W := ([], [])) (ls := none) (cuts := nu_19) (fuel := 53) (nJJ_ok S)
    ⟨(fun c hc => nomatch hc), (fun c hc => nomatch hc)⟩
    ((fun c hc => by
    simp only [List.mem_cons, List.not_mem_nil, or_false] at hc
    subst hc
    · exact vk_16))
    (fun _ _ _ _ y hy => by cases hy) (by decide +kernel)
/-- Family_known3 -/
def nk_20 : nK := (40, 1, ([], [0, 7], [], [], []), [.inr (.inr (.inl 0)), .inr (.inr (.inl 1)), .inl 3], [(7, 10), (7, 11)], [], [(([((-1), 3)], [0, 7], [], [], []), some (.inr (.inl (0, 0))))])
def nu_20 : List aCt := []
set_option maxRecDepth 100000 in
theorem vk_20 {X : nX} {L : Nat} {xs : Nat → Int32} {g : Nat} {S : List Nat} : nV nj_M X L xs g nFT nAT S (nJJ S) nk_20 :=
  aChk_ok (ctx := [nk_16]) (W := ([], [])) (ls := none) (cuts := nu_20) (fuel := 46) (nJJ_ok S)
    ⟨(fun c hc => nomatch hc), (fun c hc => nomatch hc)⟩
    ((fun c hc => by
    simp only [List.mem_cons, List.not_mem_nil, or_false] at hc
    subst hc
    · exact vk_16))
    (fun _ _ _ _ y hy => by cases hy) (by decide +kernel)
