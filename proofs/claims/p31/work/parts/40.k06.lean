/-- Model_begins -/
def nk_161 : nK := (160, 0, ([], [9], [], [], []), [.inr (.inr (.inl 0))], [], [50], [(([], [9], [], [], []), none)])
def nu_161 : List aCt := [(33, ([(0, 6)], [9], [], [], []), [(0, .inr (.inr (.inl 0))), (1, .inr (.inl (0, 0)))], ([((-2), 0)], 13))]
set_option maxRecDepth 100000 in
theorem wk_161 {X : nX} {L : Nat} {xs : Nat → Int32} {g : Nat} {S : List Nat} {cc : Option (Nat → Int32)} : nV nj_M X L xs g nFT nAT2 S (nJC S cc) nk_161 :=
  aChk_ok (ctx := []) (W := ([], [])) (ls := none) (cuts := nu_161) (fuel := 32) (nJC_ok S cc)
    ⟨(fun c hc => nomatch hc), (fun c hc => nomatch hc)⟩
    ((fun c hc => nomatch hc))
    (fun _ _ _ _ y hy => by cases hy) (by decide +kernel)
theorem vk_161 {X : nX} {L : Nat} {xs : Nat → Int32} {g : Nat} {S : List Nat} : nV nj_M X L xs g nFT nAT S (nJJ S) nk_161 := nV_dd wk_161
/-- Model_next -/
def nk_162 : nK := (163, 1, ([(0, 940)], [9], [(0, 4, .inr (.inl (0, 0)))], [], []), [.inr (.inr (.inl 0))], [(9, 4), (9, 11), (9, 12), (9, 13), (9, 14), (9, 17)], [], [(([(0, 940), (0, 940)], [9], [(0, 4, .inr (.inl (1, 0))), (0, 11, .inl 0)], [], [.inl ([(1, 0), ((-1), 1)], 0)]), none), (([(0, 940), (0, 940)], [9], [(0, 4, .inr (.inl (1, 0))), (0, 11, .inl 4)], [], [.inl ([(1, 0), ((-1), 1)], 0)]), none), (([(0, 940), (0, 940), (1, 3)], [9], [(0, 4, .inr (.inl (1, 0))), (0, 11, .inr (.inl (2, 0)))], [], [.inl ([(1, 0), ((-1), 1)], 1)]), none)])
def nu_162_0 : aCt := (0, ([(0, 940), (0, 940)], [9], [(0, 4, .inr (.inl (1, 0)))], [], [.inl ([(1, 0), ((-1), 1)], 0)]), [(0, .inr (.inr (.inl 0)))], ([((-2), 1)], 1882))
def nu_162_1 : aCt := (181, ([(0, 940), (0, 1), (0, 1), (0, 940)], [9], [(0, 4, .inr (.inl (3, 0)))], [], [.inl ([(1, 0), ((-1), 3)], 1)]), [(0, .inr (.inr (.inl 0))), (2, .inr (.inl (1, 0))), (3, .inr (.inl (2, 0)))], ([((-2), 3)], 1881))
def nu_162_2 : aCt := (181, ([(0, 940), (0, 1), (0, 1), (0, 939), (0, 940), (97, 122)], [9, 49], [(0, 4, .inr (.inl (3, 0))), (0, 1, .inr (.inr (.inl 1))), (0, 3, .inr (.inl (4, 0)))], [(1, .inr (.inl (3, 0)), .inr (.inl (5, 0)))], [.inl ([(1, 0), ((-1), 3)], 0), .inl ([(1, 3), ((-1), 4)], 1)]), [(0, .inr (.inr (.inl 0))), (2, .inr (.inl (1, 0))), (3, .inr (.inl (2, 0)))], ([((-2), 3)], 1881))
def nu_162_3 : aCt := (181, ([(0, 940), (0, 1), (0, 1), (0, 939), (0, 940), (48, 57)], [9, 49], [(0, 4, .inr (.inl (3, 0))), (0, 1, .inr (.inr (.inl 1))), (0, 3, .inr (.inl (4, 0)))], [(1, .inr (.inl (3, 0)), .inr (.inl (5, 0)))], [.inl ([(1, 0), ((-1), 3)], 0), .inl ([(1, 3), ((-1), 4)], 1)]), [(0, .inr (.inr (.inl 0))), (2, .inr (.inl (1, 0))), (3, .inr (.inl (2, 0)))], ([((-2), 3)], 1881))
def nu_162 : List aCt := [nu_162_0, nu_162_1, nu_162_2, nu_162_3]
def nx_162 : List nK := []
def nw_162 : nWk := ([], [])
set_option maxRecDepth 100000 in
theorem vf_162_0 : aFrom nj_M nFT nAT nx_162 nw_162 none nk_162.2.2.2.2.1 nk_162.2.2.2.2.2.1 nk_162.2.2.2.2.2.2 nk_162.2.2.1.1.length nk_162.2.2.1.2.1.length nk_162.2.1 nk_162.1 nu_162 152 nu_162_0 = true := by decide +kernel
set_option maxRecDepth 100000 in
theorem vf_162_1 : aFrom nj_M nFT nAT nx_162 nw_162 none nk_162.2.2.2.2.1 nk_162.2.2.2.2.2.1 nk_162.2.2.2.2.2.2 nk_162.2.2.1.1.length nk_162.2.2.1.2.1.length nk_162.2.1 nk_162.1 nu_162 152 nu_162_1 = true := by decide +kernel
set_option maxRecDepth 100000 in
theorem vf_162_2 : aFrom nj_M nFT nAT nx_162 nw_162 none nk_162.2.2.2.2.1 nk_162.2.2.2.2.2.1 nk_162.2.2.2.2.2.2 nk_162.2.2.1.1.length nk_162.2.2.1.2.1.length nk_162.2.1 nk_162.1 nu_162 152 nu_162_2 = true := by decide +kernel
set_option maxRecDepth 100000 in
theorem vf_162_3 : aFrom nj_M nFT nAT nx_162 nw_162 none nk_162.2.2.2.2.1 nk_162.2.2.2.2.2.1 nk_162.2.2.2.2.2.2 nk_162.2.2.1.1.length nk_162.2.2.1.2.1.length nk_162.2.1 nk_162.1 nu_162 152 nu_162_3 = true := by decide +kernel
set_option maxRecDepth 100000 in
theorem vf_162_s : aExec nj_M nFT nAT nx_162 nw_162 none nk_162.2.2.2.2.1 nk_162.2.2.2.2.2.1 nk_162.2.2.2.2.2.2 nk_162.2.2.1.1.length nk_162.2.2.1.2.1.length nk_162.2.1 nk_162.1 nu_162 none 152 nk_162.2.2.1 [(nk_162.1, 0, aArgs 0 nk_162.2.2.2.1, [])] = true := by decide +kernel
theorem vk_162 {X : nX} {L : Nat} {xs : Nat → Int32} {g : Nat} {S : List Nat} : nV nj_M X L xs g nFT nAT S (nJJ S) nk_162 :=
  aChk_ok (ctx := nx_162) (W := nw_162) (ls := none) (cuts := nu_162) (fuel := 152) (nJJ_ok S)
    ⟨(fun c hc => nomatch hc), (fun c hc => nomatch hc)⟩
    ((fun c hc => nomatch hc))
    (fun _ _ _ _ y hy => by cases hy) (aChk_of (fun c hc => by
    simp only [nu_162, List.mem_cons, List.not_mem_nil, or_false] at hc
    rcases hc with rfl | rfl | rfl | rfl
    · exact vf_162_0
    · exact vf_162_1
    · exact vf_162_2
    · exact vf_162_3) vf_162_s)
/-- Model_isWord0 -/
def nk_163 : nK := (168, 0, ([(0, 0)], [9], [(0, 11, .inr (.inl (0, 0)))], [], []), [.inr (.inr (.inl 0)), .inr (.inr (.inr (.inr ())))], [], [], [(([(0, 0)], [9], [], [], []), some (.inl 0))])
def nu_163 : List aCt := []
set_option maxRecDepth 100000 in
theorem vk_163 {X : nX} {L : Nat} {xs : Nat → Int32} {g : Nat} {S : List Nat} : nV nj_M X L xs g nFT nAT S (nJJ S) nk_163 :=
  aChk_ok (ctx := []) (W := ([], [])) (ls := none) (cuts := nu_163) (fuel := 8) (nJJ_ok S)
    ⟨(fun c hc => nomatch hc), (fun c hc => nomatch hc)⟩
    ((fun c hc => nomatch hc))
    (fun _ _ _ _ y hy => by cases hy) (by decide +kernel)
/-- Model_isWord4 -/
def nk_164 : nK := (168, 0, ([(4, 4)], [9], [(0, 11, .inr (.inl (0, 0)))], [], []), [.inr (.inr (.inl 0)), .inr (.inr (.inr (.inr ())))], [], [], [(([(4, 4)], [9], [], [], []), some (.inl 0))])
def nu_164 : List aCt := []
set_option maxRecDepth 100000 in
theorem vk_164 {X : nX} {L : Nat} {xs : Nat → Int32} {g : Nat} {S : List Nat} : nV nj_M X L xs g nFT nAT S (nJJ S) nk_164 :=
  aChk_ok (ctx := []) (W := ([], [])) (ls := none) (cuts := nu_164) (fuel := 8) (nJJ_ok S)
    ⟨(fun c hc => nomatch hc), (fun c hc => nomatch hc)⟩
    ((fun c hc => nomatch hc))
    (fun _ _ _ _ y hy => by cases hy) (by decide +kernel)
/-- Model_isWord -/
def nk_165 : nK := (168, 0, ([], [9], [], [], []), [.inr (.inr (.inl 0)), .inr (.inr (.inr (.inr ())))], [], [], [(([], [9], [], [], []), some (.inl 0)), (([], [9], [], [], []), some (.inl 1))])
def nu_165 : List aCt := []
set_option maxRecDepth 100000 in
theorem vk_165 {X : nX} {L : Nat} {xs : Nat → Int32} {g : Nat} {S : List Nat} : nV nj_M X L xs g nFT nAT S (nJJ S) nk_165 :=
  aChk_ok (ctx := []) (W := ([], [])) (ls := none) (cuts := nu_165) (fuel := 14) (nJJ_ok S)
    ⟨(fun c hc => nomatch hc), (fun c hc => nomatch hc)⟩
    ((fun c hc => nomatch hc))
    (fun _ _ _ _ y hy => by cases hy) (by decide +kernel)
/-- Model_isName0 -/
def nk_166 : nK := (171, 0, ([(0, 0)], [9], [(0, 11, .inr (.inl (0, 0)))], [], []), [.inr (.inr (.inl 0))], [], [], [(([(0, 0)], [9], [], [], []), some (.inl 0))])
def nu_166 : List aCt := [(16, ([(0, 0), (0, 22)], [9], [], [], []), [(0, .inr (.inr (.inl 0))), (1, .inl 0), (2, .inr (.inl (1, 0)))], ([((-2), 1)], 45))]
set_option maxRecDepth 100000 in
theorem vk_166 {X : nX} {L : Nat} {xs : Nat → Int32} {g : Nat} {S : List Nat} : nV nj_M X L xs g nFT nAT S (nJJ S) nk_166 :=
  aChk_ok (ctx := []) (W := ([], [])) (ls := none) (cuts := nu_166) (fuel := 12) (nJJ_ok S)
    ⟨(fun c hc => nomatch hc), (fun c hc => nomatch hc)⟩
    ((fun c hc => nomatch hc))
    (fun _ _ _ _ y hy => by cases hy) (by decide +kernel)
/-- Model_isName4 -/
def nk_167 : nK := (171, 0, ([(4, 4)], [9], [(0, 11, .inr (.inl (0, 0)))], [], []), [.inr (.inr (.inl 0))], [], [], [(([(4, 4)], [9], [], [], []), some (.inl 0))])
def nu_167 : List aCt := [(16, ([(4, 4), (0, 22)], [9], [], [], []), [(0, .inr (.inr (.inl 0))), (1, .inl 0), (2, .inr (.inl (1, 0)))], ([((-2), 1)], 45))]
set_option maxRecDepth 100000 in
theorem vk_167 {X : nX} {L : Nat} {xs : Nat → Int32} {g : Nat} {S : List Nat} : nV nj_M X L xs g nFT nAT S (nJJ S) nk_167 :=
  aChk_ok (ctx := []) (W := ([], [])) (ls := none) (cuts := nu_167) (fuel := 12) (nJJ_ok S)
    ⟨(fun c hc => nomatch hc), (fun c hc => nomatch hc)⟩
    ((fun c hc => nomatch hc))
    (fun _ _ _ _ y hy => by cases hy) (by decide +kernel)
/-- Model_isName -/
def nk_168 : nK := (171, 0, ([], [9], [], [], []), [.inr (.inr (.inl 0))], [], [], [(([(0, 1)], [9], [], [], []), some (.inr (.inl (0, 0))))])
def nu_168 : List aCt := [(16, ([(0, 1), (0, 22)], [9], [], [], []), [(0, .inr (.inr (.inl 0))), (1, .inr (.inl (0, 0))), (2, .inr (.inl (1, 0)))], ([((-2), 1)], 45))]
set_option maxRecDepth 100000 in
theorem vk_168 {X : nX} {L : Nat} {xs : Nat → Int32} {g : Nat} {S : List Nat} : nV nj_M X L xs g nFT nAT S (nJJ S) nk_168 :=
  aChk_ok (ctx := []) (W := ([], [])) (ls := none) (cuts := nu_168) (fuel := 21) (nJJ_ok S)
    ⟨(fun c hc => nomatch hc), (fun c hc => nomatch hc)⟩
    ((fun c hc => nomatch hc))
    (fun _ _ _ _ y hy => by cases hy) (by decide +kernel)
/-- Model_takes -/
def nk_169 : nK := (175, 2, ([((-2147483648), 2147483647), ((-2147483648), 2147483647), (0, 940)], [9], [(0, 4, .inr (.inl (2, 0)))], [], []), [.inr (.inr (.inl 0)), .inr (.inl (0, 0)), .inr (.inl (1, 0))], [(9, 4), (9, 11), (9, 12), (9, 13), (9, 14), (9, 15), (9, 16), (9, 17), (9, 18)], [], [(([((-2147483648), 2147483647), ((-2147483648), 2147483647), (0, 940)], [9], [], [], []), some (.inl 0)), (([((-2147483648), 2147483647), ((-2147483648), 2147483647), (0, 940), (0, 940)], [9], [(0, 4, .inr (.inl (3, 0))), (0, 11, .inl 0)], [], [.inl ([(1, 2), ((-1), 3)], 0)]), some (.inl 1)), (([((-2147483648), 2147483647), ((-2147483648), 2147483647), (0, 940), (0, 940)], [9], [(0, 4, .inr (.inl (3, 0))), (0, 11, .inl 4)], [], [.inl ([(1, 2), ((-1), 3)], 0)]), some (.inl 1)), (([((-2147483648), 2147483647), ((-2147483648), 2147483647), (0, 940), (0, 940), (1, 3)], [9], [(0, 4, .inr (.inl (3, 0))), (0, 11, .inr (.inl (4, 0)))], [], [.inl ([(1, 2), ((-1), 3)], 1)]), some (.inl 1))])
def nu_169 : List aCt := []
set_option maxRecDepth 100000 in
theorem vk_169 {X : nX} {L : Nat} {xs : Nat → Int32} {g : Nat} {S : List Nat} : nV nj_M X L xs g nFT nAT S (nJJ S) nk_169 :=
  aChk_ok (ctx := [nk_162]) (W := ([], [])) (ls := none) (cuts := nu_169) (fuel := 33) (nJJ_ok S)
    ⟨(fun c hc => nomatch hc), (fun c hc => nomatch hc)⟩
    ((fun c hc => by
    simp only [List.mem_cons, List.not_mem_nil, or_false] at hc
    subst hc
    · exact vk_162))
    (fun _ _ _ _ y hy => by cases hy) (by decide +kernel)
/-- Model_find32_0 -/
def nk_170 : nK := (172, 0, ([], [9], [], [], []), [.inr (.inr (.inl 0)), .inl 32, .inl 0], [], [], [(([], [9], [], [], []), some (.inl (-1)))])
def nu_170 : List aCt := []
set_option maxRecDepth 100000 in
theorem vk_170 {X : nX} {L : Nat} {xs : Nat → Int32} {g : Nat} {S : List Nat} : nV nj_M X L xs g nFT nAT S (nJJ S) nk_170 :=
  aChk_ok (ctx := []) (W := ([], [])) (ls := none) (cuts := nu_170) (fuel := 9) (nJJ_ok S)
    ⟨(fun c hc => nomatch hc), (fun c hc => nomatch hc)⟩
    ((fun c hc => nomatch hc))
    (fun _ _ _ _ y hy => by cases hy) (by decide +kernel)
/-- Model_find32_1 -/
def nk_171 : nK := (172, 0, ([], [9], [], [], []), [.inr (.inr (.inl 0)), .inl 32, .inl 1], [], [], [(([((-1), 0)], [9], [], [], []), some (.inr (.inl (0, 0))))])
def nu_171 : List aCt := [(2, ([(0, 1)], [9], [], [], []), [(0, .inr (.inr (.inl 0))), (1, .inl 32), (2, .inl 1), (3, .inr (.inl (0, 0)))], ([((-2), 0)], 3))]
set_option maxRecDepth 100000 in
theorem vk_171 {X : nX} {L : Nat} {xs : Nat → Int32} {g : Nat} {S : List Nat} : nV nj_M X L xs g nFT nAT S (nJJ S) nk_171 :=
  aChk_ok (ctx := []) (W := ([], [])) (ls := none) (cuts := nu_171) (fuel := 18) (nJJ_ok S)
    ⟨(fun c hc => nomatch hc), (fun c hc => nomatch hc)⟩
    ((fun c hc => nomatch hc))
    (fun _ _ _ _ y hy => by cases hy) (by decide +kernel)
/-- Model_find32_2 -/
def nk_172 : nK := (172, 0, ([], [9], [], [], []), [.inr (.inr (.inl 0)), .inl 32, .inl 2], [], [], [(([((-1), 1)], [9], [], [], []), some (.inr (.inl (0, 0))))])
def nu_172 : List aCt := [(2, ([(0, 2)], [9], [], [], []), [(0, .inr (.inr (.inl 0))), (1, .inl 32), (2, .inl 2), (3, .inr (.inl (0, 0)))], ([((-2), 0)], 5))]
set_option maxRecDepth 100000 in
theorem vk_172 {X : nX} {L : Nat} {xs : Nat → Int32} {g : Nat} {S : List Nat} : nV nj_M X L xs g nFT nAT S (nJJ S) nk_172 :=
  aChk_ok (ctx := []) (W := ([], [])) (ls := none) (cuts := nu_172) (fuel := 18) (nJJ_ok S)
    ⟨(fun c hc => nomatch hc), (fun c hc => nomatch hc)⟩
    ((fun c hc => nomatch hc))
    (fun _ _ _ _ y hy => by cases hy) (by decide +kernel)
/-- Model_find32_3 -/
def nk_173 : nK := (172, 0, ([], [9], [], [], []), [.inr (.inr (.inl 0)), .inl 32, .inl 3], [], [], [(([((-1), 2)], [9], [], [], []), some (.inr (.inl (0, 0))))])
def nu_173 : List aCt := [(2, ([(0, 3)], [9], [], [], []), [(0, .inr (.inr (.inl 0))), (1, .inl 32), (2, .inl 3), (3, .inr (.inl (0, 0)))], ([((-2), 0)], 7))]
set_option maxRecDepth 100000 in
theorem vk_173 {X : nX} {L : Nat} {xs : Nat → Int32} {g : Nat} {S : List Nat} : nV nj_M X L xs g nFT nAT S (nJJ S) nk_173 :=
  aChk_ok (ctx := []) (W := ([], [])) (ls := none) (cuts := nu_173) (fuel := 18) (nJJ_ok S)
    ⟨(fun c hc => nomatch hc), (fun c hc => nomatch hc)⟩
    ((fun c hc => nomatch hc))
    (fun _ _ _ _ y hy => by cases hy) (by decide +kernel)
/-- Model_find32_4 -/
def nk_174 : nK := (172, 0, ([], [9], [], [], []), [.inr (.inr (.inl 0)), .inl 32, .inl 4], [], [], [(([((-1), 3)], [9], [], [], []), some (.inr (.inl (0, 0))))])
def nu_174 : List aCt := [(2, ([(0, 4)], [9], [], [], []), [(0, .inr (.inr (.inl 0))), (1, .inl 32), (2, .inl 4), (3, .inr (.inl (0, 0)))], ([((-2), 0)], 9))]
set_option maxRecDepth 100000 in
theorem vk_174 {X : nX} {L : Nat} {xs : Nat → Int32} {g : Nat} {S : List Nat} : nV nj_M X L xs g nFT nAT S (nJJ S) nk_174 :=
  aChk_ok (ctx := []) (W := ([], [])) (ls := none) (cuts := nu_174) (fuel := 18) (nJJ_ok S)
    ⟨(fun c hc => nomatch hc), (fun c hc => nomatch hc)⟩
    ((fun c hc => nomatch hc))
    (fun _ _ _ _ y hy => by cases hy) (by decide +kernel)
/-- Model_find32_5 -/
def nk_175 : nK := (172, 0, ([], [9], [], [], []), [.inr (.inr (.inl 0)), .inl 32, .inl 5], [], [], [(([((-1), 4)], [9], [], [], []), some (.inr (.inl (0, 0))))])
def nu_175 : List aCt := [(2, ([(0, 5)], [9], [], [], []), [(0, .inr (.inr (.inl 0))), (1, .inl 32), (2, .inl 5), (3, .inr (.inl (0, 0)))], ([((-2), 0)], 11))]
set_option maxRecDepth 100000 in
theorem vk_175 {X : nX} {L : Nat} {xs : Nat → Int32} {g : Nat} {S : List Nat} : nV nj_M X L xs g nFT nAT S (nJJ S) nk_175 :=
  aChk_ok (ctx := []) (W := ([], [])) (ls := none) (cuts := nu_175) (fuel := 18) (nJJ_ok S)
    ⟨(fun c hc => nomatch hc), (fun c hc => nomatch hc)⟩
    ((fun c hc => nomatch hc))
    (fun _ _ _ _ y hy => by cases hy) (by decide +kernel)
/-- Model_find32_6 -/
def nk_176 : nK := (172, 0, ([], [9], [], [], []), [.inr (.inr (.inl 0)), .inl 32, .inl 6], [], [], [(([((-1), 5)], [9], [], [], []), some (.inr (.inl (0, 0))))])
def nu_176 : List aCt := [(2, ([(0, 6)], [9], [], [], []), [(0, .inr (.inr (.inl 0))), (1, .inl 32), (2, .inl 6), (3, .inr (.inl (0, 0)))], ([((-2), 0)], 13))]
set_option maxRecDepth 100000 in
theorem vk_176 {X : nX} {L : Nat} {xs : Nat → Int32} {g : Nat} {S : List Nat} : nV nj_M X L xs g nFT nAT S (nJJ S) nk_176 :=
  aChk_ok (ctx := []) (W := ([], [])) (ls := none) (cuts := nu_176) (fuel := 18) (nJJ_ok S)
    ⟨(fun c hc => nomatch hc), (fun c hc => nomatch hc)⟩
    ((fun c hc => nomatch hc))
    (fun _ _ _ _ y hy => by cases hy) (by decide +kernel)
/-- Model_find32_7 -/
def nk_177 : nK := (172, 0, ([], [9], [], [], []), [.inr (.inr (.inl 0)), .inl 32, .inl 7], [], [], [(([((-1), 6)], [9], [], [], []), some (.inr (.inl (0, 0))))])
def nu_177 : List aCt := [(2, ([(0, 7)], [9], [], [], []), [(0, .inr (.inr (.inl 0))), (1, .inl 32), (2, .inl 7), (3, .inr (.inl (0, 0)))], ([((-2), 0)], 15))]
set_option maxRecDepth 100000 in
theorem vk_177 {X : nX} {L : Nat} {xs : Nat → Int32} {g : Nat} {S : List Nat} : nV nj_M X L xs g nFT nAT S (nJJ S) nk_177 :=
  aChk_ok (ctx := []) (W := ([], [])) (ls := none) (cuts := nu_177) (fuel := 18) (nJJ_ok S)
    ⟨(fun c hc => nomatch hc), (fun c hc => nomatch hc)⟩
    ((fun c hc => nomatch hc))
    (fun _ _ _ _ y hy => by cases hy) (by decide +kernel)
/-- Model_find32_8 -/
def nk_178 : nK := (172, 0, ([], [9], [], [], []), [.inr (.inr (.inl 0)), .inl 32, .inl 8], [], [], [(([((-1), 7)], [9], [], [], []), some (.inr (.inl (0, 0))))])
def nu_178 : List aCt := [(2, ([(0, 8)], [9], [], [], []), [(0, .inr (.inr (.inl 0))), (1, .inl 32), (2, .inl 8), (3, .inr (.inl (0, 0)))], ([((-2), 0)], 17))]
set_option maxRecDepth 100000 in
theorem vk_178 {X : nX} {L : Nat} {xs : Nat → Int32} {g : Nat} {S : List Nat} : nV nj_M X L xs g nFT nAT S (nJJ S) nk_178 :=
  aChk_ok (ctx := []) (W := ([], [])) (ls := none) (cuts := nu_178) (fuel := 18) (nJJ_ok S)
    ⟨(fun c hc => nomatch hc), (fun c hc => nomatch hc)⟩
    ((fun c hc => nomatch hc))
    (fun _ _ _ _ y hy => by cases hy) (by decide +kernel)
/-- Model_find32_9 -/
def nk_179 : nK := (172, 0, ([], [9], [], [], []), [.inr (.inr (.inl 0)), .inl 32, .inl 9], [], [], [(([((-1), 8)], [9], [], [], []), some (.inr (.inl (0, 0))))])
def nu_179 : List aCt := [(2, ([(0, 9)], [9], [], [], []), [(0, .inr (.inr (.inl 0))), (1, .inl 32), (2, .inl 9), (3, .inr (.inl (0, 0)))], ([((-2), 0)], 19))]
set_option maxRecDepth 100000 in
theorem vk_179 {X : nX} {L : Nat} {xs : Nat → Int32} {g : Nat} {S : List Nat} : nV nj_M X L xs g nFT nAT S (nJJ S) nk_179 :=
  aChk_ok (ctx := []) (W := ([], [])) (ls := none) (cuts := nu_179) (fuel := 18) (nJJ_ok S)
    ⟨(fun c hc => nomatch hc), (fun c hc => nomatch hc)⟩
    ((fun c hc => nomatch hc))
    (fun _ _ _ _ y hy => by cases hy) (by decide +kernel)
/-- Model_find26 -/
def nk_180 : nK := (172, 0, ([(0, 6)], [9], [], [], []), [.inr (.inr (.inl 0)), .inl 26, .inr (.inl (0, 0))], [], [], [(([(0, 6), ((-1), 5)], [9], [], [], []), some (.inr (.inl (1, 0))))])
def nu_180 : List aCt := [(2, ([(0, 6), (0, 6)], [9], [], [], []), [(0, .inr (.inr (.inl 0))), (1, .inl 26), (2, .inr (.inl (0, 0))), (3, .inr (.inl (1, 0)))], ([((-2), 1)], 13))]
set_option maxRecDepth 100000 in
theorem vk_180 {X : nX} {L : Nat} {xs : Nat → Int32} {g : Nat} {S : List Nat} : nV nj_M X L xs g nFT nAT S (nJJ S) nk_180 :=
  aChk_ok (ctx := []) (W := ([], [])) (ls := none) (cuts := nu_180) (fuel := 18) (nJJ_ok S)
    ⟨(fun c hc => nomatch hc), (fun c hc => nomatch hc)⟩
    ((fun c hc => nomatch hc))
    (fun _ _ _ _ y hy => by cases hy) (by decide +kernel)
/-- Model_find32 -/
def nk_181 : nK := (172, 0, ([(0, 10)], [9], [], [], []), [.inr (.inr (.inl 0)), .inl 32, .inr (.inl (0, 0))], [], [], [(([(0, 10), ((-1), 9)], [9], [], [], []), some (.inr (.inl (1, 0))))])
def nu_181 : List aCt := [(2, ([(0, 10), (0, 10)], [9], [], [], []), [(0, .inr (.inr (.inl 0))), (1, .inl 32), (2, .inr (.inl (0, 0))), (3, .inr (.inl (1, 0)))], ([((-2), 1)], 21))]
set_option maxRecDepth 100000 in
theorem vk_181 {X : nX} {L : Nat} {xs : Nat → Int32} {g : Nat} {S : List Nat} : nV nj_M X L xs g nFT nAT S (nJJ S) nk_181 :=
  aChk_ok (ctx := []) (W := ([], [])) (ls := none) (cuts := nu_181) (fuel := 18) (nJJ_ok S)
    ⟨(fun c hc => nomatch hc), (fun c hc => nomatch hc)⟩
    ((fun c hc => nomatch hc))
    (fun _ _ _ _ y hy => by cases hy) (by decide +kernel)
/-- Model_find42 -/
def nk_182 : nK := (172, 0, ([(0, 6)], [9], [], [], []), [.inr (.inr (.inl 0)), .inl 42, .inr (.inl (0, 0))], [], [], [(([(0, 6), ((-1), 5)], [9], [], [], []), some (.inr (.inl (1, 0))))])
def nu_182 : List aCt := [(2, ([(0, 6), (0, 6)], [9], [], [], []), [(0, .inr (.inr (.inl 0))), (1, .inl 42), (2, .inr (.inl (0, 0))), (3, .inr (.inl (1, 0)))], ([((-2), 1)], 13))]
set_option maxRecDepth 100000 in
theorem vk_182 {X : nX} {L : Nat} {xs : Nat → Int32} {g : Nat} {S : List Nat} : nV nj_M X L xs g nFT nAT S (nJJ S) nk_182 :=
  aChk_ok (ctx := []) (W := ([], [])) (ls := none) (cuts := nu_182) (fuel := 18) (nJJ_ok S)
    ⟨(fun c hc => nomatch hc), (fun c hc => nomatch hc)⟩
    ((fun c hc => nomatch hc))
    (fun _ _ _ _ y hy => by cases hy) (by decide +kernel)
/-- Model_find48 -/
def nk_183 : nK := (172, 0, ([(0, 4)], [9], [], [], []), [.inr (.inr (.inl 0)), .inl 48, .inr (.inl (0, 0))], [], [], [(([(0, 4), ((-1), 3)], [9], [], [], []), some (.inr (.inl (1, 0))))])
def nu_183 : List aCt := [(2, ([(0, 4), (0, 4)], [9], [], [], []), [(0, .inr (.inr (.inl 0))), (1, .inl 48), (2, .inr (.inl (0, 0))), (3, .inr (.inl (1, 0)))], ([((-2), 1)], 9))]
set_option maxRecDepth 100000 in
theorem vk_183 {X : nX} {L : Nat} {xs : Nat → Int32} {g : Nat} {S : List Nat} : nV nj_M X L xs g nFT nAT S (nJJ S) nk_183 :=
  aChk_ok (ctx := []) (W := ([], [])) (ls := none) (cuts := nu_183) (fuel := 18) (nJJ_ok S)
    ⟨(fun c hc => nomatch hc), (fun c hc => nomatch hc)⟩
    ((fun c hc => nomatch hc))
    (fun _ _ _ _ y hy => by cases hy) (by decide +kernel)
/-- Model_find16 -/
def nk_184 : nK := (172, 0, ([(0, 6)], [9], [], [], []), [.inr (.inr (.inl 0)), .inl 16, .inr (.inl (0, 0))], [], [], [(([(0, 6), ((-1), 5)], [9], [], [], []), some (.inr (.inl (1, 0))))])
def nu_184 : List aCt := [(2, ([(0, 6), (0, 6)], [9], [], [], []), [(0, .inr (.inr (.inl 0))), (1, .inl 16), (2, .inr (.inl (0, 0))), (3, .inr (.inl (1, 0)))], ([((-2), 1)], 13))]
set_option maxRecDepth 100000 in
theorem vk_184 {X : nX} {L : Nat} {xs : Nat → Int32} {g : Nat} {S : List Nat} : nV nj_M X L xs g nFT nAT S (nJJ S) nk_184 :=
  aChk_ok (ctx := []) (W := ([], [])) (ls := none) (cuts := nu_184) (fuel := 18) (nJJ_ok S)
    ⟨(fun c hc => nomatch hc), (fun c hc => nomatch hc)⟩
    ((fun c hc => nomatch hc))
    (fun _ _ _ _ y hy => by cases hy) (by decide +kernel)
/-- Model_find6 -/
def nk_185 : nK := (172, 0, ([(0, 10)], [9], [], [], []), [.inr (.inr (.inl 0)), .inl 6, .inr (.inl (0, 0))], [], [], [(([(0, 10), ((-1), 9)], [9], [], [], []), some (.inr (.inl (1, 0))))])
def nu_185 : List aCt := [(2, ([(0, 10), (0, 10)], [9], [], [], []), [(0, .inr (.inr (.inl 0))), (1, .inl 6), (2, .inr (.inl (0, 0))), (3, .inr (.inl (1, 0)))], ([((-2), 1)], 21))]
set_option maxRecDepth 100000 in
theorem vk_185 {X : nX} {L : Nat} {xs : Nat → Int32} {g : Nat} {S : List Nat} : nV nj_M X L xs g nFT nAT S (nJJ S) nk_185 :=
  aChk_ok (ctx := []) (W := ([], [])) (ls := none) (cuts := nu_185) (fuel := 18) (nJJ_ok S)
    ⟨(fun c hc => nomatch hc), (fun c hc => nomatch hc)⟩
    ((fun c hc => nomatch hc))
    (fun _ _ _ _ y hy => by cases hy) (by decide +kernel)
/-- Model_find22 -/
def nk_186 : nK := (172, 0, ([(0, 4)], [9], [], [], []), [.inr (.inr (.inl 0)), .inl 22, .inr (.inl (0, 0))], [], [], [(([(0, 4), ((-1), 3)], [9], [], [], []), some (.inr (.inl (1, 0))))])
def nu_186 : List aCt := [(2, ([(0, 4), (0, 4)], [9], [], [], []), [(0, .inr (.inr (.inl 0))), (1, .inl 22), (2, .inr (.inl (0, 0))), (3, .inr (.inl (1, 0)))], ([((-2), 1)], 9))]
set_option maxRecDepth 100000 in
theorem vk_186 {X : nX} {L : Nat} {xs : Nat → Int32} {g : Nat} {S : List Nat} : nV nj_M X L xs g nFT nAT S (nJJ S) nk_186 :=
  aChk_ok (ctx := []) (W := ([], [])) (ls := none) (cuts := nu_186) (fuel := 18) (nJJ_ok S)
    ⟨(fun c hc => nomatch hc), (fun c hc => nomatch hc)⟩
    ((fun c hc => nomatch hc))
    (fun _ _ _ _ y hy => by cases hy) (by decide +kernel)
/-- Model_nextM -/
def nk_187 : nK := (163, 1, ([(0, 940)], [9], [(0, 4, .inr (.inl (0, 0)))], [], []), [.inr (.inr (.inl 0))], [(9, 4), (9, 11), (9, 12), (9, 13), (9, 14), (9, 17)], [], [(([(0, 940), (0, 940)], [9], [(0, 4, .inr (.inl (1, 0)))], [], [.inl ([(1, 0), ((-1), 1)], 0)]), none)])
def nu_187_0 : aCt := (0, ([(0, 940), (0, 940)], [9], [(0, 4, .inr (.inl (1, 0)))], [], [.inl ([(1, 0), ((-1), 1)], 0)]), [(0, .inr (.inr (.inl 0)))], ([((-2), 1)], 1882))
def nu_187_1 : aCt := (181, ([(0, 940), (0, 1), (0, 1), (0, 940)], [9], [(0, 4, .inr (.inl (3, 0)))], [], [.inl ([(1, 0), ((-1), 3)], 1)]), [(0, .inr (.inr (.inl 0))), (2, .inr (.inl (1, 0))), (3, .inr (.inl (2, 0)))], ([((-2), 3)], 1881))
def nu_187_2 : aCt := (181, ([(0, 940), (0, 1), (0, 1), (0, 939), (0, 940), (97, 122)], [9, 49], [(0, 4, .inr (.inl (3, 0))), (0, 1, .inr (.inr (.inl 1))), (0, 3, .inr (.inl (4, 0)))], [(1, .inr (.inl (3, 0)), .inr (.inl (5, 0)))], [.inl ([(1, 0), ((-1), 3)], 0), .inl ([(1, 3), ((-1), 4)], 1)]), [(0, .inr (.inr (.inl 0))), (2, .inr (.inl (1, 0))), (3, .inr (.inl (2, 0)))], ([((-2), 3)], 1881))
def nu_187_3 : aCt := (181, ([(0, 940), (0, 1), (0, 1), (0, 939), (0, 940), (48, 57)], [9, 49], [(0, 4, .inr (.inl (3, 0))), (0, 1, .inr (.inr (.inl 1))), (0, 3, .inr (.inl (4, 0)))], [(1, .inr (.inl (3, 0)), .inr (.inl (5, 0)))], [.inl ([(1, 0), ((-1), 3)], 0), .inl ([(1, 3), ((-1), 4)], 1)]), [(0, .inr (.inr (.inl 0))), (2, .inr (.inl (1, 0))), (3, .inr (.inl (2, 0)))], ([((-2), 3)], 1881))
def nu_187 : List aCt := [nu_187_0, nu_187_1, nu_187_2, nu_187_3]
def nx_187 : List nK := []
def nw_187 : nWk := ([], [])
