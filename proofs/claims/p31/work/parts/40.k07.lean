set_option maxRecDepth 100000 in
theorem vf_187_0 : aFrom nj_M nFT nAT nx_187 nw_187 none nk_187.2.2.2.2.1 nk_187.2.2.2.2.2.1 nk_187.2.2.2.2.2.2 nk_187.2.2.1.1.length nk_187.2.2.1.2.1.length nk_187.2.1 nk_187.1 nu_187 152 nu_187_0 = true := by decide +kernel
set_option maxRecDepth 100000 in
theorem vf_187_1 : aFrom nj_M nFT nAT nx_187 nw_187 none nk_187.2.2.2.2.1 nk_187.2.2.2.2.2.1 nk_187.2.2.2.2.2.2 nk_187.2.2.1.1.length nk_187.2.2.1.2.1.length nk_187.2.1 nk_187.1 nu_187 152 nu_187_1 = true := by decide +kernel
set_option maxRecDepth 100000 in
theorem vf_187_2 : aFrom nj_M nFT nAT nx_187 nw_187 none nk_187.2.2.2.2.1 nk_187.2.2.2.2.2.1 nk_187.2.2.2.2.2.2 nk_187.2.2.1.1.length nk_187.2.2.1.2.1.length nk_187.2.1 nk_187.1 nu_187 152 nu_187_2 = true := by decide +kernel
set_option maxRecDepth 100000 in
theorem vf_187_3 : aFrom nj_M nFT nAT nx_187 nw_187 none nk_187.2.2.2.2.1 nk_187.2.2.2.2.2.1 nk_187.2.2.2.2.2.2 nk_187.2.2.1.1.length nk_187.2.2.1.2.1.length nk_187.2.1 nk_187.1 nu_187 152 nu_187_3 = true := by decide +kernel
set_option maxRecDepth 100000 in
theorem vf_187_s : aExec nj_M nFT nAT nx_187 nw_187 none nk_187.2.2.2.2.1 nk_187.2.2.2.2.2.1 nk_187.2.2.2.2.2.2 nk_187.2.2.1.1.length nk_187.2.2.1.2.1.length nk_187.2.1 nk_187.1 nu_187 none 152 nk_187.2.2.1 [(nk_187.1, 0, aArgs 0 nk_187.2.2.2.1, [])] = true := by decide +kernel
theorem vk_187 {X : nX} {L : Nat} {xs : Nat → Int32} {g : Nat} {S : List Nat} : nV nj_M X L xs g nFT nAT S (nJJ S) nk_187 :=
  aChk_ok (ctx := nx_187) (W := nw_187) (ls := none) (cuts := nu_187) (fuel := 152) (nJJ_ok S)
    ⟨(fun c hc => nomatch hc), (fun c hc => nomatch hc)⟩
    ((fun c hc => nomatch hc))
    (fun _ _ _ _ y hy => by cases hy) (aChk_of (fun c hc => by
    simp only [nu_187, List.mem_cons, List.not_mem_nil, or_false] at hc
    rcases hc with rfl | rfl | rfl | rfl
    · exact vf_187_0
    · exact vf_187_1
    · exact vf_187_2
    · exact vf_187_3) vf_187_s)
/-- Model_fresh -/
def nk_188 : nK := (170, 2, ([(26, 51), (0, 940)], [9], [(0, 4, .inr (.inl (1, 0)))], [], []), [.inr (.inr (.inl 0)), .inr (.inl (0, 0))], [(9, 4), (9, 11), (9, 12), (9, 13), (9, 14), (9, 15), (9, 16), (9, 17)], [53], [(([(26, 51), (0, 940)], [9], [], [], []), some (.inl 0)), (([(26, 51), (0, 940), (0, 940)], [9], [(0, 4, .inr (.inl (2, 0))), (0, 11, .inl 0)], [], [.inl ([(1, 1), ((-1), 2)], 0)]), some (.inl 1)), (([(26, 51), (0, 940), (0, 940)], [9], [(0, 4, .inr (.inl (2, 0))), (0, 11, .inl 4)], [], [.inl ([(1, 1), ((-1), 2)], 0)]), some (.inl 1)), (([(26, 51), (0, 940), (0, 940), (1, 3)], [9], [(0, 4, .inr (.inl (2, 0))), (0, 11, .inr (.inl (3, 0)))], [], [.inl ([(1, 1), ((-1), 2)], 1)]), some (.inl 1))])
def nu_188 : List aCt := []
set_option maxRecDepth 100000 in
theorem vk_188 {X : nX} {L : Nat} {xs : Nat → Int32} {g : Nat} {S : List Nat} : nV nj_M X L xs g nFT nAT S (nJJ S) nk_188 :=
  aChk_ok (ctx := [nk_162, nk_168, nk_180, nk_181, nk_182, nk_183]) (W := ([], [])) (ls := none) (cuts := nu_188) (fuel := 50) (nJJ_ok S)
    ⟨(fun c hc => nomatch hc), (fun c hc => nomatch hc)⟩
    ((fun c hc => by
    simp only [List.mem_cons, List.not_mem_nil, or_false] at hc
    rcases hc with rfl | rfl | rfl | rfl | rfl | rfl
    · exact vk_162
    · exact vk_168
    · exact vk_180
    · exact vk_181
    · exact vk_182
    · exact vk_183))
    (fun _ _ _ _ y hy => by cases hy) (by decide +kernel)
/-- Model_freshM -/
def nk_189 : nK := (170, 2, ([(26, 51), (0, 940)], [9], [(0, 4, .inr (.inl (1, 0)))], [], []), [.inr (.inr (.inl 0)), .inr (.inl (0, 0))], [(9, 4), (9, 11), (9, 12), (9, 13), (9, 14), (9, 15), (9, 16), (9, 17)], [53], [(([(26, 51), (0, 940)], [9], [], [], []), some (.inl 0)), (([(26, 51), (0, 940), (0, 940)], [9], [(0, 4, .inr (.inl (2, 0)))], [], [.inl ([(1, 1), ((-1), 2)], 0)]), some (.inl 1))])
def nu_189 : List aCt := []
set_option maxRecDepth 100000 in
theorem vk_189 {X : nX} {L : Nat} {xs : Nat → Int32} {g : Nat} {S : List Nat} : nV nj_M X L xs g nFT nAT S (nJJ S) nk_189 :=
  aChk_ok (ctx := [nk_168, nk_180, nk_181, nk_182, nk_183, nk_187]) (W := ([], [])) (ls := none) (cuts := nu_189) (fuel := 50) (nJJ_ok S)
    ⟨(fun c hc => nomatch hc), (fun c hc => nomatch hc)⟩
    ((fun c hc => by
    simp only [List.mem_cons, List.not_mem_nil, or_false] at hc
    rcases hc with rfl | rfl | rfl | rfl | rfl | rfl
    · exact vk_168
    · exact vk_180
    · exact vk_181
    · exact vk_182
    · exact vk_183
    · exact vk_187))
    (fun _ _ _ _ y hy => by cases hy) (by decide +kernel)
/-- Model_looksAtPerson0 -/
def nk_190 : nK := (177, 2, ([(0, 0)], [9, 51], [(0, 7, .inr (.inr (.inl 1)))], [(1, .inl 1, .inr (.inl (0, 0)))], []), [.inr (.inr (.inl 0))], [(9, 15), (9, 16), (9, 18)], [], [(([(0, 0)], [9, 51], [], [], []), some (.inl 0))])
def nu_190 : List aCt := []
set_option maxRecDepth 100000 in
theorem vk_190 {X : nX} {L : Nat} {xs : Nat → Int32} {g : Nat} {S : List Nat} : nV nj_M X L xs g nFT nAT S (nJJ S) nk_190 :=
  aChk_ok (ctx := [nk_168, nk_170]) (W := ([], [])) (ls := none) (cuts := nu_190) (fuel := 37) (nJJ_ok S)
    ⟨(fun c hc => nomatch hc), (fun c hc => nomatch hc)⟩
    ((fun c hc => by
    simp only [List.mem_cons, List.not_mem_nil, or_false] at hc
    rcases hc with rfl | rfl
    · exact vk_168
    · exact vk_170))
    (fun _ _ _ _ y hy => by cases hy) (by decide +kernel)
/-- Model_looksAtPerson1 -/
def nk_191 : nK := (177, 2, ([(1, 1)], [9, 51], [(0, 7, .inr (.inr (.inl 1)))], [(1, .inl 1, .inr (.inl (0, 0)))], []), [.inr (.inr (.inl 0))], [(9, 15), (9, 16), (9, 18)], [], [(([(1, 1)], [9, 51], [], [], []), some (.inl 0)), (([(1, 1), (0, 0)], [9, 51], [(0, 18, .inr (.inl (1, 0)))], [], []), some (.inl 1))])
def nu_191 : List aCt := []
set_option maxRecDepth 100000 in
theorem vk_191 {X : nX} {L : Nat} {xs : Nat → Int32} {g : Nat} {S : List Nat} : nV nj_M X L xs g nFT nAT S (nJJ S) nk_191 :=
  aChk_ok (ctx := [nk_168, nk_171]) (W := ([], [])) (ls := none) (cuts := nu_191) (fuel := 37) (nJJ_ok S)
    ⟨(fun c hc => nomatch hc), (fun c hc => nomatch hc)⟩
    ((fun c hc => by
    simp only [List.mem_cons, List.not_mem_nil, or_false] at hc
    rcases hc with rfl | rfl
    · exact vk_168
    · exact vk_171))
    (fun _ _ _ _ y hy => by cases hy) (by decide +kernel)
/-- Model_looksAtPerson2 -/
def nk_192 : nK := (177, 2, ([(2, 2)], [9, 51], [(0, 7, .inr (.inr (.inl 1)))], [(1, .inl 1, .inr (.inl (0, 0)))], []), [.inr (.inr (.inl 0))], [(9, 15), (9, 16), (9, 18)], [], [(([(2, 2)], [9, 51], [], [], []), some (.inl 0)), (([(2, 2), (0, 1)], [9, 51], [(0, 18, .inr (.inl (1, 0)))], [], []), some (.inl 1))])
def nu_192 : List aCt := []
set_option maxRecDepth 100000 in
theorem vk_192 {X : nX} {L : Nat} {xs : Nat → Int32} {g : Nat} {S : List Nat} : nV nj_M X L xs g nFT nAT S (nJJ S) nk_192 :=
  aChk_ok (ctx := [nk_168, nk_172]) (W := ([], [])) (ls := none) (cuts := nu_192) (fuel := 37) (nJJ_ok S)
    ⟨(fun c hc => nomatch hc), (fun c hc => nomatch hc)⟩
    ((fun c hc => by
    simp only [List.mem_cons, List.not_mem_nil, or_false] at hc
    rcases hc with rfl | rfl
    · exact vk_168
    · exact vk_172))
    (fun _ _ _ _ y hy => by cases hy) (by decide +kernel)
/-- Model_looksAtPerson3 -/
def nk_193 : nK := (177, 2, ([(3, 3)], [9, 51], [(0, 7, .inr (.inr (.inl 1)))], [(1, .inl 1, .inr (.inl (0, 0)))], []), [.inr (.inr (.inl 0))], [(9, 15), (9, 16), (9, 18)], [], [(([(3, 3)], [9, 51], [], [], []), some (.inl 0)), (([(3, 3), (0, 2)], [9, 51], [(0, 18, .inr (.inl (1, 0)))], [], []), some (.inl 1))])
def nu_193 : List aCt := []
set_option maxRecDepth 100000 in
theorem vk_193 {X : nX} {L : Nat} {xs : Nat → Int32} {g : Nat} {S : List Nat} : nV nj_M X L xs g nFT nAT S (nJJ S) nk_193 :=
  aChk_ok (ctx := [nk_168, nk_173]) (W := ([], [])) (ls := none) (cuts := nu_193) (fuel := 37) (nJJ_ok S)
    ⟨(fun c hc => nomatch hc), (fun c hc => nomatch hc)⟩
    ((fun c hc => by
    simp only [List.mem_cons, List.not_mem_nil, or_false] at hc
    rcases hc with rfl | rfl
    · exact vk_168
    · exact vk_173))
    (fun _ _ _ _ y hy => by cases hy) (by decide +kernel)
/-- Model_looksAtPerson4 -/
def nk_194 : nK := (177, 2, ([(4, 4)], [9, 51], [(0, 7, .inr (.inr (.inl 1)))], [(1, .inl 1, .inr (.inl (0, 0)))], []), [.inr (.inr (.inl 0))], [(9, 15), (9, 16), (9, 18)], [], [(([(4, 4)], [9, 51], [], [], []), some (.inl 0)), (([(4, 4), (0, 3)], [9, 51], [(0, 18, .inr (.inl (1, 0)))], [], []), some (.inl 1))])
def nu_194 : List aCt := []
set_option maxRecDepth 100000 in
theorem vk_194 {X : nX} {L : Nat} {xs : Nat → Int32} {g : Nat} {S : List Nat} : nV nj_M X L xs g nFT nAT S (nJJ S) nk_194 :=
  aChk_ok (ctx := [nk_168, nk_174]) (W := ([], [])) (ls := none) (cuts := nu_194) (fuel := 37) (nJJ_ok S)
    ⟨(fun c hc => nomatch hc), (fun c hc => nomatch hc)⟩
    ((fun c hc => by
    simp only [List.mem_cons, List.not_mem_nil, or_false] at hc
    rcases hc with rfl | rfl
    · exact vk_168
    · exact vk_174))
    (fun _ _ _ _ y hy => by cases hy) (by decide +kernel)
/-- Model_looksAtPerson5 -/
def nk_195 : nK := (177, 2, ([(5, 5)], [9, 51], [(0, 7, .inr (.inr (.inl 1)))], [(1, .inl 1, .inr (.inl (0, 0)))], []), [.inr (.inr (.inl 0))], [(9, 15), (9, 16), (9, 18)], [], [(([(5, 5)], [9, 51], [], [], []), some (.inl 0)), (([(5, 5), (0, 4)], [9, 51], [(0, 18, .inr (.inl (1, 0)))], [], []), some (.inl 1))])
def nu_195 : List aCt := []
set_option maxRecDepth 100000 in
theorem vk_195 {X : nX} {L : Nat} {xs : Nat → Int32} {g : Nat} {S : List Nat} : nV nj_M X L xs g nFT nAT S (nJJ S) nk_195 :=
  aChk_ok (ctx := [nk_168, nk_175]) (W := ([], [])) (ls := none) (cuts := nu_195) (fuel := 37) (nJJ_ok S)
    ⟨(fun c hc => nomatch hc), (fun c hc => nomatch hc)⟩
    ((fun c hc => by
    simp only [List.mem_cons, List.not_mem_nil, or_false] at hc
    rcases hc with rfl | rfl
    · exact vk_168
    · exact vk_175))
    (fun _ _ _ _ y hy => by cases hy) (by decide +kernel)
/-- Model_looksAtPerson6 -/
def nk_196 : nK := (177, 2, ([(6, 6)], [9, 51], [(0, 7, .inr (.inr (.inl 1)))], [(1, .inl 1, .inr (.inl (0, 0)))], []), [.inr (.inr (.inl 0))], [(9, 15), (9, 16), (9, 18)], [], [(([(6, 6)], [9, 51], [], [], []), some (.inl 0)), (([(6, 6), (0, 5)], [9, 51], [(0, 18, .inr (.inl (1, 0)))], [], []), some (.inl 1))])
def nu_196 : List aCt := []
set_option maxRecDepth 100000 in
theorem vk_196 {X : nX} {L : Nat} {xs : Nat → Int32} {g : Nat} {S : List Nat} : nV nj_M X L xs g nFT nAT S (nJJ S) nk_196 :=
  aChk_ok (ctx := [nk_168, nk_176]) (W := ([], [])) (ls := none) (cuts := nu_196) (fuel := 37) (nJJ_ok S)
    ⟨(fun c hc => nomatch hc), (fun c hc => nomatch hc)⟩
    ((fun c hc => by
    simp only [List.mem_cons, List.not_mem_nil, or_false] at hc
    rcases hc with rfl | rfl
    · exact vk_168
    · exact vk_176))
    (fun _ _ _ _ y hy => by cases hy) (by decide +kernel)
/-- Model_looksAtPerson7 -/
def nk_197 : nK := (177, 2, ([(7, 7)], [9, 51], [(0, 7, .inr (.inr (.inl 1)))], [(1, .inl 1, .inr (.inl (0, 0)))], []), [.inr (.inr (.inl 0))], [(9, 15), (9, 16), (9, 18)], [], [(([(7, 7)], [9, 51], [], [], []), some (.inl 0)), (([(7, 7), (0, 6)], [9, 51], [(0, 18, .inr (.inl (1, 0)))], [], []), some (.inl 1))])
def nu_197 : List aCt := []
set_option maxRecDepth 100000 in
theorem vk_197 {X : nX} {L : Nat} {xs : Nat → Int32} {g : Nat} {S : List Nat} : nV nj_M X L xs g nFT nAT S (nJJ S) nk_197 :=
  aChk_ok (ctx := [nk_168, nk_177]) (W := ([], [])) (ls := none) (cuts := nu_197) (fuel := 37) (nJJ_ok S)
    ⟨(fun c hc => nomatch hc), (fun c hc => nomatch hc)⟩
    ((fun c hc => by
    simp only [List.mem_cons, List.not_mem_nil, or_false] at hc
    rcases hc with rfl | rfl
    · exact vk_168
    · exact vk_177))
    (fun _ _ _ _ y hy => by cases hy) (by decide +kernel)
/-- Model_looksAtPerson8 -/
def nk_198 : nK := (177, 2, ([(8, 8)], [9, 51], [(0, 7, .inr (.inr (.inl 1)))], [(1, .inl 1, .inr (.inl (0, 0)))], []), [.inr (.inr (.inl 0))], [(9, 15), (9, 16), (9, 18)], [], [(([(8, 8)], [9, 51], [], [], []), some (.inl 0)), (([(8, 8), (0, 7)], [9, 51], [(0, 18, .inr (.inl (1, 0)))], [], []), some (.inl 1))])
def nu_198 : List aCt := []
set_option maxRecDepth 100000 in
theorem vk_198 {X : nX} {L : Nat} {xs : Nat → Int32} {g : Nat} {S : List Nat} : nV nj_M X L xs g nFT nAT S (nJJ S) nk_198 :=
  aChk_ok (ctx := [nk_168, nk_178]) (W := ([], [])) (ls := none) (cuts := nu_198) (fuel := 37) (nJJ_ok S)
    ⟨(fun c hc => nomatch hc), (fun c hc => nomatch hc)⟩
    ((fun c hc => by
    simp only [List.mem_cons, List.not_mem_nil, or_false] at hc
    rcases hc with rfl | rfl
    · exact vk_168
    · exact vk_178))
    (fun _ _ _ _ y hy => by cases hy) (by decide +kernel)
/-- Model_looksAtPerson9 -/
def nk_199 : nK := (177, 2, ([(9, 9)], [9, 51], [(0, 7, .inr (.inr (.inl 1)))], [(1, .inl 1, .inr (.inl (0, 0)))], []), [.inr (.inr (.inl 0))], [(9, 15), (9, 16), (9, 18)], [], [(([(9, 9)], [9, 51], [], [], []), some (.inl 0)), (([(9, 9), (0, 8)], [9, 51], [(0, 18, .inr (.inl (1, 0)))], [], []), some (.inl 1))])
def nu_199 : List aCt := []
set_option maxRecDepth 100000 in
theorem vk_199 {X : nX} {L : Nat} {xs : Nat → Int32} {g : Nat} {S : List Nat} : nV nj_M X L xs g nFT nAT S (nJJ S) nk_199 :=
  aChk_ok (ctx := [nk_168, nk_179]) (W := ([], [])) (ls := none) (cuts := nu_199) (fuel := 37) (nJJ_ok S)
    ⟨(fun c hc => nomatch hc), (fun c hc => nomatch hc)⟩
    ((fun c hc => by
    simp only [List.mem_cons, List.not_mem_nil, or_false] at hc
    rcases hc with rfl | rfl
    · exact vk_168
    · exact vk_179))
    (fun _ _ _ _ y hy => by cases hy) (by decide +kernel)
/-- Model_looksAtPerson -/
def nk_200 : nK := (177, 2, ([], [9], [], [], []), [.inr (.inr (.inl 0))], [(9, 15), (9, 16), (9, 18)], [], [(([], [9], [], [], []), some (.inl 0)), (([(0, 9)], [9], [(0, 18, .inr (.inl (0, 0)))], [], []), some (.inl 1))])
def nu_200 : List aCt := []
set_option maxRecDepth 100000 in
theorem vk_200 {X : nX} {L : Nat} {xs : Nat → Int32} {g : Nat} {S : List Nat} : nV nj_M X L xs g nFT nAT S (nJJ S) nk_200 :=
  aChk_ok (ctx := [nk_168, nk_181]) (W := ([], [])) (ls := none) (cuts := nu_200) (fuel := 37) (nJJ_ok S)
    ⟨(fun c hc => nomatch hc), (fun c hc => nomatch hc)⟩
    ((fun c hc => by
    simp only [List.mem_cons, List.not_mem_nil, or_false] at hc
    rcases hc with rfl | rfl
    · exact vk_168
    · exact vk_181))
    (fun _ _ _ _ y hy => by cases hy) (by decide +kernel)
/-- Model_looksAtStep -/
def nk_201 : nK := (180, 2, ([], [9], [], [], []), [.inr (.inr (.inl 0))], [(9, 15), (9, 16), (9, 18)], [], [(([], [9], [], [], []), some (.inl 0)), (([(0, 5)], [9], [(0, 18, .inr (.inl (0, 0)))], [], []), some (.inl 1))])
def nu_201 : List aCt := []
set_option maxRecDepth 100000 in
theorem vk_201 {X : nX} {L : Nat} {xs : Nat → Int32} {g : Nat} {S : List Nat} : nV nj_M X L xs g nFT nAT S (nJJ S) nk_201 :=
  aChk_ok (ctx := [nk_168, nk_180]) (W := ([], [])) (ls := none) (cuts := nu_201) (fuel := 37) (nJJ_ok S)
    ⟨(fun c hc => nomatch hc), (fun c hc => nomatch hc)⟩
    ((fun c hc => by
    simp only [List.mem_cons, List.not_mem_nil, or_false] at hc
    rcases hc with rfl | rfl
    · exact vk_168
    · exact vk_180))
    (fun _ _ _ _ y hy => by cases hy) (by decide +kernel)
/-- Model_looksAt16 -/
def nk_202 : nK := (178, 1, ([(0, 6)], [9], [], [], []), [.inr (.inr (.inl 0)), .inl 16, .inr (.inl (0, 0))], [(9, 15), (9, 16), (9, 18)], [], [(([(0, 6)], [9], [], [], []), some (.inl 0)), (([(0, 6), (0, 5)], [9], [(0, 18, .inr (.inl (1, 0)))], [], []), some (.inl 1))])
def nu_202 : List aCt := []
set_option maxRecDepth 100000 in
theorem vk_202 {X : nX} {L : Nat} {xs : Nat → Int32} {g : Nat} {S : List Nat} : nV nj_M X L xs g nFT nAT S (nJJ S) nk_202 :=
  aChk_ok (ctx := [nk_168, nk_184]) (W := ([], [])) (ls := none) (cuts := nu_202) (fuel := 29) (nJJ_ok S)
    ⟨(fun c hc => nomatch hc), (fun c hc => nomatch hc)⟩
    ((fun c hc => by
    simp only [List.mem_cons, List.not_mem_nil, or_false] at hc
    rcases hc with rfl | rfl
    · exact vk_168
    · exact vk_184))
    (fun _ _ _ _ y hy => by cases hy) (by decide +kernel)
/-- Model_looksAt6 -/
def nk_203 : nK := (178, 1, ([(0, 10)], [9], [], [], []), [.inr (.inr (.inl 0)), .inl 6, .inr (.inl (0, 0))], [(9, 15), (9, 16), (9, 18)], [], [(([(0, 10)], [9], [], [], []), some (.inl 0)), (([(0, 10), (0, 9)], [9], [(0, 18, .inr (.inl (1, 0)))], [], []), some (.inl 1))])
def nu_203 : List aCt := []
set_option maxRecDepth 100000 in
theorem vk_203 {X : nX} {L : Nat} {xs : Nat → Int32} {g : Nat} {S : List Nat} : nV nj_M X L xs g nFT nAT S (nJJ S) nk_203 :=
  aChk_ok (ctx := [nk_168, nk_185]) (W := ([], [])) (ls := none) (cuts := nu_203) (fuel := 29) (nJJ_ok S)
    ⟨(fun c hc => nomatch hc), (fun c hc => nomatch hc)⟩
    ((fun c hc => by
    simp only [List.mem_cons, List.not_mem_nil, or_false] at hc
    rcases hc with rfl | rfl
    · exact vk_168
    · exact vk_185))
    (fun _ _ _ _ y hy => by cases hy) (by decide +kernel)
/-- Model_looksAt22 -/
def nk_204 : nK := (178, 1, ([(0, 4)], [9], [], [], []), [.inr (.inr (.inl 0)), .inl 22, .inr (.inl (0, 0))], [(9, 15), (9, 16), (9, 18)], [], [(([(0, 4)], [9], [], [], []), some (.inl 0)), (([(0, 4), (0, 3)], [9], [(0, 18, .inr (.inl (1, 0)))], [], []), some (.inl 1))])
def nu_204 : List aCt := []
set_option maxRecDepth 100000 in
theorem vk_204 {X : nX} {L : Nat} {xs : Nat → Int32} {g : Nat} {S : List Nat} : nV nj_M X L xs g nFT nAT S (nJJ S) nk_204 :=
  aChk_ok (ctx := [nk_168, nk_186]) (W := ([], [])) (ls := none) (cuts := nu_204) (fuel := 29) (nJJ_ok S)
    ⟨(fun c hc => nomatch hc), (fun c hc => nomatch hc)⟩
    ((fun c hc => by
    simp only [List.mem_cons, List.not_mem_nil, or_false] at hc
    rcases hc with rfl | rfl
    · exact vk_168
    · exact vk_186))
    (fun _ _ _ _ y hy => by cases hy) (by decide +kernel)
