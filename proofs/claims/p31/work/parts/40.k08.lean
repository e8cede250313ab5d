/-- Model_readPerson -/
def nk_205 : nK := (173, 4, ([(0, 940)], [9, 51], [(0, 4, .inr (.inl (0, 0))), (0, 7, .inr (.inr (.inl 1)))], [], []), [.inr (.inr (.inl 0))], [(9, 4), (9, 11), (9, 12), (9, 13), (9, 14), (9, 15), (9, 16), (9, 17), (9, 18)], [51, 53], [(([(0, 940)], [9, 51], [], [], []), some (.inl 0)), (([(0, 940), (0, 940)], [9, 51], [(0, 4, .inr (.inl (1, 0))), (0, 11, .inl 0)], [], [.inl ([(1, 0), ((-1), 1)], 0)]), some (.inl 1)), (([(0, 940), (0, 940)], [9, 51], [(0, 4, .inr (.inl (1, 0))), (0, 11, .inl 4)], [], [.inl ([(1, 0), ((-1), 1)], 0)]), some (.inl 1)), (([(0, 940), (0, 940), (1, 3)], [9, 51], [(0, 4, .inr (.inl (1, 0))), (0, 11, .inr (.inl (2, 0)))], [], [.inl ([(1, 0), ((-1), 1)], 1)]), some (.inl 1))])
def nu_205 : List aCt := [(23, ([(0, 940), (0, 9), (0, 940), (0, 9)], [9, 51], [(0, 4, .inr (.inl (2, 0))), (0, 7, .inr (.inr (.inl 1)))], [(1, .inl 1, .inr (.inl (3, 0)))], [.inl ([(1, 0), ((-1), 2)], 0), .inl ([(1, 1), ((-1), 3)], 0), .inl ([((-1), 1), (1, 3)], 0)]), [(0, .inr (.inr (.inl 0))), (1, .inr (.inl (1, 0)))], ([], 2)), (84, ([(0, 940), (0, 9), (0, 940), (0, 9)], [9, 51], [(0, 4, .inr (.inl (2, 0))), (0, 7, .inr (.inr (.inl 1)))], [(1, .inl 1, .inr (.inl (3, 0)))], [.inl ([(1, 0), ((-1), 2)], 0), .inl ([(1, 1), ((-1), 3)], 0), .inl ([((-1), 1), (1, 3)], 0)]), [(0, .inr (.inr (.inl 0))), (1, .inr (.inl (1, 0)))], ([], 0))]
set_option maxRecDepth 100000 in
theorem vk_205 {X : nX} {L : Nat} {xs : Nat → Int32} {g : Nat} {S : List Nat} : nV nj_M X L xs g nFT nAT S (nJJ S) nk_205 :=
  aChk_ok (ctx := [nk_162, nk_163, nk_164, nk_165, nk_169, nk_189, nk_190, nk_191, nk_192, nk_193, nk_194, nk_195, nk_196, nk_197, nk_198, nk_199]) (W := ([gh_6], [])) (ls := none) (cuts := nu_205) (fuel := 57) (nJJ_ok S)
    ⟨(fun c hc => by
    simp only [List.mem_cons, List.not_mem_nil, or_false] at hc
    subst hc
    · exact gh_6_ok), (fun c hc => nomatch hc)⟩
    ((fun c hc => by
    simp only [List.mem_cons, List.not_mem_nil, or_false] at hc
    rcases hc with rfl | rfl | rfl | rfl | rfl | rfl | rfl | rfl | rfl | rfl | rfl | rfl | rfl | rfl | rfl | rfl
    · exact vk_162
    · exact vk_163
    · exact vk_164
    · exact vk_165
    · exact vk_169
    · exact vk_189
    · exact vk_190
    · exact vk_191
    · exact vk_192
    · exact vk_193
    · exact vk_194
    · exact vk_195
    · exact vk_196
    · exact vk_197
    · exact vk_198
    · exact vk_199))
    (fun _ _ _ _ y hy => by cases hy) (by decide +kernel)
/-- Model_readError -/
def nk_206 : nK := (179, 4, ([(0, 940)], [9, 51], [(0, 4, .inr (.inl (0, 0))), (0, 7, .inr (.inr (.inl 1)))], [], []), [.inr (.inr (.inl 0))], [(9, 4), (9, 11), (9, 12), (9, 13), (9, 14), (9, 15), (9, 16), (9, 17), (9, 18)], [51, 53], [(([(0, 940)], [9, 51], [], [], []), some (.inl 0)), (([(0, 940), (0, 940)], [9, 51], [(0, 4, .inr (.inl (1, 0))), (0, 11, .inl 0)], [], [.inl ([(1, 0), ((-1), 1)], 0)]), some (.inl 1)), (([(0, 940), (0, 940)], [9, 51], [(0, 4, .inr (.inl (1, 0))), (0, 11, .inl 4)], [], [.inl ([(1, 0), ((-1), 1)], 0)]), some (.inl 1)), (([(0, 940), (0, 940), (1, 3)], [9, 51], [(0, 4, .inr (.inl (1, 0))), (0, 11, .inr (.inl (2, 0)))], [], [.inl ([(1, 0), ((-1), 1)], 1)]), some (.inl 1))])
def nu_206 : List aCt := [(148, ([(0, 940), (0, 5), (0, 940), (0, 5)], [9, 51], [(0, 4, .inr (.inl (2, 0))), (0, 7, .inr (.inr (.inl 1)))], [(1, .inl 2, .inr (.inl (3, 0)))], [.inl ([(1, 0), ((-1), 2)], 0)]), [(0, .inr (.inr (.inl 0))), (1, .inr (.inl (1, 0)))], ([], 2)), (162, ([(0, 940), (0, 5), (0, 940), (0, 5)], [9, 51], [(0, 4, .inr (.inl (2, 0))), (0, 7, .inr (.inr (.inl 1)))], [(1, .inl 2, .inr (.inl (3, 0)))], [.inl ([(1, 0), ((-1), 2)], 0)]), [(0, .inr (.inr (.inl 0))), (1, .inr (.inl (1, 0)))], ([], 0))]
set_option maxRecDepth 100000 in
theorem vk_206 {X : nX} {L : Nat} {xs : Nat → Int32} {g : Nat} {S : List Nat} : nV nj_M X L xs g nFT nAT S (nJJ S) nk_206 :=
  aChk_ok (ctx := [nk_169, nk_187, nk_189, nk_200, nk_201]) (W := ([], [])) (ls := none) (cuts := nu_206) (fuel := 88) (nJJ_ok S)
    ⟨(fun c hc => nomatch hc), (fun c hc => nomatch hc)⟩
    ((fun c hc => by
    simp only [List.mem_cons, List.not_mem_nil, or_false] at hc
    rcases hc with rfl | rfl | rfl | rfl | rfl
    · exact vk_169
    · exact vk_187
    · exact vk_189
    · exact vk_200
    · exact vk_201))
    (fun _ _ _ _ y hy => by cases hy) (by decide +kernel)
/-- Model_readDeed -/
def nk_207 : nK := (181, 3, ([(0, 940)], [9, 51], [(0, 4, .inr (.inl (0, 0))), (0, 7, .inr (.inr (.inl 1)))], [], []), [.inr (.inr (.inl 0))], [(9, 4), (9, 11), (9, 12), (9, 13), (9, 14), (9, 15), (9, 16), (9, 17), (9, 18)], [51, 53], [(([(0, 940)], [9, 51], [], [], []), some (.inl 0)), (([(0, 940), (0, 940)], [9, 51], [(0, 4, .inr (.inl (1, 0))), (0, 11, .inl 0)], [], [.inl ([(1, 0), ((-1), 1)], 0)]), some (.inl 1)), (([(0, 940), (0, 940)], [9, 51], [(0, 4, .inr (.inl (1, 0))), (0, 11, .inl 4)], [], [.inl ([(1, 0), ((-1), 1)], 0)]), some (.inl 1)), (([(0, 940), (0, 940), (1, 3)], [9, 51], [(0, 4, .inr (.inl (1, 0))), (0, 11, .inr (.inl (2, 0)))], [], [.inl ([(1, 0), ((-1), 1)], 1)]), some (.inl 1))])
def nu_207 : List aCt := [(22, ([(0, 940), (0, 3), (0, 940), (0, 3)], [9, 51], [(0, 4, .inr (.inl (2, 0))), (0, 7, .inr (.inr (.inl 1)))], [(1, .inl 3, .inr (.inl (3, 0)))], [.inl ([(1, 0), ((-1), 2)], 0)]), [(0, .inr (.inr (.inl 0))), (1, .inr (.inl (1, 0)))], ([], 20)), (37, ([(0, 940), (0, 3), (0, 12), (0, 940), (0, 3)], [9, 51], [(0, 4, .inr (.inl (3, 0))), (0, 7, .inr (.inr (.inl 1))), (0, 11, .inl 0)], [(1, .inl 3, .inr (.inl (4, 0)))], [.inl ([(1, 0), ((-1), 3)], 0)]), [(0, .inr (.inr (.inl 0))), (1, .inr (.inl (1, 0))), (2, .inr (.inl (2, 0)))], ([((-1), 2)], 13)), (37, ([(0, 940), (0, 3), (0, 12), (0, 940), (0, 3)], [9, 51], [(0, 4, .inr (.inl (3, 0))), (0, 7, .inr (.inr (.inl 1))), (0, 11, .inl 4)], [(1, .inl 3, .inr (.inl (4, 0)))], [.inl ([(1, 0), ((-1), 3)], 0)]), [(0, .inr (.inr (.inl 0))), (1, .inr (.inl (1, 0))), (2, .inr (.inl (2, 0)))], ([((-1), 2)], 13)), (37, ([(0, 940), (0, 3), (0, 12), (0, 940), (1, 3), (0, 3)], [9, 51], [(0, 4, .inr (.inl (3, 0))), (0, 7, .inr (.inr (.inl 1))), (0, 11, .inr (.inl (4, 0)))], [(1, .inl 3, .inr (.inl (5, 0)))], [.inl ([(1, 0), ((-1), 3)], 1)]), [(0, .inr (.inr (.inl 0))), (1, .inr (.inl (1, 0))), (2, .inr (.inl (2, 0)))], ([((-1), 2)], 13))]
set_option maxRecDepth 100000 in
theorem vk_207 {X : nX} {L : Nat} {xs : Nat → Int32} {g : Nat} {S : List Nat} : nV nj_M X L xs g nFT nAT S (nJJ S) nk_207 :=
  aChk_ok (ctx := [nk_162, nk_188, nk_201]) (W := ([], [])) (ls := none) (cuts := nu_207) (fuel := 41) (nJJ_ok S)
    ⟨(fun c hc => nomatch hc), (fun c hc => nomatch hc)⟩
    ((fun c hc => by
    simp only [List.mem_cons, List.not_mem_nil, or_false] at hc
    rcases hc with rfl | rfl | rfl
    · exact vk_162
    · exact vk_188
    · exact vk_201))
    (fun _ _ _ _ y hy => by cases hy) (by decide +kernel)
/-- Model_readLine -/
def nk_208 : nK := (167, 5, ([(0, 940)], [9, 51], [(0, 4, .inr (.inl (0, 0))), (0, 7, .inr (.inr (.inl 1)))], [], []), [.inr (.inr (.inl 0))], [(9, 4), (9, 11), (9, 12), (9, 13), (9, 14), (9, 15), (9, 16), (9, 17), (9, 18), (9, 20)], [51, 53], [(([(0, 940)], [9, 51], [], [], []), some (.inl 0)), (([(0, 940), (0, 940)], [9, 51], [(0, 4, .inr (.inl (1, 0))), (0, 11, .inl 0)], [], [.inl ([(1, 0), ((-1), 1)], 0)]), some (.inl 1)), (([(0, 940), (0, 940)], [9, 51], [(0, 4, .inr (.inl (1, 0))), (0, 11, .inl 4)], [], [.inl ([(1, 0), ((-1), 1)], 0)]), some (.inl 1)), (([(0, 940), (0, 940), (1, 3)], [9, 51], [(0, 4, .inr (.inl (1, 0))), (0, 11, .inr (.inl (2, 0)))], [], [.inl ([(1, 0), ((-1), 1)], 1)]), some (.inl 1))])
def nu_208 : List aCt := [(31, ([(0, 940), (0, 940), (0, 5)], [9, 51], [(0, 4, .inr (.inl (1, 0))), (0, 7, .inr (.inr (.inl 1)))], [(1, .inl 0, .inr (.inl (2, 0)))], [.inl ([(1, 0), ((-1), 1)], 0)]), [(0, .inr (.inr (.inl 0)))], ([], 4)), (138, ([(0, 940), (0, 1), (0, 940)], [9, 51], [(0, 4, .inr (.inl (2, 0))), (0, 7, .inr (.inr (.inl 1)))], [], [.inl ([(1, 0), ((-1), 2)], 0)]), [(0, .inr (.inr (.inl 0))), (1, .inr (.inl (1, 0)))], ([], 2)), (192, ([(0, 940), (0, 1), (0, 9), (0, 940)], [9, 51], [(0, 4, .inr (.inl (3, 0))), (0, 7, .inr (.inr (.inl 1)))], [], [.inl ([(1, 0), ((-1), 3)], 0)]), [(0, .inr (.inr (.inl 0))), (1, .inr (.inl (1, 0))), (2, .inr (.inl (2, 0)))], ([], 0))]
set_option maxRecDepth 100000 in
theorem vk_208 {X : nX} {L : Nat} {xs : Nat → Int32} {g : Nat} {S : List Nat} : nV nj_M X L xs g nFT nAT S (nJJ S) nk_208 :=
  aChk_ok (ctx := [nk_162, nk_165, nk_169, nk_188, nk_200, nk_205, nk_206, nk_207]) (W := ([], [])) (ls := none) (cuts := nu_208) (fuel := 41) (nJJ_ok S)
    ⟨(fun c hc => nomatch hc), (fun c hc => nomatch hc)⟩
    ((fun c hc => by
    simp only [List.mem_cons, List.not_mem_nil, or_false] at hc
    rcases hc with rfl | rfl | rfl | rfl | rfl | rfl | rfl | rfl
    · exact vk_162
    · exact vk_165
    · exact vk_169
    · exact vk_188
    · exact vk_200
    · exact vk_205
    · exact vk_206
    · exact vk_207))
    (fun _ _ _ _ y hy => by cases hy) (by decide +kernel)
/-- Model_family -/
def nk_209 : nK := (161, 6, ([], [9], [(0, 1002, .inl 1)], [], []), [.inr (.inr (.inl 0))], [(9, 0), (9, 2), (9, 3), (9, 4), (9, 5), (9, 11), (9, 12), (9, 13), (9, 14), (9, 15), (9, 16), (9, 17), (9, 18), (9, 19), (9, 20), (9, 24), (9, 1002), (9, 1005), (9, 1006), (9, 1007), (9, 1020), (9, 1021), (9, 1022), (9, 1023), (9, 1024), (9, 1025), (9, 1026), (9, 1027), (9, 1028), (9, 1029), (9, 1030), (9, 1031), (9, 1032), (9, 1033), (9, 1034), (9, 1035), (9, 1036), (9, 1037), (9, 1038), (9, 1039), (9, 1040), (9, 1041), (9, 1042), (9, 1043), (9, 1044), (9, 1045), (9, 1046), (9, 1047), (9, 1048), (9, 1049), (9, 1050), (9, 1051), (9, 1052), (9, 1053), (9, 1054), (9, 1055), (9, 1056), (9, 1057), (9, 1058), (9, 1059), (9, 1060), (9, 1061), (9, 1062), (9, 1063), (9, 1064), (9, 1065)], [50, 51, 53], [(([((-2147483648), 2147483647)], [9], [(0, 1002, .inl 1)], [], []), some (.inr (.inl (0, 0))))])
def nu_209 : List aCt := [(29, ([(0, 132)], [9, 51], [(0, 4, .inl 0), (0, 7, .inr (.inr (.inl 1))), (0, 1002, .inl 1)], [], []), [(0, .inr (.inr (.inl 0))), (1, .inr (.inl (0, 0)))], ([((-1), 0)], 3000)), (29, ([], [9], [(0, 4, .inl 0), (0, 1002, .inl 1)], [], []), [(0, .inr (.inr (.inl 0))), (1, .inl 0)], ([], 4000)), (53, ([(0, 940)], [9, 51], [(0, 4, .inr (.inl (0, 0))), (0, 7, .inr (.inr (.inl 1))), (0, 1002, .inl 1)], [], []), [(0, .inr (.inr (.inl 0)))], ([((-1), 0)], 2000)), (98, ([(0, 179)], [9], [], [], []), [(0, .inr (.inr (.inl 0))), (1, .inr (.inl (0, 0)))], ([((-1), 0)], 500)), (98, ([(180, 360)], [9, 50], [(0, 1002, .inl 1), (0, 6, .inr (.inr (.inl 1)))], [(1, .inl 179, .inl 0)], []), [(0, .inr (.inr (.inl 0))), (1, .inr (.inl (0, 0)))], ([((-1), 0)], 500)), (136, ([(0, 26)], [9, 50], [(0, 1002, .inl 1), (0, 6, .inr (.inr (.inl 1)))], [], []), [(0, .inr (.inr (.inl 0))), (1, .inr (.inl (0, 0)))], ([((-1), 0)], 30))]
set_option maxRecDepth 100000 in
theorem vk_209 {X : nX} {L : Nat} {xs : Nat → Int32} {g : Nat} {S : List Nat} : nV nj_M X L xs g nFT nAT S (nJJ S) nk_209 :=
  aChk_ok (ctx := [nk_161, nk_162, nk_208]) (W := ([gh_5], [sw_42, sw_43])) (ls := none) (cuts := nu_209) (fuel := 44) (nJJ_ok S)
    ⟨(fun c hc => by
    simp only [List.mem_cons, List.not_mem_nil, or_false] at hc
    subst hc
    · exact gh_5_ok), (fun c hc => by
    simp only [List.mem_cons, List.not_mem_nil, or_false] at hc
    rcases hc with rfl | rfl
    · exact sw_42_ok
    · exact sw_43_ok)⟩
    ((fun c hc => by
    simp only [List.mem_cons, List.not_mem_nil, or_false] at hc
    rcases hc with rfl | rfl | rfl
    · exact vk_161
    · exact vk_162
    · exact vk_208))
    (fun _ _ _ _ y hy => by cases hy) (by decide +kernel)
/-- Model_fault -/
def nk_210 : nK := (185, 0, ([], [9], [], [], []), [.inr (.inr (.inl 0))], [(9, 0)], [], [(([((-2147483648), 2147483647)], [9], [], [], []), some (.inr (.inl (0, 0))))])
def nu_210 : List aCt := []
set_option maxRecDepth 100000 in
theorem vk_210 {X : nX} {L : Nat} {xs : Nat → Int32} {g : Nat} {S : List Nat} : nV nj_M X L xs g nFT nAT S (nJJ S) nk_210 :=
  aChk_ok (ctx := []) (W := ([], [])) (ls := none) (cuts := nu_210) (fuel := 8) (nJJ_ok S)
    ⟨(fun c hc => nomatch hc), (fun c hc => nomatch hc)⟩
    ((fun c hc => nomatch hc))
    (fun _ _ _ _ y hy => by cases hy) (by decide +kernel)
/-- Model_childrenOf0 -/
def nk_211 : nK := (191, 0, ([], [9], [], [], []), [.inr (.inr (.inl 0)), .inl 0], [], [], [(([((-2147483648), 2147483647)], [9], [], [], [.inr (0, 1)]), some (.inr (.inl (0, 0))))])
def nu_211 : List aCt := [(4, ([((-2147483648), 2147483647), (0, 10)], [9], [], [], [.inr (0, 1)]), [(0, .inr (.inr (.inl 0))), (1, .inl 0), (2, .inr (.inl (0, 0))), (3, .inr (.inl (1, 0)))], ([((-1), 1)], 11)), (4, ([(0, 10)], [9], [], [], []), [(0, .inr (.inr (.inl 0))), (1, .inl 0), (2, .inl 0), (3, .inr (.inl (0, 0)))], ([((-1), 0)], 11))]
set_option maxRecDepth 100000 in
theorem vk_211 {X : nX} {L : Nat} {xs : Nat → Int32} {g : Nat} {S : List Nat} : nV nj_M X L xs g nFT nAT S (nJJ S) nk_211 :=
  aChk_ok (ctx := []) (W := ([gh_15], [])) (ls := none) (cuts := nu_211) (fuel := 28) (nJJ_ok S)
    ⟨(fun c hc => by
    simp only [List.mem_cons, List.not_mem_nil, or_false] at hc
    subst hc
    · exact gh_15_ok), (fun c hc => nomatch hc)⟩
    ((fun c hc => nomatch hc))
    (fun _ _ _ _ y hy => by cases hy) (by decide +kernel)
/-- Model_childrenOf1 -/
def nk_212 : nK := (191, 0, ([], [9], [], [], []), [.inr (.inr (.inl 0)), .inl 1], [], [], [(([((-2147483648), 2147483647)], [9], [], [], [.inr (0, 2)]), some (.inr (.inl (0, 0))))])
def nu_212 : List aCt := [(4, ([((-2147483648), 2147483647), (0, 10)], [9], [], [], [.inr (0, 2)]), [(0, .inr (.inr (.inl 0))), (1, .inl 1), (2, .inr (.inl (0, 0))), (3, .inr (.inl (1, 0)))], ([((-1), 1)], 11)), (4, ([(0, 10)], [9], [], [], []), [(0, .inr (.inr (.inl 0))), (1, .inl 1), (2, .inl 0), (3, .inr (.inl (0, 0)))], ([((-1), 0)], 11))]
set_option maxRecDepth 100000 in
theorem vk_212 {X : nX} {L : Nat} {xs : Nat → Int32} {g : Nat} {S : List Nat} : nV nj_M X L xs g nFT nAT S (nJJ S) nk_212 :=
  aChk_ok (ctx := []) (W := ([gh_18], [])) (ls := none) (cuts := nu_212) (fuel := 28) (nJJ_ok S)
    ⟨(fun c hc => by
    simp only [List.mem_cons, List.not_mem_nil, or_false] at hc
    subst hc
    · exact gh_18_ok), (fun c hc => nomatch hc)⟩
    ((fun c hc => nomatch hc))
    (fun _ _ _ _ y hy => by cases hy) (by decide +kernel)
/-- Model_childrenOf2 -/
def nk_213 : nK := (191, 0, ([], [9], [], [], []), [.inr (.inr (.inl 0)), .inl 2], [], [], [(([((-2147483648), 2147483647)], [9], [], [], [.inr (0, 3)]), some (.inr (.inl (0, 0))))])
def nu_213 : List aCt := [(4, ([((-2147483648), 2147483647), (0, 10)], [9], [], [], [.inr (0, 3)]), [(0, .inr (.inr (.inl 0))), (1, .inl 2), (2, .inr (.inl (0, 0))), (3, .inr (.inl (1, 0)))], ([((-1), 1)], 11)), (4, ([(0, 10)], [9], [], [], []), [(0, .inr (.inr (.inl 0))), (1, .inl 2), (2, .inl 0), (3, .inr (.inl (0, 0)))], ([((-1), 0)], 11))]
set_option maxRecDepth 100000 in
theorem vk_213 {X : nX} {L : Nat} {xs : Nat → Int32} {g : Nat} {S : List Nat} : nV nj_M X L xs g nFT nAT S (nJJ S) nk_213 :=
  aChk_ok (ctx := []) (W := ([gh_21], [])) (ls := none) (cuts := nu_213) (fuel := 28) (nJJ_ok S)
    ⟨(fun c hc => by
    simp only [List.mem_cons, List.not_mem_nil, or_false] at hc
    subst hc
    · exact gh_21_ok), (fun c hc => nomatch hc)⟩
    ((fun c hc => nomatch hc))
    (fun _ _ _ _ y hy => by cases hy) (by decide +kernel)
/-- Model_childrenOf3 -/
def nk_214 : nK := (191, 0, ([], [9], [], [], []), [.inr (.inr (.inl 0)), .inl 3], [], [], [(([((-2147483648), 2147483647)], [9], [], [], [.inr (0, 4)]), some (.inr (.inl (0, 0))))])
def nu_214 : List aCt := [(4, ([((-2147483648), 2147483647), (0, 10)], [9], [], [], [.inr (0, 4)]), [(0, .inr (.inr (.inl 0))), (1, .inl 3), (2, .inr (.inl (0, 0))), (3, .inr (.inl (1, 0)))], ([((-1), 1)], 11)), (4, ([(0, 10)], [9], [], [], []), [(0, .inr (.inr (.inl 0))), (1, .inl 3), (2, .inl 0), (3, .inr (.inl (0, 0)))], ([((-1), 0)], 11))]
set_option maxRecDepth 100000 in
theorem vk_214 {X : nX} {L : Nat} {xs : Nat → Int32} {g : Nat} {S : List Nat} : nV nj_M X L xs g nFT nAT S (nJJ S) nk_214 :=
  aChk_ok (ctx := []) (W := ([gh_24], [])) (ls := none) (cuts := nu_214) (fuel := 28) (nJJ_ok S)
    ⟨(fun c hc => by
    simp only [List.mem_cons, List.not_mem_nil, or_false] at hc
    subst hc
    · exact gh_24_ok), (fun c hc => nomatch hc)⟩
    ((fun c hc => nomatch hc))
    (fun _ _ _ _ y hy => by cases hy) (by decide +kernel)
/-- Model_childrenOf4 -/
def nk_215 : nK := (191, 0, ([], [9], [], [], []), [.inr (.inr (.inl 0)), .inl 4], [], [], [(([((-2147483648), 2147483647)], [9], [], [], [.inr (0, 5)]), some (.inr (.inl (0, 0))))])
def nu_215 : List aCt := [(4, ([((-2147483648), 2147483647), (0, 10)], [9], [], [], [.inr (0, 5)]), [(0, .inr (.inr (.inl 0))), (1, .inl 4), (2, .inr (.inl (0, 0))), (3, .inr (.inl (1, 0)))], ([((-1), 1)], 11)), (4, ([(0, 10)], [9], [], [], []), [(0, .inr (.inr (.inl 0))), (1, .inl 4), (2, .inl 0), (3, .inr (.inl (0, 0)))], ([((-1), 0)], 11))]
set_option maxRecDepth 100000 in
theorem vk_215 {X : nX} {L : Nat} {xs : Nat → Int32} {g : Nat} {S : List Nat} : nV nj_M X L xs g nFT nAT S (nJJ S) nk_215 :=
  aChk_ok (ctx := []) (W := ([gh_27], [])) (ls := none) (cuts := nu_215) (fuel := 28) (nJJ_ok S)
    ⟨(fun c hc => by
    simp only [List.mem_cons, List.not_mem_nil, or_false] at hc
    subst hc
    · exact gh_27_ok), (fun c hc => nomatch hc)⟩
    ((fun c hc => nomatch hc))
    (fun _ _ _ _ y hy => by cases hy) (by decide +kernel)
/-- Model_childrenOf5 -/
def nk_216 : nK := (191, 0, ([], [9], [], [], []), [.inr (.inr (.inl 0)), .inl 5], [], [], [(([((-2147483648), 2147483647)], [9], [], [], [.inr (0, 6)]), some (.inr (.inl (0, 0))))])
def nu_216 : List aCt := [(4, ([((-2147483648), 2147483647), (0, 10)], [9], [], [], [.inr (0, 6)]), [(0, .inr (.inr (.inl 0))), (1, .inl 5), (2, .inr (.inl (0, 0))), (3, .inr (.inl (1, 0)))], ([((-1), 1)], 11)), (4, ([(0, 10)], [9], [], [], []), [(0, .inr (.inr (.inl 0))), (1, .inl 5), (2, .inl 0), (3, .inr (.inl (0, 0)))], ([((-1), 0)], 11))]
set_option maxRecDepth 100000 in
theorem vk_216 {X : nX} {L : Nat} {xs : Nat → Int32} {g : Nat} {S : List Nat} : nV nj_M X L xs g nFT nAT S (nJJ S) nk_216 :=
  aChk_ok (ctx := []) (W := ([gh_30], [])) (ls := none) (cuts := nu_216) (fuel := 28) (nJJ_ok S)
    ⟨(fun c hc => by
    simp only [List.mem_cons, List.not_mem_nil, or_false] at hc
    subst hc
    · exact gh_30_ok), (fun c hc => nomatch hc)⟩
    ((fun c hc => nomatch hc))
    (fun _ _ _ _ y hy => by cases hy) (by decide +kernel)
/-- Model_childrenOf6 -/
def nk_217 : nK := (191, 0, ([], [9], [], [], []), [.inr (.inr (.inl 0)), .inl 6], [], [], [(([((-2147483648), 2147483647)], [9], [], [], [.inr (0, 7)]), some (.inr (.inl (0, 0))))])
def nu_217 : List aCt := [(4, ([((-2147483648), 2147483647), (0, 10)], [9], [], [], [.inr (0, 7)]), [(0, .inr (.inr (.inl 0))), (1, .inl 6), (2, .inr (.inl (0, 0))), (3, .inr (.inl (1, 0)))], ([((-1), 1)], 11)), (4, ([(0, 10)], [9], [], [], []), [(0, .inr (.inr (.inl 0))), (1, .inl 6), (2, .inl 0), (3, .inr (.inl (0, 0)))], ([((-1), 0)], 11))]
set_option maxRecDepth 100000 in
theorem vk_217 {X : nX} {L : Nat} {xs : Nat → Int32} {g : Nat} {S : List Nat} : nV nj_M X L xs g nFT nAT S (nJJ S) nk_217 :=
  aChk_ok (ctx := []) (W := ([gh_33], [])) (ls := none) (cuts := nu_217) (fuel := 28) (nJJ_ok S)
    ⟨(fun c hc => by
    simp only [List.mem_cons, List.not_mem_nil, or_false] at hc
    subst hc
    · exact gh_33_ok), (fun c hc => nomatch hc)⟩
    ((fun c hc => nomatch hc))
    (fun _ _ _ _ y hy => by cases hy) (by decide +kernel)
/-- Model_childrenOf7 -/
def nk_218 : nK := (191, 0, ([], [9], [], [], []), [.inr (.inr (.inl 0)), .inl 7], [], [], [(([((-2147483648), 2147483647)], [9], [], [], [.inr (0, 8)]), some (.inr (.inl (0, 0))))])
def nu_218 : List aCt := [(4, ([((-2147483648), 2147483647), (0, 10)], [9], [], [], [.inr (0, 8)]), [(0, .inr (.inr (.inl 0))), (1, .inl 7), (2, .inr (.inl (0, 0))), (3, .inr (.inl (1, 0)))], ([((-1), 1)], 11)), (4, ([(0, 10)], [9], [], [], []), [(0, .inr (.inr (.inl 0))), (1, .inl 7), (2, .inl 0), (3, .inr (.inl (0, 0)))], ([((-1), 0)], 11))]
set_option maxRecDepth 100000 in
theorem vk_218 {X : nX} {L : Nat} {xs : Nat → Int32} {g : Nat} {S : List Nat} : nV nj_M X L xs g nFT nAT S (nJJ S) nk_218 :=
  aChk_ok (ctx := []) (W := ([gh_36], [])) (ls := none) (cuts := nu_218) (fuel := 28) (nJJ_ok S)
    ⟨(fun c hc => by
    simp only [List.mem_cons, List.not_mem_nil, or_false] at hc
    subst hc
    · exact gh_36_ok), (fun c hc => nomatch hc)⟩
    ((fun c hc => nomatch hc))
    (fun _ _ _ _ y hy => by cases hy) (by decide +kernel)
/-- Model_childrenOf8 -/
def nk_219 : nK := (191, 0, ([], [9], [], [], []), [.inr (.inr (.inl 0)), .inl 8], [], [], [(([((-2147483648), 2147483647)], [9], [], [], [.inr (0, 9)]), some (.inr (.inl (0, 0))))])
def nu_219 : List aCt := [(4, ([((-2147483648), 2147483647), (0, 10)], [9], [], [], [.inr (0, 9)]), [(0, .inr (.inr (.inl 0))), (1, .inl 8), (2, .inr (.inl (0, 0))), (3, .inr (.inl (1, 0)))], ([((-1), 1)], 11)), (4, ([(0, 10)], [9], [], [], []), [(0, .inr (.inr (.inl 0))), (1, .inl 8), (2, .inl 0), (3, .inr (.inl (0, 0)))], ([((-1), 0)], 11))]
set_option maxRecDepth 100000 in
theorem vk_219 {X : nX} {L : Nat} {xs : Nat → Int32} {g : Nat} {S : List Nat} : nV nj_M X L xs g nFT nAT S (nJJ S) nk_219 :=
  aChk_ok (ctx := []) (W := ([gh_39], [])) (ls := none) (cuts := nu_219) (fuel := 28) (nJJ_ok S)
    ⟨(fun c hc => by
    simp only [List.mem_cons, List.not_mem_nil, or_false] at hc
    subst hc
    · exact gh_39_ok), (fun c hc => nomatch hc)⟩
    ((fun c hc => nomatch hc))
    (fun _ _ _ _ y hy => by cases hy) (by decide +kernel)
/-- Model_childrenOf9 -/
def nk_220 : nK := (191, 0, ([], [9], [], [], []), [.inr (.inr (.inl 0)), .inl 9], [], [], [(([((-2147483648), 2147483647)], [9], [], [], [.inr (0, 10)]), some (.inr (.inl (0, 0))))])
def nu_220 : List aCt := [(4, ([((-2147483648), 2147483647), (0, 10)], [9], [], [], [.inr (0, 10)]), [(0, .inr (.inr (.inl 0))), (1, .inl 9), (2, .inr (.inl (0, 0))), (3, .inr (.inl (1, 0)))], ([((-1), 1)], 11)), (4, ([(0, 10)], [9], [], [], []), [(0, .inr (.inr (.inl 0))), (1, .inl 9), (2, .inl 0), (3, .inr (.inl (0, 0)))], ([((-1), 0)], 11))]
set_option maxRecDepth 100000 in
theorem vk_220 {X : nX} {L : Nat} {xs : Nat → Int32} {g : Nat} {S : List Nat} : nV nj_M X L xs g nFT nAT S (nJJ S) nk_220 :=
  aChk_ok (ctx := []) (W := ([gh_42], [])) (ls := none) (cuts := nu_220) (fuel := 25) (nJJ_ok S)
    ⟨(fun c hc => by
    simp only [List.mem_cons, List.not_mem_nil, or_false] at hc
    subst hc
    · exact gh_42_ok), (fun c hc => nomatch hc)⟩
    ((fun c hc => nomatch hc))
    (fun _ _ _ _ y hy => by cases hy) (by decide +kernel)
/-- Model_childrenOf -/
def nk_221 : nK := (191, 0, ([((-2147483648), 2147483647)], [9], [], [], []), [.inr (.inr (.inl 0)), .inr (.inl (0, 0))], [], [], [(([((-2147483648), 2147483647), ((-2147483648), 2147483647)], [9], [], [], []), some (.inr (.inl (1, 0))))])
def nu_221 : List aCt := [(4, ([((-2147483648), 2147483647), ((-2147483648), 2147483647), (0, 10)], [9], [], [], []), [(0, .inr (.inr (.inl 0))), (1, .inr (.inl (0, 0))), (2, .inr (.inl (1, 0))), (3, .inr (.inl (2, 0)))], ([((-2), 2)], 21))]
set_option maxRecDepth 100000 in
theorem vk_221 {X : nX} {L : Nat} {xs : Nat → Int32} {g : Nat} {S : List Nat} : nV nj_M X L xs g nFT nAT S (nJJ S) nk_221 :=
  aChk_ok (ctx := []) (W := ([], [])) (ls := none) (cuts := nu_221) (fuel := 28) (nJJ_ok S)
    ⟨(fun c hc => nomatch hc), (fun c hc => nomatch hc)⟩
    ((fun c hc => nomatch hc))
    (fun _ _ _ _ y hy => by cases hy) (by decide +kernel)
/-- Model_underOf -/
def nk_222 : nK := (208, 1, ([((-2147483648), 2147483647)], [9], [], [], []), [.inr (.inr (.inl 0)), .inr (.inl (0, 0))], [], [], [(([((-2147483648), 2147483647), ((-2147483648), 2147483647)], [9], [], [], []), some (.inr (.inl (1, 0))))])
def nu_222 : List aCt := [(8, ([((-2147483648), 2147483647), ((-2147483648), 2147483647), (0, 10)], [9], [], [], []), [(0, .inr (.inr (.inl 0))), (2, .inr (.inl (1, 0))), (3, .inr (.inl (2, 0)))], ([((-27), 2)], 296)), (17, ([((-2147483648), 2147483647), ((-2147483648), 2147483647), (0, 9), (0, 10)], [9], [], [], []), [(0, .inr (.inr (.inl 0))), (2, .inr (.inl (1, 0))), (3, .inr (.inl (2, 0))), (4, .inr (.inl (3, 0)))], ([((-27), 2), ((-2), 3)], 291))]
set_option maxRecDepth 100000 in
theorem vk_222 {X : nX} {L : Nat} {xs : Nat → Int32} {g : Nat} {S : List Nat} : nV nj_M X L xs g nFT nAT S (nJJ S) nk_222 :=
  aChk_ok (ctx := [nk_221]) (W := ([], [])) (ls := none) (cuts := nu_222) (fuel := 31) (nJJ_ok S)
    ⟨(fun c hc => nomatch hc), (fun c hc => nomatch hc)⟩
    ((fun c hc => by
    simp only [List.mem_cons, List.not_mem_nil, or_false] at hc
    subst hc
    · exact vk_221))
    (fun _ _ _ _ y hy => by cases hy) (by decide +kernel)
/-- Model_withLiving1 -/
def nk_223 : nK := (207, 2, ([((-2147483648), 2147483647)], [9], [], [], [.inr (0, 1)]), [.inr (.inr (.inl 0)), .inr (.inl (0, 0))], [], [], [(([((-2147483648), 2147483647), ((-2147483648), 2147483647)], [9], [], [], [.inr (1, 1)]), some (.inr (.inl (1, 0))))])
def nu_223 : List aCt := [(4, ([((-2147483648), 2147483647), ((-2147483648), 2147483647), (0, 10)], [9], [], [], [.inr (0, 1), .inr (1, 1)]), [(0, .inr (.inr (.inl 0))), (1, .inr (.inl (0, 0))), (2, .inr (.inl (1, 0))), (3, .inr (.inl (2, 0)))], ([((-1), 2)], 11)), (4, ([((-2147483648), 2147483647), (0, 10)], [9], [], [], [.inr (0, 1)]), [(0, .inr (.inr (.inl 0))), (1, .inr (.inl (0, 0))), (2, .inl 0), (3, .inr (.inl (1, 0)))], ([((-1), 1)], 11))]
set_option maxRecDepth 100000 in
theorem vk_223 {X : nX} {L : Nat} {xs : Nat → Int32} {g : Nat} {S : List Nat} : nV nj_M X L xs g nFT nAT S (nJJ S) nk_223 :=
  aChk_ok (ctx := [nk_222]) (W := ([gh_16], [])) (ls := none) (cuts := nu_223) (fuel := 43) (nJJ_ok S)
    ⟨(fun c hc => by
    simp only [List.mem_cons, List.not_mem_nil, or_false] at hc
    subst hc
    · exact gh_16_ok), (fun c hc => nomatch hc)⟩
    ((fun c hc => by
    simp only [List.mem_cons, List.not_mem_nil, or_false] at hc
    subst hc
    · exact vk_222))
    (fun _ _ _ _ y hy => by cases hy) (by decide +kernel)
