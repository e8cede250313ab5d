/-- Model_restore -/
def nk_337 : nK := (263, 1, ([((-2147483648), 2147483647)], [9], [(0, 1002, .inl 1), (0, 1003, .inl 1), (0, 1004, .inl 1)], [], []), [.inr (.inr (.inl 0)), .inr (.inl (0, 0))], [(9, 0), (9, 24), (9, 1002), (9, 1005), (9, 1006), (9, 1007), (9, 1020), (9, 1021), (9, 1022), (9, 1023), (9, 1024), (9, 1025), (9, 1026), (9, 1027), (9, 1028), (9, 1029), (9, 1030), (9, 1031), (9, 1032), (9, 1033), (9, 1034), (9, 1035), (9, 1036), (9, 1037), (9, 1038), (9, 1039), (9, 1040), (9, 1041), (9, 1042), (9, 1043), (9, 1044), (9, 1045), (9, 1046), (9, 1047), (9, 1048), (9, 1049), (9, 1050), (9, 1051), (9, 1052), (9, 1053), (9, 1054), (9, 1055), (9, 1056), (9, 1057), (9, 1058), (9, 1059), (9, 1060), (9, 1061), (9, 1062), (9, 1063), (9, 1064), (9, 1065)], [50, 53], [(([((-2147483648), 2147483647), (0, 1)], [9], [(0, 1002, .inl 1), (0, 1003, .inl 1), (0, 1004, .inl 1)], [], []), some (.inr (.inl (1, 0))))])
def nu_337 : List aCt := [(27, ([((-2147483648), 2147483647), (0, 178), (0, 181)], [9], [(0, 1005, .inr (.inl (2, 0))), (0, 1003, .inl 1), (0, 1004, .inl 1)], [], []), [(0, .inr (.inr (.inl 0))), (1, .inl 0), (2, .inr (.inl (1, 0)))], ([((-1), 1)], 500)), (27, ([((-2147483648), 2147483647), (179, 360), (0, 181)], [9], [(0, 1005, .inr (.inl (2, 0))), (0, 1003, .inl 1), (0, 1004, .inl 1)], [], [.inl ([(1, 1), ((-1), 2)], (-179))]), [(0, .inr (.inr (.inl 0))), (1, .inl 0), (2, .inr (.inl (1, 0)))], ([((-1), 1)], 500)), (60, ([((-2147483648), 2147483647), (0, 26)], [9], [(0, 1002, .inl 1), (0, 1003, .inl 1), (0, 1004, .inl 1)], [], []), [(0, .inr (.inr (.inl 0))), (1, .inl 0), (2, .inr (.inl (1, 0)))], ([((-1), 1)], 30)), (27, ([((-2147483648), 2147483647), (0, 178), (0, 181)], [9], [(0, 1006, .inr (.inl (2, 0))), (0, 1003, .inl 1), (0, 1004, .inl 1)], [], []), [(0, .inr (.inr (.inl 0))), (1, .inl 1), (2, .inr (.inl (1, 0)))], ([((-1), 1)], 500)), (27, ([((-2147483648), 2147483647), (179, 360), (0, 181)], [9], [(0, 1006, .inr (.inl (2, 0))), (0, 1003, .inl 1), (0, 1004, .inl 1)], [], [.inl ([(1, 1), ((-1), 2)], (-179))]), [(0, .inr (.inr (.inl 0))), (1, .inl 1), (2, .inr (.inl (1, 0)))], ([((-1), 1)], 500)), (60, ([((-2147483648), 2147483647), (0, 26)], [9], [(0, 1002, .inl 1), (0, 1003, .inl 1), (0, 1004, .inl 1)], [], []), [(0, .inr (.inr (.inl 0))), (1, .inl 1), (2, .inr (.inl (1, 0)))], ([((-1), 1)], 30))]
set_option maxRecDepth 100000 in
theorem vk_337 {X : nX} {L : Nat} {xs : Nat → Int32} {g : Nat} {S : List Nat} : nV nj_M X L xs g nFT nAT S (nJJ S) nk_337 :=
  aChk_ok (ctx := []) (W := ([gh_49, gh_50, gh_52, gh_54, gh_56, gh_58], [sw_47, sw_49])) (ls := none) (cuts := nu_337) (fuel := 27) (nJJ_ok S)
    ⟨(fun c hc => by
    simp only [List.mem_cons, List.not_mem_nil, or_false] at hc
    rcases hc with rfl | rfl | rfl | rfl | rfl | rfl
    · exact gh_49_ok
    · exact gh_50_ok
    · exact gh_52_ok
    · exact gh_54_ok
    · exact gh_56_ok
    · exact gh_58_ok), (fun c hc => by
    simp only [List.mem_cons, List.not_mem_nil, or_false] at hc
    rcases hc with rfl | rfl
    · exact sw_47_ok
    · exact sw_49_ok)⟩
    ((fun c hc => nomatch hc))
    (fun _ _ _ _ y hy => by cases hy) (by decide +kernel)
/-- Model_tellsLine -/
def nk_338 : nK := (248, 3, ([(0, 940), (0, 40)], [9], [(0, 4, .inr (.inl (0, 0))), (0, 35, .inr (.inl (1, 0))), (0, 1001, .inl 1)], [], []), [.inr (.inr (.inl 0))], [(9, 4), (9, 11), (9, 12), (9, 13), (9, 14), (9, 15), (9, 16), (9, 17), (9, 18), (9, 1000), (9, 1007), (9, 1008), (9, 1009), (9, 1010), (9, 1011), (9, 1012)], [52], [(([(0, 940), (0, 40)], [9], [], [], []), some (.inl 0)), (([(0, 940), (0, 40), (0, 940)], [9], [(0, 4, .inr (.inl (2, 0))), (0, 11, .inl 0), (0, 1001, .inl 1)], [], [.inl ([(1, 0), ((-1), 2)], 0)]), some (.inl 1)), (([(0, 940), (0, 40), (0, 940)], [9], [(0, 4, .inr (.inl (2, 0))), (0, 11, .inl 4), (0, 1001, .inl 1)], [], [.inl ([(1, 0), ((-1), 2)], 0)]), some (.inl 1)), (([(0, 940), (0, 40), (0, 940), (1, 3), (0, 9), (0, 3)], [9], [(0, 4, .inr (.inl (2, 0))), (0, 11, .inr (.inl (3, 0))), (0, 1001, .inl 1), (0, 1010, .inl 0), (0, 1011, .inr (.inl (4, 0))), (0, 1012, .inr (.inl (5, 0)))], [], [.inl ([(1, 0), ((-1), 2)], 1), .inl ([(1, 1)], (-39))]), some (.inl 1)), (([(0, 940), (0, 40), (0, 940), (1, 3), (0, 9)], [9], [(0, 4, .inr (.inl (2, 0))), (0, 11, .inr (.inl (3, 0))), (0, 1001, .inl 1), (0, 1010, .inl 1), (0, 1011, .inr (.inl (4, 0)))], [], [.inl ([(1, 0), ((-1), 2)], 1), .inl ([(1, 1)], (-39))]), some (.inl 1)), (([(0, 940), (0, 40), (0, 940), (1, 3), (0, 5), (0, 9)], [9], [(0, 4, .inr (.inl (2, 0))), (0, 11, .inr (.inl (3, 0))), (0, 1001, .inl 1), (0, 1010, .inl 2), (0, 1011, .inr (.inl (4, 0))), (0, 1012, .inr (.inl (5, 0)))], [], [.inl ([(1, 0), ((-1), 2)], 1), .inl ([(1, 1)], (-39))]), some (.inl 1)), (([(0, 940), (0, 40), (0, 940), (1, 3)], [9], [(0, 4, .inr (.inl (2, 0))), (0, 11, .inr (.inl (3, 0))), (0, 1001, .inl 1), (0, 1010, .inl 3)], [], [.inl ([(1, 0), ((-1), 2)], 1), .inl ([(1, 1)], (-39))]), some (.inl 1))])
def nu_338 : List aCt := []
set_option maxRecDepth 100000 in
theorem vk_338 {X : nX} {L : Nat} {xs : Nat → Int32} {g : Nat} {S : List Nat} : nV nj_M X L xs g nFT nAT S (nJJ S) nk_338 :=
  aChk_ok (ctx := [nk_162, nk_163, nk_164, nk_165, nk_169, nk_202, nk_203, nk_204]) (W := ([], [sw_15, sw_16, sw_17])) (ls := none) (cuts := nu_338) (fuel := 83) (nJJ_ok S)
    ⟨(fun c hc => nomatch hc), (fun c hc => by
    simp only [List.mem_cons, List.not_mem_nil, or_false] at hc
    rcases hc with rfl | rfl | rfl
    · exact sw_15_ok
    · exact sw_16_ok
    · exact sw_17_ok)⟩
    ((fun c hc => by
    simp only [List.mem_cons, List.not_mem_nil, or_false] at hc
    rcases hc with rfl | rfl | rfl | rfl | rfl | rfl | rfl | rfl
    · exact vk_162
    · exact vk_163
    · exact vk_164
    · exact vk_165
    · exact vk_169
    · exact vk_202
    · exact vk_203
    · exact vk_204))
    (fun _ _ _ _ y hy => by cases hy) (by decide +kernel)
/-- Model_tells0 -/
def nk_339 : nK := (249, 4, ([(0, 9), (0, 3)], [9], [], [], []), [.inr (.inr (.inl 0)), .inl 0, .inr (.inl (0, 0)), .inr (.inl (1, 0))], [], [50, 55], [(([(0, 9), (0, 3), (0, 1)], [9], [], [], []), some (.inr (.inl (2, 0))))])
def nu_339 : List aCt := []
set_option maxRecDepth 100000 in
theorem wk_339 {X : nX} {L : Nat} {xs : Nat → Int32} {g : Nat} {S : List Nat} {cc : Option (Nat → Int32)} : nV nj_M X L xs g nFT nAT2 S (nJC S cc) nk_339 :=
  aChk_ok (ctx := [nk_269]) (W := ([], [])) (ls := none) (cuts := nu_339) (fuel := 37) (nJC_ok S cc)
    ⟨(fun c hc => nomatch hc), (fun c hc => nomatch hc)⟩
    ((fun c hc => by
    simp only [List.mem_cons, List.not_mem_nil, or_false] at hc
    subst hc
    · exact wk_269))
    (fun _ _ _ _ y hy => by cases hy) (by decide +kernel)
theorem vk_339 {X : nX} {L : Nat} {xs : Nat → Int32} {g : Nat} {S : List Nat} : nV nj_M X L xs g nFT nAT S (nJJ S) nk_339 := nV_dd wk_339
/-- Model_tells1 -/
def nk_340 : nK := (249, 5, ([(0, 9), ((-2147483648), 2147483647)], [9], [], [], []), [.inr (.inr (.inl 0)), .inl 1, .inr (.inl (0, 0)), .inr (.inl (1, 0))], [], [50], [(([(0, 9), ((-2147483648), 2147483647), (0, 11)], [9], [], [], []), some (.inr (.inl (2, 0))))])
def nu_340 : List aCt := []
set_option maxRecDepth 100000 in
theorem wk_340 {X : nX} {L : Nat} {xs : Nat → Int32} {g : Nat} {S : List Nat} {cc : Option (Nat → Int32)} : nV nj_M X L xs g nFT nAT2 S (nJC S cc) nk_340 :=
  aChk_ok (ctx := [nk_270]) (W := ([], [])) (ls := none) (cuts := nu_340) (fuel := 35) (nJC_ok S cc)
    ⟨(fun c hc => nomatch hc), (fun c hc => nomatch hc)⟩
    ((fun c hc => by
    simp only [List.mem_cons, List.not_mem_nil, or_false] at hc
    subst hc
    · exact wk_270))
    (fun _ _ _ _ y hy => by cases hy) (by decide +kernel)
theorem vk_340 {X : nX} {L : Nat} {xs : Nat → Int32} {g : Nat} {S : List Nat} : nV nj_M X L xs g nFT nAT S (nJJ S) nk_340 := nV_dd wk_340
/-- Model_tells2 -/
def nk_341 : nK := (249, 3, ([(0, 5), (0, 9)], [9], [], [], []), [.inr (.inr (.inl 0)), .inl 2, .inr (.inl (0, 0)), .inr (.inl (1, 0))], [], [50], [(([(0, 5), (0, 9), (0, 24)], [9], [], [], []), some (.inr (.inl (2, 0))))])
def nu_341 : List aCt := []
set_option maxRecDepth 100000 in
theorem wk_341 {X : nX} {L : Nat} {xs : Nat → Int32} {g : Nat} {S : List Nat} {cc : Option (Nat → Int32)} : nV nj_M X L xs g nFT nAT2 S (nJC S cc) nk_341 :=
  aChk_ok (ctx := [nk_271]) (W := ([], [])) (ls := none) (cuts := nu_341) (fuel := 24) (nJC_ok S cc)
    ⟨(fun c hc => nomatch hc), (fun c hc => nomatch hc)⟩
    ((fun c hc => by
    simp only [List.mem_cons, List.not_mem_nil, or_false] at hc
    subst hc
    · exact nV_cc vk_271 (by decide)))
    (fun _ _ _ _ y hy => by cases hy) (by decide +kernel)
theorem vk_341 {X : nX} {L : Nat} {xs : Nat → Int32} {g : Nat} {S : List Nat} : nV nj_M X L xs g nFT nAT S (nJJ S) nk_341 := nV_dd wk_341
/-- Model_tells3 -/
def nk_342 : nK := (249, 0, ([((-2147483648), 2147483647), ((-2147483648), 2147483647)], [9], [], [], []), [.inr (.inr (.inl 0)), .inl 3, .inr (.inl (0, 0)), .inr (.inl (1, 0))], [], [50], [(([((-2147483648), 2147483647), ((-2147483648), 2147483647), (0, 31)], [9], [], [], []), some (.inr (.inl (2, 0))))])
def nu_342 : List aCt := []
set_option maxRecDepth 100000 in
theorem wk_342 {X : nX} {L : Nat} {xs : Nat → Int32} {g : Nat} {S : List Nat} {cc : Option (Nat → Int32)} : nV nj_M X L xs g nFT nAT2 S (nJC S cc) nk_342 :=
  aChk_ok (ctx := []) (W := ([], [])) (ls := none) (cuts := nu_342) (fuel := 23) (nJC_ok S cc)
    ⟨(fun c hc => nomatch hc), (fun c hc => nomatch hc)⟩
    ((fun c hc => nomatch hc))
    (fun _ _ _ _ y hy => by cases hy) (by decide +kernel)
theorem vk_342 {X : nX} {L : Nat} {xs : Nat → Int32} {g : Nat} {S : List Nat} : nV nj_M X L xs g nFT nAT S (nJJ S) nk_342 := nV_dd wk_342
