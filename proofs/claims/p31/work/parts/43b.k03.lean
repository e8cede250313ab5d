set_option maxRecDepth 100000 in
theorem vf_368_37 : aFrom nj_M nFT nAT2 nx_368 nw_368 none nk_368.2.2.2.2.1 nk_368.2.2.2.2.2.1 nk_368.2.2.2.2.2.2 nk_368.2.2.1.1.length nk_368.2.2.1.2.1.length nk_368.2.1 nk_368.1 nu_368 46 nu_368_37 = true := by decide +kernel
set_option maxRecDepth 100000 in
theorem vf_368_38 : aFrom nj_M nFT nAT2 nx_368 nw_368 none nk_368.2.2.2.2.1 nk_368.2.2.2.2.2.1 nk_368.2.2.2.2.2.2 nk_368.2.2.1.1.length nk_368.2.2.1.2.1.length nk_368.2.1 nk_368.1 nu_368 46 nu_368_38 = true := by decide +kernel
set_option maxRecDepth 100000 in
theorem vf_368_39 : aFrom nj_M nFT nAT2 nx_368 nw_368 none nk_368.2.2.2.2.1 nk_368.2.2.2.2.2.1 nk_368.2.2.2.2.2.2 nk_368.2.2.1.1.length nk_368.2.2.1.2.1.length nk_368.2.1 nk_368.1 nu_368 46 nu_368_39 = true := by decide +kernel
set_option maxRecDepth 100000 in
theorem vf_368_40 : aFrom nj_M nFT nAT2 nx_368 nw_368 none nk_368.2.2.2.2.1 nk_368.2.2.2.2.2.1 nk_368.2.2.2.2.2.2 nk_368.2.2.1.1.length nk_368.2.2.1.2.1.length nk_368.2.1 nk_368.1 nu_368 46 nu_368_40 = true := by decide +kernel
set_option maxRecDepth 100000 in
theorem vf_368_41 : aFrom nj_M nFT nAT2 nx_368 nw_368 none nk_368.2.2.2.2.1 nk_368.2.2.2.2.2.1 nk_368.2.2.2.2.2.2 nk_368.2.2.1.1.length nk_368.2.2.1.2.1.length nk_368.2.1 nk_368.1 nu_368 46 nu_368_41 = true := by decide +kernel
set_option maxRecDepth 100000 in
theorem vf_368_42 : aFrom nj_M nFT nAT2 nx_368 nw_368 none nk_368.2.2.2.2.1 nk_368.2.2.2.2.2.1 nk_368.2.2.2.2.2.2 nk_368.2.2.1.1.length nk_368.2.2.1.2.1.length nk_368.2.1 nk_368.1 nu_368 46 nu_368_42 = true := by decide +kernel
set_option maxRecDepth 100000 in
theorem vf_368_43 : aFrom nj_M nFT nAT2 nx_368 nw_368 none nk_368.2.2.2.2.1 nk_368.2.2.2.2.2.1 nk_368.2.2.2.2.2.2 nk_368.2.2.1.1.length nk_368.2.2.1.2.1.length nk_368.2.1 nk_368.1 nu_368 46 nu_368_43 = true := by decide +kernel
set_option maxRecDepth 100000 in
theorem vf_368_44 : aFrom nj_M nFT nAT2 nx_368 nw_368 none nk_368.2.2.2.2.1 nk_368.2.2.2.2.2.1 nk_368.2.2.2.2.2.2 nk_368.2.2.1.1.length nk_368.2.2.1.2.1.length nk_368.2.1 nk_368.1 nu_368 46 nu_368_44 = true := by decide +kernel
set_option maxRecDepth 100000 in
theorem vf_368_s : aExec nj_M nFT nAT2 nx_368 nw_368 none nk_368.2.2.2.2.1 nk_368.2.2.2.2.2.1 nk_368.2.2.2.2.2.2 nk_368.2.2.1.1.length nk_368.2.2.1.2.1.length nk_368.2.1 nk_368.1 nu_368 none 46 nk_368.2.2.1 [(nk_368.1, 0, aArgs 0 nk_368.2.2.2.1, [])] = true := by decide +kernel
theorem wk_368 {X : nX} {L : Nat} {xs : Nat → Int32} {g : Nat} {S : List Nat} {cc : Option (Nat → Int32)} : nV nj_M X L xs g nFT nAT2 S (nJC S cc) nk_368 :=
  aChk_ok (ctx := nx_368) (W := nw_368) (ls := none) (cuts := nu_368) (fuel := 46) (nJC_ok S cc)
    ⟨(fun c hc => by
    simp only [nw_368, List.mem_cons, List.not_mem_nil, or_false] at hc
    rcases hc with rfl | rfl | rfl | rfl | rfl | rfl | rfl | rfl | rfl | rfl | rfl | rfl | rfl | rfl | rfl | rfl | rfl | rfl | rfl | rfl | rfl | rfl | rfl | rfl | rfl | rfl | rfl | rfl | rfl | rfl | rfl | rfl | rfl | rfl | rfl | rfl | rfl | rfl | rfl | rfl | rfl | rfl
    · exact gh_cc gh_10_ok
    · exact gh_cc gh_108_ok
    · exact gh_cc gh_109_ok
    · exact gh_cc gh_110_ok
    · exact gh_cc gh_111_ok
    · exact gh_cc gh_112_ok
    · exact gh_cc gh_113_ok
    · exact gh_cc gh_114_ok
    · exact gh_cc gh_115_ok
    · exact gh_cc gh_116_ok
    · exact gh_cc gh_117_ok
    · exact gh_cc gh_118_ok
    · exact gh_cc gh_119_ok
    · exact gh_cc gh_120_ok
    · exact gh_cc gh_121_ok
    · exact gh_cc gh_122_ok
    · exact gh_cc gh_123_ok
    · exact gh_cc gh_124_ok
    · exact gh_cc gh_125_ok
    · exact gh_cc gh_126_ok
    · exact gh_cc gh_127_ok
    · exact gh_cc gh_128_ok
    · exact gh_cc gh_129_ok
    · exact gh_cc gh_130_ok
    · exact gh_cc gh_131_ok
    · exact gh_cc gh_132_ok
    · exact gh_cc gh_133_ok
    · exact gh_cc gh_134_ok
    · exact gh_cc gh_135_ok
    · exact gh_cc gh_136_ok
    · exact gh_cc gh_137_ok
    · exact gh_cc gh_138_ok
    · exact gh_cc gh_139_ok
    · exact gh_cc gh_140_ok
    · exact gh_cc gh_141_ok
    · exact gh_cc gh_142_ok
    · exact gh_cc gh_143_ok
    · exact gh_cc gh_144_ok
    · exact gh_cc gh_145_ok
    · exact gh_cc gh_146_ok
    · exact gh_cc gh_147_ok
    · exact gh_cc gh_148_ok), (fun c hc => by
    simp only [nw_368, List.mem_cons, List.not_mem_nil, or_false] at hc
    rcases hc with rfl | rfl | rfl | rfl | rfl
    · exact sw_cc sw_18_ok (by decide)
    · exact sw_cc sw_19_ok (by decide)
    · exact sw_cc sw_20_ok (by decide)
    · exact sw_cc sw_21_ok (by decide)
    · exact sw_cc sw_22_ok (by decide))⟩
    ((fun c hc => by
    simp only [nx_368, List.mem_cons, List.not_mem_nil, or_false] at hc
    rcases hc with rfl | rfl | rfl | rfl | rfl | rfl | rfl | rfl | rfl
    · exact nV_cc vk_162 (by decide)
    · exact nV_cc vk_250 (by decide)
    · exact nV_cc vk_264 (by decide)
    · exact wk_265
    · exact nV_cc vk_338 (by decide)
    · exact wk_339
    · exact wk_340
    · exact wk_341
    · exact wk_342))
    (fun _ _ _ _ y hy => by cases hy) (aChk_of (fun c hc => by
    simp only [nu_368, List.mem_cons, List.not_mem_nil, or_false] at hc
    rcases hc with rfl | rfl | rfl | rfl | rfl | rfl | rfl | rfl | rfl | rfl | rfl | rfl | rfl | rfl | rfl | rfl | rfl | rfl | rfl | rfl | rfl | rfl | rfl | rfl | rfl | rfl | rfl | rfl | rfl | rfl | rfl | rfl | rfl | rfl | rfl | rfl | rfl | rfl | rfl | rfl | rfl | rfl | rfl | rfl | rfl
    · exact vf_368_0
    · exact vf_368_1
    · exact vf_368_2
    · exact vf_368_3
    · exact vf_368_4
    · exact vf_368_5
    · exact vf_368_6
    · exact vf_368_7
    · exact vf_368_8
    · exact vf_368_9
    · exact vf_368_10
    · exact vf_368_11
    · exact vf_368_12
    · exact vf_368_13
    · exact vf_368_14
    · exact vf_368_15
    · exact vf_368_16
    · exact vf_368_17
    · exact vf_368_18
    · exact vf_368_19
    · exact vf_368_20
    · exact vf_368_21
    · exact vf_368_22
    · exact vf_368_23
    · exact vf_368_24
    · exact vf_368_25
    · exact vf_368_26
    · exact vf_368_27
    · exact vf_368_28
    · exact vf_368_29
    · exact vf_368_30
    · exact vf_368_31
    · exact vf_368_32
    · exact vf_368_33
    · exact vf_368_34
    · exact vf_368_35
    · exact vf_368_36
    · exact vf_368_37
    · exact vf_368_38
    · exact vf_368_39
    · exact vf_368_40
    · exact vf_368_41
    · exact vf_368_42
    · exact vf_368_43
    · exact vf_368_44) vf_368_s)
theorem vk_368 {X : nX} {L : Nat} {xs : Nat → Int32} {g : Nat} {S : List Nat} : nV nj_M X L xs g nFT nAT S (nJJ S) nk_368 := nV_dd wk_368
/-- Model_chronicleN -/
def nk_369 : nK := (247, 1, ([((-2147483648), (-1))], [9], [], [], []), [.inr (.inr (.inl 0)), .inr (.inl (0, 0))], [(9, 0)], [], [(([((-2147483648), (-1)), ((-1000), (-1000))], [9], [], [], []), some (.inr (.inl (1, 0))))])
def nu_369 : List aCt := []
set_option maxRecDepth 100000 in
theorem vk_369 {X : nX} {L : Nat} {xs : Nat → Int32} {g : Nat} {S : List Nat} : nV nj_M X L xs g nFT nAT S (nJJ S) nk_369 :=
  aChk_ok (ctx := []) (W := ([], [])) (ls := none) (cuts := nu_369) (fuel := 17) (nJJ_ok S)
    ⟨(fun c hc => nomatch hc), (fun c hc => nomatch hc)⟩
    ((fun c hc => nomatch hc))
    (fun _ _ _ _ y hy => by cases hy) (by decide +kernel)
/-- Model_chronicleP -/
def nk_370 : nK := (247, 1, ([(2, 2147483647)], [9], [], [], []), [.inr (.inr (.inl 0)), .inr (.inl (0, 0))], [(9, 0)], [], [(([(2, 2147483647), ((-1000), (-1000))], [9], [], [], []), some (.inr (.inl (1, 0))))])
def nu_370 : List aCt := []
set_option maxRecDepth 100000 in
theorem vk_370 {X : nX} {L : Nat} {xs : Nat → Int32} {g : Nat} {S : List Nat} : nV nj_M X L xs g nFT nAT S (nJJ S) nk_370 :=
  aChk_ok (ctx := []) (W := ([], [])) (ls := none) (cuts := nu_370) (fuel := 20) (nJJ_ok S)
    ⟨(fun c hc => nomatch hc), (fun c hc => nomatch hc)⟩
    ((fun c hc => nomatch hc))
    (fun _ _ _ _ y hy => by cases hy) (by decide +kernel)
/-- Slip_endA -/
def nk_371 : nK := (20, 0, ([((-2147483648), (-1)), (0, 940)], [8, 7], [(0, 0, .inr (.inr (.inl 1))), (1, 5, .inr (.inl (1, 0)))], [], []), [.inr (.inr (.inl 0)), .inr (.inl (0, 0))], [], [], [(([((-2147483648), (-1)), (0, 940)], [8, 7], [(1, 5, .inr (.inl (1, 0)))], [], []), some (.inl 0))])
def nu_371 : List aCt := []
set_option maxRecDepth 100000 in
theorem vk_371 {X : nX} {L : Nat} {xs : Nat → Int32} {g : Nat} {S : List Nat} : nV nj_M X L xs g nFT nAT S (nJJ S) nk_371 :=
  aChk_ok (ctx := []) (W := ([], [])) (ls := none) (cuts := nu_371) (fuel := 6) (nJJ_ok S)
    ⟨(fun c hc => nomatch hc), (fun c hc => nomatch hc)⟩
    ((fun c hc => nomatch hc))
    (fun _ _ _ _ y hy => by cases hy) (by decide +kernel)
/-- Model_endA -/
def nk_372 : nK := (158, 0, ([((-2147483648), (-1)), (0, 940)], [9], [(0, 2, .inr (.inl (1, 0)))], [], []), [.inr (.inr (.inl 0)), .inr (.inl (0, 0))], [(9, 0)], [], [(([((-2147483648), (-1)), (0, 940)], [9], [(0, 2, .inr (.inl (1, 0)))], [], []), some (.inl 0))])
def nu_372 : List aCt := []
set_option maxRecDepth 100000 in
theorem vk_372 {X : nX} {L : Nat} {xs : Nat → Int32} {g : Nat} {S : List Nat} : nV nj_M X L xs g nFT nAT S (nJJ S) nk_372 :=
  aChk_ok (ctx := []) (W := ([], [])) (ls := none) (cuts := nu_372) (fuel := 9) (nJJ_ok S)
    ⟨(fun c hc => nomatch hc), (fun c hc => nomatch hc)⟩
    ((fun c hc => nomatch hc))
    (fun _ _ _ _ y hy => by cases hy) (by decide +kernel)
/-- Slip_endB -/
def nk_373 : nK := (20, 0, ([(0, 2147483647), (0, 940)], [8, 7], [(0, 0, .inr (.inr (.inl 1))), (1, 5, .inr (.inl (1, 0)))], [], [.inl ([((-1), 0), (1, 1)], 1)]), [.inr (.inr (.inl 0)), .inr (.inl (0, 0))], [], [], [(([(0, 2147483647), (0, 940)], [8, 7], [(1, 5, .inr (.inl (1, 0)))], [], []), some (.inl 0))])
def nu_373 : List aCt := []
set_option maxRecDepth 100000 in
theorem vk_373 {X : nX} {L : Nat} {xs : Nat → Int32} {g : Nat} {S : List Nat} : nV nj_M X L xs g nFT nAT S (nJJ S) nk_373 :=
  aChk_ok (ctx := []) (W := ([], [])) (ls := none) (cuts := nu_373) (fuel := 11) (nJJ_ok S)
    ⟨(fun c hc => nomatch hc), (fun c hc => nomatch hc)⟩
    ((fun c hc => nomatch hc))
    (fun _ _ _ _ y hy => by cases hy) (by decide +kernel)
/-- Model_endB -/
def nk_374 : nK := (158, 0, ([(0, 2147483647), (0, 940)], [9], [(0, 2, .inr (.inl (1, 0)))], [], [.inl ([((-1), 0), (1, 1)], 1)]), [.inr (.inr (.inl 0)), .inr (.inl (0, 0))], [(9, 0)], [], [(([(0, 2147483647), (0, 940)], [9], [(0, 2, .inr (.inl (1, 0)))], [], []), some (.inl 0))])
def nu_374 : List aCt := []
set_option maxRecDepth 100000 in
theorem vk_374 {X : nX} {L : Nat} {xs : Nat → Int32} {g : Nat} {S : List Nat} : nV nj_M X L xs g nFT nAT S (nJJ S) nk_374 :=
  aChk_ok (ctx := []) (W := ([], [])) (ls := none) (cuts := nu_374) (fuel := 13) (nJJ_ok S)
    ⟨(fun c hc => nomatch hc), (fun c hc => nomatch hc)⟩
    ((fun c hc => nomatch hc))
    (fun _ _ _ _ y hy => by cases hy) (by decide +kernel)
/-- Slip_endC -/
def nk_375 : nK := (20, 0, ([(0, 940), (0, 940)], [8, 7], [(0, 0, .inr (.inr (.inl 1))), (1, 5, .inr (.inl (1, 0)))], [], [.inl ([(1, 0), ((-1), 1)], 0)]), [.inr (.inr (.inl 0)), .inr (.inl (0, 0))], [(7, 5)], [], [(([(0, 940), (0, 940)], [8, 7], [(1, 5, .inr (.inl (0, 0)))], [], []), some (.inl 1))])
def nu_375 : List aCt := []
set_option maxRecDepth 100000 in
theorem vk_375 {X : nX} {L : Nat} {xs : Nat → Int32} {g : Nat} {S : List Nat} : nV nj_M X L xs g nFT nAT S (nJJ S) nk_375 :=
  aChk_ok (ctx := []) (W := ([], [])) (ls := none) (cuts := nu_375) (fuel := 15) (nJJ_ok S)
    ⟨(fun c hc => nomatch hc), (fun c hc => nomatch hc)⟩
    ((fun c hc => nomatch hc))
    (fun _ _ _ _ y hy => by cases hy) (by decide +kernel)
/-- Model_endC -/
def nk_376 : nK := (158, 0, ([(0, 940), (0, 940)], [9], [(0, 2, .inr (.inl (1, 0)))], [], [.inl ([(1, 0), ((-1), 1)], 0)]), [.inr (.inr (.inl 0)), .inr (.inl (0, 0))], [(9, 0), (9, 2)], [], [(([(0, 940), (0, 940)], [9], [(0, 2, .inr (.inl (0, 0)))], [], []), some (.inl 1))])
def nu_376 : List aCt := []
set_option maxRecDepth 100000 in
theorem vk_376 {X : nX} {L : Nat} {xs : Nat → Int32} {g : Nat} {S : List Nat} : nV nj_M X L xs g nFT nAT S (nJJ S) nk_376 :=
  aChk_ok (ctx := []) (W := ([], [])) (ls := none) (cuts := nu_376) (fuel := 16) (nJJ_ok S)
    ⟨(fun c hc => nomatch hc), (fun c hc => nomatch hc)⟩
    ((fun c hc => nomatch hc))
    (fun _ _ _ _ y hy => by cases hy) (by decide +kernel)
/-- Slip_feedA -/
def nk_377 : nK := (18, 0, ([((-2147483648), 2147483647), ((-2147483648), 2147483647), ((-2147483648), 2147483647), ((-2147483648), 2147483647), ((-2147483648), 2147483647), (921, 940)], [8, 7], [(0, 0, .inr (.inr (.inl 1))), (1, 5, .inr (.inl (5, 0)))], [], []), [.inr (.inr (.inl 0)), .inr (.inl (0, 0)), .inr (.inl (1, 0)), .inr (.inl (2, 0)), .inr (.inl (3, 0)), .inr (.inl (4, 0))], [], [], [(([((-2147483648), 2147483647), ((-2147483648), 2147483647), ((-2147483648), 2147483647), ((-2147483648), 2147483647), ((-2147483648), 2147483647), (921, 940)], [8, 7], [(1, 5, .inr (.inl (5, 0)))], [], []), some (.inl (-1)))])
def nu_377 : List aCt := []
set_option maxRecDepth 100000 in
theorem vk_377 {X : nX} {L : Nat} {xs : Nat → Int32} {g : Nat} {S : List Nat} : nV nj_M X L xs g nFT nAT S (nJJ S) nk_377 :=
  aChk_ok (ctx := []) (W := ([], [])) (ls := none) (cuts := nu_377) (fuel := 11) (nJJ_ok S)
    ⟨(fun c hc => nomatch hc), (fun c hc => nomatch hc)⟩
    ((fun c hc => nomatch hc))
    (fun _ _ _ _ y hy => by cases hy) (by decide +kernel)
/-- Model_feedA -/
def nk_378 : nK := (156, 0, ([((-2147483648), 2147483647), ((-2147483648), 2147483647), ((-2147483648), 2147483647), ((-2147483648), 2147483647), ((-2147483648), 2147483647), (921, 940)], [9], [(0, 2, .inr (.inl (5, 0)))], [], []), [.inr (.inr (.inl 0)), .inr (.inl (0, 0)), .inr (.inl (1, 0)), .inr (.inl (2, 0)), .inr (.inl (3, 0)), .inr (.inl (4, 0))], [(9, 0)], [], [(([((-2147483648), 2147483647), ((-2147483648), 2147483647), ((-2147483648), 2147483647), ((-2147483648), 2147483647), ((-2147483648), 2147483647), (921, 940)], [9], [(0, 2, .inr (.inl (5, 0)))], [], []), some (.inl (-1)))])
def nu_378 : List aCt := []
set_option maxRecDepth 100000 in
theorem vk_378 {X : nX} {L : Nat} {xs : Nat → Int32} {g : Nat} {S : List Nat} : nV nj_M X L xs g nFT nAT S (nJJ S) nk_378 :=
  aChk_ok (ctx := []) (W := ([], [])) (ls := none) (cuts := nu_378) (fuel := 13) (nJJ_ok S)
    ⟨(fun c hc => nomatch hc), (fun c hc => nomatch hc)⟩
    ((fun c hc => nomatch hc))
    (fun _ _ _ _ y hy => by cases hy) (by decide +kernel)
/-- Slip_feedB -/
def nk_379 : nK := (18, 1, ([((-2147483648), 2147483647), ((-2147483648), 2147483647), ((-2147483648), 2147483647), ((-2147483648), 2147483647), ((-2147483648), 2147483647), (0, 920)], [8, 7], [(0, 0, .inr (.inr (.inl 1))), (1, 5, .inr (.inl (5, 0)))], [], []), [.inr (.inr (.inl 0)), .inr (.inl (0, 0)), .inr (.inl (1, 0)), .inr (.inl (2, 0)), .inr (.inl (3, 0)), .inr (.inl (4, 0))], [(7, 5)], [41], [(([((-2147483648), 2147483647), ((-2147483648), 2147483647), ((-2147483648), 2147483647), ((-2147483648), 2147483647), ((-2147483648), 2147483647), (0, 920), (20, 940)], [8, 7], [(1, 5, .inr (.inl (6, 0)))], [], [.inl ([(1, 6), ((-1), 5)], (-20)), .inl ([((-1), 6), (1, 5)], 20)]), some (.inr (.inl (6, 0))))])
def nu_379 : List aCt := []
set_option maxRecDepth 100000 in
theorem vk_379 {X : nX} {L : Nat} {xs : Nat → Int32} {g : Nat} {S : List Nat} : nV nj_M X L xs g nFT nAT S (nJJ S) nk_379 :=
  aChk_ok (ctx := []) (W := ([], [])) (ls := none) (cuts := nu_379) (fuel := 518) (nJJ_ok S)
    ⟨(fun c hc => nomatch hc), (fun c hc => nomatch hc)⟩
    ((fun c hc => nomatch hc))
    (fun _ _ _ _ y hy => by cases hy) (by decide +kernel)
/-- Model_feedB -/
def nk_380 : nK := (156, 1, ([((-2147483648), 2147483647), ((-2147483648), 2147483647), ((-2147483648), 2147483647), ((-2147483648), 2147483647), ((-2147483648), 2147483647), (0, 920)], [9], [(0, 2, .inr (.inl (5, 0)))], [], []), [.inr (.inr (.inl 0)), .inr (.inl (0, 0)), .inr (.inl (1, 0)), .inr (.inl (2, 0)), .inr (.inl (3, 0)), .inr (.inl (4, 0))], [(9, 0), (9, 2)], [49], [(([((-2147483648), 2147483647), ((-2147483648), 2147483647), ((-2147483648), 2147483647), ((-2147483648), 2147483647), ((-2147483648), 2147483647), (0, 920), (20, 940)], [9], [(0, 2, .inr (.inl (6, 0)))], [], [.inl ([(1, 6), ((-1), 5)], (-20)), .inl ([((-1), 6), (1, 5)], 20)]), some (.inr (.inl (6, 0))))])
def nu_380 : List aCt := []
set_option maxRecDepth 100000 in
theorem vk_380 {X : nX} {L : Nat} {xs : Nat → Int32} {g : Nat} {S : List Nat} : nV nj_M X L xs g nFT nAT S (nJJ S) nk_380 :=
  aChk_ok (ctx := []) (W := ([], [])) (ls := none) (cuts := nu_380) (fuel := 434) (nJJ_ok S)
    ⟨(fun c hc => nomatch hc), (fun c hc => nomatch hc)⟩
    ((fun c hc => nomatch hc))
    (fun _ _ _ _ y hy => by cases hy) (by decide +kernel)
