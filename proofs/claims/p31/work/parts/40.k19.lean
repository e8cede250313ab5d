set_option maxRecDepth 100000 in
theorem vf_334_38 : aFrom nj_M nFT nAT nx_334 nw_334 none nk_334.2.2.2.2.1 nk_334.2.2.2.2.2.1 nk_334.2.2.2.2.2.2 nk_334.2.2.1.1.length nk_334.2.2.1.2.1.length nk_334.2.1 nk_334.1 nu_334 63 nu_334_38 = true := by decide +kernel
set_option maxRecDepth 100000 in
theorem vf_334_39 : aFrom nj_M nFT nAT nx_334 nw_334 none nk_334.2.2.2.2.1 nk_334.2.2.2.2.2.1 nk_334.2.2.2.2.2.2 nk_334.2.2.1.1.length nk_334.2.2.1.2.1.length nk_334.2.1 nk_334.1 nu_334 63 nu_334_39 = true := by decide +kernel
set_option maxRecDepth 100000 in
theorem vf_334_40 : aFrom nj_M nFT nAT nx_334 nw_334 none nk_334.2.2.2.2.1 nk_334.2.2.2.2.2.1 nk_334.2.2.2.2.2.2 nk_334.2.2.1.1.length nk_334.2.2.1.2.1.length nk_334.2.1 nk_334.1 nu_334 63 nu_334_40 = true := by decide +kernel
set_option maxRecDepth 100000 in
theorem vf_334_41 : aFrom nj_M nFT nAT nx_334 nw_334 none nk_334.2.2.2.2.1 nk_334.2.2.2.2.2.1 nk_334.2.2.2.2.2.2 nk_334.2.2.1.1.length nk_334.2.2.1.2.1.length nk_334.2.1 nk_334.1 nu_334 63 nu_334_41 = true := by decide +kernel
set_option maxRecDepth 100000 in
theorem vf_334_42 : aFrom nj_M nFT nAT nx_334 nw_334 none nk_334.2.2.2.2.1 nk_334.2.2.2.2.2.1 nk_334.2.2.2.2.2.2 nk_334.2.2.1.1.length nk_334.2.2.1.2.1.length nk_334.2.1 nk_334.1 nu_334 63 nu_334_42 = true := by decide +kernel
set_option maxRecDepth 100000 in
theorem vf_334_43 : aFrom nj_M nFT nAT nx_334 nw_334 none nk_334.2.2.2.2.1 nk_334.2.2.2.2.2.1 nk_334.2.2.2.2.2.2 nk_334.2.2.1.1.length nk_334.2.2.1.2.1.length nk_334.2.1 nk_334.1 nu_334 63 nu_334_43 = true := by decide +kernel
set_option maxRecDepth 100000 in
theorem vf_334_44 : aFrom nj_M nFT nAT nx_334 nw_334 none nk_334.2.2.2.2.1 nk_334.2.2.2.2.2.1 nk_334.2.2.2.2.2.2 nk_334.2.2.1.1.length nk_334.2.2.1.2.1.length nk_334.2.1 nk_334.1 nu_334 63 nu_334_44 = true := by decide +kernel
set_option maxRecDepth 100000 in
theorem vf_334_s : aExec nj_M nFT nAT nx_334 nw_334 none nk_334.2.2.2.2.1 nk_334.2.2.2.2.2.1 nk_334.2.2.2.2.2.2 nk_334.2.2.1.1.length nk_334.2.2.1.2.1.length nk_334.2.1 nk_334.1 nu_334 none 63 nk_334.2.2.1 [(nk_334.1, 0, aArgs 0 nk_334.2.2.2.1, [])] = true := by decide +kernel
theorem vk_334 {X : nX} {L : Nat} {xs : Nat → Int32} {g : Nat} {S : List Nat} : nV nj_M X L xs g nFT nAT S (nJJ S) nk_334 :=
  aChk_ok (ctx := nx_334) (W := nw_334) (ls := none) (cuts := nu_334) (fuel := 63) (nJJ_ok S)
    ⟨(fun c hc => by
    simp only [nw_334, List.mem_cons, List.not_mem_nil, or_false] at hc
    rcases hc with rfl | rfl | rfl | rfl | rfl | rfl | rfl | rfl | rfl | rfl | rfl | rfl | rfl | rfl | rfl | rfl | rfl | rfl | rfl | rfl | rfl | rfl | rfl | rfl | rfl | rfl | rfl | rfl | rfl | rfl | rfl | rfl | rfl | rfl | rfl | rfl | rfl | rfl | rfl | rfl | rfl | rfl | rfl | rfl | rfl | rfl
    · exact gh_62_ok
    · exact gh_63_ok
    · exact gh_64_ok
    · exact gh_65_ok
    · exact gh_66_ok
    · exact gh_67_ok
    · exact gh_68_ok
    · exact gh_69_ok
    · exact gh_70_ok
    · exact gh_71_ok
    · exact gh_72_ok
    · exact gh_73_ok
    · exact gh_74_ok
    · exact gh_75_ok
    · exact gh_76_ok
    · exact gh_77_ok
    · exact gh_78_ok
    · exact gh_79_ok
    · exact gh_80_ok
    · exact gh_81_ok
    · exact gh_82_ok
    · exact gh_83_ok
    · exact gh_84_ok
    · exact gh_85_ok
    · exact gh_86_ok
    · exact gh_87_ok
    · exact gh_88_ok
    · exact gh_89_ok
    · exact gh_90_ok
    · exact gh_91_ok
    · exact gh_92_ok
    · exact gh_93_ok
    · exact gh_94_ok
    · exact gh_95_ok
    · exact gh_96_ok
    · exact gh_97_ok
    · exact gh_98_ok
    · exact gh_99_ok
    · exact gh_100_ok
    · exact gh_101_ok
    · exact gh_102_ok
    · exact gh_103_ok
    · exact gh_104_ok
    · exact gh_105_ok
    · exact gh_106_ok
    · exact gh_107_ok), (fun c hc => nomatch hc)⟩
    ((fun c hc => by
    simp only [nx_334, List.mem_cons, List.not_mem_nil, or_false] at hc
    rcases hc with rfl | rfl | rfl | rfl
    · exact vk_330
    · exact vk_331
    · exact vk_332
    · exact vk_333))
    (fun _ _ _ _ y hy => by cases hy) (aChk_of (fun c hc => by
    simp only [nu_334, List.mem_cons, List.not_mem_nil, or_false] at hc
    rcases hc with rfl | rfl | rfl | rfl | rfl | rfl | rfl | rfl | rfl | rfl | rfl | rfl | rfl | rfl | rfl | rfl | rfl | rfl | rfl | rfl | rfl | rfl | rfl | rfl | rfl | rfl | rfl | rfl | rfl | rfl | rfl | rfl | rfl | rfl | rfl | rfl | rfl | rfl | rfl | rfl | rfl | rfl | rfl | rfl | rfl
    · exact vf_334_0
    · exact vf_334_1
    · exact vf_334_2
    · exact vf_334_3
    · exact vf_334_4
    · exact vf_334_5
    · exact vf_334_6
    · exact vf_334_7
    · exact vf_334_8
    · exact vf_334_9
    · exact vf_334_10
    · exact vf_334_11
    · exact vf_334_12
    · exact vf_334_13
    · exact vf_334_14
    · exact vf_334_15
    · exact vf_334_16
    · exact vf_334_17
    · exact vf_334_18
    · exact vf_334_19
    · exact vf_334_20
    · exact vf_334_21
    · exact vf_334_22
    · exact vf_334_23
    · exact vf_334_24
    · exact vf_334_25
    · exact vf_334_26
    · exact vf_334_27
    · exact vf_334_28
    · exact vf_334_29
    · exact vf_334_30
    · exact vf_334_31
    · exact vf_334_32
    · exact vf_334_33
    · exact vf_334_34
    · exact vf_334_35
    · exact vf_334_36
    · exact vf_334_37
    · exact vf_334_38
    · exact vf_334_39
    · exact vf_334_40
    · exact vf_334_41
    · exact vf_334_42
    · exact vf_334_43
    · exact vf_334_44) vf_334_s)
/-- Model_said -/
def nk_335 : nK := (258, 4, ([((-2147483648), 2147483647)], [9], [(0, 1002, .inl 1)], [], []), [.inr (.inr (.inl 0)), .inr (.inl (0, 0))], [(9, 0)], [64], [(([((-2147483648), 2147483647), ((-2147483648), 2147483647)], [9], [], [], []), some (.inr (.inl (1, 0))))])
def nu_335 : List aCt := [(27, ([((-1), 2147483647), ((-2147483648), 2147483647), (0, 10)], [9], [(0, 1002, .inl 1)], [], []), [(0, .inr (.inr (.inl 0))), (1, .inr (.inl (0, 0))), (2, .inr (.inl (1, 0))), (3, .inr (.inl (2, 0)))], ([((-2), 2)], 21))]
set_option maxRecDepth 100000 in
theorem vk_335 {X : nX} {L : Nat} {xs : Nat → Int32} {g : Nat} {S : List Nat} : nV nj_M X L xs g nFT nAT S (nJJ S) nk_335 :=
  aChk_ok (ctx := [nk_334]) (W := ([], [])) (ls := none) (cuts := nu_335) (fuel := 19) (nJJ_ok S)
    ⟨(fun c hc => nomatch hc), (fun c hc => nomatch hc)⟩
    ((fun c hc => by
    simp only [List.mem_cons, List.not_mem_nil, or_false] at hc
    subst hc
    · exact vk_334))
    (fun _ _ _ _ y hy => by cases hy) (by decide +kernel)
/-- Model_image -/
def nk_336 : nK := (262, 1, ([((-2147483648), 2147483647)], [9], [(0, 1002, .inl 1), (0, 1003, .inl 1), (0, 1004, .inl 1)], [], []), [.inr (.inr (.inl 0)), .inr (.inl (0, 0))], [(9, 0), (9, 1003), (9, 1004), (9, 1005), (9, 1006)], [65, 66, 67], [(([((-2147483648), 2147483647), (0, 1)], [9], [(0, 1002, .inl 1), (0, 1003, .inl 1), (0, 1004, .inl 1)], [], []), some (.inr (.inl (1, 0))))])
def nu_336 : List aCt := [(18, ([((-2147483648), 2147483647), (0, 178), (0, 181)], [9], [(0, 1005, .inr (.inl (2, 0))), (0, 1002, .inl 1), (0, 1004, .inl 1)], [], []), [(0, .inr (.inr (.inl 0))), (1, .inl 0), (2, .inr (.inl (1, 0)))], ([((-1), 1)], 500)), (18, ([((-2147483648), 2147483647), (179, 360), (0, 181)], [9], [(0, 1005, .inr (.inl (2, 0))), (0, 1002, .inl 1), (0, 1004, .inl 1)], [], [.inl ([(1, 1), ((-1), 2)], (-179))]), [(0, .inr (.inr (.inl 0))), (1, .inl 0), (2, .inr (.inl (1, 0)))], ([((-1), 1)], 500)), (51, ([((-2147483648), 2147483647), (0, 26)], [9], [(0, 1002, .inl 1), (0, 1003, .inl 1), (0, 1004, .inl 1)], [], []), [(0, .inr (.inr (.inl 0))), (1, .inl 0), (2, .inr (.inl (1, 0)))], ([((-1), 1)], 30)), (18, ([((-2147483648), 2147483647), (0, 178), (0, 181)], [9], [(0, 1006, .inr (.inl (2, 0))), (0, 1002, .inl 1), (0, 1003, .inl 1)], [], []), [(0, .inr (.inr (.inl 0))), (1, .inl 1), (2, .inr (.inl (1, 0)))], ([((-1), 1)], 500)), (18, ([((-2147483648), 2147483647), (179, 360), (0, 181)], [9], [(0, 1006, .inr (.inl (2, 0))), (0, 1002, .inl 1), (0, 1003, .inl 1)], [], [.inl ([(1, 1), ((-1), 2)], (-179))]), [(0, .inr (.inr (.inl 0))), (1, .inl 1), (2, .inr (.inl (1, 0)))], ([((-1), 1)], 500)), (51, ([((-2147483648), 2147483647), (0, 26)], [9], [(0, 1002, .inl 1), (0, 1003, .inl 1), (0, 1004, .inl 1)], [], []), [(0, .inr (.inr (.inl 0))), (1, .inl 1), (2, .inr (.inl (1, 0)))], ([((-1), 1)], 30))]
set_option maxRecDepth 100000 in
theorem vk_336 {X : nX} {L : Nat} {xs : Nat → Int32} {g : Nat} {S : List Nat} : nV nj_M X L xs g nFT nAT S (nJJ S) nk_336 :=
  aChk_ok (ctx := []) (W := ([gh_47, gh_48, gh_51, gh_53, gh_55, gh_57], [sw_46, sw_48])) (ls := none) (cuts := nu_336) (fuel := 22) (nJJ_ok S)
    ⟨(fun c hc => by
    simp only [List.mem_cons, List.not_mem_nil, or_false] at hc
    rcases hc with rfl | rfl | rfl | rfl | rfl | rfl
    · exact gh_47_ok
    · exact gh_48_ok
    · exact gh_51_ok
    · exact gh_53_ok
    · exact gh_55_ok
    · exact gh_57_ok), (fun c hc => by
    simp only [List.mem_cons, List.not_mem_nil, or_false] at hc
    rcases hc with rfl | rfl
    · exact sw_46_ok
    · exact sw_48_ok)⟩
    ((fun c hc => nomatch hc))
    (fun _ _ _ _ y hy => by cases hy) (by decide +kernel)
