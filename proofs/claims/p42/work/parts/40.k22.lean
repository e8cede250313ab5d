set_option maxRecDepth 100000 in
theorem vf_343_26 : aFrom nj_M nFT nAT2 nx_343 nw_343 none nk_343.2.2.2.2.1 nk_343.2.2.2.2.2.1 nk_343.2.2.2.2.2.2 nk_343.2.2.1.1.length nk_343.2.2.1.2.1.length nk_343.2.1 nk_343.1 nu_343 46 nu_343_26 = true := by decide +kernel
set_option maxRecDepth 100000 in
theorem vf_343_27 : aFrom nj_M nFT nAT2 nx_343 nw_343 none nk_343.2.2.2.2.1 nk_343.2.2.2.2.2.1 nk_343.2.2.2.2.2.2 nk_343.2.2.1.1.length nk_343.2.2.1.2.1.length nk_343.2.1 nk_343.1 nu_343 46 nu_343_27 = true := by decide +kernel
set_option maxRecDepth 100000 in
theorem vf_343_28 : aFrom nj_M nFT nAT2 nx_343 nw_343 none nk_343.2.2.2.2.1 nk_343.2.2.2.2.2.1 nk_343.2.2.2.2.2.2 nk_343.2.2.1.1.length nk_343.2.2.1.2.1.length nk_343.2.1 nk_343.1 nu_343 46 nu_343_28 = true := by decide +kernel
set_option maxRecDepth 100000 in
theorem vf_343_29 : aFrom nj_M nFT nAT2 nx_343 nw_343 none nk_343.2.2.2.2.1 nk_343.2.2.2.2.2.1 nk_343.2.2.2.2.2.2 nk_343.2.2.1.1.length nk_343.2.2.1.2.1.length nk_343.2.1 nk_343.1 nu_343 46 nu_343_29 = true := by decide +kernel
set_option maxRecDepth 100000 in
theorem vf_343_30 : aFrom nj_M nFT nAT2 nx_343 nw_343 none nk_343.2.2.2.2.1 nk_343.2.2.2.2.2.1 nk_343.2.2.2.2.2.2 nk_343.2.2.1.1.length nk_343.2.2.1.2.1.length nk_343.2.1 nk_343.1 nu_343 46 nu_343_30 = true := by decide +kernel
set_option maxRecDepth 100000 in
theorem vf_343_31 : aFrom nj_M nFT nAT2 nx_343 nw_343 none nk_343.2.2.2.2.1 nk_343.2.2.2.2.2.1 nk_343.2.2.2.2.2.2 nk_343.2.2.1.1.length nk_343.2.2.1.2.1.length nk_343.2.1 nk_343.1 nu_343 46 nu_343_31 = true := by decide +kernel
set_option maxRecDepth 100000 in
theorem vf_343_32 : aFrom nj_M nFT nAT2 nx_343 nw_343 none nk_343.2.2.2.2.1 nk_343.2.2.2.2.2.1 nk_343.2.2.2.2.2.2 nk_343.2.2.1.1.length nk_343.2.2.1.2.1.length nk_343.2.1 nk_343.1 nu_343 46 nu_343_32 = true := by decide +kernel
set_option maxRecDepth 100000 in
theorem vf_343_33 : aFrom nj_M nFT nAT2 nx_343 nw_343 none nk_343.2.2.2.2.1 nk_343.2.2.2.2.2.1 nk_343.2.2.2.2.2.2 nk_343.2.2.1.1.length nk_343.2.2.1.2.1.length nk_343.2.1 nk_343.1 nu_343 46 nu_343_33 = true := by decide +kernel
set_option maxRecDepth 100000 in
theorem vf_343_34 : aFrom nj_M nFT nAT2 nx_343 nw_343 none nk_343.2.2.2.2.1 nk_343.2.2.2.2.2.1 nk_343.2.2.2.2.2.2 nk_343.2.2.1.1.length nk_343.2.2.1.2.1.length nk_343.2.1 nk_343.1 nu_343 46 nu_343_34 = true := by decide +kernel
set_option maxRecDepth 100000 in
theorem vf_343_35 : aFrom nj_M nFT nAT2 nx_343 nw_343 none nk_343.2.2.2.2.1 nk_343.2.2.2.2.2.1 nk_343.2.2.2.2.2.2 nk_343.2.2.1.1.length nk_343.2.2.1.2.1.length nk_343.2.1 nk_343.1 nu_343 46 nu_343_35 = true := by decide +kernel
set_option maxRecDepth 100000 in
theorem vf_343_36 : aFrom nj_M nFT nAT2 nx_343 nw_343 none nk_343.2.2.2.2.1 nk_343.2.2.2.2.2.1 nk_343.2.2.2.2.2.2 nk_343.2.2.1.1.length nk_343.2.2.1.2.1.length nk_343.2.1 nk_343.1 nu_343 46 nu_343_36 = true := by decide +kernel
set_option maxRecDepth 100000 in
theorem vf_343_37 : aFrom nj_M nFT nAT2 nx_343 nw_343 none nk_343.2.2.2.2.1 nk_343.2.2.2.2.2.1 nk_343.2.2.2.2.2.2 nk_343.2.2.1.1.length nk_343.2.2.1.2.1.length nk_343.2.1 nk_343.1 nu_343 46 nu_343_37 = true := by decide +kernel
set_option maxRecDepth 100000 in
theorem vf_343_38 : aFrom nj_M nFT nAT2 nx_343 nw_343 none nk_343.2.2.2.2.1 nk_343.2.2.2.2.2.1 nk_343.2.2.2.2.2.2 nk_343.2.2.1.1.length nk_343.2.2.1.2.1.length nk_343.2.1 nk_343.1 nu_343 46 nu_343_38 = true := by decide +kernel
set_option maxRecDepth 100000 in
theorem vf_343_39 : aFrom nj_M nFT nAT2 nx_343 nw_343 none nk_343.2.2.2.2.1 nk_343.2.2.2.2.2.1 nk_343.2.2.2.2.2.2 nk_343.2.2.1.1.length nk_343.2.2.1.2.1.length nk_343.2.1 nk_343.1 nu_343 46 nu_343_39 = true := by decide +kernel
set_option maxRecDepth 100000 in
theorem vf_343_40 : aFrom nj_M nFT nAT2 nx_343 nw_343 none nk_343.2.2.2.2.1 nk_343.2.2.2.2.2.1 nk_343.2.2.2.2.2.2 nk_343.2.2.1.1.length nk_343.2.2.1.2.1.length nk_343.2.1 nk_343.1 nu_343 46 nu_343_40 = true := by decide +kernel
set_option maxRecDepth 100000 in
theorem vf_343_41 : aFrom nj_M nFT nAT2 nx_343 nw_343 none nk_343.2.2.2.2.1 nk_343.2.2.2.2.2.1 nk_343.2.2.2.2.2.2 nk_343.2.2.1.1.length nk_343.2.2.1.2.1.length nk_343.2.1 nk_343.1 nu_343 46 nu_343_41 = true := by decide +kernel
set_option maxRecDepth 100000 in
theorem vf_343_42 : aFrom nj_M nFT nAT2 nx_343 nw_343 none nk_343.2.2.2.2.1 nk_343.2.2.2.2.2.1 nk_343.2.2.2.2.2.2 nk_343.2.2.1.1.length nk_343.2.2.1.2.1.length nk_343.2.1 nk_343.1 nu_343 46 nu_343_42 = true := by decide +kernel
set_option maxRecDepth 100000 in
theorem vf_343_43 : aFrom nj_M nFT nAT2 nx_343 nw_343 none nk_343.2.2.2.2.1 nk_343.2.2.2.2.2.1 nk_343.2.2.2.2.2.2 nk_343.2.2.1.1.length nk_343.2.2.1.2.1.length nk_343.2.1 nk_343.1 nu_343 46 nu_343_43 = true := by decide +kernel
set_option maxRecDepth 100000 in
theorem vf_343_44 : aFrom nj_M nFT nAT2 nx_343 nw_343 none nk_343.2.2.2.2.1 nk_343.2.2.2.2.2.1 nk_343.2.2.2.2.2.2 nk_343.2.2.1.1.length nk_343.2.2.1.2.1.length nk_343.2.1 nk_343.1 nu_343 46 nu_343_44 = true := by decide +kernel
set_option maxRecDepth 100000 in
theorem vf_343_s : aExec nj_M nFT nAT2 nx_343 nw_343 none nk_343.2.2.2.2.1 nk_343.2.2.2.2.2.1 nk_343.2.2.2.2.2.2 nk_343.2.2.1.1.length nk_343.2.2.1.2.1.length nk_343.2.1 nk_343.1 nu_343 none 46 nk_343.2.2.1 [(nk_343.1, 0, aArgs 0 nk_343.2.2.2.1, [])] = true := by decide +kernel
theorem wk_343 {X : nX} {L : Nat} {xs : Nat → Int32} {g : Nat} {S : List Nat} {cc : Option (Nat → Int32)} : nV nj_M X L xs g nFT nAT2 S (nJC S cc) nk_343 :=
  aChk_ok (ctx := nx_343) (W := nw_343) (ls := none) (cuts := nu_343) (fuel := 46) (nJC_ok S cc)
    ⟨(fun c hc => by
    simp only [nw_343, List.mem_cons, List.not_mem_nil, or_false] at hc
    rcases hc with rfl | rfl | rfl | rfl | rfl | rfl | rfl | rfl | rfl | rfl | rfl | rfl | rfl | rfl | rfl | rfl | rfl | rfl | rfl | rfl | rfl | rfl | rfl | rfl | rfl | rfl | rfl | rfl | rfl | rfl | rfl | rfl | rfl | rfl | rfl | rfl | rfl | rfl | rfl | rfl | rfl | rfl
    · exact gh_cc gh_10_ok
    · exact gh_cc gh_108_ok
    · exact gh_cc gh_109_ok
    · exact gh_cc gh_110_ok
    · exact gh_cc gh_111_ok
    · exact gh_cc gh_112_ok
    · exact gh_cc gh_113_ok
    · exact gh_cc gh_114_ok
    · exact gh_cc gh_115_ok
    · exact gh_cc gh_116_ok
    · exact gh_cc gh_117_ok
    · exact gh_cc gh_118_ok
    · exact gh_cc gh_119_ok
    · exact gh_cc gh_120_ok
    · exact gh_cc gh_121_ok
    · exact gh_cc gh_122_ok
    · exact gh_cc gh_123_ok
    · exact gh_cc gh_124_ok
    · exact gh_cc gh_125_ok
    · exact gh_cc gh_126_ok
    · exact gh_cc gh_127_ok
    · exact gh_cc gh_128_ok
    · exact gh_cc gh_129_ok
    · exact gh_cc gh_130_ok
    · exact gh_cc gh_131_ok
    · exact gh_cc gh_132_ok
    · exact gh_cc gh_133_ok
    · exact gh_cc gh_134_ok
    · exact gh_cc gh_135_ok
    · exact gh_cc gh_136_ok
    · exact gh_cc gh_137_ok
    · exact gh_cc gh_138_ok
    · exact gh_cc gh_139_ok
    · exact gh_cc gh_140_ok
    · exact gh_cc gh_141_ok
    · exact gh_cc gh_142_ok
    · exact gh_cc gh_143_ok
    · exact gh_cc gh_144_ok
    · exact gh_cc gh_145_ok
    · exact gh_cc gh_146_ok
    · exact gh_cc gh_147_ok
    · exact gh_cc gh_148_ok), (fun c hc => by
    simp only [nw_343, List.mem_cons, List.not_mem_nil, or_false] at hc
    rcases hc with rfl | rfl | rfl | rfl | rfl
    · exact sw_cc sw_18_ok (by decide)
    · exact sw_cc sw_19_ok (by decide)
    · exact sw_cc sw_20_ok (by decide)
    · exact sw_cc sw_21_ok (by decide)
    · exact sw_cc sw_22_ok (by decide))⟩
    ((fun c hc => by
    simp only [nx_343, List.mem_cons, List.not_mem_nil, or_false] at hc
    rcases hc with rfl | rfl | rfl | rfl | rfl | rfl | rfl | rfl | rfl
    · exact nV_cc vk_162 (by decide)
    · exact nV_cc vk_250 (by decide)
    · exact nV_cc vk_264 (by decide)
    · exact wk_265
    · exact nV_cc vk_338 (by decide)
    · exact wk_339
    · exact wk_340
    · exact wk_341
    · exact wk_342))
    (fun _ _ _ _ y hy => by cases hy) (aChk_of (fun c hc => by
    simp only [nu_343, List.mem_cons, List.not_mem_nil, or_false] at hc
    rcases hc with rfl | rfl | rfl | rfl | rfl | rfl | rfl | rfl | rfl | rfl | rfl | rfl | rfl | rfl | rfl | rfl | rfl | rfl | rfl | rfl | rfl | rfl | rfl | rfl | rfl | rfl | rfl | rfl | rfl | rfl | rfl | rfl | rfl | rfl | rfl | rfl | rfl | rfl | rfl | rfl | rfl | rfl | rfl | rfl | rfl
    · exact vf_343_0
    · exact vf_343_1
    · exact vf_343_2
    · exact vf_343_3
    · exact vf_343_4
    · exact vf_343_5
    · exact vf_343_6
    · exact vf_343_7
    · exact vf_343_8
    · exact vf_343_9
    · exact vf_343_10
    · exact vf_343_11
    · exact vf_343_12
    · exact vf_343_13
    · exact vf_343_14
    · exact vf_343_15
    · exact vf_343_16
    · exact vf_343_17
    · exact vf_343_18
    · exact vf_343_19
    · exact vf_343_20
    · exact vf_343_21
    · exact vf_343_22
    · exact vf_343_23
    · exact vf_343_24
    · exact vf_343_25
    · exact vf_343_26
    · exact vf_343_27
    · exact vf_343_28
    · exact vf_343_29
    · exact vf_343_30
    · exact vf_343_31
    · exact vf_343_32
    · exact vf_343_33
    · exact vf_343_34
    · exact vf_343_35
    · exact vf_343_36
    · exact vf_343_37
    · exact vf_343_38
    · exact vf_343_39
    · exact vf_343_40
    · exact vf_343_41
    · exact vf_343_42
    · exact vf_343_43
    · exact vf_343_44) vf_343_s)
theorem vk_343 {X : nX} {L : Nat} {xs : Nat → Int32} {g : Nat} {S : List Nat} : nV nj_M X L xs g nFT nAT S (nJJ S) nk_343 := nV_dd wk_343
/-- Text_kind -/
def nk_344 : nK := (31, 0, ([], [7], [], [], []), [.inr (.inr (.inl 0))], [], [], [(([((-2147483648), 2147483647)], [7], [], [], []), some (.inr (.inl (0, 0))))])
def nu_344 : List aCt := []
set_option maxRecDepth 100000 in
theorem vk_344 {X : nX} {L : Nat} {xs : Nat → Int32} {g : Nat} {S : List Nat} : nV nj_M X L xs g nFT nAT S (nJJ S) nk_344 :=
  aChk_ok (ctx := []) (W := ([], [])) (ls := none) (cuts := nu_344) (fuel := 8) (nJJ_ok S)
    ⟨(fun c hc => nomatch hc), (fun c hc => nomatch hc)⟩
    ((fun c hc => nomatch hc))
    (fun _ _ _ _ y hy => by cases hy) (by decide +kernel)
/-- Family_known1S -/
def nk_345 : nK := (40, 1, ([((-2147483648), 2147483647), ((-2147483648), 2147483647)], [0, 7], [(1, 10, .inr (.inl (0, 0))), (1, 11, .inr (.inl (1, 0)))], [], []), [.inr (.inr (.inl 0)), .inr (.inr (.inl 1)), .inl 1], [(7, 10), (7, 11)], [], [(([((-2147483648), 2147483647), ((-2147483648), 2147483647)], [0, 7], [], [], []), some (.inl (-1))), (([((-2147483648), 2147483647), ((-2147483648), 2147483647), (0, 9)], [0, 7], [(1, 10, .inr (.inl (0, 0))), (1, 11, .inr (.inl (1, 0)))], [], []), some (.inr (.inl (2, 0))))])
def nu_345 : List aCt := []
set_option maxRecDepth 100000 in
theorem vk_345 {X : nX} {L : Nat} {xs : Nat → Int32} {g : Nat} {S : List Nat} : nV nj_M X L xs g nFT nAT S (nJJ S) nk_345 :=
  aChk_ok (ctx := [nk_16, nk_344]) (W := ([], [])) (ls := none) (cuts := nu_345) (fuel := 47) (nJJ_ok S)
    ⟨(fun c hc => nomatch hc), (fun c hc => nomatch hc)⟩
    ((fun c hc => by
    simp only [List.mem_cons, List.not_mem_nil, or_false] at hc
    rcases hc with rfl | rfl
    · exact vk_16
    · exact vk_344))
    (fun _ _ _ _ y hy => by cases hy) (by decide +kernel)
