def nk_sr : nK := (152, 1, ([(0, 1)], [8], [], [], []), [.inr (.inr (.inl 0)), .inr (.inl (0, 0))], [(0, 14), (0, 15), (2, 5), (2, 6), (2, 7), (2, 8), (2, 9), (2, 10), (2, 11), (3, 1), (4, 4), (4, 5)], [10, 11, 12, 13, 14, 15, 16, 17, 18, 19, 20, 21, 22, 23, 24, 25, 26, 27, 28, 30, 31, 32], [(([(0, 1)], [8], [], [], []), some (.inl 1))])
def nu_sr : List aCt := []
def nx_sr : List nK := [nk_15, nk_37, nk_154]
def nw_sr : nWk := ([], [])
def na_sr : List (Nat × aV) := [(0, .inr (.inr (.inl 0))), (1, .inr (.inl (0, 0)))]
set_option maxRecDepth 100000 in
theorem vc_sr : nu_sr.all (aFrom nj_M nFT nAT nx_sr nw_sr none nk_sr.2.2.2.2.1 nk_sr.2.2.2.2.2.1 nk_sr.2.2.2.2.2.2 nk_sr.2.2.1.1.length nk_sr.2.2.1.2.1.length nk_sr.2.1 nk_sr.1 nu_sr 31) = true := by decide +kernel
set_option maxRecDepth 100000 in
theorem ve_sr : aExec nj_M nFT nAT nx_sr nw_sr none nk_sr.2.2.2.2.1 nk_sr.2.2.2.2.2.1 nk_sr.2.2.2.2.2.2 nk_sr.2.2.1.1.length nk_sr.2.2.1.2.1.length nk_sr.2.1 nk_sr.1 nu_sr none 31 nk_sr.2.2.1 [(nk_sr.1, 23, na_sr, [])] = true := by decide +kernel
theorem ww_sr : nWv nFT nAT fS (nJJ fS) nw_sr := ⟨(fun c hc => nomatch hc), (fun c hc => nomatch hc)⟩
theorem wx_sr {L : Nat} {xs : Nat → Int32} : ∀ c ∈ nx_sr, nV nj_M nX0 L xs 0 nFT nAT fS (nJJ fS) c := (fun c hc => by
    simp only [nx_sr, List.mem_cons, List.not_mem_nil, or_false] at hc
    rcases hc with rfl | rfl | rfl
    · exact vk_15
    · exact vk_37
    · exact vk_154)
def nk_si : nK := (151, 1, ([(0, 1)], [8, 1], [], [], []), [.inr (.inr (.inl 0)), .inr (.inl (0, 0)), .inr (.inr (.inl 1))], [(0, 14), (0, 15), (2, 5), (2, 6), (2, 7), (2, 8), (2, 9), (2, 10), (2, 11), (4, 4), (4, 5)], [10, 11, 12, 13, 14, 15, 16, 17, 18, 19, 20, 21, 22, 23, 24, 25, 26, 27, 28, 30, 31, 32], [(([(0, 1)], [8, 1], [], [], []), none)])
def nu_si : List aCt := []
def nx_si : List nK := [nk_15, nk_37, nk_154]
def nw_si : nWk := ([], [])
def na_si : List (Nat × aV) := [(0, .inr (.inr (.inl 0))), (1, .inr (.inl (0, 0))), (2, .inr (.inr (.inl 1)))]
set_option maxRecDepth 100000 in
theorem vc_si : nu_si.all (aFrom (nj_My 151 (nvr nm_151 51 (fun p => decide (18 ≤ p)))) nFT nAT nx_si nw_si none nk_si.2.2.2.2.1 nk_si.2.2.2.2.2.1 nk_si.2.2.2.2.2.2 nk_si.2.2.1.1.length nk_si.2.2.1.2.1.length nk_si.2.1 nk_si.1 nu_si 18) = true := by decide +kernel
set_option maxRecDepth 100000 in
theorem ve_si : aExec (nj_My 151 (nvr nm_151 51 (fun p => decide (18 ≤ p)))) nFT nAT nx_si nw_si none nk_si.2.2.2.2.1 nk_si.2.2.2.2.2.1 nk_si.2.2.2.2.2.2 nk_si.2.2.1.1.length nk_si.2.2.1.2.1.length nk_si.2.1 nk_si.1 nu_si none 18 nk_si.2.2.1 [(nk_si.1, 18, na_si, [])] = true := by decide +kernel
theorem ww_si : nWv nFT nAT fS (nJJ fS) nw_si := ⟨(fun c hc => nomatch hc), (fun c hc => nomatch hc)⟩
theorem hall_151 : nj_ms.all (goodY 151) = true := by decide +kernel
theorem wx_si {L : Nat} {xs : Nat → Int32} : ∀ c ∈ nx_si, nV (nj_My 151 (nvr nm_151 51 (fun p => decide (18 ≤ p)))) nX0 L xs 0 nFT nAT fS (nJJ fS) c := (fun c hc => by
    simp only [nx_si, List.mem_cons, List.not_mem_nil, or_false] at hc
    rcases hc with rfl | rfl | rfl
    · exact nV_My hall_151 (by decide) vk_15
    · exact nV_My hall_151 (by decide) vk_37
    · exact nV_My hall_151 (by decide) vk_154)
def nk_mr0 : nK := (263, 0, ([(0, 0)], [9], [(0, 1002, .inl 1), (0, 1003, .inl 1), (0, 1004, .inl 1)], [], []), [.inr (.inr (.inl 0)), .inr (.inl (0, 0))], [(9, 24), (9, 1002), (9, 1005), (9, 1006), (9, 1007), (9, 1020), (9, 1021), (9, 1022), (9, 1023), (9, 1024), (9, 1025), (9, 1026), (9, 1027), (9, 1028), (9, 1029), (9, 1030), (9, 1031), (9, 1032), (9, 1033), (9, 1034), (9, 1035), (9, 1036), (9, 1037), (9, 1038), (9, 1039), (9, 1040), (9, 1041), (9, 1042), (9, 1043), (9, 1044), (9, 1045), (9, 1046), (9, 1047), (9, 1048), (9, 1049), (9, 1050), (9, 1051), (9, 1052), (9, 1053), (9, 1054), (9, 1055), (9, 1056), (9, 1057), (9, 1058), (9, 1059), (9, 1060), (9, 1061), (9, 1062), (9, 1063), (9, 1064), (9, 1065)], [50, 53], [(([(0, 0)], [9], [(0, 1002, .inl 1), (0, 1003, .inl 1), (0, 1004, .inl 1)], [], []), some (.inl 1))])
def nu_mr0 : List aCt := [(27, ([(0, 0), (0, 178), (0, 181)], [9], [(0, 1005, .inr (.inl (2, 0))), (0, 1003, .inl 1), (0, 1004, .inl 1)], [], []), [(0, .inr (.inr (.inl 0))), (1, .inl 0), (2, .inr (.inl (1, 0)))], ([((-1), 1)], 500)), (27, ([(0, 0), (179, 360), (0, 181)], [9], [(0, 1005, .inr (.inl (2, 0))), (0, 1003, .inl 1), (0, 1004, .inl 1)], [], [.inl ([(1, 1), ((-1), 2)], (-179))]), [(0, .inr (.inr (.inl 0))), (1, .inl 0), (2, .inr (.inl (1, 0)))], ([((-1), 1)], 500)), (60, ([(0, 0), (0, 26)], [9], [(0, 1002, .inl 1), (0, 1003, .inl 1), (0, 1004, .inl 1)], [], []), [(0, .inr (.inr (.inl 0))), (1, .inl 0), (2, .inr (.inl (1, 0)))], ([((-1), 1)], 30))]
def nx_mr0 : List nK := []
def nw_mr0 : nWk := ([gh_49, gh_50, gh_52, gh_54], [sw_47])
def na_mr0 : List (Nat × aV) := [(0, .inr (.inr (.inl 0))), (1, .inr (.inl (0, 0)))]
set_option maxRecDepth 100000 in
theorem vc_mr0 : nu_mr0.all (aFrom nj_M nFT nAT nx_mr0 nw_mr0 none nk_mr0.2.2.2.2.1 nk_mr0.2.2.2.2.2.1 nk_mr0.2.2.2.2.2.2 nk_mr0.2.2.1.1.length nk_mr0.2.2.1.2.1.length nk_mr0.2.1 nk_mr0.1 nu_mr0 20) = true := by decide +kernel
set_option maxRecDepth 100000 in
theorem ve_mr0 : aExec nj_M nFT nAT nx_mr0 nw_mr0 none nk_mr0.2.2.2.2.1 nk_mr0.2.2.2.2.2.1 nk_mr0.2.2.2.2.2.2 nk_mr0.2.2.1.1.length nk_mr0.2.2.1.2.1.length nk_mr0.2.1 nk_mr0.1 nu_mr0 none 20 nk_mr0.2.2.1 [(nk_mr0.1, 25, na_mr0, [])] = true := by decide +kernel
theorem ww_mr0 : nWv nFT nAT fS (nJJ fS) nw_mr0 := ⟨(fun c hc => by
    simp only [nw_mr0, List.mem_cons, List.not_mem_nil, or_false] at hc
    rcases hc with rfl | rfl | rfl | rfl
    · exact gh_49_ok
    · exact gh_50_ok
    · exact gh_52_ok
    · exact gh_54_ok), (fun c hc => by
    simp only [nw_mr0, List.mem_cons, List.not_mem_nil, or_false] at hc
    subst hc
    · exact sw_47_ok)⟩
theorem wx_mr0 {L : Nat} {xs : Nat → Int32} : ∀ c ∈ nx_mr0, nV nj_M nX0 L xs 0 nFT nAT fS (nJJ fS) c := (fun c hc => nomatch hc)
def nk_mi0 : nK := (262, 1, ([(0, 0)], [9], [(0, 1002, .inl 1), (0, 1003, .inl 1), (0, 1004, .inl 1)], [], []), [.inr (.inr (.inl 0)), .inr (.inl (0, 0))], [(9, 0), (9, 1003), (9, 1005)], [65, 66], [(([(0, 0)], [9], [(0, 1002, .inl 1), (0, 1003, .inl 1), (0, 1004, .inl 1)], [], []), none)])
def nu_mi0 : List aCt := [(18, ([(0, 0), (0, 178), (0, 181)], [9], [(0, 1005, .inr (.inl (2, 0))), (0, 1002, .inl 1), (0, 1004, .inl 1)], [], []), [(0, .inr (.inr (.inl 0))), (1, .inl 0), (2, .inr (.inl (1, 0)))], ([((-1), 1)], 500)), (18, ([(0, 0), (179, 360), (0, 181)], [9], [(0, 1005, .inr (.inl (2, 0))), (0, 1002, .inl 1), (0, 1004, .inl 1)], [], [.inl ([(1, 1), ((-1), 2)], (-179))]), [(0, .inr (.inr (.inl 0))), (1, .inl 0), (2, .inr (.inl (1, 0)))], ([((-1), 1)], 500)), (51, ([(0, 0), (0, 26)], [9], [(0, 1002, .inl 1), (0, 1003, .inl 1), (0, 1004, .inl 1)], [], []), [(0, .inr (.inr (.inl 0))), (1, .inl 0), (2, .inr (.inl (1, 0)))], ([((-1), 1)], 30))]
def nx_mi0 : List nK := []
def nw_mi0 : nWk := ([gh_47, gh_48, gh_51, gh_53], [sw_46])
def na_mi0 : List (Nat × aV) := [(0, .inr (.inr (.inl 0))), (1, .inr (.inl (0, 0)))]
set_option maxRecDepth 100000 in
theorem vc_mi0 : nu_mi0.all (aFrom (nj_My 262 (nvr nm_262 80 (fun _ => true))) nFT nAT nx_mi0 nw_mi0 none nk_mi0.2.2.2.2.1 nk_mi0.2.2.2.2.2.1 nk_mi0.2.2.2.2.2.2 nk_mi0.2.2.1.1.length nk_mi0.2.2.1.2.1.length nk_mi0.2.1 nk_mi0.1 nu_mi0 22) = true := by decide +kernel
set_option maxRecDepth 100000 in
theorem ve_mi0 : aExec (nj_My 262 (nvr nm_262 80 (fun _ => true))) nFT nAT nx_mi0 nw_mi0 none nk_mi0.2.2.2.2.1 nk_mi0.2.2.2.2.2.1 nk_mi0.2.2.2.2.2.2 nk_mi0.2.2.1.1.length nk_mi0.2.2.1.2.1.length nk_mi0.2.1 nk_mi0.1 nu_mi0 none 22 nk_mi0.2.2.1 [(nk_mi0.1, 0, na_mi0, [])] = true := by decide +kernel
theorem ww_mi0 : nWv nFT nAT fS (nJJ fS) nw_mi0 := ⟨(fun c hc => by
    simp only [nw_mi0, List.mem_cons, List.not_mem_nil, or_false] at hc
    rcases hc with rfl | rfl | rfl | rfl
    · exact gh_47_ok
    · exact gh_48_ok
    · exact gh_51_ok
    · exact gh_53_ok), (fun c hc => by
    simp only [nw_mi0, List.mem_cons, List.not_mem_nil, or_false] at hc
    subst hc
    · exact sw_46_ok)⟩
theorem hall_262 : nj_ms.all (goodY 262) = true := by decide +kernel
theorem wx_mi0 {L : Nat} {xs : Nat → Int32} : ∀ c ∈ nx_mi0, nV (nj_My 262 (nvr nm_262 80 (fun _ => true))) nX0 L xs 0 nFT nAT fS (nJJ fS) c := (fun c hc => nomatch hc)
def nk_mr1 : nK := (263, 0, ([(1, 1)], [9], [(0, 1002, .inl 1), (0, 1003, .inl 1), (0, 1004, .inl 1)], [], []), [.inr (.inr (.inl 0)), .inr (.inl (0, 0))], [(9, 24), (9, 1002), (9, 1005), (9, 1006), (9, 1007), (9, 1020), (9, 1021), (9, 1022), (9, 1023), (9, 1024), (9, 1025), (9, 1026), (9, 1027), (9, 1028), (9, 1029), (9, 1030), (9, 1031), (9, 1032), (9, 1033), (9, 1034), (9, 1035), (9, 1036), (9, 1037), (9, 1038), (9, 1039), (9, 1040), (9, 1041), (9, 1042), (9, 1043), (9, 1044), (9, 1045), (9, 1046), (9, 1047), (9, 1048), (9, 1049), (9, 1050), (9, 1051), (9, 1052), (9, 1053), (9, 1054), (9, 1055), (9, 1056), (9, 1057), (9, 1058), (9, 1059), (9, 1060), (9, 1061), (9, 1062), (9, 1063), (9, 1064), (9, 1065)], [50, 53], [(([(1, 1)], [9], [(0, 1002, .inl 1), (0, 1003, .inl 1), (0, 1004, .inl 1)], [], []), some (.inl 1))])
def nu_mr1 : List aCt := [(27, ([(1, 1), (0, 178), (0, 181)], [9], [(0, 1006, .inr (.inl (2, 0))), (0, 1003, .inl 1), (0, 1004, .inl 1)], [], []), [(0, .inr (.inr (.inl 0))), (1, .inl 1), (2, .inr (.inl (1, 0)))], ([((-1), 1)], 500)), (27, ([(1, 1), (179, 360), (0, 181)], [9], [(0, 1006, .inr (.inl (2, 0))), (0, 1003, .inl 1), (0, 1004, .inl 1)], [], [.inl ([(1, 1), ((-1), 2)], (-179))]), [(0, .inr (.inr (.inl 0))), (1, .inl 1), (2, .inr (.inl (1, 0)))], ([((-1), 1)], 500)), (60, ([(1, 1), (0, 26)], [9], [(0, 1002, .inl 1), (0, 1003, .inl 1), (0, 1004, .inl 1)], [], []), [(0, .inr (.inr (.inl 0))), (1, .inl 1), (2, .inr (.inl (1, 0)))], ([((-1), 1)], 30))]
def nx_mr1 : List nK := []
def nw_mr1 : nWk := ([gh_49, gh_50, gh_56, gh_58], [sw_49])
def na_mr1 : List (Nat × aV) := [(0, .inr (.inr (.inl 0))), (1, .inr (.inl (0, 0)))]
set_option maxRecDepth 100000 in
theorem vc_mr1 : nu_mr1.all (aFrom nj_M nFT nAT nx_mr1 nw_mr1 none nk_mr1.2.2.2.2.1 nk_mr1.2.2.2.2.2.1 nk_mr1.2.2.2.2.2.2 nk_mr1.2.2.1.1.length nk_mr1.2.2.1.2.1.length nk_mr1.2.1 nk_mr1.1 nu_mr1 20) = true := by decide +kernel
set_option maxRecDepth 100000 in
theorem ve_mr1 : aExec nj_M nFT nAT nx_mr1 nw_mr1 none nk_mr1.2.2.2.2.1 nk_mr1.2.2.2.2.2.1 nk_mr1.2.2.2.2.2.2 nk_mr1.2.2.1.1.length nk_mr1.2.2.1.2.1.length nk_mr1.2.1 nk_mr1.1 nu_mr1 none 20 nk_mr1.2.2.1 [(nk_mr1.1, 25, na_mr1, [])] = true := by decide +kernel
theorem ww_mr1 : nWv nFT nAT fS (nJJ fS) nw_mr1 := ⟨(fun c hc => by
    simp only [nw_mr1, List.mem_cons, List.not_mem_nil, or_false] at hc
    rcases hc with rfl | rfl | rfl | rfl
    · exact gh_49_ok
    · exact gh_50_ok
    · exact gh_56_ok
    · exact gh_58_ok), (fun c hc => by
    simp only [nw_mr1, List.mem_cons, List.not_mem_nil, or_false] at hc
    subst hc
    · exact sw_49_ok)⟩
theorem wx_mr1 {L : Nat} {xs : Nat → Int32} : ∀ c ∈ nx_mr1, nV nj_M nX0 L xs 0 nFT nAT fS (nJJ fS) c := (fun c hc => nomatch hc)
def nk_mi1 : nK := (262, 1, ([(1, 1)], [9], [(0, 1002, .inl 1), (0, 1003, .inl 1), (0, 1004, .inl 1)], [], []), [.inr (.inr (.inl 0)), .inr (.inl (0, 0))], [(9, 0), (9, 1004), (9, 1006)], [65, 66], [(([(1, 1)], [9], [(0, 1002, .inl 1), (0, 1003, .inl 1), (0, 1004, .inl 1)], [], []), none)])
def nu_mi1 : List aCt := [(18, ([(1, 1), (0, 178), (0, 181)], [9], [(0, 1006, .inr (.inl (2, 0))), (0, 1002, .inl 1), (0, 1003, .inl 1)], [], []), [(0, .inr (.inr (.inl 0))), (1, .inl 1), (2, .inr (.inl (1, 0)))], ([((-1), 1)], 500)), (18, ([(1, 1), (179, 360), (0, 181)], [9], [(0, 1006, .inr (.inl (2, 0))), (0, 1002, .inl 1), (0, 1003, .inl 1)], [], [.inl ([(1, 1), ((-1), 2)], (-179))]), [(0, .inr (.inr (.inl 0))), (1, .inl 1), (2, .inr (.inl (1, 0)))], ([((-1), 1)], 500)), (51, ([(1, 1), (0, 26)], [9], [(0, 1002, .inl 1), (0, 1003, .inl 1), (0, 1004, .inl 1)], [], []), [(0, .inr (.inr (.inl 0))), (1, .inl 1), (2, .inr (.inl (1, 0)))], ([((-1), 1)], 30))]
def nx_mi1 : List nK := []
def nw_mi1 : nWk := ([gh_47, gh_48, gh_55, gh_57], [sw_48])
def na_mi1 : List (Nat × aV) := [(0, .inr (.inr (.inl 0))), (1, .inr (.inl (0, 0)))]
set_option maxRecDepth 100000 in
theorem vc_mi1 : nu_mi1.all (aFrom (nj_My 262 (nvr nm_262 80 (fun _ => true))) nFT nAT nx_mi1 nw_mi1 none nk_mi1.2.2.2.2.1 nk_mi1.2.2.2.2.2.1 nk_mi1.2.2.2.2.2.2 nk_mi1.2.2.1.1.length nk_mi1.2.2.1.2.1.length nk_mi1.2.1 nk_mi1.1 nu_mi1 22) = true := by decide +kernel
set_option maxRecDepth 100000 in
theorem ve_mi1 : aExec (nj_My 262 (nvr nm_262 80 (fun _ => true))) nFT nAT nx_mi1 nw_mi1 none nk_mi1.2.2.2.2.1 nk_mi1.2.2.2.2.2.1 nk_mi1.2.2.2.2.2.2 nk_mi1.2.2.1.1.length nk_mi1.2.2.1.2.1.length nk_mi1.2.1 nk_mi1.1 nu_mi1 none 22 nk_mi1.2.2.1 [(nk_mi1.1, 0, na_mi1, [])] = true := by decide +kernel
theorem ww_mi1 : nWv nFT nAT fS (nJJ fS) nw_mi1 := ⟨(fun c hc => by
    simp only [nw_mi1, List.mem_cons, List.not_mem_nil, or_false] at hc
    rcases hc with rfl | rfl | rfl | rfl
    · exact gh_47_ok
    · exact gh_48_ok
    · exact gh_55_ok
    · exact gh_57_ok), (fun c hc => by
    simp only [nw_mi1, List.mem_cons, List.not_mem_nil, or_false] at hc
    subst hc
    · exact sw_48_ok)⟩
theorem wx_mi1 {L : Nat} {xs : Nat → Int32} : ∀ c ∈ nx_mi1, nV (nj_My 262 (nvr nm_262 80 (fun _ => true))) nX0 L xs 0 nFT nAT fS (nJJ fS) c := (fun c hc => nomatch hc)
