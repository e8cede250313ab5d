/-- Slip_gifts -/
def nk_92 : nK := (105, 4, ([], [8], [], [], []), [.inr (.inr (.inl 0))], [], [47], [(([((-2147483648), 2147483647)], [8], [], [], []), some (.inr (.inl (0, 0))))])
def nu_92 : List aCt := [(17, ([(0, 6), ((-2147483648), 2147483647), (0, 2147483646), (0, 2147483647)], [8], [], [], []), [(0, .inr (.inr (.inl 0))), (1, .inr (.inl (0, 0))), (2, .inr (.inl (1, 0))), (3, .inr (.inl (2, 0))), (4, .inr (.inl (3, 0)))], ([((-2), 3)], 4294967312)), (65, ([(0, 6), ((-2147483648), 2147483647), (0, 2147483646), (0, 6)], [8], [], [], []), [(0, .inr (.inr (.inl 0))), (1, .inr (.inl (0, 0))), (2, .inr (.inl (1, 0))), (3, .inr (.inl (2, 0))), (4, .inr (.inl (3, 0)))], ([((-2), 3)], 13))]
set_option maxRecDepth 100000 in
theorem vk_92 {X : nX} {L : Nat} {xs : Nat → Int32} {g : Nat} {S : List Nat} : nV nj_M X L xs g nFT nAT S (nJJ S) nk_92 :=
  aChk_ok (ctx := [nk_91]) (W := ([], [])) (ls := none) (cuts := nu_92) (fuel := 61) (nJJ_ok S)
    ⟨(fun c hc => nomatch hc), (fun c hc => nomatch hc)⟩
    ((fun c hc => by
    simp only [List.mem_cons, List.not_mem_nil, or_false] at hc
    subst hc
    · exact vk_91))
    (fun _ _ _ _ y hy => by cases hy) (by decide +kernel)
/-- Slip_gift -/
def nk_93 : nK := (110, 0, ([((-2147483648), 2147483647)], [8], [], [], []), [.inr (.inr (.inl 0)), .inr (.inl (0, 0))], [], [], [(([((-2147483648), 2147483647), ((-2147483648), 2147483647)], [8], [], [], []), some (.inr (.inl (1, 0))))])
def nu_93 : List aCt := []
set_option maxRecDepth 100000 in
theorem vk_93 {X : nX} {L : Nat} {xs : Nat → Int32} {g : Nat} {S : List Nat} : nV nj_M X L xs g nFT nAT S (nJJ S) nk_93 :=
  aChk_ok (ctx := []) (W := ([], [])) (ls := none) (cuts := nu_93) (fuel := 12) (nJJ_ok S)
    ⟨(fun c hc => nomatch hc), (fun c hc => nomatch hc)⟩
    ((fun c hc => nomatch hc))
    (fun _ _ _ _ y hy => by cases hy) (by decide +kernel)
/-- Slip_together -/
def nk_94 : nK := (111, 2, ([((-2147483648), 2147483647), ((-2147483648), 2147483647)], [8], [], [], []), [.inr (.inr (.inl 0)), .inr (.inl (0, 0)), .inr (.inl (1, 0))], [], [], [(([((-2147483648), 2147483647), ((-2147483648), 2147483647), ((-2147483648), 2147483647)], [8], [], [], []), some (.inr (.inl (2, 0))))])
def nu_94 : List aCt := []
set_option maxRecDepth 100000 in
theorem vk_94 {X : nX} {L : Nat} {xs : Nat → Int32} {g : Nat} {S : List Nat} : nV nj_M X L xs g nFT nAT S (nJJ S) nk_94 :=
  aChk_ok (ctx := [nk_33]) (W := ([], [])) (ls := none) (cuts := nu_94) (fuel := 50) (nJJ_ok S)
    ⟨(fun c hc => nomatch hc), (fun c hc => nomatch hc)⟩
    ((fun c hc => by
    simp only [List.mem_cons, List.not_mem_nil, or_false] at hc
    subst hc
    · exact vk_33))
    (fun _ _ _ _ y hy => by cases hy) (by decide +kernel)
/-- Slip_rests -/
def nk_95 : nK := (114, 3, ([((-2147483648), 2147483647)], [8], [], [], []), [.inr (.inr (.inl 0)), .inr (.inl (0, 0))], [], [], [(([((-2147483648), 2147483647), ((-2147483648), 2147483647)], [8], [], [], []), some (.inr (.inl (1, 0))))])
def nu_95 : List aCt := [(32, ([(0, 2147483646), ((-2147483648), 2147483647), ((-2147483648), 2147483647), (0, 6)], [8], [], [], []), [(0, .inr (.inr (.inl 0))), (1, .inr (.inl (0, 0))), (2, .inr (.inl (1, 0))), (3, .inr (.inl (2, 0))), (4, .inr (.inl (3, 0)))], ([((-2), 3)], 13))]
set_option maxRecDepth 100000 in
theorem vk_95 {X : nX} {L : Nat} {xs : Nat → Int32} {g : Nat} {S : List Nat} : nV nj_M X L xs g nFT nAT S (nJJ S) nk_95 :=
  aChk_ok (ctx := [nk_34]) (W := ([], [])) (ls := none) (cuts := nu_95) (fuel := 35) (nJJ_ok S)
    ⟨(fun c hc => nomatch hc), (fun c hc => nomatch hc)⟩
    ((fun c hc => by
    simp only [List.mem_cons, List.not_mem_nil, or_false] at hc
    subst hc
    · exact vk_34))
    (fun _ _ _ _ y hy => by cases hy) (by decide +kernel)
/-- Slip_cancel -/
def nk_96 : nK := (116, 4, ([((-2147483648), 2147483647), ((-2147483648), 2147483647)], [8], [], [], []), [.inr (.inr (.inl 0)), .inr (.inl (0, 0)), .inr (.inl (1, 0))], [], [], [(([((-2147483648), 2147483647), ((-2147483648), 2147483647), ((-2147483648), 2147483647)], [8], [], [], []), some (.inr (.inl (2, 0))))])
def nu_96 : List aCt := [(24, ([(0, 3), ((-1), 2147483647), ((-2147483648), 2147483647), (0, 6)], [8], [], [], []), [(0, .inr (.inr (.inl 0))), (1, .inr (.inl (0, 0))), (2, .inr (.inl (1, 0))), (3, .inr (.inl (2, 0))), (4, .inr (.inl (3, 0)))], ([((-17), 3)], 118)), (44, ([(0, 3), ((-1), 2147483647), ((-2147483648), 2147483647), (0, 5), (1, 6)], [8], [], [], []), [(0, .inr (.inr (.inl 0))), (1, .inr (.inl (0, 0))), (2, .inr (.inl (1, 0))), (3, .inr (.inl (2, 0))), (4, .inr (.inl (3, 0))), (5, .inr (.inl (4, 0)))], ([((-17), 3), ((-2), 4)], 115))]
set_option maxRecDepth 100000 in
theorem vk_96 {X : nX} {L : Nat} {xs : Nat → Int32} {g : Nat} {S : List Nat} : nV nj_M X L xs g nFT nAT S (nJJ S) nk_96 :=
  aChk_ok (ctx := [nk_35]) (W := ([], [])) (ls := none) (cuts := nu_96) (fuel := 58) (nJJ_ok S)
    ⟨(fun c hc => nomatch hc), (fun c hc => nomatch hc)⟩
    ((fun c hc => by
    simp only [List.mem_cons, List.not_mem_nil, or_false] at hc
    subst hc
    · exact vk_35))
    (fun _ _ _ _ y hy => by cases hy) (by decide +kernel)
/-- Slip_under -/
def nk_97 : nK := (119, 1, ([((-2147483648), 2147483647)], [8], [], [], []), [.inr (.inr (.inl 0)), .inr (.inl (0, 0))], [], [], [(([((-2147483648), 2147483647), ((-2147483648), 2147483647)], [8], [], [], []), some (.inr (.inl (1, 0))))])
def nu_97 : List aCt := []
set_option maxRecDepth 100000 in
theorem vk_97 {X : nX} {L : Nat} {xs : Nat → Int32} {g : Nat} {S : List Nat} : nV nj_M X L xs g nFT nAT S (nJJ S) nk_97 :=
  aChk_ok (ctx := [nk_29]) (W := ([], [])) (ls := none) (cuts := nu_97) (fuel := 25) (nJJ_ok S)
    ⟨(fun c hc => nomatch hc), (fun c hc => nomatch hc)⟩
    ((fun c hc => by
    simp only [List.mem_cons, List.not_mem_nil, or_false] at hc
    subst hc
    · exact vk_29))
    (fun _ _ _ _ y hy => by cases hy) (by decide +kernel)
/-- Slip_common -/
def nk_98 : nK := (120, 1, ([((-2147483648), 2147483647), ((-2147483648), 2147483647)], [8], [], [], []), [.inr (.inr (.inl 0)), .inr (.inl (0, 0)), .inr (.inl (1, 0))], [], [], [(([((-2147483648), 2147483647), ((-2147483648), 2147483647), ((-1), 9)], [8], [], [], []), some (.inr (.inl (2, 0))))])
def nu_98 : List aCt := [(31, ([(0, 9), (0, 9), ((-1), 9), (0, 10)], [8], [], [], []), [(0, .inr (.inr (.inl 0))), (2, .inr (.inl (1, 0))), (3, .inr (.inl (2, 0))), (4, .inr (.inl (3, 0)))], ([((-2), 3)], 21))]
set_option maxRecDepth 100000 in
theorem vk_98 {X : nX} {L : Nat} {xs : Nat → Int32} {g : Nat} {S : List Nat} : nV nj_M X L xs g nFT nAT S (nJJ S) nk_98 :=
  aChk_ok (ctx := [nk_29]) (W := ([], [])) (ls := none) (cuts := nu_98) (fuel := 41) (nJJ_ok S)
    ⟨(fun c hc => nomatch hc), (fun c hc => nomatch hc)⟩
    ((fun c hc => by
    simp only [List.mem_cons, List.not_mem_nil, or_false] at hc
    subst hc
    · exact vk_29))
    (fun _ _ _ _ y hy => by cases hy) (by decide +kernel)
/-- Slip_drawn -/
def nk_99 : nK := (121, 5, ([((-2147483648), 2147483647), ((-2147483648), 2147483647)], [8], [], [], []), [.inr (.inr (.inl 0)), .inr (.inl (0, 0)), .inr (.inl (1, 0))], [(2, 5), (2, 6), (2, 7), (2, 8), (2, 9), (2, 10), (2, 11), (3, 1), (3, 2)], [24, 25, 26, 27, 28], [(([((-2147483648), 2147483647), ((-2147483648), 2147483647), ((-2147483648), 2147483647)], [8], [], [], []), some (.inr (.inl (2, 0))))])
def nu_99 : List aCt := []
set_option maxRecDepth 100000 in
theorem vk_99 {X : nX} {L : Nat} {xs : Nat → Int32} {g : Nat} {S : List Nat} : nV nj_M X L xs g nFT nAT S (nJJ S) nk_99 :=
  aChk_ok (ctx := [nk_50, nk_51]) (W := ([], [])) (ls := none) (cuts := nu_99) (fuel := 31) (nJJ_ok S)
    ⟨(fun c hc => nomatch hc), (fun c hc => nomatch hc)⟩
    ((fun c hc => by
    simp only [List.mem_cons, List.not_mem_nil, or_false] at hc
    rcases hc with rfl | rfl
    · exact vk_50
    · exact vk_51))
    (fun _ _ _ _ y hy => by cases hy) (by decide +kernel)
/-- Slip_odds -/
def nk_100 : nK := (124, 5, ([((-2147483648), 2147483647), ((-2147483648), 2147483647), ((-2147483648), 2147483647)], [8], [], [], []), [.inr (.inr (.inl 0)), .inr (.inl (0, 0)), .inr (.inl (1, 0)), .inr (.inl (2, 0))], [(1002, 5), (1002, 6), (1002, 7), (1002, 8), (1002, 9), (1002, 10), (1002, 11)], [69, 70, 71, 72, 73], [(([((-2147483648), 2147483647), ((-2147483648), 2147483647), ((-2147483648), 2147483647), ((-2147483648), 2147483647)], [8], [], [], []), some (.inr (.inl (3, 0))))])
def nu_100 : List aCt := [(47, ([(0, 5), (1, 40), ((-2147483648), 2147483647), ((-2147483648), 2147483647), (0, 40)], [8], [], [], []), [(0, .inr (.inr (.inl 0))), (1, .inr (.inl (0, 0))), (2, .inr (.inl (1, 0))), (3, .inr (.inl (2, 0))), (4, .inr (.inl (3, 0))), (5, .inr (.inl (4, 0)))], ([((-2), 4)], 81))]
set_option maxRecDepth 100000 in
theorem vk_100 {X : nX} {L : Nat} {xs : Nat → Int32} {g : Nat} {S : List Nat} : nV nj_M X L xs g nFT nAT S (nJJ S) nk_100 :=
  aChk_ok (ctx := [nk_38, nk_44]) (W := ([], [])) (ls := none) (cuts := nu_100) (fuel := 37) (nJJ_ok S)
    ⟨(fun c hc => nomatch hc), (fun c hc => nomatch hc)⟩
    ((fun c hc => by
    simp only [List.mem_cons, List.not_mem_nil, or_false] at hc
    rcases hc with rfl | rfl
    · exact vk_38
    · exact vk_44))
    (fun _ _ _ _ y hy => by cases hy) (by decide +kernel)
/-- Slip_told -/
def nk_101 : nK := (135, 0, ([((-2147483648), 2147483647)], [8], [], [], []), [.inr (.inr (.inl 0)), .inr (.inl (0, 0))], [], [], [(([((-2147483648), 2147483647), ((-2147483648), 2147483647)], [8], [], [], []), some (.inr (.inl (1, 0))))])
def nu_101 : List aCt := []
set_option maxRecDepth 100000 in
theorem vk_101 {X : nX} {L : Nat} {xs : Nat → Int32} {g : Nat} {S : List Nat} : nV nj_M X L xs g nFT nAT S (nJJ S) nk_101 :=
  aChk_ok (ctx := []) (W := ([], [])) (ls := none) (cuts := nu_101) (fuel := 15) (nJJ_ok S)
    ⟨(fun c hc => nomatch hc), (fun c hc => nomatch hc)⟩
    ((fun c hc => nomatch hc))
    (fun _ _ _ _ y hy => by cases hy) (by decide +kernel)
/-- Slip_count -/
def nk_102 : nK := (153, 0, ([((-2147483648), 2147483647)], [8], [], [], []), [.inr (.inr (.inl 0)), .inr (.inl (0, 0))], [], [], [(([((-2147483648), 2147483647), ((-1), 940)], [8], [], [], []), some (.inr (.inl (1, 0))))])
def nu_102 : List aCt := []
set_option maxRecDepth 100000 in
theorem vk_102 {X : nX} {L : Nat} {xs : Nat → Int32} {g : Nat} {S : List Nat} : nV nj_M X L xs g nFT nAT S (nJJ S) nk_102 :=
  aChk_ok (ctx := []) (W := ([], [])) (ls := none) (cuts := nu_102) (fuel := 16) (nJJ_ok S)
    ⟨(fun c hc => nomatch hc), (fun c hc => nomatch hc)⟩
    ((fun c hc => nomatch hc))
    (fun _ _ _ _ y hy => by cases hy) (by decide +kernel)
/-- Phrase_addA -/
def nk_103 : nK := (141, 0, ([((-2147483648), 115), ((-2147483648), 2147483647), ((-2147483648), 2147483647)], [4], [], [], []), [.inr (.inr (.inl 0)), .inr (.inl (0, 0)), .inr (.inl (1, 0)), .inr (.inl (2, 0))], [(4, 4)], [30, 31, 32], [(([((-2147483648), 115), ((-2147483648), 2147483647), ((-2147483648), 2147483647), (1, 1)], [4], [], [], []), some (.inr (.inl (3, 0))))])
def nu_103 : List aCt := []
set_option maxRecDepth 100000 in
theorem vk_103 {X : nX} {L : Nat} {xs : Nat → Int32} {g : Nat} {S : List Nat} : nV nj_M X L xs g nFT nAT S (nJJ S) nk_103 :=
  aChk_ok (ctx := []) (W := ([], [sw_1, sw_2, sw_3])) (ls := none) (cuts := nu_103) (fuel := 34) (nJJ_ok S)
    ⟨(fun c hc => nomatch hc), (fun c hc => by
    simp only [List.mem_cons, List.not_mem_nil, or_false] at hc
    rcases hc with rfl | rfl | rfl
    · exact sw_1_ok
    · exact sw_2_ok
    · exact sw_3_ok)⟩
    ((fun c hc => nomatch hc))
    (fun _ _ _ _ y hy => by cases hy) (by decide +kernel)
/-- Phrase_addB -/
def nk_104 : nK := (141, 0, ([(118, 2147483647), ((-2147483648), 2147483647), ((-2147483648), 2147483647)], [4], [], [], []), [.inr (.inr (.inl 0)), .inr (.inl (0, 0)), .inr (.inl (1, 0)), .inr (.inl (2, 0))], [(4, 4)], [30, 31, 32], [(([(118, 2147483647), ((-2147483648), 2147483647), ((-2147483648), 2147483647), (1, 1)], [4], [], [], []), some (.inr (.inl (3, 0))))])
def nu_104 : List aCt := []
set_option maxRecDepth 100000 in
theorem vk_104 {X : nX} {L : Nat} {xs : Nat → Int32} {g : Nat} {S : List Nat} : nV nj_M X L xs g nFT nAT S (nJJ S) nk_104 :=
  aChk_ok (ctx := []) (W := ([], [sw_1, sw_2, sw_4])) (ls := none) (cuts := nu_104) (fuel := 34) (nJJ_ok S)
    ⟨(fun c hc => nomatch hc), (fun c hc => by
    simp only [List.mem_cons, List.not_mem_nil, or_false] at hc
    rcases hc with rfl | rfl | rfl
    · exact sw_1_ok
    · exact sw_2_ok
    · exact sw_4_ok)⟩
    ((fun c hc => nomatch hc))
    (fun _ _ _ _ y hy => by cases hy) (by decide +kernel)
/-- Phrase_addC -/
def nk_105 : nK := (141, 0, ([((-2147483648), 2147483647), ((-2147483648), 2147483647), (0, 5)], [4], [], [], []), [.inr (.inr (.inl 0)), .inr (.inl (0, 0)), .inr (.inl (1, 0)), .inr (.inl (2, 0))], [(4, 4)], [30, 31, 32], [(([((-2147483648), 2147483647), ((-2147483648), 2147483647), (0, 5), (1, 1)], [4], [], [], []), some (.inr (.inl (3, 0))))])
def nu_105 : List aCt := []
set_option maxRecDepth 100000 in
theorem vk_105 {X : nX} {L : Nat} {xs : Nat → Int32} {g : Nat} {S : List Nat} : nV nj_M X L xs g nFT nAT S (nJJ S) nk_105 :=
  aChk_ok (ctx := []) (W := ([], [sw_1, sw_2, sw_6])) (ls := none) (cuts := nu_105) (fuel := 34) (nJJ_ok S)
    ⟨(fun c hc => nomatch hc), (fun c hc => by
    simp only [List.mem_cons, List.not_mem_nil, or_false] at hc
    rcases hc with rfl | rfl | rfl
    · exact sw_1_ok
    · exact sw_2_ok
    · exact sw_6_ok)⟩
    ((fun c hc => nomatch hc))
    (fun _ _ _ _ y hy => by cases hy) (by decide +kernel)
/-- Phrase_addD -/
def nk_106 : nK := (141, 0, ([((-2147483648), 2147483647), (0, 9)], [4], [], [], []), [.inr (.inr (.inl 0)), .inl 117, .inr (.inl (0, 0)), .inr (.inl (1, 0))], [(4, 4)], [30, 31, 32], [(([((-2147483648), 2147483647), (0, 9), (1, 1)], [4], [], [], []), some (.inr (.inl (2, 0))))])
def nu_106 : List aCt := []
set_option maxRecDepth 100000 in
theorem vk_106 {X : nX} {L : Nat} {xs : Nat → Int32} {g : Nat} {S : List Nat} : nV nj_M X L xs g nFT nAT S (nJJ S) nk_106 :=
  aChk_ok (ctx := []) (W := ([], [sw_1, sw_2, sw_5])) (ls := none) (cuts := nu_106) (fuel := 34) (nJJ_ok S)
    ⟨(fun c hc => nomatch hc), (fun c hc => by
    simp only [List.mem_cons, List.not_mem_nil, or_false] at hc
    rcases hc with rfl | rfl | rfl
    · exact sw_1_ok
    · exact sw_2_ok
    · exact sw_5_ok)⟩
    ((fun c hc => nomatch hc))
    (fun _ _ _ _ y hy => by cases hy) (by decide +kernel)
/-- Phrase_readMeasure -/
def nk_107 : nK := (143, 2, ([(118, 121)], [4, 7], [], [], []), [.inr (.inr (.inl 0)), .inr (.inr (.inl 1)), .inr (.inl (0, 0))], [(4, 4), (7, 7), (7, 8), (7, 10), (7, 11)], [30, 31, 32], [(([(118, 121)], [4, 7], [], [], []), some (.inl 0)), (([(118, 121)], [4, 7], [], [], []), some (.inl 1))])
def nu_107 : List aCt := []
set_option maxRecDepth 100000 in
theorem vk_107 {X : nX} {L : Nat} {xs : Nat → Int32} {g : Nat} {S : List Nat} : nV nj_M X L xs g nFT nAT S (nJJ S) nk_107 :=
  aChk_ok (ctx := [nk_13, nk_104]) (W := ([], [])) (ls := none) (cuts := nu_107) (fuel := 48) (nJJ_ok S)
    ⟨(fun c hc => nomatch hc), (fun c hc => nomatch hc)⟩
    ((fun c hc => by
    simp only [List.mem_cons, List.not_mem_nil, or_false] at hc
    rcases hc with rfl | rfl
    · exact vk_13
    · exact vk_104))
    (fun _ _ _ _ y hy => by cases hy) (by decide +kernel)
/-- Phrase_readHas -/
def nk_108 : nK := (142, 2, ([], [4, 7, 0], [], [], []), [.inr (.inr (.inl 0)), .inr (.inr (.inl 1)), .inr (.inr (.inl 2)), .inl 116, .inl 2], [(4, 4), (7, 7), (7, 10), (7, 11)], [30, 31, 32], [(([], [4, 7, 0], [], [], []), some (.inl 0)), (([], [4, 7, 0], [], [], []), some (.inl 1))])
def nu_108 : List aCt := []
set_option maxRecDepth 100000 in
theorem vk_108 {X : nX} {L : Nat} {xs : Nat → Int32} {g : Nat} {S : List Nat} : nV nj_M X L xs g nFT nAT S (nJJ S) nk_108 :=
  aChk_ok (ctx := [nk_19, nk_105]) (W := ([], [])) (ls := none) (cuts := nu_108) (fuel := 32) (nJJ_ok S)
    ⟨(fun c hc => nomatch hc), (fun c hc => nomatch hc)⟩
    ((fun c hc => by
    simp only [List.mem_cons, List.not_mem_nil, or_false] at hc
    rcases hc with rfl | rfl
    · exact vk_19
    · exact vk_105))
    (fun _ _ _ _ y hy => by cases hy) (by decide +kernel)
/-- Phrase_readUnder -/
def nk_109 : nK := (142, 2, ([], [4, 7, 0], [], [], []), [.inr (.inr (.inl 0)), .inr (.inr (.inl 1)), .inr (.inr (.inl 2)), .inl 117, .inl 1], [(4, 4), (7, 7), (7, 10), (7, 11)], [30, 31, 32], [(([], [4, 7, 0], [], [], []), some (.inl 0)), (([], [4, 7, 0], [], [], []), some (.inl 1))])
def nu_109 : List aCt := []
set_option maxRecDepth 100000 in
theorem vk_109 {X : nX} {L : Nat} {xs : Nat → Int32} {g : Nat} {S : List Nat} : nV nj_M X L xs g nFT nAT S (nJJ S) nk_109 :=
  aChk_ok (ctx := [nk_18, nk_106]) (W := ([], [])) (ls := none) (cuts := nu_109) (fuel := 32) (nJJ_ok S)
    ⟨(fun c hc => nomatch hc), (fun c hc => nomatch hc)⟩
    ((fun c hc => by
    simp only [List.mem_cons, List.not_mem_nil, or_false] at hc
    rcases hc with rfl | rfl
    · exact vk_18
    · exact vk_106))
    (fun _ _ _ _ y hy => by cases hy) (by decide +kernel)
/-- Phrase_readOne9 -/
def nk_110 : nK := (140, 1, ([], [4, 7, 0], [], [], []), [.inr (.inr (.inl 0)), .inr (.inr (.inl 1)), .inr (.inr (.inl 2)), .inl 9], [(7, 10), (7, 11)], [], [(([], [4, 7, 0], [], [], []), some (.inl 0))])
def nu_110 : List aCt := []
set_option maxRecDepth 100000 in
theorem vk_110 {X : nX} {L : Nat} {xs : Nat → Int32} {g : Nat} {S : List Nat} : nV nj_M X L xs g nFT nAT S (nJJ S) nk_110 :=
  aChk_ok (ctx := []) (W := ([], [])) (ls := none) (cuts := nu_110) (fuel := 43) (nJJ_ok S)
    ⟨(fun c hc => nomatch hc), (fun c hc => nomatch hc)⟩
    ((fun c hc => nomatch hc))
    (fun _ _ _ _ y hy => by cases hy) (by decide +kernel)
/-- Phrase_readAll9 -/
def nk_111 : nK := (139, 2, ([], [4, 7, 0], [], [], []), [.inr (.inr (.inl 0)), .inr (.inr (.inl 1)), .inr (.inr (.inl 2)), .inl 9], [(7, 10), (7, 11)], [], [(([], [4, 7, 0], [], [], []), some (.inl 0))])
def nu_111 : List aCt := []
set_option maxRecDepth 100000 in
theorem vk_111 {X : nX} {L : Nat} {xs : Nat → Int32} {g : Nat} {S : List Nat} : nV nj_M X L xs g nFT nAT S (nJJ S) nk_111 :=
  aChk_ok (ctx := [nk_110]) (W := ([], [])) (ls := none) (cuts := nu_111) (fuel := 10) (nJJ_ok S)
    ⟨(fun c hc => nomatch hc), (fun c hc => nomatch hc)⟩
    ((fun c hc => by
    simp only [List.mem_cons, List.not_mem_nil, or_false] at hc
    subst hc
    · exact vk_110))
    (fun _ _ _ _ y hy => by cases hy) (by decide +kernel)
/-- Phrase_readCond9 -/
def nk_112 : nK := (138, 3, ([], [4, 7, 0], [], [], []), [.inr (.inr (.inl 0)), .inr (.inr (.inl 1)), .inr (.inr (.inl 2)), .inl 9], [(7, 10), (7, 11)], [], [(([], [4, 7, 0], [], [], []), some (.inl 0))])
def nu_112 : List aCt := []
set_option maxRecDepth 100000 in
theorem vk_112 {X : nX} {L : Nat} {xs : Nat → Int32} {g : Nat} {S : List Nat} : nV nj_M X L xs g nFT nAT S (nJJ S) nk_112 :=
  aChk_ok (ctx := [nk_111]) (W := ([], [])) (ls := none) (cuts := nu_112) (fuel := 10) (nJJ_ok S)
    ⟨(fun c hc => nomatch hc), (fun c hc => nomatch hc)⟩
    ((fun c hc => by
    simp only [List.mem_cons, List.not_mem_nil, or_false] at hc
    subst hc
    · exact vk_111))
    (fun _ _ _ _ y hy => by cases hy) (by decide +kernel)
/-- Phrase_readOne8 -/
def nk_113 : nK := (140, 4, ([], [4, 7, 0], [], [], []), [.inr (.inr (.inl 0)), .inr (.inr (.inl 1)), .inr (.inr (.inl 2)), .inl 8], [(4, 4), (4, 5), (7, 7), (7, 8), (7, 10), (7, 11)], [30, 31, 32], [(([], [4, 7, 0], [], [], []), some (.inl 0)), (([], [4, 7, 0], [], [], []), some (.inl 1))])
def nu_113 : List aCt := []
set_option maxRecDepth 100000 in
theorem vk_113 {X : nX} {L : Nat} {xs : Nat → Int32} {g : Nat} {S : List Nat} : nV nj_M X L xs g nFT nAT S (nJJ S) nk_113 :=
  aChk_ok (ctx := [nk_103, nk_107, nk_108, nk_109, nk_110, nk_112]) (W := ([], [])) (ls := none) (cuts := nu_113) (fuel := 61) (nJJ_ok S)
    ⟨(fun c hc => nomatch hc), (fun c hc => nomatch hc)⟩
    ((fun c hc => by
    simp only [List.mem_cons, List.not_mem_nil, or_false] at hc
    rcases hc with rfl | rfl | rfl | rfl | rfl | rfl
    · exact vk_103
    · exact vk_107
    · exact vk_108
    · exact vk_109
    · exact vk_110
    · exact vk_112))
    (fun _ _ _ _ y hy => by cases hy) (by decide +kernel)
/-- Phrase_readAll8 -/
def nk_114 : nK := (139, 5, ([], [4, 7, 0], [], [], []), [.inr (.inr (.inl 0)), .inr (.inr (.inl 1)), .inr (.inr (.inl 2)), .inl 8], [(4, 4), (4, 5), (7, 7), (7, 8), (7, 10), (7, 11)], [30, 31, 32], [(([], [4, 7, 0], [], [], []), some (.inl 0)), (([], [4, 7, 0], [], [], []), some (.inl 1))])
def nu_114 : List aCt := [(15, ([(0, 20)], [4, 7, 0], [], [], []), [(0, .inr (.inr (.inl 0))), (1, .inr (.inr (.inl 1))), (2, .inr (.inr (.inl 2))), (3, .inl 8), (4, .inr (.inl (0, 0)))], ([((-2), 0)], 41))]
set_option maxRecDepth 100000 in
theorem vk_114 {X : nX} {L : Nat} {xs : Nat → Int32} {g : Nat} {S : List Nat} : nV nj_M X L xs g nFT nAT S (nJJ S) nk_114 :=
  aChk_ok (ctx := [nk_103, nk_113]) (W := ([], [])) (ls := none) (cuts := nu_114) (fuel := 46) (nJJ_ok S)
    ⟨(fun c hc => nomatch hc), (fun c hc => nomatch hc)⟩
    ((fun c hc => by
    simp only [List.mem_cons, List.not_mem_nil, or_false] at hc
    rcases hc with rfl | rfl
    · exact vk_103
    · exact vk_113))
    (fun _ _ _ _ y hy => by cases hy) (by decide +kernel)
/-- Phrase_readCond8 -/
def nk_115 : nK := (138, 6, ([], [4, 7, 0], [], [], []), [.inr (.inr (.inl 0)), .inr (.inr (.inl 1)), .inr (.inr (.inl 2)), .inl 8], [(4, 4), (4, 5), (7, 7), (7, 8), (7, 10), (7, 11)], [30, 31, 32], [(([], [4, 7, 0], [], [], []), some (.inl 0)), (([], [4, 7, 0], [], [], []), some (.inl 1))])
def nu_115 : List aCt := [(15, ([(0, 20)], [4, 7, 0], [], [], []), [(0, .inr (.inr (.inl 0))), (1, .inr (.inr (.inl 1))), (2, .inr (.inr (.inl 2))), (3, .inl 8), (4, .inr (.inl (0, 0)))], ([((-2), 0)], 41))]
set_option maxRecDepth 100000 in
theorem vk_115 {X : nX} {L : Nat} {xs : Nat → Int32} {g : Nat} {S : List Nat} : nV nj_M X L xs g nFT nAT S (nJJ S) nk_115 :=
  aChk_ok (ctx := [nk_103, nk_114]) (W := ([], [])) (ls := none) (cuts := nu_115) (fuel := 46) (nJJ_ok S)
    ⟨(fun c hc => nomatch hc), (fun c hc => nomatch hc)⟩
    ((fun c hc => by
    simp only [List.mem_cons, List.not_mem_nil, or_false] at hc
    rcases hc with rfl | rfl
    · exact vk_103
    · exact vk_114))
    (fun _ _ _ _ y hy => by cases hy) (by decide +kernel)
/-- Phrase_readOne7 -/
def nk_116 : nK := (140, 7, ([], [4, 7, 0], [], [], []), [.inr (.inr (.inl 0)), .inr (.inr (.inl 1)), .inr (.inr (.inl 2)), .inl 7], [(4, 4), (4, 5), (7, 7), (7, 8), (7, 10), (7, 11)], [30, 31, 32], [(([], [4, 7, 0], [], [], []), some (.inl 0)), (([], [4, 7, 0], [], [], []), some (.inl 1))])
def nu_116 : List aCt := []
set_option maxRecDepth 100000 in
theorem vk_116 {X : nX} {L : Nat} {xs : Nat → Int32} {g : Nat} {S : List Nat} : nV nj_M X L xs g nFT nAT S (nJJ S) nk_116 :=
  aChk_ok (ctx := [nk_14, nk_103, nk_107, nk_108, nk_109, nk_113, nk_115]) (W := ([], [])) (ls := none) (cuts := nu_116) (fuel := 68) (nJJ_ok S)
    ⟨(fun c hc => nomatch hc), (fun c hc => nomatch hc)⟩
    ((fun c hc => by
    simp only [List.mem_cons, List.not_mem_nil, or_false] at hc
    rcases hc with rfl | rfl | rfl | rfl | rfl | rfl | rfl
    · exact vk_14
    · exact vk_103
    · exact vk_107
    · exact vk_108
    · exact vk_109
    · exact vk_113
    · exact vk_115))
    (fun _ _ _ _ y hy => by cases hy) (by decide +kernel)
/-- Phrase_readAll7 -/
def nk_117 : nK := (139, 8, ([], [4, 7, 0], [], [], []), [.inr (.inr (.inl 0)), .inr (.inr (.inl 1)), .inr (.inr (.inl 2)), .inl 7], [(4, 4), (4, 5), (7, 7), (7, 8), (7, 10), (7, 11)], [30, 31, 32], [(([], [4, 7, 0], [], [], []), some (.inl 0)), (([], [4, 7, 0], [], [], []), some (.inl 1))])
def nu_117 : List aCt := [(15, ([(0, 20)], [4, 7, 0], [], [], []), [(0, .inr (.inr (.inl 0))), (1, .inr (.inr (.inl 1))), (2, .inr (.inr (.inl 2))), (3, .inl 7), (4, .inr (.inl (0, 0)))], ([((-2), 0)], 41))]
set_option maxRecDepth 100000 in
theorem vk_117 {X : nX} {L : Nat} {xs : Nat → Int32} {g : Nat} {S : List Nat} : nV nj_M X L xs g nFT nAT S (nJJ S) nk_117 :=
  aChk_ok (ctx := [nk_103, nk_116]) (W := ([], [])) (ls := none) (cuts := nu_117) (fuel := 46) (nJJ_ok S)
    ⟨(fun c hc => nomatch hc), (fun c hc => nomatch hc)⟩
    ((fun c hc => by
    simp only [List.mem_cons, List.not_mem_nil, or_false] at hc
    rcases hc with rfl | rfl
    · exact vk_103
    · exact vk_116))
    (fun _ _ _ _ y hy => by cases hy) (by decide +kernel)
/-- Phrase_readCond7 -/
def nk_118 : nK := (138, 9, ([], [4, 7, 0], [], [], []), [.inr (.inr (.inl 0)), .inr (.inr (.inl 1)), .inr (.inr (.inl 2)), .inl 7], [(4, 4), (4, 5), (7, 7), (7, 8), (7, 10), (7, 11)], [30, 31, 32], [(([], [4, 7, 0], [], [], []), some (.inl 0)), (([], [4, 7, 0], [], [], []), some (.inl 1))])
def nu_118 : List aCt := [(15, ([(0, 20)], [4, 7, 0], [], [], []), [(0, .inr (.inr (.inl 0))), (1, .inr (.inr (.inl 1))), (2, .inr (.inr (.inl 2))), (3, .inl 7), (4, .inr (.inl (0, 0)))], ([((-2), 0)], 41))]
set_option maxRecDepth 100000 in
theorem vk_118 {X : nX} {L : Nat} {xs : Nat → Int32} {g : Nat} {S : List Nat} : nV nj_M X L xs g nFT nAT S (nJJ S) nk_118 :=
  aChk_ok (ctx := [nk_103, nk_117]) (W := ([], [])) (ls := none) (cuts := nu_118) (fuel := 46) (nJJ_ok S)
    ⟨(fun c hc => nomatch hc), (fun c hc => nomatch hc)⟩
    ((fun c hc => by
    simp only [List.mem_cons, List.not_mem_nil, or_false] at hc
    rcases hc with rfl | rfl
    · exact vk_103
    · exact vk_117))
    (fun _ _ _ _ y hy => by cases hy) (by decide +kernel)
/-- Phrase_readOne6 -/
def nk_119 : nK := (140, 10, ([], [4, 7, 0], [], [], []), [.inr (.inr (.inl 0)), .inr (.inr (.inl 1)), .inr (.inr (.inl 2)), .inl 6], [(4, 4), (4, 5), (7, 7), (7, 8), (7, 10), (7, 11)], [30, 31, 32], [(([], [4, 7, 0], [], [], []), some (.inl 0)), (([], [4, 7, 0], [], [], []), some (.inl 1))])
def nu_119 : List aCt := []
set_option maxRecDepth 100000 in
theorem vk_119 {X : nX} {L : Nat} {xs : Nat → Int32} {g : Nat} {S : List Nat} : nV nj_M X L xs g nFT nAT S (nJJ S) nk_119 :=
  aChk_ok (ctx := [nk_14, nk_103, nk_107, nk_108, nk_109, nk_116, nk_118]) (W := ([], [])) (ls := none) (cuts := nu_119) (fuel := 68) (nJJ_ok S)
    ⟨(fun c hc => nomatch hc), (fun c hc => nomatch hc)⟩
    ((fun c hc => by
    simp only [List.mem_cons, List.not_mem_nil, or_false] at hc
    rcases hc with rfl | rfl | rfl | rfl | rfl | rfl | rfl
    · exact vk_14
    · exact vk_103
    · exact vk_107
    · exact vk_108
    · exact vk_109
    · exact vk_116
    · exact vk_118))
    (fun _ _ _ _ y hy => by cases hy) (by decide +kernel)
/-- Phrase_readAll6 -/
def nk_120 : nK := (139, 11, ([], [4, 7, 0], [], [], []), [.inr (.inr (.inl 0)), .inr (.inr (.inl 1)), .inr (.inr (.inl 2)), .inl 6], [(4, 4), (4, 5), (7, 7), (7, 8), (7, 10), (7, 11)], [30, 31, 32], [(([], [4, 7, 0], [], [], []), some (.inl 0)), (([], [4, 7, 0], [], [], []), some (.inl 1))])
def nu_120 : List aCt := [(15, ([(0, 20)], [4, 7, 0], [], [], []), [(0, .inr (.inr (.inl 0))), (1, .inr (.inr (.inl 1))), (2, .inr (.inr (.inl 2))), (3, .inl 6), (4, .inr (.inl (0, 0)))], ([((-2), 0)], 41))]
set_option maxRecDepth 100000 in
theorem vk_120 {X : nX} {L : Nat} {xs : Nat → Int32} {g : Nat} {S : List Nat} : nV nj_M X L xs g nFT nAT S (nJJ S) nk_120 :=
  aChk_ok (ctx := [nk_103, nk_119]) (W := ([], [])) (ls := none) (cuts := nu_120) (fuel := 46) (nJJ_ok S)
    ⟨(fun c hc => nomatch hc), (fun c hc => nomatch hc)⟩
    ((fun c hc => by
    simp only [List.mem_cons, List.not_mem_nil, or_false] at hc
    rcases hc with rfl | rfl
    · exact vk_103
    · exact vk_119))
    (fun _ _ _ _ y hy => by cases hy) (by decide +kernel)
/-- Phrase_readCond6 -/
def nk_121 : nK := (138, 12, ([], [4, 7, 0], [], [], []), [.inr (.inr (.inl 0)), .inr (.inr (.inl 1)), .inr (.inr (.inl 2)), .inl 6], [(4, 4), (4, 5), (7, 7), (7, 8), (7, 10), (7, 11)], [30, 31, 32], [(([], [4, 7, 0], [], [], []), some (.inl 0)), (([], [4, 7, 0], [], [], []), some (.inl 1))])
def nu_121 : List aCt := [(15, ([(0, 20)], [4, 7, 0], [], [], []), [(0, .inr (.inr (.inl 0))), (1, .inr (.inr (.inl 1))), (2, .inr (.inr (.inl 2))), (3, .inl 6), (4, .inr (.inl (0, 0)))], ([((-2), 0)], 41))]
set_option maxRecDepth 100000 in
theorem vk_121 {X : nX} {L : Nat} {xs : Nat → Int32} {g : Nat} {S : List Nat} : nV nj_M X L xs g nFT nAT S (nJJ S) nk_121 :=
  aChk_ok (ctx := [nk_103, nk_120]) (W := ([], [])) (ls := none) (cuts := nu_121) (fuel := 46) (nJJ_ok S)
    ⟨(fun c hc => nomatch hc), (fun c hc => nomatch hc)⟩
    ((fun c hc => by
    simp only [List.mem_cons, List.not_mem_nil, or_false] at hc
    rcases hc with rfl | rfl
    · exact vk_103
    · exact vk_120))
    (fun _ _ _ _ y hy => by cases hy) (by decide +kernel)
/-- Phrase_readOne5 -/
def nk_122 : nK := (140, 13, ([], [4, 7, 0], [], [], []), [.inr (.inr (.inl 0)), .inr (.inr (.inl 1)), .inr (.inr (.inl 2)), .inl 5], [(4, 4), (4, 5), (7, 7), (7, 8), (7, 10), (7, 11)], [30, 31, 32], [(([], [4, 7, 0], [], [], []), some (.inl 0)), (([], [4, 7, 0], [], [], []), some (.inl 1))])
def nu_122 : List aCt := []
set_option maxRecDepth 100000 in
theorem vk_122 {X : nX} {L : Nat} {xs : Nat → Int32} {g : Nat} {S : List Nat} : nV nj_M X L xs g nFT nAT S (nJJ S) nk_122 :=
  aChk_ok (ctx := [nk_14, nk_103, nk_107, nk_108, nk_109, nk_119, nk_121]) (W := ([], [])) (ls := none) (cuts := nu_122) (fuel := 68) (nJJ_ok S)
    ⟨(fun c hc => nomatch hc), (fun c hc => nomatch hc)⟩
    ((fun c hc => by
    simp only [List.mem_cons, List.not_mem_nil, or_false] at hc
    rcases hc with rfl | rfl | rfl | rfl | rfl | rfl | rfl
    · exact vk_14
    · exact vk_103
    · exact vk_107
    · exact vk_108
    · exact vk_109
    · exact vk_119
    · exact vk_121))
    (fun _ _ _ _ y hy => by cases hy) (by decide +kernel)
/-- Phrase_readAll5 -/
def nk_123 : nK := (139, 14, ([], [4, 7, 0], [], [], []), [.inr (.inr (.inl 0)), .inr (.inr (.inl 1)), .inr (.inr (.inl 2)), .inl 5], [(4, 4), (4, 5), (7, 7), (7, 8), (7, 10), (7, 11)], [30, 31, 32], [(([], [4, 7, 0], [], [], []), some (.inl 0)), (([], [4, 7, 0], [], [], []), some (.inl 1))])
def nu_123 : List aCt := [(15, ([(0, 20)], [4, 7, 0], [], [], []), [(0, .inr (.inr (.inl 0))), (1, .inr (.inr (.inl 1))), (2, .inr (.inr (.inl 2))), (3, .inl 5), (4, .inr (.inl (0, 0)))], ([((-2), 0)], 41))]
set_option maxRecDepth 100000 in
theorem vk_123 {X : nX} {L : Nat} {xs : Nat → Int32} {g : Nat} {S : List Nat} : nV nj_M X L xs g nFT nAT S (nJJ S) nk_123 :=
  aChk_ok (ctx := [nk_103, nk_122]) (W := ([], [])) (ls := none) (cuts := nu_123) (fuel := 46) (nJJ_ok S)
    ⟨(fun c hc => nomatch hc), (fun c hc => nomatch hc)⟩
    ((fun c hc => by
    simp only [List.mem_cons, List.not_mem_nil, or_false] at hc
    rcases hc with rfl | rfl
    · exact vk_103
    · exact vk_122))
    (fun _ _ _ _ y hy => by cases hy) (by decide +kernel)
/-- Phrase_readCond5 -/
def nk_124 : nK := (138, 15, ([], [4, 7, 0], [], [], []), [.inr (.inr (.inl 0)), .inr (.inr (.inl 1)), .inr (.inr (.inl 2)), .inl 5], [(4, 4), (4, 5), (7, 7), (7, 8), (7, 10), (7, 11)], [30, 31, 32], [(([], [4, 7, 0], [], [], []), some (.inl 0)), (([], [4, 7, 0], [], [], []), some (.inl 1))])
def nu_124 : List aCt := [(15, ([(0, 20)], [4, 7, 0], [], [], []), [(0, .inr (.inr (.inl 0))), (1, .inr (.inr (.inl 1))), (2, .inr (.inr (.inl 2))), (3, .inl 5), (4, .inr (.inl (0, 0)))], ([((-2), 0)], 41))]
set_option maxRecDepth 100000 in
theorem vk_124 {X : nX} {L : Nat} {xs : Nat → Int32} {g : Nat} {S : List Nat} : nV nj_M X L xs g nFT nAT S (nJJ S) nk_124 :=
  aChk_ok (ctx := [nk_103, nk_123]) (W := ([], [])) (ls := none) (cuts := nu_124) (fuel := 46) (nJJ_ok S)
    ⟨(fun c hc => nomatch hc), (fun c hc => nomatch hc)⟩
    ((fun c hc => by
    simp only [List.mem_cons, List.not_mem_nil, or_false] at hc
    rcases hc with rfl | rfl
    · exact vk_103
    · exact vk_123))
    (fun _ _ _ _ y hy => by cases hy) (by decide +kernel)
/-- Phrase_readOne4 -/
def nk_125 : nK := (140, 16, ([], [4, 7, 0], [], [], []), [.inr (.inr (.inl 0)), .inr (.inr (.inl 1)), .inr (.inr (.inl 2)), .inl 4], [(4, 4), (4, 5), (7, 7), (7, 8), (7, 10), (7, 11)], [30, 31, 32], [(([], [4, 7, 0], [], [], []), some (.inl 0)), (([], [4, 7, 0], [], [], []), some (.inl 1))])
def nu_125 : List aCt := []
set_option maxRecDepth 100000 in
theorem vk_125 {X : nX} {L : Nat} {xs : Nat → Int32} {g : Nat} {S : List Nat} : nV nj_M X L xs g nFT nAT S (nJJ S) nk_125 :=
  aChk_ok (ctx := [nk_14, nk_103, nk_107, nk_108, nk_109, nk_122, nk_124]) (W := ([], [])) (ls := none) (cuts := nu_125) (fuel := 68) (nJJ_ok S)
    ⟨(fun c hc => nomatch hc), (fun c hc => nomatch hc)⟩
    ((fun c hc => by
    simp only [List.mem_cons, List.not_mem_nil, or_false] at hc
    rcases hc with rfl | rfl | rfl | rfl | rfl | rfl | rfl
    · exact vk_14
    · exact vk_103
    · exact vk_107
    · exact vk_108
    · exact vk_109
    · exact vk_122
    · exact vk_124))
    (fun _ _ _ _ y hy => by cases hy) (by decide +kernel)
/-- Phrase_readAll4 -/
def nk_126 : nK := (139, 17, ([], [4, 7, 0], [], [], []), [.inr (.inr (.inl 0)), .inr (.inr (.inl 1)), .inr (.inr (.inl 2)), .inl 4], [(4, 4), (4, 5), (7, 7), (7, 8), (7, 10), (7, 11)], [30, 31, 32], [(([], [4, 7, 0], [], [], []), some (.inl 0)), (([], [4, 7, 0], [], [], []), some (.inl 1))])
def nu_126 : List aCt := [(15, ([(0, 20)], [4, 7, 0], [], [], []), [(0, .inr (.inr (.inl 0))), (1, .inr (.inr (.inl 1))), (2, .inr (.inr (.inl 2))), (3, .inl 4), (4, .inr (.inl (0, 0)))], ([((-2), 0)], 41))]
set_option maxRecDepth 100000 in
theorem vk_126 {X : nX} {L : Nat} {xs : Nat → Int32} {g : Nat} {S : List Nat} : nV nj_M X L xs g nFT nAT S (nJJ S) nk_126 :=
  aChk_ok (ctx := [nk_103, nk_125]) (W := ([], [])) (ls := none) (cuts := nu_126) (fuel := 46) (nJJ_ok S)
    ⟨(fun c hc => nomatch hc), (fun c hc => nomatch hc)⟩
    ((fun c hc => by
    simp only [List.mem_cons, List.not_mem_nil, or_false] at hc
    rcases hc with rfl | rfl
    · exact vk_103
    · exact vk_125))
    (fun _ _ _ _ y hy => by cases hy) (by decide +kernel)
/-- Phrase_readCond4 -/
def nk_127 : nK := (138, 18, ([], [4, 7, 0], [], [], []), [.inr (.inr (.inl 0)), .inr (.inr (.inl 1)), .inr (.inr (.inl 2)), .inl 4], [(4, 4), (4, 5), (7, 7), (7, 8), (7, 10), (7, 11)], [30, 31, 32], [(([], [4, 7, 0], [], [], []), some (.inl 0)), (([], [4, 7, 0], [], [], []), some (.inl 1))])
def nu_127 : List aCt := [(15, ([(0, 20)], [4, 7, 0], [], [], []), [(0, .inr (.inr (.inl 0))), (1, .inr (.inr (.inl 1))), (2, .inr (.inr (.inl 2))), (3, .inl 4), (4, .inr (.inl (0, 0)))], ([((-2), 0)], 41))]
set_option maxRecDepth 100000 in
theorem vk_127 {X : nX} {L : Nat} {xs : Nat → Int32} {g : Nat} {S : List Nat} : nV nj_M X L xs g nFT nAT S (nJJ S) nk_127 :=
  aChk_ok (ctx := [nk_103, nk_126]) (W := ([], [])) (ls := none) (cuts := nu_127) (fuel := 46) (nJJ_ok S)
    ⟨(fun c hc => nomatch hc), (fun c hc => nomatch hc)⟩
    ((fun c hc => by
    simp only [List.mem_cons, List.not_mem_nil, or_false] at hc
    rcases hc with rfl | rfl
    · exact vk_103
    · exact vk_126))
    (fun _ _ _ _ y hy => by cases hy) (by decide +kernel)
