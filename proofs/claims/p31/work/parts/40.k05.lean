/-- Phrase_readOne3 -/
def nk_128 : nK := (140, 19, ([], [4, 7, 0], [], [], []), [.inr (.inr (.inl 0)), .inr (.inr (.inl 1)), .inr (.inr (.inl 2)), .inl 3], [(4, 4), (4, 5), (7, 7), (7, 8), (7, 10), (7, 11)], [30, 31, 32], [(([], [4, 7, 0], [], [], []), some (.inl 0)), (([], [4, 7, 0], [], [], []), some (.inl 1))])
def nu_128 : List aCt := []
set_option maxRecDepth 100000 in
theorem vk_128 {X : nX} {L : Nat} {xs : Nat → Int32} {g : Nat} {S : List Nat} : nV nj_M X L xs g nFT nAT S (nJJ S) nk_128 :=
  aChk_ok (ctx := [nk_14, nk_103, nk_107, nk_108, nk_109, nk_125, nk_127]) (W := ([], [])) (ls := none) (cuts := nu_128) (fuel := 68) (nJJ_ok S)
    ⟨(fun c hc => nomatch hc), (fun c hc => nomatch hc)⟩
    ((fun c hc => by
    simp only [List.mem_cons, List.not_mem_nil, or_false] at hc
    rcases hc with rfl | rfl | rfl | rfl | rfl | rfl | rfl
    · exact vk_14
    · exact vk_103
    · exact vk_107
    · exact vk_108
    · exact vk_109
    · exact vk_125
    · exact vk_127))
    (fun _ _ _ _ y hy => by cases hy) (by decide +kernel)
/-- Phrase_readAll3 -/
def nk_129 : nK := (139, 20, ([], [4, 7, 0], [], [], []), [.inr (.inr (.inl 0)), .inr (.inr (.inl 1)), .inr (.inr (.inl 2)), .inl 3], [(4, 4), (4, 5), (7, 7), (7, 8), (7, 10), (7, 11)], [30, 31, 32], [(([], [4, 7, 0], [], [], []), some (.inl 0)), (([], [4, 7, 0], [], [], []), some (.inl 1))])
def nu_129 : List aCt := [(15, ([(0, 20)], [4, 7, 0], [], [], []), [(0, .inr (.inr (.inl 0))), (1, .inr (.inr (.inl 1))), (2, .inr (.inr (.inl 2))), (3, .inl 3), (4, .inr (.inl (0, 0)))], ([((-2), 0)], 41))]
set_option maxRecDepth 100000 in
theorem vk_129 {X : nX} {L : Nat} {xs : Nat → Int32} {g : Nat} {S : List Nat} : nV nj_M X L xs g nFT nAT S (nJJ S) nk_129 :=
  aChk_ok (ctx := [nk_103, nk_128]) (W := ([], [])) (ls := none) (cuts := nu_129) (fuel := 46) (nJJ_ok S)
    ⟨(fun c hc => nomatch hc), (fun c hc => nomatch hc)⟩
    ((fun c hc => by
    simp only [List.mem_cons, List.not_mem_nil, or_false] at hc
    rcases hc with rfl | rfl
    · exact vk_103
    · exact vk_128))
    (fun _ _ _ _ y hy => by cases hy) (by decide +kernel)
/-- Phrase_readCond3 -/
def nk_130 : nK := (138, 21, ([], [4, 7, 0], [], [], []), [.inr (.inr (.inl 0)), .inr (.inr (.inl 1)), .inr (.inr (.inl 2)), .inl 3], [(4, 4), (4, 5), (7, 7), (7, 8), (7, 10), (7, 11)], [30, 31, 32], [(([], [4, 7, 0], [], [], []), some (.inl 0)), (([], [4, 7, 0], [], [], []), some (.inl 1))])
def nu_130 : List aCt := [(15, ([(0, 20)], [4, 7, 0], [], [], []), [(0, .inr (.inr (.inl 0))), (1, .inr (.inr (.inl 1))), (2, .inr (.inr (.inl 2))), (3, .inl 3), (4, .inr (.inl (0, 0)))], ([((-2), 0)], 41))]
set_option maxRecDepth 100000 in
theorem vk_130 {X : nX} {L : Nat} {xs : Nat → Int32} {g : Nat} {S : List Nat} : nV nj_M X L xs g nFT nAT S (nJJ S) nk_130 :=
  aChk_ok (ctx := [nk_103, nk_129]) (W := ([], [])) (ls := none) (cuts := nu_130) (fuel := 46) (nJJ_ok S)
    ⟨(fun c hc => nomatch hc), (fun c hc => nomatch hc)⟩
    ((fun c hc => by
    simp only [List.mem_cons, List.not_mem_nil, or_false] at hc
    rcases hc with rfl | rfl
    · exact vk_103
    · exact vk_129))
    (fun _ _ _ _ y hy => by cases hy) (by decide +kernel)
/-- Phrase_readOne2 -/
def nk_131 : nK := (140, 22, ([], [4, 7, 0], [], [], []), [.inr (.inr (.inl 0)), .inr (.inr (.inl 1)), .inr (.inr (.inl 2)), .inl 2], [(4, 4), (4, 5), (7, 7), (7, 8), (7, 10), (7, 11)], [30, 31, 32], [(([], [4, 7, 0], [], [], []), some (.inl 0)), (([], [4, 7, 0], [], [], []), some (.inl 1))])
def nu_131 : List aCt := []
set_option maxRecDepth 100000 in
theorem vk_131 {X : nX} {L : Nat} {xs : Nat → Int32} {g : Nat} {S : List Nat} : nV nj_M X L xs g nFT nAT S (nJJ S) nk_131 :=
  aChk_ok (ctx := [nk_14, nk_103, nk_107, nk_108, nk_109, nk_128, nk_130]) (W := ([], [])) (ls := none) (cuts := nu_131) (fuel := 68) (nJJ_ok S)
    ⟨(fun c hc => nomatch hc), (fun c hc => nomatch hc)⟩
    ((fun c hc => by
    simp only [List.mem_cons, List.not_mem_nil, or_false] at hc
    rcases hc with rfl | rfl | rfl | rfl | rfl | rfl | rfl
    · exact vk_14
    · exact vk_103
    · exact vk_107
    · exact vk_108
    · exact vk_109
    · exact vk_128
    · exact vk_130))
    (fun _ _ _ _ y hy => by cases hy) (by decide +kernel)
/-- Phrase_readAll2 -/
def nk_132 : nK := (139, 23, ([], [4, 7, 0], [], [], []), [.inr (.inr (.inl 0)), .inr (.inr (.inl 1)), .inr (.inr (.inl 2)), .inl 2], [(4, 4), (4, 5), (7, 7), (7, 8), (7, 10), (7, 11)], [30, 31, 32], [(([], [4, 7, 0], [], [], []), some (.inl 0)), (([], [4, 7, 0], [], [], []), some (.inl 1))])
def nu_132 : List aCt := [(15, ([(0, 20)], [4, 7, 0], [], [], []), [(0, .inr (.inr (.inl 0))), (1, .inr (.inr (.inl 1))), (2, .inr (.inr (.inl 2))), (3, .inl 2), (4, .inr (.inl (0, 0)))], ([((-2), 0)], 41))]
set_option maxRecDepth 100000 in
theorem vk_132 {X : nX} {L : Nat} {xs : Nat → Int32} {g : Nat} {S : List Nat} : nV nj_M X L xs g nFT nAT S (nJJ S) nk_132 :=
  aChk_ok (ctx := [nk_103, nk_131]) (W := ([], [])) (ls := none) (cuts := nu_132) (fuel := 46) (nJJ_ok S)
    ⟨(fun c hc => nomatch hc), (fun c hc => nomatch hc)⟩
    ((fun c hc => by
    simp only [List.mem_cons, List.not_mem_nil, or_false] at hc
    rcases hc with rfl | rfl
    · exact vk_103
    · exact vk_131))
    (fun _ _ _ _ y hy => by cases hy) (by decide +kernel)
/-- Phrase_readCond2 -/
def nk_133 : nK := (138, 24, ([], [4, 7, 0], [], [], []), [.inr (.inr (.inl 0)), .inr (.inr (.inl 1)), .inr (.inr (.inl 2)), .inl 2], [(4, 4), (4, 5), (7, 7), (7, 8), (7, 10), (7, 11)], [30, 31, 32], [(([], [4, 7, 0], [], [], []), some (.inl 0)), (([], [4, 7, 0], [], [], []), some (.inl 1))])
def nu_133 : List aCt := [(15, ([(0, 20)], [4, 7, 0], [], [], []), [(0, .inr (.inr (.inl 0))), (1, .inr (.inr (.inl 1))), (2, .inr (.inr (.inl 2))), (3, .inl 2), (4, .inr (.inl (0, 0)))], ([((-2), 0)], 41))]
set_option maxRecDepth 100000 in
theorem vk_133 {X : nX} {L : Nat} {xs : Nat → Int32} {g : Nat} {S : List Nat} : nV nj_M X L xs g nFT nAT S (nJJ S) nk_133 :=
  aChk_ok (ctx := [nk_103, nk_132]) (W := ([], [])) (ls := none) (cuts := nu_133) (fuel := 46) (nJJ_ok S)
    ⟨(fun c hc => nomatch hc), (fun c hc => nomatch hc)⟩
    ((fun c hc => by
    simp only [List.mem_cons, List.not_mem_nil, or_false] at hc
    rcases hc with rfl | rfl
    · exact vk_103
    · exact vk_132))
    (fun _ _ _ _ y hy => by cases hy) (by decide +kernel)
/-- Phrase_readOne1 -/
def nk_134 : nK := (140, 25, ([], [4, 7, 0], [], [], []), [.inr (.inr (.inl 0)), .inr (.inr (.inl 1)), .inr (.inr (.inl 2)), .inl 1], [(4, 4), (4, 5), (7, 7), (7, 8), (7, 10), (7, 11)], [30, 31, 32], [(([], [4, 7, 0], [], [], []), some (.inl 0)), (([], [4, 7, 0], [], [], []), some (.inl 1))])
def nu_134 : List aCt := []
set_option maxRecDepth 100000 in
theorem vk_134 {X : nX} {L : Nat} {xs : Nat → Int32} {g : Nat} {S : List Nat} : nV nj_M X L xs g nFT nAT S (nJJ S) nk_134 :=
  aChk_ok (ctx := [nk_14, nk_103, nk_107, nk_108, nk_109, nk_131, nk_133]) (W := ([], [])) (ls := none) (cuts := nu_134) (fuel := 68) (nJJ_ok S)
    ⟨(fun c hc => nomatch hc), (fun c hc => nomatch hc)⟩
    ((fun c hc => by
    simp only [List.mem_cons, List.not_mem_nil, or_false] at hc
    rcases hc with rfl | rfl | rfl | rfl | rfl | rfl | rfl
    · exact vk_14
    · exact vk_103
    · exact vk_107
    · exact vk_108
    · exact vk_109
    · exact vk_131
    · exact vk_133))
    (fun _ _ _ _ y hy => by cases hy) (by decide +kernel)
/-- Phrase_readAll1 -/
def nk_135 : nK := (139, 26, ([], [4, 7, 0], [], [], []), [.inr (.inr (.inl 0)), .inr (.inr (.inl 1)), .inr (.inr (.inl 2)), .inl 1], [(4, 4), (4, 5), (7, 7), (7, 8), (7, 10), (7, 11)], [30, 31, 32], [(([], [4, 7, 0], [], [], []), some (.inl 0)), (([], [4, 7, 0], [], [], []), some (.inl 1))])
def nu_135 : List aCt := [(15, ([(0, 20)], [4, 7, 0], [], [], []), [(0, .inr (.inr (.inl 0))), (1, .inr (.inr (.inl 1))), (2, .inr (.inr (.inl 2))), (3, .inl 1), (4, .inr (.inl (0, 0)))], ([((-2), 0)], 41))]
set_option maxRecDepth 100000 in
theorem vk_135 {X : nX} {L : Nat} {xs : Nat → Int32} {g : Nat} {S : List Nat} : nV nj_M X L xs g nFT nAT S (nJJ S) nk_135 :=
  aChk_ok (ctx := [nk_103, nk_134]) (W := ([], [])) (ls := none) (cuts := nu_135) (fuel := 46) (nJJ_ok S)
    ⟨(fun c hc => nomatch hc), (fun c hc => nomatch hc)⟩
    ((fun c hc => by
    simp only [List.mem_cons, List.not_mem_nil, or_false] at hc
    rcases hc with rfl | rfl
    · exact vk_103
    · exact vk_134))
    (fun _ _ _ _ y hy => by cases hy) (by decide +kernel)
/-- Phrase_readCond1 -/
def nk_136 : nK := (138, 27, ([], [4, 7, 0], [], [], []), [.inr (.inr (.inl 0)), .inr (.inr (.inl 1)), .inr (.inr (.inl 2)), .inl 1], [(4, 4), (4, 5), (7, 7), (7, 8), (7, 10), (7, 11)], [30, 31, 32], [(([], [4, 7, 0], [], [], []), some (.inl 0)), (([], [4, 7, 0], [], [], []), some (.inl 1))])
def nu_136 : List aCt := [(15, ([(0, 20)], [4, 7, 0], [], [], []), [(0, .inr (.inr (.inl 0))), (1, .inr (.inr (.inl 1))), (2, .inr (.inr (.inl 2))), (3, .inl 1), (4, .inr (.inl (0, 0)))], ([((-2), 0)], 41))]
set_option maxRecDepth 100000 in
theorem vk_136 {X : nX} {L : Nat} {xs : Nat → Int32} {g : Nat} {S : List Nat} : nV nj_M X L xs g nFT nAT S (nJJ S) nk_136 :=
  aChk_ok (ctx := [nk_103, nk_135]) (W := ([], [])) (ls := none) (cuts := nu_136) (fuel := 46) (nJJ_ok S)
    ⟨(fun c hc => nomatch hc), (fun c hc => nomatch hc)⟩
    ((fun c hc => by
    simp only [List.mem_cons, List.not_mem_nil, or_false] at hc
    rcases hc with rfl | rfl
    · exact vk_103
    · exact vk_135))
    (fun _ _ _ _ y hy => by cases hy) (by decide +kernel)
/-- Phrase_read -/
def nk_137 : nK := (137, 28, ([], [4, 7, 0], [], [], []), [.inr (.inr (.inl 0)), .inr (.inr (.inl 1)), .inr (.inr (.inl 2))], [(4, 4), (4, 5), (7, 6), (7, 7), (7, 8), (7, 9), (7, 10), (7, 11)], [30, 31, 32, 42, 43, 44], [(([], [4, 7, 0], [], [], []), some (.inl 0)), (([], [4, 7, 0], [], [], []), some (.inl 1))])
def nu_137 : List aCt := []
set_option maxRecDepth 100000 in
theorem vk_137 {X : nX} {L : Nat} {xs : Nat → Int32} {g : Nat} {S : List Nat} : nV nj_M X L xs g nFT nAT S (nJJ S) nk_137 :=
  aChk_ok (ctx := [nk_11, nk_136]) (W := ([], [sw_0])) (ls := none) (cuts := nu_137) (fuel := 52) (nJJ_ok S)
    ⟨(fun c hc => nomatch hc), (fun c hc => by
    simp only [List.mem_cons, List.not_mem_nil, or_false] at hc
    subst hc
    · exact sw_0_ok)⟩
    ((fun c hc => by
    simp only [List.mem_cons, List.not_mem_nil, or_false] at hc
    rcases hc with rfl | rfl
    · exact vk_11
    · exact vk_136))
    (fun _ _ _ _ y hy => by cases hy) (by decide +kernel)
/-- Phrase_compares -/
def nk_138 : nK := (150, 0, ([((-2147483648), 2147483647), (0, 39)], [4], [], [], []), [.inr (.inr (.inl 0)), .inr (.inl (0, 0)), .inr (.inl (1, 0))], [], [], [(([((-2147483648), 2147483647), (0, 39), (0, 1)], [4], [], [], []), some (.inr (.inl (2, 0))))])
def nu_138 : List aCt := []
set_option maxRecDepth 100000 in
theorem vk_138 {X : nX} {L : Nat} {xs : Nat → Int32} {g : Nat} {S : List Nat} : nV nj_M X L xs g nFT nAT S (nJJ S) nk_138 :=
  aChk_ok (ctx := []) (W := ([], [])) (ls := none) (cuts := nu_138) (fuel := 16) (nJJ_ok S)
    ⟨(fun c hc => nomatch hc), (fun c hc => nomatch hc)⟩
    ((fun c hc => nomatch hc))
    (fun _ _ _ _ y hy => by cases hy) (by decide +kernel)
/-- Phrase_isTrue -/
def nk_139 : nK := (148, 1, ([(0, 39), (0, 40), (0, 9)], [4, 0, 2], [(0, 4, .inr (.inl (1, 0)))], [], [.inl ([(1, 0), ((-1), 1)], 1)]), [.inr (.inr (.inl 0)), .inr (.inr (.inl 1)), .inr (.inr (.inl 2)), .inr (.inl (0, 0)), .inr (.inl (2, 0))], [], [], [(([(0, 39), (0, 40), (0, 9), (0, 1)], [4, 0, 2], [], [], []), some (.inr (.inl (3, 0))))])
def nu_139 : List aCt := []
set_option maxRecDepth 100000 in
theorem vk_139 {X : nX} {L : Nat} {xs : Nat → Int32} {g : Nat} {S : List Nat} : nV nj_M X L xs g nFT nAT S (nJJ S) nk_139 :=
  aChk_ok (ctx := [nk_45, nk_138]) (W := ([gh_4], [])) (ls := none) (cuts := nu_139) (fuel := 58) (nJJ_ok S)
    ⟨(fun c hc => by
    simp only [List.mem_cons, List.not_mem_nil, or_false] at hc
    subst hc
    · exact gh_4_ok), (fun c hc => nomatch hc)⟩
    ((fun c hc => by
    simp only [List.mem_cons, List.not_mem_nil, or_false] at hc
    rcases hc with rfl | rfl
    · exact vk_45
    · exact vk_138))
    (fun _ _ _ _ y hy => by cases hy) (by decide +kernel)
/-- Phrase_trueOf -/
def nk_140 : nK := (147, 2, ([(0, 39), (0, 40)], [4, 0, 2], [(0, 4, .inr (.inl (1, 0)))], [], [.inl ([(1, 0), ((-1), 1)], 1)]), [.inr (.inr (.inl 0)), .inr (.inr (.inl 1)), .inr (.inr (.inl 2)), .inr (.inl (0, 0))], [], [], [(([(0, 39), (0, 40), ((-2147483648), 2147483647)], [4, 0, 2], [], [], []), some (.inr (.inl (2, 0))))])
def nu_140 : List aCt := [(28, ([(0, 39), (0, 40), ((-2147483648), 2147483647), (0, 10)], [4, 0, 2], [(0, 4, .inr (.inl (1, 0)))], [], [.inl ([(1, 0), ((-1), 1)], 1)]), [(0, .inr (.inr (.inl 0))), (1, .inr (.inr (.inl 1))), (2, .inr (.inr (.inl 2))), (3, .inr (.inl (0, 0))), (4, .inr (.inl (2, 0))), (5, .inr (.inl (3, 0)))], ([((-2), 3)], 21))]
set_option maxRecDepth 100000 in
theorem vk_140 {X : nX} {L : Nat} {xs : Nat → Int32} {g : Nat} {S : List Nat} : nV nj_M X L xs g nFT nAT S (nJJ S) nk_140 :=
  aChk_ok (ctx := [nk_29, nk_45, nk_138]) (W := ([gh_3, gh_4], [])) (ls := none) (cuts := nu_140) (fuel := 81) (nJJ_ok S)
    ⟨(fun c hc => by
    simp only [List.mem_cons, List.not_mem_nil, or_false] at hc
    rcases hc with rfl | rfl
    · exact gh_3_ok
    · exact gh_4_ok), (fun c hc => nomatch hc)⟩
    ((fun c hc => by
    simp only [List.mem_cons, List.not_mem_nil, or_false] at hc
    rcases hc with rfl | rfl | rfl
    · exact vk_29
    · exact vk_45
    · exact vk_138))
    (fun _ _ _ _ y hy => by cases hy) (by decide +kernel)
/-- Phrase_saidOf -/
def nk_141 : nK := (146, 3, ([], [4, 0, 2], [], [], []), [.inr (.inr (.inl 0)), .inr (.inr (.inl 1)), .inr (.inr (.inl 2))], [], [33], [(([((-2147483648), 2147483647)], [4, 0, 2], [], [], []), some (.inr (.inl (0, 0))))])
def nu_141 : List aCt := [(17, ([((-2147483648), 2147483647), (0, 40), (0, 40)], [4, 0, 2], [], [], []), [(0, .inr (.inr (.inl 0))), (1, .inr (.inr (.inl 1))), (2, .inr (.inr (.inl 2))), (3, .inr (.inl (0, 0))), (4, .inr (.inl (1, 0))), (5, .inr (.inl (2, 0)))], ([((-2), 2)], 81))]
set_option maxRecDepth 100000 in
theorem vk_141 {X : nX} {L : Nat} {xs : Nat → Int32} {g : Nat} {S : List Nat} : nV nj_M X L xs g nFT nAT S (nJJ S) nk_141 :=
  aChk_ok (ctx := [nk_140]) (W := ([], [])) (ls := none) (cuts := nu_141) (fuel := 41) (nJJ_ok S)
    ⟨(fun c hc => nomatch hc), (fun c hc => nomatch hc)⟩
    ((fun c hc => by
    simp only [List.mem_cons, List.not_mem_nil, or_false] at hc
    subst hc
    · exact vk_140))
    (fun _ _ _ _ y hy => by cases hy) (by decide +kernel)
/-- Script_add107 -/
def nk_142 : nK := (129, 0, ([(0, 9), (0, 3)], [6], [], [], []), [.inr (.inr (.inl 0)), .inl 107, .inr (.inl (0, 0)), .inr (.inl (1, 0))], [(6, 3)], [38, 39, 40], [(([(0, 9), (0, 3), (1, 1)], [6], [], [], []), some (.inr (.inl (2, 0))))])
def nu_142 : List aCt := []
set_option maxRecDepth 100000 in
theorem vk_142 {X : nX} {L : Nat} {xs : Nat → Int32} {g : Nat} {S : List Nat} : nV nj_M X L xs g nFT nAT S (nJJ S) nk_142 :=
  aChk_ok (ctx := []) (W := ([], [sw_8, sw_9, sw_10, sw_11])) (ls := none) (cuts := nu_142) (fuel := 32) (nJJ_ok S)
    ⟨(fun c hc => nomatch hc), (fun c hc => by
    simp only [List.mem_cons, List.not_mem_nil, or_false] at hc
    rcases hc with rfl | rfl | rfl | rfl
    · exact sw_8_ok
    · exact sw_9_ok
    · exact sw_10_ok
    · exact sw_11_ok)⟩
    ((fun c hc => nomatch hc))
    (fun _ _ _ _ y hy => by cases hy) (by decide +kernel)
/-- Script_add108 -/
def nk_143 : nK := (129, 0, ([(0, 9), ((-2147483648), 2147483647)], [6], [], [], []), [.inr (.inr (.inl 0)), .inl 108, .inr (.inl (0, 0)), .inr (.inl (1, 0))], [(6, 3)], [38, 39, 40], [(([(0, 9), ((-2147483648), 2147483647), (1, 1)], [6], [], [], []), some (.inr (.inl (2, 0))))])
def nu_143 : List aCt := []
set_option maxRecDepth 100000 in
theorem vk_143 {X : nX} {L : Nat} {xs : Nat → Int32} {g : Nat} {S : List Nat} : nV nj_M X L xs g nFT nAT S (nJJ S) nk_143 :=
  aChk_ok (ctx := []) (W := ([], [sw_8, sw_9, sw_10, sw_12])) (ls := none) (cuts := nu_143) (fuel := 32) (nJJ_ok S)
    ⟨(fun c hc => nomatch hc), (fun c hc => by
    simp only [List.mem_cons, List.not_mem_nil, or_false] at hc
    rcases hc with rfl | rfl | rfl | rfl
    · exact sw_8_ok
    · exact sw_9_ok
    · exact sw_10_ok
    · exact sw_12_ok)⟩
    ((fun c hc => nomatch hc))
    (fun _ _ _ _ y hy => by cases hy) (by decide +kernel)
/-- Script_add109 -/
def nk_144 : nK := (129, 0, ([(0, 5), (0, 9)], [6], [], [], []), [.inr (.inr (.inl 0)), .inl 109, .inr (.inl (0, 0)), .inr (.inl (1, 0))], [(6, 3)], [38, 39, 40], [(([(0, 5), (0, 9), (1, 1)], [6], [], [], []), some (.inr (.inl (2, 0))))])
def nu_144 : List aCt := []
set_option maxRecDepth 100000 in
theorem vk_144 {X : nX} {L : Nat} {xs : Nat → Int32} {g : Nat} {S : List Nat} : nV nj_M X L xs g nFT nAT S (nJJ S) nk_144 :=
  aChk_ok (ctx := []) (W := ([], [sw_8, sw_9, sw_10, sw_13])) (ls := none) (cuts := nu_144) (fuel := 32) (nJJ_ok S)
    ⟨(fun c hc => nomatch hc), (fun c hc => by
    simp only [List.mem_cons, List.not_mem_nil, or_false] at hc
    rcases hc with rfl | rfl | rfl | rfl
    · exact sw_8_ok
    · exact sw_9_ok
    · exact sw_10_ok
    · exact sw_13_ok)⟩
    ((fun c hc => nomatch hc))
    (fun _ _ _ _ y hy => by cases hy) (by decide +kernel)
/-- Script_add110 -/
def nk_145 : nK := (129, 0, ([((-2147483648), 2147483647), ((-2147483648), 2147483647)], [6], [], [], []), [.inr (.inr (.inl 0)), .inl 110, .inr (.inl (0, 0)), .inr (.inl (1, 0))], [(6, 3)], [38, 39, 40], [(([((-2147483648), 2147483647), ((-2147483648), 2147483647), (1, 1)], [6], [], [], []), some (.inr (.inl (2, 0))))])
def nu_145 : List aCt := []
set_option maxRecDepth 100000 in
theorem vk_145 {X : nX} {L : Nat} {xs : Nat → Int32} {g : Nat} {S : List Nat} : nV nj_M X L xs g nFT nAT S (nJJ S) nk_145 :=
  aChk_ok (ctx := []) (W := ([], [sw_8, sw_9, sw_10, sw_14])) (ls := none) (cuts := nu_145) (fuel := 32) (nJJ_ok S)
    ⟨(fun c hc => nomatch hc), (fun c hc => by
    simp only [List.mem_cons, List.not_mem_nil, or_false] at hc
    rcases hc with rfl | rfl | rfl | rfl
    · exact sw_8_ok
    · exact sw_9_ok
    · exact sw_10_ok
    · exact sw_14_ok)⟩
    ((fun c hc => nomatch hc))
    (fun _ _ _ _ y hy => by cases hy) (by decide +kernel)
/-- Script_readGift -/
def nk_146 : nK := (128, 2, ([], [6, 7, 0], [], [], []), [.inr (.inr (.inl 0)), .inr (.inr (.inl 1)), .inr (.inr (.inl 2))], [(6, 3), (7, 7), (7, 10), (7, 11)], [38, 39, 40], [(([], [6, 7, 0], [], [], []), some (.inl 0)), (([], [6, 7, 0], [], [], []), some (.inl 1))])
def nu_146 : List aCt := []
set_option maxRecDepth 100000 in
theorem vk_146 {X : nX} {L : Nat} {xs : Nat → Int32} {g : Nat} {S : List Nat} : nV nj_M X L xs g nFT nAT S (nJJ S) nk_146 :=
  aChk_ok (ctx := [nk_18, nk_19, nk_144]) (W := ([], [])) (ls := none) (cuts := nu_146) (fuel := 72) (nJJ_ok S)
    ⟨(fun c hc => nomatch hc), (fun c hc => nomatch hc)⟩
    ((fun c hc => by
    simp only [List.mem_cons, List.not_mem_nil, or_false] at hc
    rcases hc with rfl | rfl | rfl
    · exact vk_18
    · exact vk_19
    · exact vk_144))
    (fun _ _ _ _ y hy => by cases hy) (by decide +kernel)
/-- Script_readYear -/
def nk_147 : nK := (130, 2, ([], [6, 7], [], [], []), [.inr (.inr (.inl 0)), .inr (.inr (.inl 1))], [(6, 3), (7, 7), (7, 8), (7, 10), (7, 11)], [38, 39, 40], [(([], [6, 7], [], [], []), some (.inl 0)), (([], [6, 7], [], [], []), some (.inl 1))])
def nu_147 : List aCt := []
set_option maxRecDepth 100000 in
theorem vk_147 {X : nX} {L : Nat} {xs : Nat → Int32} {g : Nat} {S : List Nat} : nV nj_M X L xs g nFT nAT S (nJJ S) nk_147 :=
  aChk_ok (ctx := [nk_13, nk_145]) (W := ([], [])) (ls := none) (cuts := nu_147) (fuel := 33) (nJJ_ok S)
    ⟨(fun c hc => nomatch hc), (fun c hc => nomatch hc)⟩
    ((fun c hc => by
    simp only [List.mem_cons, List.not_mem_nil, or_false] at hc
    rcases hc with rfl | rfl
    · exact vk_13
    · exact vk_145))
    (fun _ _ _ _ y hy => by cases hy) (by decide +kernel)
/-- Life_handOver -/
def nk_148 : nK := (77, 2, ([(0, 5), (0, 9)], [2, 0], [], [], []), [.inr (.inr (.inl 0)), .inr (.inr (.inl 1)), .inr (.inl (0, 0)), .inr (.inl (1, 0))], [], [24], [(([(0, 5), (0, 9), (0, 4)], [2, 0], [], [], []), some (.inr (.inl (2, 0))))])
def nu_148 : List aCt := []
set_option maxRecDepth 100000 in
theorem vk_148 {X : nX} {L : Nat} {xs : Nat → Int32} {g : Nat} {S : List Nat} : nV nj_M X L xs g nFT nAT S (nJJ S) nk_148 :=
  aChk_ok (ctx := []) (W := ([], [])) (ls := none) (cuts := nu_148) (fuel := 69) (nJJ_ok S)
    ⟨(fun c hc => nomatch hc), (fun c hc => nomatch hc)⟩
    ((fun c hc => nomatch hc))
    (fun _ _ _ _ y hy => by cases hy) (by decide +kernel)
/-- Script_liveLine -/
def nk_149 : nK := (133, 4, ([(0, 39), (0, 40)], [6, 0, 2], [(0, 3, .inr (.inl (1, 0)))], [], [.inl ([(1, 0), ((-1), 1)], 1)]), [.inr (.inr (.inl 0)), .inr (.inr (.inl 1)), .inr (.inr (.inl 2)), .inr (.inl (0, 0))], [(2, 5), (2, 6), (2, 7), (2, 8), (2, 9), (2, 10), (2, 11)], [24, 25, 26, 27, 28], [(([(0, 39), (0, 40), (0, 31)], [6, 0, 2], [], [], []), some (.inr (.inl (2, 0))))])
def nu_149 : List aCt := []
set_option maxRecDepth 100000 in
theorem vk_149 {X : nX} {L : Nat} {xs : Nat → Int32} {g : Nat} {S : List Nat} : nV nj_M X L xs g nFT nAT S (nJJ S) nk_149 :=
  aChk_ok (ctx := [nk_48, nk_49, nk_148]) (W := ([gh_0, gh_1, gh_2], [])) (ls := none) (cuts := nu_149) (fuel := 27) (nJJ_ok S)
    ⟨(fun c hc => by
    simp only [List.mem_cons, List.not_mem_nil, or_false] at hc
    rcases hc with rfl | rfl | rfl
    · exact gh_0_ok
    · exact gh_1_ok
    · exact gh_2_ok), (fun c hc => nomatch hc)⟩
    ((fun c hc => by
    simp only [List.mem_cons, List.not_mem_nil, or_false] at hc
    rcases hc with rfl | rfl | rfl
    · exact vk_48
    · exact vk_49
    · exact vk_148))
    (fun _ _ _ _ y hy => by cases hy) (by decide +kernel)
/-- Script_liveBy -/
def nk_150 : nK := (132, 5, ([], [6, 0, 2], [], [], []), [.inr (.inr (.inl 0)), .inr (.inr (.inl 1)), .inr (.inr (.inl 2))], [(2, 5), (2, 6), (2, 7), (2, 8), (2, 9), (2, 10), (2, 11), (6, 4)], [24, 25, 26, 27, 28], [(([((-1), 39)], [6, 0, 2], [], [], []), some (.inr (.inl (0, 0))))])
def nu_150 : List aCt := [(7, ([(0, 40)], [6, 0, 2], [], [], []), [(0, .inr (.inr (.inl 0))), (1, .inr (.inr (.inl 1))), (2, .inr (.inr (.inl 2))), (3, .inr (.inl (0, 0)))], ([((-2), 0)], 81))]
set_option maxRecDepth 100000 in
theorem vk_150 {X : nX} {L : Nat} {xs : Nat → Int32} {g : Nat} {S : List Nat} : nV nj_M X L xs g nFT nAT S (nJJ S) nk_150 :=
  aChk_ok (ctx := [nk_149]) (W := ([], [])) (ls := none) (cuts := nu_150) (fuel := 19) (nJJ_ok S)
    ⟨(fun c hc => nomatch hc), (fun c hc => nomatch hc)⟩
    ((fun c hc => by
    simp only [List.mem_cons, List.not_mem_nil, or_false] at hc
    subst hc
    · exact vk_149))
    (fun _ _ _ _ y hy => by cases hy) (by decide +kernel)
/-- Life_handOverTrial -/
def nk_151 : nK := (77, 2, ([(0, 5), (0, 9)], [1002, 0], [], [], []), [.inr (.inr (.inl 0)), .inr (.inr (.inl 1)), .inr (.inl (0, 0)), .inr (.inl (1, 0))], [], [69], [(([(0, 5), (0, 9), (0, 4)], [1002, 0], [], [], []), some (.inr (.inl (2, 0))))])
def nu_151 : List aCt := []
set_option maxRecDepth 100000 in
theorem vk_151 {X : nX} {L : Nat} {xs : Nat → Int32} {g : Nat} {S : List Nat} : nV nj_M X L xs g nFT nAT S (nJJ S) nk_151 :=
  aChk_ok (ctx := []) (W := ([], [])) (ls := none) (cuts := nu_151) (fuel := 69) (nJJ_ok S)
    ⟨(fun c hc => nomatch hc), (fun c hc => nomatch hc)⟩
    ((fun c hc => nomatch hc))
    (fun _ _ _ _ y hy => by cases hy) (by decide +kernel)
/-- Script_liveLineTrial -/
def nk_152 : nK := (133, 4, ([(0, 39), (0, 40)], [6, 0, 1002], [(0, 3, .inr (.inl (1, 0)))], [], [.inl ([(1, 0), ((-1), 1)], 1)]), [.inr (.inr (.inl 0)), .inr (.inr (.inl 1)), .inr (.inr (.inl 2)), .inr (.inl (0, 0))], [(1002, 5), (1002, 6), (1002, 7), (1002, 8), (1002, 9), (1002, 10), (1002, 11)], [69, 70, 71, 72, 73], [(([(0, 39), (0, 40), (0, 31)], [6, 0, 1002], [], [], []), some (.inr (.inl (2, 0))))])
def nu_152 : List aCt := []
set_option maxRecDepth 100000 in
theorem vk_152 {X : nX} {L : Nat} {xs : Nat → Int32} {g : Nat} {S : List Nat} : nV nj_M X L xs g nFT nAT S (nJJ S) nk_152 :=
  aChk_ok (ctx := [nk_42, nk_43, nk_151]) (W := ([gh_0, gh_1, gh_2], [])) (ls := none) (cuts := nu_152) (fuel := 27) (nJJ_ok S)
    ⟨(fun c hc => by
    simp only [List.mem_cons, List.not_mem_nil, or_false] at hc
    rcases hc with rfl | rfl | rfl
    · exact gh_0_ok
    · exact gh_1_ok
    · exact gh_2_ok), (fun c hc => nomatch hc)⟩
    ((fun c hc => by
    simp only [List.mem_cons, List.not_mem_nil, or_false] at hc
    rcases hc with rfl | rfl | rfl
    · exact vk_42
    · exact vk_43
    · exact vk_151))
    (fun _ _ _ _ y hy => by cases hy) (by decide +kernel)
/-- Script_liveByTrial -/
def nk_153 : nK := (132, 5, ([], [6, 0, 1002], [], [], []), [.inr (.inr (.inl 0)), .inr (.inr (.inl 1)), .inr (.inr (.inl 2))], [(6, 4), (1002, 5), (1002, 6), (1002, 7), (1002, 8), (1002, 9), (1002, 10), (1002, 11)], [69, 70, 71, 72, 73], [(([((-1), 39)], [6, 0, 1002], [], [], []), some (.inr (.inl (0, 0))))])
def nu_153 : List aCt := [(7, ([(0, 40)], [6, 0, 1002], [], [], []), [(0, .inr (.inr (.inl 0))), (1, .inr (.inr (.inl 1))), (2, .inr (.inr (.inl 2))), (3, .inr (.inl (0, 0)))], ([((-2), 0)], 81))]
set_option maxRecDepth 100000 in
theorem vk_153 {X : nX} {L : Nat} {xs : Nat → Int32} {g : Nat} {S : List Nat} : nV nj_M X L xs g nFT nAT S (nJJ S) nk_153 :=
  aChk_ok (ctx := [nk_152]) (W := ([], [])) (ls := none) (cuts := nu_153) (fuel := 19) (nJJ_ok S)
    ⟨(fun c hc => nomatch hc), (fun c hc => nomatch hc)⟩
    ((fun c hc => by
    simp only [List.mem_cons, List.not_mem_nil, or_false] at hc
    subst hc
    · exact vk_152))
    (fun _ _ _ _ y hy => by cases hy) (by decide +kernel)
/-- Phrase_copyFrom -/
def nk_154 : nK := (144, 0, ([], [4, 4], [], [], []), [.inr (.inr (.inl 0)), .inr (.inr (.inl 1))], [(4, 4), (4, 5)], [30, 31, 32], [(([], [4, 4], [], [], []), none)])
theorem vk_154 {X : nX} {L : Nat} {xs : Nat → Int32} {g : Nat} {S : List Nat} : nV nj_M X L xs g nFT nAT S (nJJ S) nk_154 := man_copy
/-- Slip_sentence -/
def nk_155 : nK := (136, 29, ([], [8], [], [], []), [.inr (.inr (.inl 0))], [(4, 4), (4, 5), (7, 5), (7, 6), (7, 7), (7, 8), (7, 9), (7, 10), (7, 11), (8, 14)], [30, 31, 32, 42, 43, 44], [(([((-2147483648), 2147483647)], [8], [], [], []), some (.inr (.inl (0, 0))))])
def nu_155 : List aCt := []
set_option maxRecDepth 100000 in
theorem vk_155 {X : nX} {L : Nat} {xs : Nat → Int32} {g : Nat} {S : List Nat} : nV nj_M X L xs g nFT nAT S (nJJ S) nk_155 :=
  aChk_ok (ctx := [nk_137, nk_154]) (W := ([], [])) (ls := none) (cuts := nu_155) (fuel := 33) (nJJ_ok S)
    ⟨(fun c hc => nomatch hc), (fun c hc => nomatch hc)⟩
    ((fun c hc => by
    simp only [List.mem_cons, List.not_mem_nil, or_false] at hc
    rcases hc with rfl | rfl
    · exact vk_137
    · exact vk_154))
    (fun _ _ _ _ y hy => by cases hy) (by decide +kernel)
/-- Slip_said -/
def nk_156 : nK := (145, 4, ([((-2147483648), 2147483647)], [8], [], [], []), [.inr (.inr (.inl 0)), .inr (.inl (0, 0))], [], [33], [(([((-2147483648), 2147483647), ((-2147483648), 2147483647)], [8], [], [], []), some (.inr (.inl (1, 0))))])
def nu_156 : List aCt := [(43, ([((-2147483648), 2147483647), ((-2147483648), 2147483647), ((-2147483648), 2147483647), (0, 10)], [8], [], [], []), [(0, .inr (.inr (.inl 0))), (1, .inr (.inl (0, 0))), (2, .inr (.inl (1, 0))), (3, .inr (.inl (2, 0))), (4, .inr (.inl (3, 0)))], ([((-2), 3)], 21))]
set_option maxRecDepth 100000 in
theorem vk_156 {X : nX} {L : Nat} {xs : Nat → Int32} {g : Nat} {S : List Nat} : nV nj_M X L xs g nFT nAT S (nJJ S) nk_156 :=
  aChk_ok (ctx := [nk_141]) (W := ([], [])) (ls := none) (cuts := nu_156) (fuel := 62) (nJJ_ok S)
    ⟨(fun c hc => nomatch hc), (fun c hc => nomatch hc)⟩
    ((fun c hc => by
    simp only [List.mem_cons, List.not_mem_nil, or_false] at hc
    subst hc
    · exact vk_141))
    (fun _ _ _ _ y hy => by cases hy) (by decide +kernel)
/-- Slip_image -/
def nk_157 : nK := (151, 1, ([((-2147483648), 2147483647)], [8], [], [], []), [.inr (.inr (.inl 0)), .inr (.inl (0, 0))], [(0, 14), (0, 15), (1, 3), (2, 5), (2, 6), (2, 7), (2, 8), (2, 9), (2, 10), (2, 11), (4, 4), (4, 5)], [10, 11, 12, 13, 14, 15, 16, 17, 18, 19, 20, 21, 22, 23, 24, 25, 26, 27, 28, 30, 31, 32], [(([((-2147483648), 2147483647), (0, 1)], [8], [], [], []), some (.inr (.inl (1, 0))))])
def nu_157 : List aCt := []
set_option maxRecDepth 100000 in
theorem vk_157 {X : nX} {L : Nat} {xs : Nat → Int32} {g : Nat} {S : List Nat} : nV nj_M X L xs g nFT nAT S (nJJ S) nk_157 :=
  aChk_ok (ctx := [nk_15, nk_37, nk_154]) (W := ([], [])) (ls := none) (cuts := nu_157) (fuel := 32) (nJJ_ok S)
    ⟨(fun c hc => nomatch hc), (fun c hc => nomatch hc)⟩
    ((fun c hc => by
    simp only [List.mem_cons, List.not_mem_nil, or_false] at hc
    rcases hc with rfl | rfl | rfl
    · exact vk_15
    · exact vk_37
    · exact vk_154))
    (fun _ _ _ _ y hy => by cases hy) (by decide +kernel)
/-- Slip_restore -/
def nk_158 : nK := (152, 1, ([((-2147483648), 2147483647)], [8], [], [], []), [.inr (.inr (.inl 0)), .inr (.inl (0, 0))], [(0, 14), (0, 15), (2, 5), (2, 6), (2, 7), (2, 8), (2, 9), (2, 10), (2, 11), (3, 1), (4, 4), (4, 5)], [10, 11, 12, 13, 14, 15, 16, 17, 18, 19, 20, 21, 22, 23, 24, 25, 26, 27, 28, 30, 31, 32], [(([((-2147483648), 2147483647), (0, 1)], [8], [], [], []), some (.inr (.inl (1, 0))))])
def nu_158 : List aCt := []
set_option maxRecDepth 100000 in
theorem vk_158 {X : nX} {L : Nat} {xs : Nat → Int32} {g : Nat} {S : List Nat} : nV nj_M X L xs g nFT nAT S (nJJ S) nk_158 :=
  aChk_ok (ctx := [nk_15, nk_37, nk_154]) (W := ([], [])) (ls := none) (cuts := nu_158) (fuel := 42) (nJJ_ok S)
    ⟨(fun c hc => nomatch hc), (fun c hc => nomatch hc)⟩
    ((fun c hc => by
    simp only [List.mem_cons, List.not_mem_nil, or_false] at hc
    rcases hc with rfl | rfl | rfl
    · exact vk_15
    · exact vk_37
    · exact vk_154))
    (fun _ _ _ _ y hy => by cases hy) (by decide +kernel)
/-- Model_feed -/
def nk_159 : nK := (156, 1, ([((-2147483648), 2147483647), ((-2147483648), 2147483647), ((-2147483648), 2147483647), ((-2147483648), 2147483647), ((-2147483648), 2147483647)], [9], [], [], []), [.inr (.inr (.inl 0)), .inr (.inl (0, 0)), .inr (.inl (1, 0)), .inr (.inl (2, 0)), .inr (.inl (3, 0)), .inr (.inl (4, 0))], [(9, 0), (9, 2)], [49], [(([((-2147483648), 2147483647), ((-2147483648), 2147483647), ((-2147483648), 2147483647), ((-2147483648), 2147483647), ((-2147483648), 2147483647), ((-1), 940)], [9], [], [], []), some (.inr (.inl (5, 0))))])
def nu_159 : List aCt := []
set_option maxRecDepth 100000 in
theorem vk_159 {X : nX} {L : Nat} {xs : Nat → Int32} {g : Nat} {S : List Nat} : nV nj_M X L xs g nFT nAT S (nJJ S) nk_159 :=
  aChk_ok (ctx := []) (W := ([], [])) (ls := none) (cuts := nu_159) (fuel := 434) (nJJ_ok S)
    ⟨(fun c hc => nomatch hc), (fun c hc => nomatch hc)⟩
    ((fun c hc => nomatch hc))
    (fun _ _ _ _ y hy => by cases hy) (by decide +kernel)
/-- Model_end -/
def nk_160 : nK := (158, 0, ([((-2147483648), 2147483647)], [9], [], [], []), [.inr (.inr (.inl 0)), .inr (.inl (0, 0))], [(9, 0), (9, 2)], [], [(([((-2147483648), 2147483647), (0, 1)], [9], [], [], []), some (.inr (.inl (1, 0))))])
def nu_160 : List aCt := []
set_option maxRecDepth 100000 in
theorem vk_160 {X : nX} {L : Nat} {xs : Nat → Int32} {g : Nat} {S : List Nat} : nV nj_M X L xs g nFT nAT S (nJJ S) nk_160 :=
  aChk_ok (ctx := []) (W := ([], [])) (ls := none) (cuts := nu_160) (fuel := 16) (nJJ_ok S)
    ⟨(fun c hc => nomatch hc), (fun c hc => nomatch hc)⟩
    ((fun c hc => nomatch hc))
    (fun _ _ _ _ y hy => by cases hy) (by decide +kernel)
