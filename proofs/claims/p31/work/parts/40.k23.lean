/-- BREAK Script_readLine -/
def nk_346 : nK := (127, 6, ([], [6, 7, 0], [], [], []), [.inr (.inr (.inl 0)), .inr (.inr (.inl 1)), .inr (.inr (.inl 2))], [(6, 3), (7, 7), (7, 8), (7, 10), (7, 11)], [38, 39, 40], [(([], [6, 7, 0], [], [], []), some (.inl 0)), (([], [6, 7, 0], [], [], []), some (.inl 1))])
theorem vk_346 {X : nX} {L : Nat} {xs : Nat → Int32} {g : Nat} {S : List Nat} : nV nj_M X L xs g nFT nAT S (nJJ S) nk_346 := man_readLine
/-- Script_read -/
def nk_347 : nK := (126, 7, ([], [6, 7, 0], [], [], []), [.inr (.inr (.inl 0)), .inr (.inr (.inl 1)), .inr (.inr (.inl 2))], [(6, 3), (7, 6), (7, 7), (7, 8), (7, 9), (7, 10), (7, 11)], [38, 39, 40, 42, 43, 44], [(([], [6, 7, 0], [], [], []), some (.inl 0)), (([], [6, 7, 0], [], [], []), some (.inl 1))])
def nu_347 : List aCt := [(14, ([(0, 41)], [6, 7, 0], [], [], []), [(0, .inr (.inr (.inl 0))), (1, .inr (.inr (.inl 1))), (2, .inr (.inr (.inl 2))), (3, .inr (.inl (0, 0)))], ([((-2), 0)], 83))]
set_option maxRecDepth 100000 in
theorem vk_347 {X : nX} {L : Nat} {xs : Nat → Int32} {g : Nat} {S : List Nat} : nV nj_M X L xs g nFT nAT S (nJJ S) nk_347 :=
  aChk_ok (ctx := [nk_11, nk_14, nk_344, nk_346]) (W := ([], [sw_7])) (ls := none) (cuts := nu_347) (fuel := 38) (nJJ_ok S)
    ⟨(fun c hc => nomatch hc), (fun c hc => by
    simp only [List.mem_cons, List.not_mem_nil, or_false] at hc
    subst hc
    · exact sw_7_ok)⟩
    ((fun c hc => by
    simp only [List.mem_cons, List.not_mem_nil, or_false] at hc
    rcases hc with rfl | rfl | rfl | rfl
    · exact vk_11
    · exact vk_14
    · exact vk_344
    · exact vk_346))
    (fun _ _ _ _ y hy => by cases hy) (by decide +kernel)
/-- Slip_chronicle -/
def nk_348 : nK := (125, 8, ([((-2147483648), 2147483647)], [8], [], [], []), [.inr (.inr (.inl 0)), .inr (.inl (0, 0))], [(2, 5), (2, 6), (2, 7), (2, 8), (2, 9), (2, 10), (2, 11), (3, 1), (3, 2), (6, 3), (6, 4), (7, 5), (7, 6), (7, 7), (7, 8), (7, 9), (7, 10), (7, 11), (8, 13), (8, 14), (1002, 5), (1002, 6), (1002, 7), (1002, 8), (1002, 9), (1002, 10), (1002, 11)], [24, 25, 26, 27, 28, 38, 39, 40, 42, 43, 44, 48, 69, 70, 71, 72, 73], [(([((-2147483648), 2147483647), ((-2147483648), 2147483647)], [8], [], [], []), some (.inr (.inl (1, 0))))])
def nu_348 : List aCt := []
set_option maxRecDepth 100000 in
theorem vk_348 {X : nX} {L : Nat} {xs : Nat → Int32} {g : Nat} {S : List Nat} : nV nj_M X L xs g nFT nAT S (nJJ S) nk_348 :=
  aChk_ok (ctx := [nk_38, nk_51, nk_150, nk_153, nk_347]) (W := ([], [])) (ls := none) (cuts := nu_348) (fuel := 96) (nJJ_ok S)
    ⟨(fun c hc => nomatch hc), (fun c hc => nomatch hc)⟩
    ((fun c hc => by
    simp only [List.mem_cons, List.not_mem_nil, or_false] at hc
    rcases hc with rfl | rfl | rfl | rfl | rfl
    · exact vk_38
    · exact vk_51
    · exact vk_150
    · exact vk_153
    · exact vk_347))
    (fun _ _ _ _ y hy => by cases hy) (by decide +kernel)
