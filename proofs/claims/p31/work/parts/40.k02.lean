/-- Trial_errorsOf -/
def nk_39 : nK := (59, 0, ([((-2147483648), 2147483647)], [1002, 0], [], [], []), [.inr (.inr (.inl 0)), .inr (.inr (.inl 1)), .inr (.inl (0, 0))], [], [], [(([((-2147483648), 2147483647), ((-2147483648), 2147483647)], [1002, 0], [], [], []), some (.inr (.inl (1, 0))))])
def nu_39 : List aCt := [(5, ([((-2147483648), 2147483647), ((-2147483648), 2147483647), (0, 6)], [1002, 0], [], [], []), [(0, .inr (.inr (.inl 0))), (1, .inr (.inr (.inl 1))), (2, .inr (.inl (0, 0))), (3, .inr (.inl (1, 0))), (4, .inr (.inl (2, 0)))], ([((-2), 2)], 13))]
set_option maxRecDepth 100000 in
theorem vk_39 {X : nX} {L : Nat} {xs : Nat → Int32} {g : Nat} {S : List Nat} : nV nj_M X L xs g nFT nAT S (nJJ S) nk_39 :=
  aChk_ok (ctx := []) (W := ([], [])) (ls := none) (cuts := nu_39) (fuel := 24) (nJJ_ok S)
    ⟨(fun c hc => nomatch hc), (fun c hc => nomatch hc)⟩
    ((fun c hc => nomatch hc))
    (fun _ _ _ _ y hy => by cases hy) (by decide +kernel)
/-- Trial_unlike -/
def nk_40 : nK := (67, 1, ([(0, 3)], [1002, 0], [], [], []), [.inr (.inr (.inl 0)), .inr (.inr (.inl 1)), .inr (.inl (0, 0))], [], [], [(([(0, 3), ((-2147483648), 2147483647)], [1002, 0], [], [], []), some (.inr (.inl (1, 0))))])
def nu_40 : List aCt := [(5, ([(0, 3), ((-2147483648), 2147483647), (0, 12)], [1002, 0], [], [], []), [(0, .inr (.inr (.inl 0))), (1, .inr (.inr (.inl 1))), (2, .inr (.inl (0, 0))), (3, .inr (.inl (1, 0))), (4, .inr (.inl (2, 0)))], ([((-2), 2)], 25))]
set_option maxRecDepth 100000 in
theorem vk_40 {X : nX} {L : Nat} {xs : Nat → Int32} {g : Nat} {S : List Nat} : nV nj_M X L xs g nFT nAT S (nJJ S) nk_40 :=
  aChk_ok (ctx := []) (W := ([], [])) (ls := none) (cuts := nu_40) (fuel := 40) (nJJ_ok S)
    ⟨(fun c hc => nomatch hc), (fun c hc => nomatch hc)⟩
    ((fun c hc => nomatch hc))
    (fun _ _ _ _ y hy => by cases hy) (by decide +kernel)
/-- Trial_makeError -/
def nk_41 : nK := (66, 0, ([(0, 9), (0, 5)], [1002, 0], [], [], []), [.inr (.inr (.inl 0)), .inr (.inr (.inl 1)), .inr (.inl (0, 0)), .inr (.inl (1, 0))], [(1002, 7), (1002, 11)], [69, 70, 71, 72], [(([(0, 9), (0, 5)], [1002, 0], [], [], []), none)])
def nu_41 : List aCt := []
set_option maxRecDepth 100000 in
theorem vk_41 {X : nX} {L : Nat} {xs : Nat → Int32} {g : Nat} {S : List Nat} : nV nj_M X L xs g nFT nAT S (nJJ S) nk_41 :=
  aChk_ok (ctx := []) (W := ([], [])) (ls := none) (cuts := nu_41) (fuel := 65) (nJJ_ok S)
    ⟨(fun c hc => nomatch hc), (fun c hc => nomatch hc)⟩
    ((fun c hc => nomatch hc))
    (fun _ _ _ _ y hy => by cases hy) (by decide +kernel)
/-- Trial_perform -/
def nk_42 : nK := (64, 2, ([(0, 9), (0, 3)], [1002, 0], [], [], []), [.inr (.inr (.inl 0)), .inr (.inr (.inl 1)), .inr (.inl (0, 0)), .inr (.inl (1, 0))], [(1002, 5), (1002, 7), (1002, 9), (1002, 10), (1002, 11)], [69, 70, 71, 72, 73], [(([(0, 9), (0, 3), (0, 1)], [1002, 0], [], [], []), some (.inr (.inl (2, 0))))])
def nu_42 : List aCt := [(23, ([(0, 9), (0, 3), (0, 12)], [1002, 0], [], [], []), [(0, .inr (.inr (.inl 0))), (1, .inr (.inr (.inl 1))), (2, .inr (.inl (0, 0))), (3, .inr (.inl (1, 0))), (4, .inr (.inl (2, 0)))], ([((-19), 2)], 246)), (66, ([(0, 9), (0, 3), (0, 11), ((-2147483648), 2147483647), (0, 6)], [1002, 0], [], [], []), [(0, .inr (.inr (.inl 0))), (1, .inr (.inr (.inl 1))), (2, .inr (.inl (0, 0))), (3, .inr (.inl (1, 0))), (4, .inr (.inl (2, 0))), (5, .inr (.inl (3, 0))), (6, .inr (.inl (4, 0)))], ([((-19), 2), ((-2), 4)], 241))]
set_option maxRecDepth 100000 in
theorem vk_42 {X : nX} {L : Nat} {xs : Nat → Int32} {g : Nat} {S : List Nat} : nV nj_M X L xs g nFT nAT S (nJJ S) nk_42 :=
  aChk_ok (ctx := [nk_33, nk_39, nk_40, nk_41]) (W := ([], [])) (ls := none) (cuts := nu_42) (fuel := 44) (nJJ_ok S)
    ⟨(fun c hc => nomatch hc), (fun c hc => nomatch hc)⟩
    ((fun c hc => by
    simp only [List.mem_cons, List.not_mem_nil, or_false] at hc
    rcases hc with rfl | rfl | rfl | rfl
    · exact vk_33
    · exact vk_39
    · exact vk_40
    · exact vk_41))
    (fun _ _ _ _ y hy => by cases hy) (by decide +kernel)
/-- Trial_bury -/
def nk_43 : nK := (69, 3, ([(0, 9)], [1002, 0], [], [], []), [.inr (.inr (.inl 0)), .inr (.inr (.inl 1)), .inr (.inl (0, 0))], [(1002, 8)], [69], [(([(0, 9), (0, 1)], [1002, 0], [], [], []), some (.inr (.inl (1, 0))))])
def nu_43 : List aCt := [(23, ([(0, 9), (0, 10), (0, 6)], [1002, 0], [], [], []), [(0, .inr (.inr (.inl 0))), (1, .inr (.inr (.inl 1))), (2, .inr (.inl (0, 0))), (3, .inr (.inl (1, 0))), (4, .inr (.inl (2, 0)))], ([((-2), 2)], 13))]
set_option maxRecDepth 100000 in
theorem vk_43 {X : nX} {L : Nat} {xs : Nat → Int32} {g : Nat} {S : List Nat} : nV nj_M X L xs g nFT nAT S (nJJ S) nk_43 :=
  aChk_ok (ctx := [nk_32]) (W := ([], [])) (ls := none) (cuts := nu_43) (fuel := 25) (nJJ_ok S)
    ⟨(fun c hc => nomatch hc), (fun c hc => nomatch hc)⟩
    ((fun c hc => by
    simp only [List.mem_cons, List.not_mem_nil, or_false] at hc
    subst hc
    · exact vk_32))
    (fun _ _ _ _ y hy => by cases hy) (by decide +kernel)
/-- Trial_drawYears -/
def nk_44 : nK := (122, 4, ([(1, 60), ((-2147483648), 2147483647)], [1002, 0], [], [], []), [.inr (.inr (.inl 0)), .inr (.inr (.inl 1)), .inr (.inl (0, 0)), .inr (.inl (1, 0))], [(1002, 5), (1002, 6), (1002, 7), (1002, 8), (1002, 9), (1002, 10), (1002, 11)], [69, 70, 71, 72, 73], [(([(1, 60), ((-2147483648), 2147483647)], [1002, 0], [], [], []), none)])
def nu_44 : List aCt := [(14, ([(1, 60), ((-2147483648), 2147483647), ((-2147483648), 2147483647), (0, 4), (0, 64)], [1002, 0], [], [], []), [(0, .inr (.inr (.inl 0))), (1, .inr (.inr (.inl 1))), (2, .inr (.inl (0, 0))), (4, .inr (.inl (2, 0))), (5, .inr (.inl (3, 0))), (6, .inr (.inl (4, 0)))], ([((-27), 4)], 1754)), (23, ([(1, 60), ((-2147483648), 2147483647), ((-2147483648), 2147483647), (0, 4), (0, 60), (0, 10)], [1002, 0], [], [], []), [(0, .inr (.inr (.inl 0))), (1, .inr (.inr (.inl 1))), (2, .inr (.inl (0, 0))), (4, .inr (.inl (2, 0))), (5, .inr (.inl (3, 0))), (6, .inr (.inl (4, 0))), (7, .inr (.inl (5, 0)))], ([((-27), 4), ((-2), 5)], 1749))]
set_option maxRecDepth 100000 in
theorem vk_44 {X : nX} {L : Nat} {xs : Nat → Int32} {g : Nat} {S : List Nat} : nV nj_M X L xs g nFT nAT S (nJJ S) nk_44 :=
  aChk_ok (ctx := [nk_42, nk_43]) (W := ([], [])) (ls := none) (cuts := nu_44) (fuel := 81) (nJJ_ok S)
    ⟨(fun c hc => nomatch hc), (fun c hc => nomatch hc)⟩
    ((fun c hc => by
    simp only [List.mem_cons, List.not_mem_nil, or_false] at hc
    rcases hc with rfl | rfl
    · exact vk_42
    · exact vk_43))
    (fun _ _ _ _ y hy => by cases hy) (by decide +kernel)
/-- Life_errorsOf -/
def nk_45 : nK := (59, 0, ([((-2147483648), 2147483647)], [2, 0], [], [], []), [.inr (.inr (.inl 0)), .inr (.inr (.inl 1)), .inr (.inl (0, 0))], [], [], [(([((-2147483648), 2147483647), ((-2147483648), 2147483647)], [2, 0], [], [], []), some (.inr (.inl (1, 0))))])
def nu_45 : List aCt := [(5, ([((-2147483648), 2147483647), ((-2147483648), 2147483647), (0, 6)], [2, 0], [], [], []), [(0, .inr (.inr (.inl 0))), (1, .inr (.inr (.inl 1))), (2, .inr (.inl (0, 0))), (3, .inr (.inl (1, 0))), (4, .inr (.inl (2, 0)))], ([((-2), 2)], 13))]
set_option maxRecDepth 100000 in
theorem vk_45 {X : nX} {L : Nat} {xs : Nat → Int32} {g : Nat} {S : List Nat} : nV nj_M X L xs g nFT nAT S (nJJ S) nk_45 :=
  aChk_ok (ctx := []) (W := ([], [])) (ls := none) (cuts := nu_45) (fuel := 24) (nJJ_ok S)
    ⟨(fun c hc => nomatch hc), (fun c hc => nomatch hc)⟩
    ((fun c hc => nomatch hc))
    (fun _ _ _ _ y hy => by cases hy) (by decide +kernel)
/-- Life_unlike -/
def nk_46 : nK := (67, 1, ([(0, 3)], [2, 0], [], [], []), [.inr (.inr (.inl 0)), .inr (.inr (.inl 1)), .inr (.inl (0, 0))], [], [], [(([(0, 3), ((-2147483648), 2147483647)], [2, 0], [], [], []), some (.inr (.inl (1, 0))))])
def nu_46 : List aCt := [(5, ([(0, 3), ((-2147483648), 2147483647), (0, 12)], [2, 0], [], [], []), [(0, .inr (.inr (.inl 0))), (1, .inr (.inr (.inl 1))), (2, .inr (.inl (0, 0))), (3, .inr (.inl (1, 0))), (4, .inr (.inl (2, 0)))], ([((-2), 2)], 25))]
set_option maxRecDepth 100000 in
theorem vk_46 {X : nX} {L : Nat} {xs : Nat → Int32} {g : Nat} {S : List Nat} : nV nj_M X L xs g nFT nAT S (nJJ S) nk_46 :=
  aChk_ok (ctx := []) (W := ([], [])) (ls := none) (cuts := nu_46) (fuel := 40) (nJJ_ok S)
    ⟨(fun c hc => nomatch hc), (fun c hc => nomatch hc)⟩
    ((fun c hc => nomatch hc))
    (fun _ _ _ _ y hy => by cases hy) (by decide +kernel)
/-- Life_makeError -/
def nk_47 : nK := (66, 0, ([(0, 9), (0, 5)], [2, 0], [], [], []), [.inr (.inr (.inl 0)), .inr (.inr (.inl 1)), .inr (.inl (0, 0)), .inr (.inl (1, 0))], [(2, 7), (2, 11)], [24, 25, 26, 27], [(([(0, 9), (0, 5)], [2, 0], [], [], []), none)])
def nu_47 : List aCt := []
set_option maxRecDepth 100000 in
theorem vk_47 {X : nX} {L : Nat} {xs : Nat → Int32} {g : Nat} {S : List Nat} : nV nj_M X L xs g nFT nAT S (nJJ S) nk_47 :=
  aChk_ok (ctx := []) (W := ([], [])) (ls := none) (cuts := nu_47) (fuel := 65) (nJJ_ok S)
    ⟨(fun c hc => nomatch hc), (fun c hc => nomatch hc)⟩
    ((fun c hc => nomatch hc))
    (fun _ _ _ _ y hy => by cases hy) (by decide +kernel)
/-- Life_perform -/
def nk_48 : nK := (64, 2, ([(0, 9), (0, 3)], [2, 0], [], [], []), [.inr (.inr (.inl 0)), .inr (.inr (.inl 1)), .inr (.inl (0, 0)), .inr (.inl (1, 0))], [(2, 5), (2, 7), (2, 9), (2, 10), (2, 11)], [24, 25, 26, 27, 28], [(([(0, 9), (0, 3), (0, 1)], [2, 0], [], [], []), some (.inr (.inl (2, 0))))])
def nu_48 : List aCt := [(23, ([(0, 9), (0, 3), (0, 12)], [2, 0], [], [], []), [(0, .inr (.inr (.inl 0))), (1, .inr (.inr (.inl 1))), (2, .inr (.inl (0, 0))), (3, .inr (.inl (1, 0))), (4, .inr (.inl (2, 0)))], ([((-19), 2)], 246)), (66, ([(0, 9), (0, 3), (0, 11), ((-2147483648), 2147483647), (0, 6)], [2, 0], [], [], []), [(0, .inr (.inr (.inl 0))), (1, .inr (.inr (.inl 1))), (2, .inr (.inl (0, 0))), (3, .inr (.inl (1, 0))), (4, .inr (.inl (2, 0))), (5, .inr (.inl (3, 0))), (6, .inr (.inl (4, 0)))], ([((-19), 2), ((-2), 4)], 241))]
set_option maxRecDepth 100000 in
theorem vk_48 {X : nX} {L : Nat} {xs : Nat → Int32} {g : Nat} {S : List Nat} : nV nj_M X L xs g nFT nAT S (nJJ S) nk_48 :=
  aChk_ok (ctx := [nk_33, nk_45, nk_46, nk_47]) (W := ([], [])) (ls := none) (cuts := nu_48) (fuel := 44) (nJJ_ok S)
    ⟨(fun c hc => nomatch hc), (fun c hc => nomatch hc)⟩
    ((fun c hc => by
    simp only [List.mem_cons, List.not_mem_nil, or_false] at hc
    rcases hc with rfl | rfl | rfl | rfl
    · exact vk_33
    · exact vk_45
    · exact vk_46
    · exact vk_47))
    (fun _ _ _ _ y hy => by cases hy) (by decide +kernel)
/-- Life_bury -/
def nk_49 : nK := (69, 3, ([(0, 9)], [2, 0], [], [], []), [.inr (.inr (.inl 0)), .inr (.inr (.inl 1)), .inr (.inl (0, 0))], [(2, 8)], [24], [(([(0, 9), (0, 1)], [2, 0], [], [], []), some (.inr (.inl (1, 0))))])
def nu_49 : List aCt := [(23, ([(0, 9), (0, 10), (0, 6)], [2, 0], [], [], []), [(0, .inr (.inr (.inl 0))), (1, .inr (.inr (.inl 1))), (2, .inr (.inl (0, 0))), (3, .inr (.inl (1, 0))), (4, .inr (.inl (2, 0)))], ([((-2), 2)], 13))]
set_option maxRecDepth 100000 in
theorem vk_49 {X : nX} {L : Nat} {xs : Nat → Int32} {g : Nat} {S : List Nat} : nV nj_M X L xs g nFT nAT S (nJJ S) nk_49 :=
  aChk_ok (ctx := [nk_32]) (W := ([], [])) (ls := none) (cuts := nu_49) (fuel := 25) (nJJ_ok S)
    ⟨(fun c hc => nomatch hc), (fun c hc => nomatch hc)⟩
    ((fun c hc => by
    simp only [List.mem_cons, List.not_mem_nil, or_false] at hc
    subst hc
    · exact vk_32))
    (fun _ _ _ _ y hy => by cases hy) (by decide +kernel)
/-- Life_drawYears -/
def nk_50 : nK := (122, 4, ([(1, 60), ((-2147483648), 2147483647)], [2, 0], [], [], []), [.inr (.inr (.inl 0)), .inr (.inr (.inl 1)), .inr (.inl (0, 0)), .inr (.inl (1, 0))], [(2, 5), (2, 6), (2, 7), (2, 8), (2, 9), (2, 10), (2, 11)], [24, 25, 26, 27, 28], [(([(1, 60), ((-2147483648), 2147483647)], [2, 0], [], [], []), none)])
def nu_50 : List aCt := [(14, ([(1, 60), ((-2147483648), 2147483647), ((-2147483648), 2147483647), (0, 4), (0, 64)], [2, 0], [], [], []), [(0, .inr (.inr (.inl 0))), (1, .inr (.inr (.inl 1))), (2, .inr (.inl (0, 0))), (4, .inr (.inl (2, 0))), (5, .inr (.inl (3, 0))), (6, .inr (.inl (4, 0)))], ([((-27), 4)], 1754)), (23, ([(1, 60), ((-2147483648), 2147483647), ((-2147483648), 2147483647), (0, 4), (0, 60), (0, 10)], [2, 0], [], [], []), [(0, .inr (.inr (.inl 0))), (1, .inr (.inr (.inl 1))), (2, .inr (.inl (0, 0))), (4, .inr (.inl (2, 0))), (5, .inr (.inl (3, 0))), (6, .inr (.inl (4, 0))), (7, .inr (.inl (5, 0)))], ([((-27), 4), ((-2), 5)], 1749))]
set_option maxRecDepth 100000 in
theorem vk_50 {X : nX} {L : Nat} {xs : Nat → Int32} {g : Nat} {S : List Nat} : nV nj_M X L xs g nFT nAT S (nJJ S) nk_50 :=
  aChk_ok (ctx := [nk_48, nk_49]) (W := ([], [])) (ls := none) (cuts := nu_50) (fuel := 81) (nJJ_ok S)
    ⟨(fun c hc => nomatch hc), (fun c hc => nomatch hc)⟩
    ((fun c hc => by
    simp only [List.mem_cons, List.not_mem_nil, or_false] at hc
    rcases hc with rfl | rfl
    · exact vk_48
    · exact vk_49))
    (fun _ _ _ _ y hy => by cases hy) (by decide +kernel)
/-- Past_keep -/
def nk_51 : nK := (62, 1, ([], [3, 2], [], [], []), [.inr (.inr (.inl 0)), .inr (.inr (.inl 1))], [(2, 5), (2, 6), (2, 7), (2, 8), (2, 9), (2, 10), (2, 11), (3, 1), (3, 2)], [24, 25, 26, 27, 28], [(([], [3, 2], [], [], []), none)])
def nu_51 : List aCt := []
set_option maxRecDepth 100000 in
theorem vk_51 {X : nX} {L : Nat} {xs : Nat → Int32} {g : Nat} {S : List Nat} : nV nj_M X L xs g nFT nAT S (nJJ S) nk_51 :=
  aChk_ok (ctx := [nk_37]) (W := ([], [])) (ls := none) (cuts := nu_51) (fuel := 26) (nJJ_ok S)
    ⟨(fun c hc => nomatch hc), (fun c hc => nomatch hc)⟩
    ((fun c hc => by
    simp only [List.mem_cons, List.not_mem_nil, or_false] at hc
    subst hc
    · exact vk_37))
    (fun _ _ _ _ y hy => by cases hy) (by decide +kernel)
/-- Past_takeBack -/
def nk_52 : nK := (80, 1, ([], [3, 2], [], [], []), [.inr (.inr (.inl 0)), .inr (.inr (.inl 1))], [(2, 5), (2, 6), (2, 7), (2, 8), (2, 9), (2, 10), (2, 11), (3, 1), (3, 2)], [24, 25, 26, 27, 28], [(([((-1), 7)], [3, 2], [], [], []), some (.inr (.inl (0, 0))))])
def nu_52 : List aCt := []
set_option maxRecDepth 100000 in
theorem vk_52 {X : nX} {L : Nat} {xs : Nat → Int32} {g : Nat} {S : List Nat} : nV nj_M X L xs g nFT nAT S (nJJ S) nk_52 :=
  aChk_ok (ctx := [nk_37]) (W := ([], [])) (ls := none) (cuts := nu_52) (fuel := 31) (nJJ_ok S)
    ⟨(fun c hc => nomatch hc), (fun c hc => nomatch hc)⟩
    ((fun c hc => by
    simp only [List.mem_cons, List.not_mem_nil, or_false] at hc
    subst hc
    · exact vk_37))
    (fun _ _ _ _ y hy => by cases hy) (by decide +kernel)
/-- Planner_wearBy -/
def nk_53 : nK := (97, 0, ([((-2147483648), 2147483647), ((-2147483648), 2147483647)], [5], [], [], []), [.inr (.inr (.inl 0)), .inr (.inl (0, 0)), .inr (.inl (1, 0))], [], [36], [(([((-2147483648), 2147483647), ((-2147483648), 2147483647)], [5], [], [], []), none)])
def nu_53 : List aCt := [(2, ([((-2147483648), 2147483647), ((-2147483648), 2147483647), (0, 6)], [5], [], [], []), [(0, .inr (.inr (.inl 0))), (1, .inr (.inl (0, 0))), (2, .inr (.inl (1, 0))), (3, .inr (.inl (2, 0)))], ([((-2), 2)], 13))]
set_option maxRecDepth 100000 in
theorem vk_53 {X : nX} {L : Nat} {xs : Nat → Int32} {g : Nat} {S : List Nat} : nV nj_M X L xs g nFT nAT S (nJJ S) nk_53 :=
  aChk_ok (ctx := []) (W := ([], [])) (ls := none) (cuts := nu_53) (fuel := 22) (nJJ_ok S)
    ⟨(fun c hc => nomatch hc), (fun c hc => nomatch hc)⟩
    ((fun c hc => nomatch hc))
    (fun _ _ _ _ y hy => by cases hy) (by decide +kernel)
/-- Planner_ableNow -/
def nk_54 : nK := (96, 0, ([], [5, 0], [], [], []), [.inr (.inr (.inl 0)), .inr (.inr (.inl 1))], [], [], [(([((-2147483648), 2147483647)], [5, 0], [], [], []), some (.inr (.inl (0, 0))))])
def nu_54 : List aCt := [(4, ([((-2147483648), 2147483647), (0, 6)], [5, 0], [], [], []), [(0, .inr (.inr (.inl 0))), (1, .inr (.inr (.inl 1))), (2, .inr (.inl (0, 0))), (3, .inr (.inl (1, 0)))], ([((-2), 1)], 13))]
set_option maxRecDepth 100000 in
theorem vk_54 {X : nX} {L : Nat} {xs : Nat → Int32} {g : Nat} {S : List Nat} : nV nj_M X L xs g nFT nAT S (nJJ S) nk_54 :=
  aChk_ok (ctx := []) (W := ([], [])) (ls := none) (cuts := nu_54) (fuel := 23) (nJJ_ok S)
    ⟨(fun c hc => nomatch hc), (fun c hc => nomatch hc)⟩
    ((fun c hc => nomatch hc))
    (fun _ _ _ _ y hy => by cases hy) (by decide +kernel)
/-- Planner_keepFirst -/
def nk_55 : nK := (95, 0, ([], [5], [], [], []), [.inr (.inr (.inl 0))], [(5, 4), (5, 6)], [37], [(([], [5], [], [], []), none)])
def nu_55 : List aCt := []
set_option maxRecDepth 100000 in
theorem vk_55 {X : nX} {L : Nat} {xs : Nat → Int32} {g : Nat} {S : List Nat} : nV nj_M X L xs g nFT nAT S (nJJ S) nk_55 :=
  aChk_ok (ctx := []) (W := ([], [])) (ls := none) (cuts := nu_55) (fuel := 22) (nJJ_ok S)
    ⟨(fun c hc => nomatch hc), (fun c hc => nomatch hc)⟩
    ((fun c hc => nomatch hc))
    (fun _ _ _ _ y hy => by cases hy) (by decide +kernel)
/-- Planner_waysFrom6 -/
def nk_56 : nK := (94, 1, ([], [5, 0], [], [], []), [.inr (.inr (.inl 0)), .inr (.inr (.inl 1)), .inl 6], [(5, 4), (5, 6)], [37], [(([(1, 1)], [5, 0], [], [], []), some (.inr (.inl (0, 0))))])
def nu_56 : List aCt := []
set_option maxRecDepth 100000 in
theorem vk_56 {X : nX} {L : Nat} {xs : Nat → Int32} {g : Nat} {S : List Nat} : nV nj_M X L xs g nFT nAT S (nJJ S) nk_56 :=
  aChk_ok (ctx := [nk_55]) (W := ([], [])) (ls := none) (cuts := nu_56) (fuel := 10) (nJJ_ok S)
    ⟨(fun c hc => nomatch hc), (fun c hc => nomatch hc)⟩
    ((fun c hc => by
    simp only [List.mem_cons, List.not_mem_nil, or_false] at hc
    subst hc
    · exact vk_55))
    (fun _ _ _ _ y hy => by cases hy) (by decide +kernel)
/-- Planner_waysFrom5 -/
def nk_57 : nK := (94, 2, ([], [5, 0], [], [], []), [.inr (.inr (.inl 0)), .inr (.inr (.inl 1)), .inl 5], [(5, 4), (5, 6)], [35, 36, 37], [(([((-2147483648), 2147483647)], [5, 0], [], [], []), some (.inr (.inl (0, 0))))])
def nu_57 : List aCt := [(26, ([((-2147483648), 2147483647), ((-2147483648), 2147483647), (0, 6)], [5, 0], [], [], []), [(0, .inr (.inr (.inl 0))), (1, .inr (.inr (.inl 1))), (2, .inl 5), (3, .inr (.inl (0, 0))), (4, .inr (.inl (1, 0))), (5, .inr (.inl (2, 0)))], ([((-2), 2)], 13))]
set_option maxRecDepth 100000 in
theorem vk_57 {X : nX} {L : Nat} {xs : Nat → Int32} {g : Nat} {S : List Nat} : nV nj_M X L xs g nFT nAT S (nJJ S) nk_57 :=
  aChk_ok (ctx := [nk_33, nk_53, nk_54, nk_55, nk_56]) (W := ([], [])) (ls := none) (cuts := nu_57) (fuel := 46) (nJJ_ok S)
    ⟨(fun c hc => nomatch hc), (fun c hc => nomatch hc)⟩
    ((fun c hc => by
    simp only [List.mem_cons, List.not_mem_nil, or_false] at hc
    rcases hc with rfl | rfl | rfl | rfl | rfl
    · exact vk_33
    · exact vk_53
    · exact vk_54
    · exact vk_55
    · exact vk_56))
    (fun _ _ _ _ y hy => by cases hy) (by decide +kernel)
/-- Planner_waysFrom4 -/
def nk_58 : nK := (94, 3, ([], [5, 0], [], [], []), [.inr (.inr (.inl 0)), .inr (.inr (.inl 1)), .inl 4], [(5, 4), (5, 6)], [35, 36, 37], [(([((-2147483648), 2147483647)], [5, 0], [], [], []), some (.inr (.inl (0, 0))))])
def nu_58 : List aCt := [(26, ([((-2147483648), 2147483647), ((-2147483648), 2147483647), (0, 6)], [5, 0], [], [], []), [(0, .inr (.inr (.inl 0))), (1, .inr (.inr (.inl 1))), (2, .inl 4), (3, .inr (.inl (0, 0))), (4, .inr (.inl (1, 0))), (5, .inr (.inl (2, 0)))], ([((-2), 2)], 13))]
set_option maxRecDepth 100000 in
theorem vk_58 {X : nX} {L : Nat} {xs : Nat → Int32} {g : Nat} {S : List Nat} : nV nj_M X L xs g nFT nAT S (nJJ S) nk_58 :=
  aChk_ok (ctx := [nk_33, nk_53, nk_54, nk_55, nk_57]) (W := ([], [])) (ls := none) (cuts := nu_58) (fuel := 46) (nJJ_ok S)
    ⟨(fun c hc => nomatch hc), (fun c hc => nomatch hc)⟩
    ((fun c hc => by
    simp only [List.mem_cons, List.not_mem_nil, or_false] at hc
    rcases hc with rfl | rfl | rfl | rfl | rfl
    · exact vk_33
    · exact vk_53
    · exact vk_54
    · exact vk_55
    · exact vk_57))
    (fun _ _ _ _ y hy => by cases hy) (by decide +kernel)
/-- Planner_waysFrom3 -/
def nk_59 : nK := (94, 4, ([], [5, 0], [], [], []), [.inr (.inr (.inl 0)), .inr (.inr (.inl 1)), .inl 3], [(5, 4), (5, 6)], [35, 36, 37], [(([((-2147483648), 2147483647)], [5, 0], [], [], []), some (.inr (.inl (0, 0))))])
def nu_59 : List aCt := [(26, ([((-2147483648), 2147483647), ((-2147483648), 2147483647), (0, 6)], [5, 0], [], [], []), [(0, .inr (.inr (.inl 0))), (1, .inr (.inr (.inl 1))), (2, .inl 3), (3, .inr (.inl (0, 0))), (4, .inr (.inl (1, 0))), (5, .inr (.inl (2, 0)))], ([((-2), 2)], 13))]
set_option maxRecDepth 100000 in
theorem vk_59 {X : nX} {L : Nat} {xs : Nat → Int32} {g : Nat} {S : List Nat} : nV nj_M X L xs g nFT nAT S (nJJ S) nk_59 :=
  aChk_ok (ctx := [nk_33, nk_53, nk_54, nk_55, nk_58]) (W := ([], [])) (ls := none) (cuts := nu_59) (fuel := 46) (nJJ_ok S)
    ⟨(fun c hc => nomatch hc), (fun c hc => nomatch hc)⟩
    ((fun c hc => by
    simp only [List.mem_cons, List.not_mem_nil, or_false] at hc
    rcases hc with rfl | rfl | rfl | rfl | rfl
    · exact vk_33
    · exact vk_53
    · exact vk_54
    · exact vk_55
    · exact vk_58))
    (fun _ _ _ _ y hy => by cases hy) (by decide +kernel)
/-- Planner_waysFrom2 -/
def nk_60 : nK := (94, 5, ([], [5, 0], [], [], []), [.inr (.inr (.inl 0)), .inr (.inr (.inl 1)), .inl 2], [(5, 4), (5, 6)], [35, 36, 37], [(([((-2147483648), 2147483647)], [5, 0], [], [], []), some (.inr (.inl (0, 0))))])
def nu_60 : List aCt := [(26, ([((-2147483648), 2147483647), ((-2147483648), 2147483647), (0, 6)], [5, 0], [], [], []), [(0, .inr (.inr (.inl 0))), (1, .inr (.inr (.inl 1))), (2, .inl 2), (3, .inr (.inl (0, 0))), (4, .inr (.inl (1, 0))), (5, .inr (.inl (2, 0)))], ([((-2), 2)], 13))]
set_option maxRecDepth 100000 in
theorem vk_60 {X : nX} {L : Nat} {xs : Nat → Int32} {g : Nat} {S : List Nat} : nV nj_M X L xs g nFT nAT S (nJJ S) nk_60 :=
  aChk_ok (ctx := [nk_33, nk_53, nk_54, nk_55, nk_59]) (W := ([], [])) (ls := none) (cuts := nu_60) (fuel := 46) (nJJ_ok S)
    ⟨(fun c hc => nomatch hc), (fun c hc => nomatch hc)⟩
    ((fun c hc => by
    simp only [List.mem_cons, List.not_mem_nil, or_false] at hc
    rcases hc with rfl | rfl | rfl | rfl | rfl
    · exact vk_33
    · exact vk_53
    · exact vk_54
    · exact vk_55
    · exact vk_59))
    (fun _ _ _ _ y hy => by cases hy) (by decide +kernel)
/-- Planner_waysFrom1 -/
def nk_61 : nK := (94, 6, ([], [5, 0], [], [], []), [.inr (.inr (.inl 0)), .inr (.inr (.inl 1)), .inl 1], [(5, 4), (5, 6)], [35, 36, 37], [(([((-2147483648), 2147483647)], [5, 0], [], [], []), some (.inr (.inl (0, 0))))])
def nu_61 : List aCt := [(26, ([((-2147483648), 2147483647), ((-2147483648), 2147483647), (0, 6)], [5, 0], [], [], []), [(0, .inr (.inr (.inl 0))), (1, .inr (.inr (.inl 1))), (2, .inl 1), (3, .inr (.inl (0, 0))), (4, .inr (.inl (1, 0))), (5, .inr (.inl (2, 0)))], ([((-2), 2)], 13))]
set_option maxRecDepth 100000 in
theorem vk_61 {X : nX} {L : Nat} {xs : Nat → Int32} {g : Nat} {S : List Nat} : nV nj_M X L xs g nFT nAT S (nJJ S) nk_61 :=
  aChk_ok (ctx := [nk_33, nk_53, nk_54, nk_55, nk_60]) (W := ([], [])) (ls := none) (cuts := nu_61) (fuel := 46) (nJJ_ok S)
    ⟨(fun c hc => nomatch hc), (fun c hc => nomatch hc)⟩
    ((fun c hc => by
    simp only [List.mem_cons, List.not_mem_nil, or_false] at hc
    rcases hc with rfl | rfl | rfl | rfl | rfl
    · exact vk_33
    · exact vk_53
    · exact vk_54
    · exact vk_55
    · exact vk_60))
    (fun _ _ _ _ y hy => by cases hy) (by decide +kernel)
/-- Planner_waysFrom0 -/
def nk_62 : nK := (94, 7, ([], [5, 0], [], [], []), [.inr (.inr (.inl 0)), .inr (.inr (.inl 1)), .inl 0], [(5, 4), (5, 6)], [35, 36, 37], [(([((-2147483648), 2147483647)], [5, 0], [], [], []), some (.inr (.inl (0, 0))))])
def nu_62 : List aCt := [(26, ([((-2147483648), 2147483647), ((-2147483648), 2147483647), (0, 6)], [5, 0], [], [], []), [(0, .inr (.inr (.inl 0))), (1, .inr (.inr (.inl 1))), (2, .inl 0), (3, .inr (.inl (0, 0))), (4, .inr (.inl (1, 0))), (5, .inr (.inl (2, 0)))], ([((-2), 2)], 13))]
set_option maxRecDepth 100000 in
theorem vk_62 {X : nX} {L : Nat} {xs : Nat → Int32} {g : Nat} {S : List Nat} : nV nj_M X L xs g nFT nAT S (nJJ S) nk_62 :=
  aChk_ok (ctx := [nk_33, nk_53, nk_54, nk_55, nk_61]) (W := ([], [])) (ls := none) (cuts := nu_62) (fuel := 46) (nJJ_ok S)
    ⟨(fun c hc => nomatch hc), (fun c hc => nomatch hc)⟩
    ((fun c hc => by
    simp only [List.mem_cons, List.not_mem_nil, or_false] at hc
    rcases hc with rfl | rfl | rfl | rfl | rfl
    · exact vk_33
    · exact vk_53
    · exact vk_54
    · exact vk_55
    · exact vk_61))
    (fun _ _ _ _ y hy => by cases hy) (by decide +kernel)
/-- Planner_waysTo -/
def nk_63 : nK := (93, 8, ([(1, 6), (0, 9)], [5, 7, 0, 2], [], [], []), [.inr (.inr (.inl 0)), .inr (.inr (.inl 1)), .inr (.inl (0, 0)), .inr (.inr (.inl 2)), .inr (.inr (.inl 3)), .inr (.inl (1, 0))], [(5, 4), (5, 5), (5, 6)], [34, 35, 36, 37], [(([(1, 6), (0, 9), ((-2147483648), 2147483647)], [5, 7, 0, 2], [], [], []), some (.inr (.inl (2, 0))))])
def nu_63 : List aCt := [(13, ([(1, 6), (0, 9), (0, 6)], [5, 7, 0, 2], [], [], []), [(0, .inr (.inr (.inl 0))), (1, .inr (.inr (.inl 1))), (3, .inr (.inr (.inl 2))), (4, .inr (.inr (.inl 3))), (5, .inr (.inl (1, 0))), (6, .inr (.inl (2, 0)))], ([((-2), 2)], 30)), (44, ([(1, 6), (0, 9), (0, 6)], [5, 7, 0, 2], [], [], []), [(0, .inr (.inr (.inl 0))), (3, .inr (.inr (.inl 2))), (4, .inr (.inr (.inl 3))), (5, .inr (.inl (1, 0))), (6, .inr (.inl (2, 0)))], ([((-2), 2)], 13))]
set_option maxRecDepth 100000 in
theorem vk_63 {X : nX} {L : Nat} {xs : Nat → Int32} {g : Nat} {S : List Nat} : nV nj_M X L xs g nFT nAT S (nJJ S) nk_63 :=
  aChk_ok (ctx := [nk_62]) (W := ([], [])) (ls := none) (cuts := nu_63) (fuel := 28) (nJJ_ok S)
    ⟨(fun c hc => nomatch hc), (fun c hc => nomatch hc)⟩
    ((fun c hc => by
    simp only [List.mem_cons, List.not_mem_nil, or_false] at hc
    subst hc
    · exact vk_62))
    (fun _ _ _ _ y hy => by cases hy) (by decide +kernel)
/-- Slip_feed -/
def nk_64 : nK := (18, 1, ([((-2147483648), 2147483647), ((-2147483648), 2147483647), ((-2147483648), 2147483647), ((-2147483648), 2147483647), ((-2147483648), 2147483647)], [8], [], [], []), [.inr (.inr (.inl 0)), .inr (.inl (0, 0)), .inr (.inl (1, 0)), .inr (.inl (2, 0)), .inr (.inl (3, 0)), .inr (.inl (4, 0))], [(7, 5)], [41], [(([((-2147483648), 2147483647), ((-2147483648), 2147483647), ((-2147483648), 2147483647), ((-2147483648), 2147483647), ((-2147483648), 2147483647), ((-1), 940)], [8], [], [], []), some (.inr (.inl (5, 0))))])
def nu_64 : List aCt := []
set_option maxRecDepth 100000 in
theorem vk_64 {X : nX} {L : Nat} {xs : Nat → Int32} {g : Nat} {S : List Nat} : nV nj_M X L xs g nFT nAT S (nJJ S) nk_64 :=
  aChk_ok (ctx := [nk_7]) (W := ([], [])) (ls := none) (cuts := nu_64) (fuel := 33) (nJJ_ok S)
    ⟨(fun c hc => nomatch hc), (fun c hc => nomatch hc)⟩
    ((fun c hc => by
    simp only [List.mem_cons, List.not_mem_nil, or_false] at hc
    subst hc
    · exact vk_7))
    (fun _ _ _ _ y hy => by cases hy) (by decide +kernel)
/-- Slip_end -/
def nk_65 : nK := (20, 0, ([((-2147483648), 2147483647)], [8], [], [], []), [.inr (.inr (.inl 0)), .inr (.inl (0, 0))], [(7, 5)], [], [(([((-2147483648), 2147483647), (0, 1)], [8], [], [], []), some (.inr (.inl (1, 0))))])
def nu_65 : List aCt := []
set_option maxRecDepth 100000 in
theorem vk_65 {X : nX} {L : Nat} {xs : Nat → Int32} {g : Nat} {S : List Nat} : nV nj_M X L xs g nFT nAT S (nJJ S) nk_65 :=
  aChk_ok (ctx := []) (W := ([], [])) (ls := none) (cuts := nu_65) (fuel := 15) (nJJ_ok S)
    ⟨(fun c hc => nomatch hc), (fun c hc => nomatch hc)⟩
    ((fun c hc => nomatch hc))
    (fun _ _ _ _ y hy => by cases hy) (by decide +kernel)
/-- Slip_family -/
def nk_66 : nK := (21, 6, ([], [8], [], [], []), [.inr (.inr (.inl 0))], [(0, 14), (0, 15), (2, 5), (2, 6), (2, 7), (2, 8), (2, 9), (2, 10), (2, 11), (3, 1), (4, 4), (4, 5), (7, 5), (7, 6), (7, 7), (7, 8), (7, 9), (7, 10), (7, 11), (8, 14)], [10, 11, 12, 13, 14, 15, 16, 17, 18, 19, 20, 21, 22, 23, 24, 25, 26, 27, 42, 43, 44], [(([((-2147483648), 2147483647)], [8], [], [], []), some (.inr (.inl (0, 0))))])
def nu_66 : List aCt := []
set_option maxRecDepth 100000 in
theorem vk_66 {X : nX} {L : Nat} {xs : Nat → Int32} {g : Nat} {S : List Nat} : nV nj_M X L xs g nFT nAT S (nJJ S) nk_66 :=
  aChk_ok (ctx := [nk_15, nk_27, nk_36]) (W := ([], [sw_0])) (ls := none) (cuts := nu_66) (fuel := 53) (nJJ_ok S)
    ⟨(fun c hc => nomatch hc), (fun c hc => by
    simp only [List.mem_cons, List.not_mem_nil, or_false] at hc
    subst hc
    · exact sw_0_ok)⟩
    ((fun c hc => by
    simp only [List.mem_cons, List.not_mem_nil, or_false] at hc
    rcases hc with rfl | rfl | rfl
    · exact vk_15
    · exact vk_27
    · exact vk_36))
    (fun _ _ _ _ y hy => by cases hy) (by decide +kernel)
/-- Slip_fault -/
def nk_67 : nK := (53, 0, ([], [8], [], [], []), [.inr (.inr (.inl 0))], [], [], [(([((-2147483648), 2147483647)], [8], [], [], []), some (.inr (.inl (0, 0))))])
def nu_67 : List aCt := []
set_option maxRecDepth 100000 in
theorem vk_67 {X : nX} {L : Nat} {xs : Nat → Int32} {g : Nat} {S : List Nat} : nV nj_M X L xs g nFT nAT S (nJJ S) nk_67 :=
  aChk_ok (ctx := []) (W := ([], [])) (ls := none) (cuts := nu_67) (fuel := 5) (nJJ_ok S)
    ⟨(fun c hc => nomatch hc), (fun c hc => nomatch hc)⟩
    ((fun c hc => nomatch hc))
    (fun _ _ _ _ y hy => by cases hy) (by decide +kernel)
/-- Slip_error -/
def nk_68 : nK := (54, 1, ([((-2147483648), 2147483647), ((-2147483648), 2147483647)], [8], [], [], []), [.inr (.inr (.inl 0)), .inr (.inl (0, 0)), .inr (.inl (1, 0))], [], [], [(([((-2147483648), 2147483647), ((-2147483648), 2147483647), ((-2147483648), 2147483647)], [8], [], [], []), some (.inr (.inl (2, 0))))])
def nu_68 : List aCt := []
set_option maxRecDepth 100000 in
theorem vk_68 {X : nX} {L : Nat} {xs : Nat → Int32} {g : Nat} {S : List Nat} : nV nj_M X L xs g nFT nAT S (nJJ S) nk_68 :=
  aChk_ok (ctx := []) (W := ([], [])) (ls := none) (cuts := nu_68) (fuel := 27) (nJJ_ok S)
    ⟨(fun c hc => nomatch hc), (fun c hc => nomatch hc)⟩
    ((fun c hc => nomatch hc))
    (fun _ _ _ _ y hy => by cases hy) (by decide +kernel)
/-- Slip_deed -/
def nk_69 : nK := (56, 1, ([((-2147483648), 2147483647), ((-2147483648), 2147483647)], [8], [], [], []), [.inr (.inr (.inl 0)), .inr (.inl (0, 0)), .inr (.inl (1, 0))], [], [], [(([((-2147483648), 2147483647), ((-2147483648), 2147483647), ((-2147483648), 2147483647)], [8], [], [], []), some (.inr (.inl (2, 0))))])
def nu_69 : List aCt := []
set_option maxRecDepth 100000 in
theorem vk_69 {X : nX} {L : Nat} {xs : Nat → Int32} {g : Nat} {S : List Nat} : nV nj_M X L xs g nFT nAT S (nJJ S) nk_69 :=
  aChk_ok (ctx := []) (W := ([], [])) (ls := none) (cuts := nu_69) (fuel := 45) (nJJ_ok S)
    ⟨(fun c hc => nomatch hc), (fun c hc => nomatch hc)⟩
    ((fun c hc => nomatch hc))
    (fun _ _ _ _ y hy => by cases hy) (by decide +kernel)
/-- Slip_now -/
def nk_70 : nK := (58, 1, ([((-2147483648), 2147483647)], [8], [], [], []), [.inr (.inr (.inl 0)), .inr (.inl (0, 0))], [], [], [(([((-2147483648), 2147483647), ((-2147483648), 2147483647)], [8], [], [], []), some (.inr (.inl (1, 0))))])
def nu_70 : List aCt := []
set_option maxRecDepth 100000 in
theorem vk_70 {X : nX} {L : Nat} {xs : Nat → Int32} {g : Nat} {S : List Nat} : nV nj_M X L xs g nFT nAT S (nJJ S) nk_70 :=
  aChk_ok (ctx := [nk_45]) (W := ([], [])) (ls := none) (cuts := nu_70) (fuel := 11) (nJJ_ok S)
    ⟨(fun c hc => nomatch hc), (fun c hc => nomatch hc)⟩
    ((fun c hc => by
    simp only [List.mem_cons, List.not_mem_nil, or_false] at hc
    subst hc
    · exact vk_45))
    (fun _ _ _ _ y hy => by cases hy) (by decide +kernel)
/-- Slip_act -/
def nk_71 : nK := (60, 3, ([((-2147483648), 2147483647), ((-2147483648), 2147483647)], [8], [], [], []), [.inr (.inr (.inl 0)), .inr (.inl (0, 0)), .inr (.inl (1, 0))], [(2, 5), (2, 6), (2, 7), (2, 8), (2, 9), (2, 10), (2, 11), (3, 1), (3, 2)], [24, 25, 26, 27, 28], [(([((-2147483648), 2147483647), ((-2147483648), 2147483647), ((-1), 1)], [8], [], [], []), some (.inr (.inl (2, 0))))])
def nu_71 : List aCt := []
set_option maxRecDepth 100000 in
theorem vk_71 {X : nX} {L : Nat} {xs : Nat → Int32} {g : Nat} {S : List Nat} : nV nj_M X L xs g nFT nAT S (nJJ S) nk_71 :=
  aChk_ok (ctx := [nk_48, nk_51]) (W := ([], [])) (ls := none) (cuts := nu_71) (fuel := 64) (nJJ_ok S)
    ⟨(fun c hc => nomatch hc), (fun c hc => nomatch hc)⟩
    ((fun c hc => by
    simp only [List.mem_cons, List.not_mem_nil, or_false] at hc
    rcases hc with rfl | rfl
    · exact vk_48
    · exact vk_51))
    (fun _ _ _ _ y hy => by cases hy) (by decide +kernel)
/-- Slip_die -/
def nk_72 : nK := (68, 4, ([((-2147483648), 2147483647)], [8], [], [], []), [.inr (.inr (.inl 0)), .inr (.inl (0, 0))], [(2, 5), (2, 6), (2, 7), (2, 8), (2, 9), (2, 10), (2, 11), (3, 1), (3, 2)], [24, 25, 26, 27, 28], [(([((-2147483648), 2147483647), ((-1), 1)], [8], [], [], []), some (.inr (.inl (1, 0))))])
def nu_72 : List aCt := []
set_option maxRecDepth 100000 in
theorem vk_72 {X : nX} {L : Nat} {xs : Nat → Int32} {g : Nat} {S : List Nat} : nV nj_M X L xs g nFT nAT S (nJJ S) nk_72 :=
  aChk_ok (ctx := [nk_49, nk_51]) (W := ([], [])) (ls := none) (cuts := nu_72) (fuel := 46) (nJJ_ok S)
    ⟨(fun c hc => nomatch hc), (fun c hc => nomatch hc)⟩
    ((fun c hc => by
    simp only [List.mem_cons, List.not_mem_nil, or_false] at hc
    rcases hc with rfl | rfl
    · exact vk_49
    · exact vk_51))
    (fun _ _ _ _ y hy => by cases hy) (by decide +kernel)
/-- Slip_give -/
def nk_73 : nK := (75, 3, ([((-2147483648), 2147483647), ((-2147483648), 2147483647)], [8], [], [], []), [.inr (.inr (.inl 0)), .inr (.inl (0, 0)), .inr (.inl (1, 0))], [(2, 5), (2, 6), (2, 7), (2, 8), (2, 9), (2, 10), (2, 11), (3, 1), (3, 2)], [24, 25, 26, 27, 28], [(([((-2147483648), 2147483647), ((-2147483648), 2147483647), ((-1), 4)], [8], [], [], []), some (.inr (.inl (2, 0))))])
def nu_73 : List aCt := []
set_option maxRecDepth 100000 in
theorem vk_73 {X : nX} {L : Nat} {xs : Nat → Int32} {g : Nat} {S : List Nat} : nV nj_M X L xs g nFT nAT S (nJJ S) nk_73 :=
  aChk_ok (ctx := [nk_51]) (W := ([], [])) (ls := none) (cuts := nu_73) (fuel := 178) (nJJ_ok S)
    ⟨(fun c hc => nomatch hc), (fun c hc => nomatch hc)⟩
    ((fun c hc => by
    simp only [List.mem_cons, List.not_mem_nil, or_false] at hc
    subst hc
    · exact vk_51))
    (fun _ _ _ _ y hy => by cases hy) (by decide +kernel)
/-- Slip_years -/
def nk_74 : nK := (78, 2, ([((-2147483648), 2147483647)], [8], [], [], []), [.inr (.inr (.inl 0)), .inr (.inl (0, 0))], [(2, 5), (2, 6), (2, 7), (2, 8), (2, 9), (2, 10), (2, 11), (3, 1), (3, 2)], [24, 25, 26, 27, 28], [(([((-2147483648), 2147483647), ((-2147483648), 2147483647)], [8], [], [], []), some (.inr (.inl (1, 0))))])
def nu_74 : List aCt := []
set_option maxRecDepth 100000 in
theorem vk_74 {X : nX} {L : Nat} {xs : Nat → Int32} {g : Nat} {S : List Nat} : nV nj_M X L xs g nFT nAT S (nJJ S) nk_74 :=
  aChk_ok (ctx := [nk_51]) (W := ([], [])) (ls := none) (cuts := nu_74) (fuel := 31) (nJJ_ok S)
    ⟨(fun c hc => nomatch hc), (fun c hc => nomatch hc)⟩
    ((fun c hc => by
    simp only [List.mem_cons, List.not_mem_nil, or_false] at hc
    subst hc
    · exact vk_51))
    (fun _ _ _ _ y hy => by cases hy) (by decide +kernel)
/-- Slip_undo -/
def nk_75 : nK := (79, 2, ([], [8], [], [], []), [.inr (.inr (.inl 0))], [(2, 5), (2, 6), (2, 7), (2, 8), (2, 9), (2, 10), (2, 11), (3, 1), (3, 2)], [24, 25, 26, 27, 28], [(([((-1), 7)], [8], [], [], []), some (.inr (.inl (0, 0))))])
def nu_75 : List aCt := []
set_option maxRecDepth 100000 in
theorem vk_75 {X : nX} {L : Nat} {xs : Nat → Int32} {g : Nat} {S : List Nat} : nV nj_M X L xs g nFT nAT S (nJJ S) nk_75 :=
  aChk_ok (ctx := [nk_52]) (W := ([], [])) (ls := none) (cuts := nu_75) (fuel := 8) (nJJ_ok S)
    ⟨(fun c hc => nomatch hc), (fun c hc => nomatch hc)⟩
    ((fun c hc => by
    simp only [List.mem_cons, List.not_mem_nil, or_false] at hc
    subst hc
    · exact vk_52))
    (fun _ _ _ _ y hy => by cases hy) (by decide +kernel)
/-- Slip_came -/
def nk_76 : nK := (81, 1, ([((-2147483648), 2147483647)], [8], [], [], []), [.inr (.inr (.inl 0)), .inr (.inl (0, 0))], [], [], [(([((-2147483648), 2147483647), ((-2147483648), 2147483647)], [8], [], [], []), some (.inr (.inl (1, 0))))])
def nu_76 : List aCt := []
set_option maxRecDepth 100000 in
theorem vk_76 {X : nX} {L : Nat} {xs : Nat → Int32} {g : Nat} {S : List Nat} : nV nj_M X L xs g nFT nAT S (nJJ S) nk_76 :=
  aChk_ok (ctx := []) (W := ([], [])) (ls := none) (cuts := nu_76) (fuel := 25) (nJJ_ok S)
    ⟨(fun c hc => nomatch hc), (fun c hc => nomatch hc)⟩
    ((fun c hc => nomatch hc))
    (fun _ _ _ _ y hy => by cases hy) (by decide +kernel)
/-- Slip_tryDeed -/
def nk_77 : nK := (85, 3, ([(0, 9), (0, 3)], [8], [], [], []), [.inr (.inr (.inl 0)), .inr (.inl (0, 0)), .inr (.inl (1, 0))], [(1002, 5), (1002, 6), (1002, 7), (1002, 8), (1002, 9), (1002, 10), (1002, 11)], [69, 70, 71, 72, 73], [(([(0, 9), (0, 3)], [8], [], [], []), none)])
def nu_77 : List aCt := []
set_option maxRecDepth 100000 in
theorem vk_77 {X : nX} {L : Nat} {xs : Nat → Int32} {g : Nat} {S : List Nat} : nV nj_M X L xs g nFT nAT S (nJJ S) nk_77 :=
  aChk_ok (ctx := [nk_38, nk_42]) (W := ([], [])) (ls := none) (cuts := nu_77) (fuel := 16) (nJJ_ok S)
    ⟨(fun c hc => nomatch hc), (fun c hc => nomatch hc)⟩
    ((fun c hc => by
    simp only [List.mem_cons, List.not_mem_nil, or_false] at hc
    rcases hc with rfl | rfl
    · exact vk_38
    · exact vk_42))
    (fun _ _ _ _ y hy => by cases hy) (by decide +kernel)
/-- Slip_comes -/
def nk_78 : nK := (83, 4, ([((-2147483648), 2147483647), ((-2147483648), 2147483647), ((-2147483648), 2147483647)], [8], [], [], []), [.inr (.inr (.inl 0)), .inr (.inl (0, 0)), .inr (.inl (1, 0)), .inr (.inl (2, 0))], [(1002, 5), (1002, 6), (1002, 7), (1002, 8), (1002, 9), (1002, 10), (1002, 11)], [69, 70, 71, 72, 73], [(([((-2147483648), 2147483647), ((-2147483648), 2147483647), ((-2147483648), 2147483647), ((-2147483648), 2147483647)], [8], [], [], []), some (.inr (.inl (3, 0))))])
def nu_78 : List aCt := []
set_option maxRecDepth 100000 in
theorem vk_78 {X : nX} {L : Nat} {xs : Nat → Int32} {g : Nat} {S : List Nat} : nV nj_M X L xs g nFT nAT S (nJJ S) nk_78 :=
  aChk_ok (ctx := [nk_40, nk_77]) (W := ([], [])) (ls := none) (cuts := nu_78) (fuel := 82) (nJJ_ok S)
    ⟨(fun c hc => nomatch hc), (fun c hc => nomatch hc)⟩
    ((fun c hc => by
    simp only [List.mem_cons, List.not_mem_nil, or_false] at hc
    rcases hc with rfl | rfl
    · exact vk_40
    · exact vk_77))
    (fun _ _ _ _ y hy => by cases hy) (by decide +kernel)
/-- Slip_right -/
def nk_79 : nK := (86, 4, ([((-2147483648), 2147483647)], [8], [], [], []), [.inr (.inr (.inl 0)), .inr (.inl (0, 0))], [(1002, 5), (1002, 6), (1002, 7), (1002, 8), (1002, 9), (1002, 10), (1002, 11)], [69, 70, 71, 72, 73], [(([((-2147483648), 2147483647), ((-2147483648), 2147483647)], [8], [], [], []), some (.inr (.inl (1, 0))))])
def nu_79 : List aCt := [(18, ([(0, 3), ((-2147483648), 2147483647), (0, 10)], [8], [], [], []), [(0, .inr (.inr (.inl 0))), (1, .inr (.inl (0, 0))), (2, .inr (.inl (1, 0))), (3, .inr (.inl (2, 0)))], ([((-2), 2)], 21))]
set_option maxRecDepth 100000 in
theorem vk_79 {X : nX} {L : Nat} {xs : Nat → Int32} {g : Nat} {S : List Nat} : nV nj_M X L xs g nFT nAT S (nJJ S) nk_79 :=
  aChk_ok (ctx := [nk_40, nk_77]) (W := ([], [])) (ls := none) (cuts := nu_79) (fuel := 45) (nJJ_ok S)
    ⟨(fun c hc => nomatch hc), (fun c hc => nomatch hc)⟩
    ((fun c hc => by
    simp only [List.mem_cons, List.not_mem_nil, or_false] at hc
    rcases hc with rfl | rfl
    · exact vk_40
    · exact vk_77))
    (fun _ _ _ _ y hy => by cases hy) (by decide +kernel)
/-- Slip_heir -/
def nk_80 : nK := (87, 3, ([((-2147483648), 2147483647)], [8], [], [], []), [.inr (.inr (.inl 0)), .inr (.inl (0, 0))], [], [], [(([((-2147483648), 2147483647), ((-1), 10)], [8], [], [], []), some (.inr (.inl (1, 0))))])
def nu_80 : List aCt := []
set_option maxRecDepth 100000 in
theorem vk_80 {X : nX} {L : Nat} {xs : Nat → Int32} {g : Nat} {S : List Nat} : nV nj_M X L xs g nFT nAT S (nJJ S) nk_80 :=
  aChk_ok (ctx := [nk_32]) (W := ([], [])) (ls := none) (cuts := nu_80) (fuel := 42) (nJJ_ok S)
    ⟨(fun c hc => nomatch hc), (fun c hc => nomatch hc)⟩
    ((fun c hc => by
    simp only [List.mem_cons, List.not_mem_nil, or_false] at hc
    subst hc
    · exact vk_32))
    (fun _ _ _ _ y hy => by cases hy) (by decide +kernel)
/-- Slip_line -/
def nk_81 : nK := (88, 3, ([((-2147483648), 2147483647), ((-2147483648), 2147483647)], [8], [], [], []), [.inr (.inr (.inl 0)), .inr (.inl (0, 0)), .inr (.inl (1, 0))], [], [], [(([((-2147483648), 2147483647), ((-2147483648), 2147483647), ((-1), 10)], [8], [], [], []), some (.inr (.inl (2, 0))))])
def nu_81 : List aCt := [(50, ([(0, 9), (1, 10), ((-2147483648), 2147483647), (0, 10), (0, 10)], [8], [], [], []), [(0, .inr (.inr (.inl 0))), (2, .inr (.inl (1, 0))), (3, .inr (.inl (2, 0))), (4, .inr (.inl (3, 0))), (5, .inr (.inl (4, 0)))], ([((-2), 4)], 21))]
set_option maxRecDepth 100000 in
theorem vk_81 {X : nX} {L : Nat} {xs : Nat → Int32} {g : Nat} {S : List Nat} : nV nj_M X L xs g nFT nAT S (nJJ S) nk_81 :=
  aChk_ok (ctx := [nk_32]) (W := ([], [])) (ls := none) (cuts := nu_81) (fuel := 49) (nJJ_ok S)
    ⟨(fun c hc => nomatch hc), (fun c hc => nomatch hc)⟩
    ((fun c hc => by
    simp only [List.mem_cons, List.not_mem_nil, or_false] at hc
    subst hc
    · exact vk_32))
    (fun _ _ _ _ y hy => by cases hy) (by decide +kernel)
/-- Slip_tellsSteps -/
def nk_82 : nK := (91, 1, ([(0, 940)], [8], [], [], []), [.inr (.inr (.inl 0)), .inr (.inl (0, 0))], [], [], [(([(0, 940), (0, 1)], [8], [], [], []), some (.inr (.inl (1, 0))))])
def nu_82 : List aCt := [(2, ([(0, 940), (0, 940)], [8], [], [], []), [(0, .inr (.inr (.inl 0))), (1, .inr (.inl (0, 0))), (2, .inr (.inl (1, 0)))], ([((-2), 1)], 1881))]
set_option maxRecDepth 100000 in
theorem vk_82 {X : nX} {L : Nat} {xs : Nat → Int32} {g : Nat} {S : List Nat} : nV nj_M X L xs g nFT nAT S (nJJ S) nk_82 :=
  aChk_ok (ctx := []) (W := ([], [])) (ls := none) (cuts := nu_82) (fuel := 40) (nJJ_ok S)
    ⟨(fun c hc => nomatch hc), (fun c hc => nomatch hc)⟩
    ((fun c hc => nomatch hc))
    (fun _ _ _ _ y hy => by cases hy) (by decide +kernel)
/-- Slip_plan -/
def nk_83 : nK := (89, 9, ([((-2147483648), 2147483647)], [8], [], [], []), [.inr (.inr (.inl 0)), .inr (.inl (0, 0))], [(5, 4), (5, 5), (5, 6), (7, 5)], [34, 35, 36, 37], [(([((-2147483648), 2147483647), ((-2147483648), 2147483647)], [8], [], [], []), some (.inr (.inl (1, 0))))])
def nu_83 : List aCt := []
set_option maxRecDepth 100000 in
theorem vk_83 {X : nX} {L : Nat} {xs : Nat → Int32} {g : Nat} {S : List Nat} : nV nj_M X L xs g nFT nAT S (nJJ S) nk_83 :=
  aChk_ok (ctx := [nk_12, nk_63, nk_82]) (W := ([], [])) (ls := none) (cuts := nu_83) (fuel := 60) (nJJ_ok S)
    ⟨(fun c hc => nomatch hc), (fun c hc => nomatch hc)⟩
    ((fun c hc => by
    simp only [List.mem_cons, List.not_mem_nil, or_false] at hc
    rcases hc with rfl | rfl | rfl
    · exact vk_12
    · exact vk_63
    · exact vk_82))
    (fun _ _ _ _ y hy => by cases hy) (by decide +kernel)
/-- Slip_planned -/
def nk_84 : nK := (98, 0, ([((-2147483648), 2147483647)], [8], [], [], []), [.inr (.inr (.inl 0)), .inr (.inl (0, 0))], [], [], [(([((-2147483648), 2147483647), ((-2147483648), 2147483647)], [8], [], [], []), some (.inr (.inl (1, 0))))])
def nu_84 : List aCt := []
set_option maxRecDepth 100000 in
theorem vk_84 {X : nX} {L : Nat} {xs : Nat → Int32} {g : Nat} {S : List Nat} : nV nj_M X L xs g nFT nAT S (nJJ S) nk_84 :=
  aChk_ok (ctx := []) (W := ([], [])) (ls := none) (cuts := nu_84) (fuel := 15) (nJJ_ok S)
    ⟨(fun c hc => nomatch hc), (fun c hc => nomatch hc)⟩
    ((fun c hc => nomatch hc))
    (fun _ _ _ _ y hy => by cases hy) (by decide +kernel)
/-- Slip_cameAsTold -/
def nk_85 : nK := (100, 1, ([(0, 940)], [8], [], [], []), [.inr (.inr (.inl 0)), .inr (.inl (0, 0))], [], [], [(([(0, 940), (0, 1)], [8], [], [], []), some (.inr (.inl (1, 0))))])
def nu_85 : List aCt := [(2, ([(0, 940), (0, 12)], [8], [], [], []), [(0, .inr (.inr (.inl 0))), (1, .inr (.inl (0, 0))), (2, .inr (.inl (1, 0)))], ([((-2), 1)], 25))]
set_option maxRecDepth 100000 in
theorem vk_85 {X : nX} {L : Nat} {xs : Nat → Int32} {g : Nat} {S : List Nat} : nV nj_M X L xs g nFT nAT S (nJJ S) nk_85 :=
  aChk_ok (ctx := []) (W := ([], [])) (ls := none) (cuts := nu_85) (fuel := 40) (nJJ_ok S)
    ⟨(fun c hc => nomatch hc), (fun c hc => nomatch hc)⟩
    ((fun c hc => nomatch hc))
    (fun _ _ _ _ y hy => by cases hy) (by decide +kernel)
/-- Slip_who -/
def nk_86 : nK := (99, 4, ([((-2147483648), 2147483647)], [8], [], [], []), [.inr (.inr (.inl 0)), .inr (.inl (0, 0))], [(7, 5), (1002, 5), (1002, 6), (1002, 7), (1002, 8), (1002, 9), (1002, 10), (1002, 11)], [69, 70, 71, 72, 73], [(([((-2147483648), 2147483647), ((-2147483648), 2147483647)], [8], [], [], []), some (.inr (.inl (1, 0))))])
def nu_86 : List aCt := [(48, ([(0, 3), (0, 12), ((-2147483648), 2147483647), (0, 10)], [8], [], [], []), [(0, .inr (.inr (.inl 0))), (1, .inr (.inl (0, 0))), (2, .inr (.inl (1, 0))), (3, .inr (.inl (2, 0))), (4, .inr (.inl (3, 0)))], ([((-2), 3)], 21))]
set_option maxRecDepth 100000 in
theorem vk_86 {X : nX} {L : Nat} {xs : Nat → Int32} {g : Nat} {S : List Nat} : nV nj_M X L xs g nFT nAT S (nJJ S) nk_86 :=
  aChk_ok (ctx := [nk_12, nk_77, nk_82, nk_85]) (W := ([], [])) (ls := none) (cuts := nu_86) (fuel := 42) (nJJ_ok S)
    ⟨(fun c hc => nomatch hc), (fun c hc => nomatch hc)⟩
    ((fun c hc => by
    simp only [List.mem_cons, List.not_mem_nil, or_false] at hc
    rcases hc with rfl | rfl | rfl | rfl
    · exact vk_12
    · exact vk_77
    · exact vk_82
    · exact vk_85))
    (fun _ _ _ _ y hy => by cases hy) (by decide +kernel)
/-- Slip_timesToWear -/
def nk_87 : nK := (102, 3, ([(0, 5), (0, 3), (0, 9)], [8, 2, 24], [(0, 3, .inr (.inr (.inl 1))), (1, 0, .inr (.inr (.inl 2)))], [(2, .inr (.inl (0, 0)), .inr (.inl (2, 0)))], []), [.inr (.inr (.inl 0)), .inr (.inl (0, 0)), .inr (.inl (1, 0))], [(1002, 5), (1002, 6), (1002, 7), (1002, 8), (1002, 9), (1002, 10), (1002, 11)], [69, 70, 71, 72, 73], [(([(0, 5), (0, 3), (0, 9), ((-1), 20)], [8, 2, 24], [], [], []), some (.inr (.inl (3, 0))))])
def nu_87 : List aCt := [(24, ([(0, 5), (0, 3), (0, 9), (1, 21)], [8, 2, 24], [], [], []), [(0, .inr (.inr (.inl 0))), (1, .inr (.inl (0, 0))), (2, .inr (.inl (1, 0))), (3, .inr (.inl (2, 0))), (4, .inr (.inl (3, 0)))], ([((-2), 3)], 43))]
set_option maxRecDepth 100000 in
theorem vk_87 {X : nX} {L : Nat} {xs : Nat → Int32} {g : Nat} {S : List Nat} : nV nj_M X L xs g nFT nAT S (nJJ S) nk_87 :=
  aChk_ok (ctx := [nk_38, nk_42]) (W := ([], [])) (ls := none) (cuts := nu_87) (fuel := 23) (nJJ_ok S)
    ⟨(fun c hc => nomatch hc), (fun c hc => nomatch hc)⟩
    ((fun c hc => by
    simp only [List.mem_cons, List.not_mem_nil, or_false] at hc
    rcases hc with rfl | rfl
    · exact vk_38
    · exact vk_42))
    (fun _ _ _ _ y hy => by cases hy) (by decide +kernel)
/-- Slip_worn -/
def nk_88 : nK := (101, 4, ([((-2147483648), 2147483647)], [8, 2, 24], [(0, 3, .inr (.inr (.inl 1))), (1, 0, .inr (.inr (.inl 2)))], [], []), [.inr (.inr (.inl 0)), .inr (.inl (0, 0))], [(8, 15), (8, 16), (1002, 5), (1002, 6), (1002, 7), (1002, 8), (1002, 9), (1002, 10), (1002, 11)], [69, 70, 71, 72, 73], [(([((-2147483648), 2147483647), ((-1), 20)], [8, 2, 24], [], [], []), some (.inr (.inl (1, 0))))])
def nu_88 : List aCt := [(57, ([(0, 5), ((-1), 20), (0, 4), (0, 9)], [8, 2, 24], [(0, 3, .inr (.inr (.inl 1))), (1, 0, .inr (.inr (.inl 2)))], [(2, .inr (.inl (0, 0)), .inr (.inl (3, 0)))], []), [(0, .inr (.inr (.inl 0))), (1, .inr (.inl (0, 0))), (2, .inr (.inl (1, 0))), (3, .inr (.inl (2, 0)))], ([((-2), 2)], 9))]
set_option maxRecDepth 100000 in
theorem vk_88 {X : nX} {L : Nat} {xs : Nat → Int32} {g : Nat} {S : List Nat} : nV nj_M X L xs g nFT nAT S (nJJ S) nk_88 :=
  aChk_ok (ctx := [nk_87]) (W := ([], [])) (ls := none) (cuts := nu_88) (fuel := 49) (nJJ_ok S)
    ⟨(fun c hc => nomatch hc), (fun c hc => nomatch hc)⟩
    ((fun c hc => by
    simp only [List.mem_cons, List.not_mem_nil, or_false] at hc
    subst hc
    · exact vk_87))
    (fun _ _ _ _ y hy => by cases hy) (by decide +kernel)
/-- Slip_wornBy -/
def nk_89 : nK := (103, 0, ([], [8], [], [], []), [.inr (.inr (.inl 0))], [], [], [(([((-2147483648), 2147483647)], [8], [], [], []), some (.inr (.inl (0, 0))))])
def nu_89 : List aCt := []
set_option maxRecDepth 100000 in
theorem vk_89 {X : nX} {L : Nat} {xs : Nat → Int32} {g : Nat} {S : List Nat} : nV nj_M X L xs g nFT nAT S (nJJ S) nk_89 :=
  aChk_ok (ctx := []) (W := ([], [])) (ls := none) (cuts := nu_89) (fuel := 5) (nJJ_ok S)
    ⟨(fun c hc => nomatch hc), (fun c hc => nomatch hc)⟩
    ((fun c hc => nomatch hc))
    (fun _ _ _ _ y hy => by cases hy) (by decide +kernel)
/-- Slip_wornLoss -/
def nk_90 : nK := (104, 0, ([], [8], [], [], []), [.inr (.inr (.inl 0))], [], [], [(([((-2147483648), 2147483647)], [8], [], [], []), some (.inr (.inl (0, 0))))])
def nu_90 : List aCt := []
set_option maxRecDepth 100000 in
theorem vk_90 {X : nX} {L : Nat} {xs : Nat → Int32} {g : Nat} {S : List Nat} : nV nj_M X L xs g nFT nAT S (nJJ S) nk_90 :=
  aChk_ok (ctx := []) (W := ([], [])) (ls := none) (cuts := nu_90) (fuel := 5) (nJJ_ok S)
    ⟨(fun c hc => nomatch hc), (fun c hc => nomatch hc)⟩
    ((fun c hc => nomatch hc))
    (fun _ _ _ _ y hy => by cases hy) (by decide +kernel)
