/-- Family_readPerson -/
def nk_21 : nK := (38, 2, ([], [0, 7], [], [], []), [.inr (.inr (.inl 0)), .inr (.inr (.inl 1))], [(7, 7), (7, 8), (7, 10), (7, 11)], [10, 11, 12, 13], [(([], [0, 7], [], [], []), some (.inl 0)), (([], [0, 7], [], [], []), some (.inl 1))])
def nu_21 : List aCt := []
set_option maxRecDepth 100000 in
theorem vk_21 {X : nX} {L : Nat} {xs : Nat → Int32} {g : Nat} {S : List Nat} : nV nj_M X L xs g nFT nAT S (nJJ S) nk_21 :=
  aChk_ok (ctx := [nk_13, nk_16, nk_18]) (W := ([], [])) (ls := none) (cuts := nu_21) (fuel := 181) (nJJ_ok S)
    ⟨(fun c hc => nomatch hc), (fun c hc => nomatch hc)⟩
    ((fun c hc => by
    simp only [List.mem_cons, List.not_mem_nil, or_false] at hc
    rcases hc with rfl | rfl | rfl
    · exact vk_13
    · exact vk_16
    · exact vk_18))
    (fun _ _ _ _ y hy => by cases hy) (by decide +kernel)
/-- Family_readGod -/
def nk_22 : nK := (41, 2, ([], [0, 7], [], [], []), [.inr (.inr (.inl 0)), .inr (.inr (.inl 1))], [(7, 7), (7, 10), (7, 11)], [14], [(([], [0, 7], [], [], []), some (.inl 0)), (([], [0, 7], [], [], []), some (.inl 1))])
def nu_22 : List aCt := []
set_option maxRecDepth 100000 in
theorem vk_22 {X : nX} {L : Nat} {xs : Nat → Int32} {g : Nat} {S : List Nat} : nV nj_M X L xs g nFT nAT S (nJJ S) nk_22 :=
  aChk_ok (ctx := [nk_18]) (W := ([], [])) (ls := none) (cuts := nu_22) (fuel := 82) (nJJ_ok S)
    ⟨(fun c hc => nomatch hc), (fun c hc => nomatch hc)⟩
    ((fun c hc => by
    simp only [List.mem_cons, List.not_mem_nil, or_false] at hc
    subst hc
    · exact vk_18))
    (fun _ _ _ _ y hy => by cases hy) (by decide +kernel)
/-- Family_readCare -/
def nk_23 : nK := (42, 2, ([], [0, 7], [], [], []), [.inr (.inr (.inl 0)), .inr (.inr (.inl 1))], [(0, 14), (7, 7), (7, 8), (7, 10), (7, 11)], [15], [(([], [0, 7], [], [], []), some (.inl 0)), (([], [0, 7], [], [], []), some (.inl 1))])
def nu_23 : List aCt := []
set_option maxRecDepth 100000 in
theorem vk_23 {X : nX} {L : Nat} {xs : Nat → Int32} {g : Nat} {S : List Nat} : nV nj_M X L xs g nFT nAT S (nJJ S) nk_23 :=
  aChk_ok (ctx := [nk_13, nk_18]) (W := ([], [])) (ls := none) (cuts := nu_23) (fuel := 71) (nJJ_ok S)
    ⟨(fun c hc => nomatch hc), (fun c hc => nomatch hc)⟩
    ((fun c hc => by
    simp only [List.mem_cons, List.not_mem_nil, or_false] at hc
    rcases hc with rfl | rfl
    · exact vk_13
    · exact vk_18))
    (fun _ _ _ _ y hy => by cases hy) (by decide +kernel)
/-- Family_readError -/
def nk_24 : nK := (43, 3, ([], [0, 7], [], [], []), [.inr (.inr (.inl 0)), .inr (.inr (.inl 1))], [(7, 7), (7, 8), (7, 10), (7, 11)], [10, 11, 16, 17, 18, 19, 20, 21], [(([], [0, 7], [], [], []), some (.inl 0)), (([], [0, 7], [], [], []), some (.inl 1))])
def nu_24 : List aCt := []
set_option maxRecDepth 100000 in
theorem vk_24 {X : nX} {L : Nat} {xs : Nat → Int32} {g : Nat} {S : List Nat} : nV nj_M X L xs g nFT nAT S (nJJ S) nk_24 :=
  aChk_ok (ctx := [nk_13, nk_16, nk_17, nk_18]) (W := ([], [])) (ls := none) (cuts := nu_24) (fuel := 243) (nJJ_ok S)
    ⟨(fun c hc => nomatch hc), (fun c hc => nomatch hc)⟩
    ((fun c hc => by
    simp only [List.mem_cons, List.not_mem_nil, or_false] at hc
    rcases hc with rfl | rfl | rfl | rfl
    · exact vk_13
    · exact vk_16
    · exact vk_17
    · exact vk_18))
    (fun _ _ _ _ y hy => by cases hy) (by decide +kernel)
/-- Family_readDeed -/
def nk_25 : nK := (45, 2, ([], [0, 7], [], [], []), [.inr (.inr (.inl 0)), .inr (.inr (.inl 1))], [(7, 7), (7, 10), (7, 11)], [10, 11, 22, 23], [(([], [0, 7], [], [], []), some (.inl 0)), (([], [0, 7], [], [], []), some (.inl 1))])
def nu_25 : List aCt := [(20, ([(0, 3), (0, 12)], [0, 7], [], [], []), [(0, .inr (.inr (.inl 0))), (1, .inr (.inr (.inl 1))), (2, .inr (.inl (0, 0))), (3, .inr (.inl (1, 0)))], ([((-2), 1)], 25))]
set_option maxRecDepth 100000 in
theorem vk_25 {X : nX} {L : Nat} {xs : Nat → Int32} {g : Nat} {S : List Nat} : nV nj_M X L xs g nFT nAT S (nJJ S) nk_25 :=
  aChk_ok (ctx := [nk_16, nk_17]) (W := ([], [])) (ls := none) (cuts := nu_25) (fuel := 107) (nJJ_ok S)
    ⟨(fun c hc => nomatch hc), (fun c hc => nomatch hc)⟩
    ((fun c hc => by
    simp only [List.mem_cons, List.not_mem_nil, or_false] at hc
    rcases hc with rfl | rfl
    · exact vk_16
    · exact vk_17))
    (fun _ _ _ _ y hy => by cases hy) (by decide +kernel)
/-- Family_readLine -/
def nk_26 : nK := (32, 4, ([], [0, 7], [], [], []), [.inr (.inr (.inl 0)), .inr (.inr (.inl 1))], [(0, 14), (7, 7), (7, 8), (7, 10), (7, 11)], [10, 11, 12, 13, 14, 15, 16, 17, 18, 19, 20, 21, 22, 23], [(([], [0, 7], [], [], []), some (.inl 0)), (([], [0, 7], [], [], []), some (.inl 1))])
def nu_26 : List aCt := []
set_option maxRecDepth 100000 in
theorem vk_26 {X : nX} {L : Nat} {xs : Nat → Int32} {g : Nat} {S : List Nat} : nV nj_M X L xs g nFT nAT S (nJJ S) nk_26 :=
  aChk_ok (ctx := [nk_16, nk_21, nk_22, nk_23, nk_24, nk_25]) (W := ([], [])) (ls := none) (cuts := nu_26) (fuel := 108) (nJJ_ok S)
    ⟨(fun c hc => nomatch hc), (fun c hc => nomatch hc)⟩
    ((fun c hc => by
    simp only [List.mem_cons, List.not_mem_nil, or_false] at hc
    rcases hc with rfl | rfl | rfl | rfl | rfl | rfl
    · exact vk_16
    · exact vk_21
    · exact vk_22
    · exact vk_23
    · exact vk_24
    · exact vk_25))
    (fun _ _ _ _ y hy => by cases hy) (by decide +kernel)
/-- Family_read -/
def nk_27 : nK := (22, 5, ([], [0, 7], [], [], []), [.inr (.inr (.inl 0)), .inr (.inr (.inl 1))], [(0, 14), (0, 15), (7, 6), (7, 7), (7, 8), (7, 9), (7, 10), (7, 11)], [10, 11, 12, 13, 14, 15, 16, 17, 18, 19, 20, 21, 22, 23, 42, 43, 44], [(([], [0, 7], [], [], []), some (.inl 0)), (([], [0, 7], [], [], []), some (.inl 1))])
def nu_27 : List aCt := [(59, ([(0, 900)], [0, 7], [], [], []), [(0, .inr (.inr (.inl 0))), (1, .inr (.inr (.inl 1))), (2, .inr (.inl (0, 0)))], ([((-2), 0)], 1801))]
set_option maxRecDepth 100000 in
theorem vk_27 {X : nX} {L : Nat} {xs : Nat → Int32} {g : Nat} {S : List Nat} : nV nj_M X L xs g nFT nAT S (nJJ S) nk_27 :=
  aChk_ok (ctx := [nk_0, nk_1, nk_2, nk_3, nk_6, nk_11, nk_14, nk_26]) (W := ([], [])) (ls := none) (cuts := nu_27) (fuel := 44) (nJJ_ok S)
    ⟨(fun c hc => nomatch hc), (fun c hc => nomatch hc)⟩
    ((fun c hc => by
    simp only [List.mem_cons, List.not_mem_nil, or_false] at hc
    rcases hc with rfl | rfl | rfl | rfl | rfl | rfl | rfl | rfl
    · exact vk_0
    · exact vk_1
    · exact vk_2
    · exact vk_3
    · exact vk_6
    · exact vk_11
    · exact vk_14
    · exact vk_26))
    (fun _ _ _ _ y hy => by cases hy) (by decide +kernel)
/-- Family_childrenOf -/
def nk_28 : nK := (71, 0, ([((-2147483648), 2147483647)], [0], [], [], []), [.inr (.inr (.inl 0)), .inr (.inl (0, 0))], [], [], [(([((-2147483648), 2147483647), ((-2147483648), 2147483647)], [0], [], [], []), some (.inr (.inl (1, 0))))])
def nu_28 : List aCt := [(4, ([((-2147483648), 2147483647), ((-2147483648), 2147483647), (0, 10)], [0], [], [], []), [(0, .inr (.inr (.inl 0))), (1, .inr (.inl (0, 0))), (2, .inr (.inl (1, 0))), (3, .inr (.inl (2, 0)))], ([((-2), 2)], 21))]
set_option maxRecDepth 100000 in
theorem vk_28 {X : nX} {L : Nat} {xs : Nat → Int32} {g : Nat} {S : List Nat} : nV nj_M X L xs g nFT nAT S (nJJ S) nk_28 :=
  aChk_ok (ctx := []) (W := ([], [])) (ls := none) (cuts := nu_28) (fuel := 24) (nJJ_ok S)
    ⟨(fun c hc => nomatch hc), (fun c hc => nomatch hc)⟩
    ((fun c hc => nomatch hc))
    (fun _ _ _ _ y hy => by cases hy) (by decide +kernel)
/-- Family_underOf -/
def nk_29 : nK := (74, 0, ([(0, 9)], [0], [], [], []), [.inr (.inr (.inl 0)), .inr (.inl (0, 0))], [], [], [(([(0, 9), ((-2147483648), 2147483647)], [0], [], [], []), some (.inr (.inl (1, 0))))])
def nu_29 : List aCt := [(6, ([(0, 9), ((-2147483648), 2147483647), (1, 10)], [0], [], [], []), [(0, .inr (.inr (.inl 0))), (1, .inr (.inl (0, 0))), (2, .inr (.inl (1, 0))), (3, .inr (.inl (2, 0)))], ([((-2), 2)], 21))]
set_option maxRecDepth 100000 in
theorem vk_29 {X : nX} {L : Nat} {xs : Nat → Int32} {g : Nat} {S : List Nat} : nV nj_M X L xs g nFT nAT S (nJJ S) nk_29 :=
  aChk_ok (ctx := []) (W := ([], [])) (ls := none) (cuts := nu_29) (fuel := 39) (nJJ_ok S)
    ⟨(fun c hc => nomatch hc), (fun c hc => nomatch hc)⟩
    ((fun c hc => nomatch hc))
    (fun _ _ _ _ y hy => by cases hy) (by decide +kernel)
/-- Family_eldest -/
def nk_30 : nK := (72, 0, ([((-2147483648), 2147483647)], [0], [], [], []), [.inr (.inr (.inl 0)), .inr (.inl (0, 0))], [], [], [(([((-2147483648), 2147483647), ((-1), 9)], [0], [], [], []), some (.inr (.inl (1, 0))))])
def nu_30 : List aCt := [(4, ([((-2147483648), 2147483647), ((-1), 9), (0, 10)], [0], [], [], []), [(0, .inr (.inr (.inl 0))), (1, .inr (.inl (0, 0))), (2, .inr (.inl (1, 0))), (3, .inr (.inl (2, 0)))], ([((-2), 2)], 21))]
set_option maxRecDepth 100000 in
theorem vk_30 {X : nX} {L : Nat} {xs : Nat → Int32} {g : Nat} {S : List Nat} : nV nj_M X L xs g nFT nAT S (nJJ S) nk_30 :=
  aChk_ok (ctx := []) (W := ([], [])) (ls := none) (cuts := nu_30) (fuel := 32) (nJJ_ok S)
    ⟨(fun c hc => nomatch hc), (fun c hc => nomatch hc)⟩
    ((fun c hc => nomatch hc))
    (fun _ _ _ _ y hy => by cases hy) (by decide +kernel)
/-- Family_withLiving -/
def nk_31 : nK := (73, 1, ([((-2147483648), 2147483647), ((-2147483648), 2147483647)], [0], [], [], []), [.inr (.inr (.inl 0)), .inr (.inl (0, 0)), .inr (.inl (1, 0))], [], [], [(([((-2147483648), 2147483647), ((-2147483648), 2147483647), ((-2147483648), 2147483647)], [0], [], [], []), some (.inr (.inl (2, 0))))])
def nu_31 : List aCt := [(5, ([((-2147483648), 2147483647), ((-2147483648), 2147483647), ((-2147483648), 2147483647), (0, 10)], [0], [], [], []), [(0, .inr (.inr (.inl 0))), (1, .inr (.inl (0, 0))), (2, .inr (.inl (1, 0))), (3, .inr (.inl (2, 0))), (4, .inr (.inl (3, 0)))], ([((-2), 3)], 21))]
set_option maxRecDepth 100000 in
theorem vk_31 {X : nX} {L : Nat} {xs : Nat → Int32} {g : Nat} {S : List Nat} : nV nj_M X L xs g nFT nAT S (nJJ S) nk_31 :=
  aChk_ok (ctx := [nk_29]) (W := ([], [])) (ls := none) (cuts := nu_31) (fuel := 32) (nJJ_ok S)
    ⟨(fun c hc => nomatch hc), (fun c hc => nomatch hc)⟩
    ((fun c hc => by
    simp only [List.mem_cons, List.not_mem_nil, or_false] at hc
    subst hc
    · exact vk_29))
    (fun _ _ _ _ y hy => by cases hy) (by decide +kernel)
/-- Family_heirOf -/
def nk_32 : nK := (70, 2, ([(0, 9), ((-2147483648), 2147483647)], [0], [], [], []), [.inr (.inr (.inl 0)), .inr (.inl (0, 0)), .inr (.inl (1, 0))], [], [], [(([(0, 9), ((-2147483648), 2147483647), (0, 10)], [0], [], [], []), some (.inr (.inl (2, 0))))])
def nu_32 : List aCt := [(5, ([(0, 9), ((-2147483648), 2147483647), ((-1), 9), (0, 10)], [0], [], [], []), [(0, .inr (.inr (.inl 0))), (1, .inr (.inl (0, 0))), (2, .inr (.inl (1, 0))), (3, .inr (.inl (2, 0))), (4, .inr (.inl (3, 0)))], ([((-2), 3)], 21))]
set_option maxRecDepth 100000 in
theorem vk_32 {X : nX} {L : Nat} {xs : Nat → Int32} {g : Nat} {S : List Nat} : nV nj_M X L xs g nFT nAT S (nJJ S) nk_32 :=
  aChk_ok (ctx := [nk_28, nk_30, nk_31]) (W := ([], [])) (ls := none) (cuts := nu_32) (fuel := 33) (nJJ_ok S)
    ⟨(fun c hc => nomatch hc), (fun c hc => nomatch hc)⟩
    ((fun c hc => by
    simp only [List.mem_cons, List.not_mem_nil, or_false] at hc
    rcases hc with rfl | rfl | rfl
    · exact vk_28
    · exact vk_30
    · exact vk_31))
    (fun _ _ _ _ y hy => by cases hy) (by decide +kernel)
/-- Family_slip -/
def nk_33 : nK := (65, 0, ([((-2147483648), 2147483647), ((-2147483648), 2147483647)], [0], [], [], []), [.inr (.inr (.inl 0)), .inr (.inl (0, 0)), .inr (.inl (1, 0))], [], [], [(([((-2147483648), 2147483647), ((-2147483648), 2147483647), ((-2147483648), 2147483647)], [0], [], [], []), some (.inr (.inl (2, 0))))])
def nu_33 : List aCt := [(8, ([((-2147483648), 2147483647), ((-2147483648), 2147483647), ((-2147483648), 2147483647), ((-2147483648), 2147483647), (0, 6)], [0], [], [], []), [(0, .inr (.inr (.inl 0))), (1, .inr (.inl (0, 0))), (3, .inr (.inl (2, 0))), (4, .inr (.inl (3, 0))), (5, .inr (.inl (4, 0)))], ([((-2), 4)], 13))]
set_option maxRecDepth 100000 in
theorem vk_33 {X : nX} {L : Nat} {xs : Nat → Int32} {g : Nat} {S : List Nat} : nV nj_M X L xs g nFT nAT S (nJJ S) nk_33 :=
  aChk_ok (ctx := []) (W := ([], [])) (ls := none) (cuts := nu_33) (fuel := 35) (nJJ_ok S)
    ⟨(fun c hc => nomatch hc), (fun c hc => nomatch hc)⟩
    ((fun c hc => nomatch hc))
    (fun _ _ _ _ y hy => by cases hy) (by decide +kernel)
/-- Family_becomeAll -/
def nk_34 : nK := (115, 2, ([((-2147483648), 2147483647), ((-2147483648), 2147483647)], [0], [], [], []), [.inr (.inr (.inl 0)), .inr (.inl (0, 0)), .inr (.inl (1, 0))], [], [], [(([((-2147483648), 2147483647), ((-2147483648), 2147483647), ((-2147483648), 2147483647)], [0], [], [], []), some (.inr (.inl (2, 0))))])
def nu_34 : List aCt := [(5, ([((-2147483648), 2147483647), ((-2147483648), 2147483647), ((-2147483648), 2147483647), (0, 6)], [0], [], [], []), [(0, .inr (.inr (.inl 0))), (1, .inr (.inl (0, 0))), (2, .inr (.inl (1, 0))), (3, .inr (.inl (2, 0))), (4, .inr (.inl (3, 0)))], ([((-2), 3)], 13))]
set_option maxRecDepth 100000 in
theorem vk_34 {X : nX} {L : Nat} {xs : Nat → Int32} {g : Nat} {S : List Nat} : nV nj_M X L xs g nFT nAT S (nJJ S) nk_34 :=
  aChk_ok (ctx := [nk_33]) (W := ([], [])) (ls := none) (cuts := nu_34) (fuel := 35) (nJJ_ok S)
    ⟨(fun c hc => nomatch hc), (fun c hc => nomatch hc)⟩
    ((fun c hc => by
    simp only [List.mem_cons, List.not_mem_nil, or_false] at hc
    subst hc
    · exact vk_33))
    (fun _ _ _ _ y hy => by cases hy) (by decide +kernel)
/-- Family_spoils -/
def nk_35 : nK := (118, 2, ([((-2147483648), 2147483647), (0, 3)], [0], [], [], []), [.inr (.inr (.inl 0)), .inr (.inl (0, 0)), .inr (.inl (1, 0))], [], [], [(([((-2147483648), 2147483647), (0, 3), (0, 1)], [0], [], [], []), some (.inr (.inl (2, 0))))])
def nu_35 : List aCt := [(2, ([((-2147483648), 2147483647), (0, 3), (0, 12)], [0], [], [], []), [(0, .inr (.inr (.inl 0))), (1, .inr (.inl (0, 0))), (2, .inr (.inl (1, 0))), (3, .inr (.inl (2, 0)))], ([((-2), 2)], 25))]
set_option maxRecDepth 100000 in
theorem vk_35 {X : nX} {L : Nat} {xs : Nat → Int32} {g : Nat} {S : List Nat} : nV nj_M X L xs g nFT nAT S (nJJ S) nk_35 :=
  aChk_ok (ctx := [nk_33]) (W := ([], [])) (ls := none) (cuts := nu_35) (fuel := 33) (nJJ_ok S)
    ⟨(fun c hc => nomatch hc), (fun c hc => nomatch hc)⟩
    ((fun c hc => by
    simp only [List.mem_cons, List.not_mem_nil, or_false] at hc
    subst hc
    · exact vk_33))
    (fun _ _ _ _ y hy => by cases hy) (by decide +kernel)
/-- Life_begin -/
def nk_36 : nK := (50, 1, ([], [2, 0], [], [], []), [.inr (.inr (.inl 0)), .inr (.inr (.inl 1))], [(2, 5), (2, 6), (2, 7), (2, 8), (2, 9), (2, 10), (2, 11)], [24, 25, 26, 27], [(([], [2, 0], [], [], []), none)])
def nu_36 : List aCt := []
set_option maxRecDepth 100000 in
theorem vk_36 {X : nX} {L : Nat} {xs : Nat → Int32} {g : Nat} {S : List Nat} : nV nj_M X L xs g nFT nAT S (nJJ S) nk_36 :=
  aChk_ok (ctx := [nk_4, nk_5]) (W := ([], [])) (ls := none) (cuts := nu_36) (fuel := 52) (nJJ_ok S)
    ⟨(fun c hc => nomatch hc), (fun c hc => nomatch hc)⟩
    ((fun c hc => by
    simp only [List.mem_cons, List.not_mem_nil, or_false] at hc
    rcases hc with rfl | rfl
    · exact vk_4
    · exact vk_5))
    (fun _ _ _ _ y hy => by cases hy) (by decide +kernel)
/-- Life_copyFrom -/
def nk_37 : nK := (63, 0, ([], [2, 2], [], [], []), [.inr (.inr (.inl 0)), .inr (.inr (.inl 1))], [(2, 5), (2, 6), (2, 7), (2, 8), (2, 9), (2, 10), (2, 11)], [24, 25, 26, 27, 28], [(([], [2, 2], [], [], []), none)])
def nu_37 : List aCt := []
set_option maxRecDepth 100000 in
theorem vk_37 {X : nX} {L : Nat} {xs : Nat → Int32} {g : Nat} {S : List Nat} : nV nj_M X L xs g nFT nAT S (nJJ S) nk_37 :=
  aChk_ok (ctx := []) (W := ([], [])) (ls := none) (cuts := nu_37) (fuel := 81) (nJJ_ok S)
    ⟨(fun c hc => nomatch hc), (fun c hc => nomatch hc)⟩
    ((fun c hc => nomatch hc))
    (fun _ _ _ _ y hy => by cases hy) (by decide +kernel)
/-- Trial_copyFrom -/
def nk_38 : nK := (63, 0, ([], [1002, 2], [], [], []), [.inr (.inr (.inl 0)), .inr (.inr (.inl 1))], [(1002, 5), (1002, 6), (1002, 7), (1002, 8), (1002, 9), (1002, 10), (1002, 11)], [69, 70, 71, 72, 73], [(([], [1002, 2], [], [], []), none)])
def nu_38 : List aCt := []
set_option maxRecDepth 100000 in
theorem vk_38 {X : nX} {L : Nat} {xs : Nat → Int32} {g : Nat} {S : List Nat} : nV nj_M X L xs g nFT nAT S (nJJ S) nk_38 :=
  aChk_ok (ctx := []) (W := ([], [])) (ls := none) (cuts := nu_38) (fuel := 81) (nJJ_ok S)
    ⟨(fun c hc => nomatch hc), (fun c hc => nomatch hc)⟩
    ((fun c hc => nomatch hc))
    (fun _ _ _ _ y hy => by cases hy) (by decide +kernel)
