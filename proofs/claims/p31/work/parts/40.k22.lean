/-- Text_kind -/
def nk_344 : nK := (31, 0, ([], [7], [], [], []), [.inr (.inr (.inl 0))], [], [], [(([((-2147483648), 2147483647)], [7], [], [], []), some (.inr (.inl (0, 0))))])
def nu_344 : List aCt := []
set_option maxRecDepth 100000 in
theorem vk_344 {X : nX} {L : Nat} {xs : Nat → Int32} {g : Nat} {S : List Nat} : nV nj_M X L xs g nFT nAT S (nJJ S) nk_344 :=
  aChk_ok (ctx := []) (W := ([], [])) (ls := none) (cuts := nu_344) (fuel := 8) (nJJ_ok S)
    ⟨(fun c hc => nomatch hc), (fun c hc => nomatch hc)⟩
    ((fun c hc => nomatch hc))
    (fun _ _ _ _ y hy => by cases hy) (by decide +kernel)
/-- Family_known1S -/
def nk_345 : nK := (40, 1, ([((-2147483648), 2147483647), ((-2147483648), 2147483647)], [0, 7], [(1, 10, .inr (.inl (0, 0))), (1, 11, .inr (.inl (1, 0)))], [], []), [.inr (.inr (.inl 0)), .inr (.inr (.inl 1)), .inl 1], [(7, 10), (7, 11)], [], [(([((-2147483648), 2147483647), ((-2147483648), 2147483647)], [0, 7], [], [], []), some (.inl (-1))), (([((-2147483648), 2147483647), ((-2147483648), 2147483647), (0, 9)], [0, 7], [(1, 10, .inr (.inl (0, 0))), (1, 11, .inr (.inl (1, 0)))], [], []), some (.inr (.inl (2, 0))))])
def nu_345 : List aCt := []
set_option maxRecDepth 100000 in
theorem vk_345 {X : nX} {L : Nat} {xs : Nat → Int32} {g : Nat} {S : List Nat} : nV nj_M X L xs g nFT nAT S (nJJ S) nk_345 :=
  aChk_ok (ctx := [nk_16, nk_344]) (W := ([], [])) (ls := none) (cuts := nu_345) (fuel := 47) (nJJ_ok S)
    ⟨(fun c hc => nomatch hc), (fun c hc => nomatch hc)⟩
    ((fun c hc => by
    simp only [List.mem_cons, List.not_mem_nil, or_false] at hc
    rcases hc with rfl | rfl
    · exact vk_16
    · exact vk_344))
    (fun _ _ _ _ y hy => by cases hy) (by decide +kernel)
