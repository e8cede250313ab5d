/-- Slip_harmBy -/
def nk_91 : nK := (106, 3, ([((-2147483648), 2147483647)], [8], [], [], []), [.inr (.inr (.inl 0)), .inr (.inl (0, 0))], [], [], [(([((-2147483648), 2147483647), ((-2147483648), 2147483647)], [8], [], [], []), some (.inr (.inl (1, 0))))])
def nu_91 : List aCt := [(7, ([((-2147483648), 2147483647), ((-2147483648), 2147483647), ((-2147483648), 2147483647), (0, 6)], [8], [], [], []), [(0, .inr (.inr (.inl 0))), (1, .inr (.inl (0, 0))), (2, .inr (.inl (1, 0))), (3, .inr (.inl (2, 0))), (4, .inr (.inl (3, 0)))], ([((-2), 3)], 13))]
set_option maxRecDepth 100000 in
theorem vk_91 {X : nX} {L : Nat} {xs : Nat → Int32} {g : Nat} {S : List Nat} : nV nj_M X L xs g nFT nAT S (nJJ S) nk_91 :=
  aChk_ok (ctx := []) (W := ([], [])) (ls := none) (cuts := nu_91) (fuel := 247) (nJJ_ok S)
    ⟨(fun c hc => nomatch hc), (fun c hc => nomatch hc)⟩
    ((fun c hc => nomatch hc))
    (fun _ _ _ _ y hy => by cases hy) (by decide +kernel)
