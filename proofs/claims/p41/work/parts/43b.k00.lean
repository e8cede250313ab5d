/-- Slip_restoreN -/
def nk_357 : nK := (152, 0, ([((-2147483648), (-1))], [8], [], [], []), [.inr (.inr (.inl 0)), .inr (.inl (0, 0))], [], [], [(([((-2147483648), (-1)), (0, 0)], [8], [], [], []), some (.inr (.inl (1, 0))))])
def nu_357 : List aCt := []
set_option maxRecDepth 100000 in
theorem vk_357 {X : nX} {L : Nat} {xs : Nat → Int32} {g : Nat} {S : List Nat} : nV nj_M X L xs g nFT nAT S (nJJ S) nk_357 :=
  aChk_ok (ctx := []) (W := ([], [])) (ls := none) (cuts := nu_357) (fuel := 9) (nJJ_ok S)
    ⟨(fun c hc => nomatch hc), (fun c hc => nomatch hc)⟩
    ((fun c hc => nomatch hc))
    (fun _ _ _ _ y hy => by cases hy) (by decide +kernel)
/-- Model_restoreN -/
def nk_358 : nK := (263, 1, ([((-2147483648), (-1))], [9], [(0, 1002, .inl 1), (0, 1003, .inl 1), (0, 1004, .inl 1)], [], []), [.inr (.inr (.inl 0)), .inr (.inl (0, 0))], [(9, 0)], [], [(([((-2147483648), (-1))], [9], [(0, 1002, .inl 1), (0, 1003, .inl 1), (0, 1004, .inl 1)], [], []), some (.inl 0))])
def nu_358 : List aCt := []
set_option maxRecDepth 100000 in
theorem vk_358 {X : nX} {L : Nat} {xs : Nat → Int32} {g : Nat} {S : List Nat} : nV nj_M X L xs g nFT nAT S (nJJ S) nk_358 :=
  aChk_ok (ctx := []) (W := ([], [])) (ls := none) (cuts := nu_358) (fuel := 17) (nJJ_ok S)
    ⟨(fun c hc => nomatch hc), (fun c hc => nomatch hc)⟩
    ((fun c hc => nomatch hc))
    (fun _ _ _ _ y hy => by cases hy) (by decide +kernel)
/-- Slip_restoreP -/
def nk_359 : nK := (152, 0, ([(2, 2147483647)], [8], [], [], []), [.inr (.inr (.inl 0)), .inr (.inl (0, 0))], [], [], [(([(2, 2147483647), (0, 0)], [8], [], [], []), some (.inr (.inl (1, 0))))])
def nu_359 : List aCt := []
set_option maxRecDepth 100000 in
theorem vk_359 {X : nX} {L : Nat} {xs : Nat → Int32} {g : Nat} {S : List Nat} : nV nj_M X L xs g nFT nAT S (nJJ S) nk_359 :=
  aChk_ok (ctx := []) (W := ([], [])) (ls := none) (cuts := nu_359) (fuel := 9) (nJJ_ok S)
    ⟨(fun c hc => nomatch hc), (fun c hc => nomatch hc)⟩
    ((fun c hc => nomatch hc))
    (fun _ _ _ _ y hy => by cases hy) (by decide +kernel)
/-- Model_restoreP -/
def nk_360 : nK := (263, 1, ([(2, 2147483647)], [9], [(0, 1002, .inl 1), (0, 1003, .inl 1), (0, 1004, .inl 1)], [], []), [.inr (.inr (.inl 0)), .inr (.inl (0, 0))], [(9, 0)], [], [(([(2, 2147483647)], [9], [(0, 1002, .inl 1), (0, 1003, .inl 1), (0, 1004, .inl 1)], [], []), some (.inl 0))])
def nu_360 : List aCt := []
set_option maxRecDepth 100000 in
theorem vk_360 {X : nX} {L : Nat} {xs : Nat → Int32} {g : Nat} {S : List Nat} : nV nj_M X L xs g nFT nAT S (nJJ S) nk_360 :=
  aChk_ok (ctx := []) (W := ([], [])) (ls := none) (cuts := nu_360) (fuel := 20) (nJJ_ok S)
    ⟨(fun c hc => nomatch hc), (fun c hc => nomatch hc)⟩
    ((fun c hc => nomatch hc))
    (fun _ _ _ _ y hy => by cases hy) (by decide +kernel)
