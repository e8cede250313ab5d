def nkR : nK := (127, 6, ([], [6, 7, 0], [], [], []), [.inr (.inr (.inl 0)), .inr (.inr (.inl 1)), .inr (.inr (.inl 2))], [(6, 3), (7, 7), (7, 8), (7, 10), (7, 11)], [38, 39, 40], [(([], [6, 7, 0], [], [], []), some (.inl 0)), (([], [6, 7, 0], [], [], []), some (.inl 1))])
def rl_x_w109 : List nK := [nk_146]
def rl_w_w109 : nWk := ([], [])
def rl_s_w109 : aS := ([], [6, 7, 0], [], [], [])
def rl_f_w109 : List aF := [(127, 29, [(3, .inl 109), (0, .inr (.inr (.inl 0))), (1, .inr (.inr (.inl 1))), (2, .inr (.inr (.inl 2)))], [])]
set_option maxRecDepth 100000 in
theorem rl_w109 : aExec nj_M nFT nAT rl_x_w109 rl_w_w109 none nkR.2.2.2.2.1 nkR.2.2.2.2.2.1 nkR.2.2.2.2.2.2 0 3 6 127 [] none 22 rl_s_w109 rl_f_w109 = true := by decide +kernel
theorem rl_g_w109 {X : nX} {L : Nat} {xs : Nat → Int32} {g : Nat} {S : List Nat} {d d0 : Nat} {h0 h : List nC} {mu0 : List Nat} {cfs : List cF} (hm : mu0.length = 3) (hd0 : 6 ≤ d0) (hR : aRel nj_M nFT nAT S (nJJ S) nkR.2.2.2.2.1 nkR.2.2.2.2.2.1 [] mu0 h0 rl_s_w109 rl_f_w109 h cfs) (hd : d + (cfs.length - 1) = d0) : nG nj_M X L xs g (aQ nFT nAT S (nJJ S) nkR.2.2.2.2.1 nkR.2.2.2.2.2.1 nkR.2.2.2.2.2.2 [] mu0 h0) d h cfs :=
  aExec_ok (nu0 := []) (nuB := []) (muB := mu0) (ctx := rl_x_w109) (W := rl_w_w109) (ls := none) (cuts := []) (rk := none) (D0 := 6) (k0 := 127) (mt := nm_127) (nJJ_ok S) ⟨(fun c hc => nomatch hc), (fun c hc => nomatch hc)⟩
    (fun c hc => by
    simp only [rl_x_w109, List.mem_cons, List.not_mem_nil, or_false] at hc
    subst hc
    · exact vk_146)
    (fun y hy => by cases hy) aX.rf hd0 rfl (fun r0 hr0 => by cases hr0) (fun c hc => nomatch hc) _ _ _ _ _ _ hR hd (by rw [hm]; exact rl_w109)
def rl_x_w110 : List nK := [nk_147]
def rl_w_w110 : nWk := ([], [])
def rl_s_w110 : aS := ([], [6, 7, 0], [], [], [])
def rl_f_w110 : List aF := [(127, 29, [(3, .inl 110), (0, .inr (.inr (.inl 0))), (1, .inr (.inr (.inl 1))), (2, .inr (.inr (.inl 2)))], [])]
set_option maxRecDepth 100000 in
theorem rl_w110 : aExec nj_M nFT nAT rl_x_w110 rl_w_w110 none nkR.2.2.2.2.1 nkR.2.2.2.2.2.1 nkR.2.2.2.2.2.2 0 3 6 127 [] none 22 rl_s_w110 rl_f_w110 = true := by decide +kernel
theorem rl_g_w110 {X : nX} {L : Nat} {xs : Nat → Int32} {g : Nat} {S : List Nat} {d d0 : Nat} {h0 h : List nC} {mu0 : List Nat} {cfs : List cF} (hm : mu0.length = 3) (hd0 : 6 ≤ d0) (hR : aRel nj_M nFT nAT S (nJJ S) nkR.2.2.2.2.1 nkR.2.2.2.2.2.1 [] mu0 h0 rl_s_w110 rl_f_w110 h cfs) (hd : d + (cfs.length - 1) = d0) : nG nj_M X L xs g (aQ nFT nAT S (nJJ S) nkR.2.2.2.2.1 nkR.2.2.2.2.2.1 nkR.2.2.2.2.2.2 [] mu0 h0) d h cfs :=
  aExec_ok (nu0 := []) (nuB := []) (muB := mu0) (ctx := rl_x_w110) (W := rl_w_w110) (ls := none) (cuts := []) (rk := none) (D0 := 6) (k0 := 127) (mt := nm_127) (nJJ_ok S) ⟨(fun c hc => nomatch hc), (fun c hc => nomatch hc)⟩
    (fun c hc => by
    simp only [rl_x_w110, List.mem_cons, List.not_mem_nil, or_false] at hc
    subst hc
    · exact vk_147)
    (fun y hy => by cases hy) aX.rf hd0 rfl (fun r0 hr0 => by cases hr0) (fun c hc => nomatch hc) _ _ _ _ _ _ hR hd (by rw [hm]; exact rl_w110)
def rl_x_wf : List nK := []
def rl_w_wf : nWk := ([], [])
def rl_s_wf : aS := ([((-2147483648), 2147483647)], [6, 7, 0], [], [], [])
def rl_f_wf : List aF := [(127, 38, [(3, .inr (.inl (0, 0))), (0, .inr (.inr (.inl 0))), (1, .inr (.inr (.inl 1))), (2, .inr (.inr (.inl 2)))], [])]
set_option maxRecDepth 100000 in
theorem rl_wf : aExec nj_M nFT nAT rl_x_wf rl_w_wf none nkR.2.2.2.2.1 nkR.2.2.2.2.2.1 nkR.2.2.2.2.2.2 0 3 6 127 [] none 18 rl_s_wf rl_f_wf = true := by decide +kernel
theorem rl_g_wf {X : nX} {L : Nat} {xs : Nat → Int32} {g : Nat} {S : List Nat} {d d0 : Nat} {h0 h : List nC} {mu0 : List Nat} {cfs : List cF} (hm : mu0.length = 3) (hd0 : 6 ≤ d0) (hR : aRel nj_M nFT nAT S (nJJ S) nkR.2.2.2.2.1 nkR.2.2.2.2.2.1 [] mu0 h0 rl_s_wf rl_f_wf h cfs) (hd : d + (cfs.length - 1) = d0) : nG nj_M X L xs g (aQ nFT nAT S (nJJ S) nkR.2.2.2.2.1 nkR.2.2.2.2.2.1 nkR.2.2.2.2.2.2 [] mu0 h0) d h cfs :=
  aExec_ok (nu0 := []) (nuB := []) (muB := mu0) (ctx := rl_x_wf) (W := rl_w_wf) (ls := none) (cuts := []) (rk := none) (D0 := 6) (k0 := 127) (mt := nm_127) (nJJ_ok S) ⟨(fun c hc => nomatch hc), (fun c hc => nomatch hc)⟩
    (fun c hc => nomatch hc)
    (fun y hy => by cases hy) aX.rf hd0 rfl (fun r0 hr0 => by cases hr0) (fun c hc => nomatch hc) _ _ _ _ _ _ hR hd (by rw [hm]; exact rl_wf)
def rl_x_wa : List nK := [nk_20, nk_142, nk_143]
def rl_w_wa : nWk := ([], [])
def rl_s_wa : aS := ([(0, 9), ((-2147483648), 2147483647)], [6, 7, 0], [], [], [])
def rl_f_wa : List aF := [(131, 6, [(0, .inr (.inr (.inl 0))), (1, .inr (.inr (.inl 1))), (2, .inr (.inr (.inl 2)))], [.inr (.inl (0, 0))]), (127, 91, [(3, .inr (.inl (1, 0))), (0, .inr (.inr (.inl 0))), (1, .inr (.inr (.inl 1))), (2, .inr (.inr (.inl 2)))], [])]
set_option maxRecDepth 100000 in
theorem rl_wa : aExec nj_M nFT nAT rl_x_wa rl_w_wa none nkR.2.2.2.2.1 nkR.2.2.2.2.2.1 nkR.2.2.2.2.2.2 0 3 6 127 [] none 81 rl_s_wa rl_f_wa = true := by decide +kernel
theorem rl_g_wa {X : nX} {L : Nat} {xs : Nat → Int32} {g : Nat} {S : List Nat} {d d0 : Nat} {h0 h : List nC} {mu0 : List Nat} {cfs : List cF} (hm : mu0.length = 3) (hd0 : 6 ≤ d0) (hR : aRel nj_M nFT nAT S (nJJ S) nkR.2.2.2.2.1 nkR.2.2.2.2.2.1 [] mu0 h0 rl_s_wa rl_f_wa h cfs) (hd : d + (cfs.length - 1) = d0) : nG nj_M X L xs g (aQ nFT nAT S (nJJ S) nkR.2.2.2.2.1 nkR.2.2.2.2.2.1 nkR.2.2.2.2.2.2 [] mu0 h0) d h cfs :=
  aExec_ok (nu0 := []) (nuB := []) (muB := mu0) (ctx := rl_x_wa) (W := rl_w_wa) (ls := none) (cuts := []) (rk := none) (D0 := 6) (k0 := 127) (mt := nm_127) (nJJ_ok S) ⟨(fun c hc => nomatch hc), (fun c hc => nomatch hc)⟩
    (fun c hc => by
    simp only [rl_x_wa, List.mem_cons, List.not_mem_nil, or_false] at hc
    rcases hc with rfl | rfl | rfl
    · exact vk_20
    · exact vk_142
    · exact vk_143)
    (fun y hy => by cases hy) aX.rf hd0 rfl (fun r0 hr0 => by cases hr0) (fun c hc => nomatch hc) _ _ _ _ _ _ hR hd (by rw [hm]; exact rl_wa)
def NKS_0 : aS × Option aV := (([((-2147483648), 2147483647), ((-2147483648), 2147483647)], [0, 7], [], [], []), some (.inl (-1)))
def NKS_1 : aS × Option aV := (([((-2147483648), 2147483647), ((-2147483648), 2147483647), (0, 9)], [0, 7], [(1, 10, .inr (.inl (0, 0))), (1, 11, .inr (.inl (1, 0)))], [], []), some (.inr (.inl (2, 0))))
theorem man_readLine {X : nX} {L : Nat} {xs : Nat → Int32} {g : Nat} {S : List Nat} : nV nj_M X L xs g nFT nAT S (nJJ S) nkR := by
  intro d hd mt hM h nu mu vs hJ hT k hs
  cases (show some nm_127 = some mt from hM)
  cases l0 (show 0 = nu.length from k.1.1)
  obtain ⟨a, qr0, rfl, qe0⟩ := lc (show 3 = mu.length from k.2.1.1)
  obtain ⟨t, qr1, rfl, qe1⟩ := lc qe0
  obtain ⟨f, qr2, rfl, qe2⟩ := lc qe1
  cases l0 qe2
  obtain ⟨v0, vl0, rfl, vh0, hv0⟩ := hs.cons
  have vx0 := aRr vh0 (show _ = some a from rfl)
  subst vx0
  obtain ⟨v1, vl1, rfl, vh1, hv1⟩ := hv0.cons
  have vx1 := aRr vh1 (show _ = some t from rfl)
  subst vx1
  obtain ⟨v2, vl2, rfl, vh2, hv2⟩ := hv1.cons
  have vx2 := aRr vh2 (show _ = some f from rfl)
  subst vx2
  have vnil : vl2 = [] := by cases vl2 with
    | nil => rfl
    | cons a b => exact hv2.elim
  subst vnil
  have ta : S[a]? = some 6 := k.2.1.2 0 a _ rfl rfl
  have tt : S[t]? = some 7 := k.2.1.2 1 t _ rfl rfl
  have tf : S[f]? = some 0 := k.2.1.2 2 f _ rfl rfl
  have hd6 : 6 ≤ d := hd
  obtain ⟨d2, rfl⟩ : ∃ d2, d = d2 + 1 + 1 := ⟨d - 2, by omega⟩
  obtain ⟨fa, ha, hfa⟩ := hT.obj ta (show oT 6 = some 6 from rfl)
  obtain ⟨ft, ht, hft⟩ := hT.obj tt (show oT 7 = some 7 from rfl)
  obtain ⟨ff, hf, hff⟩ := hT.obj tf (show oT 0 = some 0 from rfl)
  obtain ⟨y10, p10, -, -⟩ := int_at hft (show nFT 7 10 = some (.inl ((-2147483648), 2147483647)) from rfl)
  obtain ⟨y11, p11, -, -⟩ := int_at hft (show nFT 7 11 = some (.inl ((-2147483648), 2147483647)) from rfl)
  obtain ⟨yl, pl, -, yl1, yl2⟩ := int_at hfa (show nFT 6 3 = some (.inl (0, 40)) from rfl)
  show nT nj_M X L xs g (d2 + 1 + 1) nm_127 (aQ nFT nAT S (nJJ S) nkR.2.2.2.2.1 nkR.2.2.2.2.2.1 nkR.2.2.2.2.2.2 [] [a, t, f] h) 0 [(0, .ref a), (1, .ref t), (2, .ref f)] [] h
  have ok0 : ∀ nu : List Int, ∀ rho : aRho, aE rho nu → aOk S h nu [a, t, f] (rho, [6, 7, 0], [], [], []) := fun nu rho hE => ⟨hE, tau3 ta tt tf, (fun e he => nomatch he), (fun e he => nomatch he), (fun e he => nomatch he)⟩
  have hX : ∀ nu : List Int, aX [] [a, t, f] nu [a, t, f] := fun nu => ⟨nu, [], rfl, rfl⟩
  have lvA : ∀ nu : List Int, aLv nu [a, t, f] [(0, .inr (.inr (.inl 0))), (1, .inr (.inr (.inl 1))), (2, .inr (.inr (.inl 2)))] [(0, .ref a), (1, .ref t), (2, .ref f)] := fun nu e he => by
    simp only [List.mem_cons, List.not_mem_nil, or_false] at he
    rcases he with rfl | rfl | rfl
    · exact ⟨_, rfl, a, rfl, rfl⟩
    · exact ⟨_, rfl, t, rfl, rfl⟩
    · exact ⟨_, rfl, f, rfl, rfl⟩
  refine nT_pure (pc1 := 1) (lv1 := [(0, .ref a), (1, .ref t), (2, .ref f)]) (st1 := [.ref t]) rfl rfl rfl ?_
  refine nT_call (d1 := d2 + 1) (mz := nm_31) rfl rfl (by decide) (by decide) (by decide) (by decide) rfl (pass_v (recv_at ht rfl) (Nat.le_of_ble_eq_true rfl) (Nat.le_of_ble_eq_true rfl) (Nat.le_of_ble_eq_true rfl)) ?_
  refine nT.mono ?_ (vk_344 (X := X) (L := L) (xs := xs) (g := g) (S := S) (d2 + 1) (Nat.zero_le _) nm_31 rfl h [] [t] [.ref t] hJ hT ⟨⟨rfl, fun i z r h => by simp at h⟩, ⟨rfl, fun j q t2 h1 h2 => by
    match j, h1, h2 with
    | 0, h1, h2 => cases h1; cases h2; exact tt⟩, (fun e he => nomatch he), (fun e he => nomatch he), (fun e he => nomatch he)⟩ ⟨⟨t, rfl, rfl⟩, trivial⟩)
  rintro rv h1 ⟨J1, T1, F1, po, hpo, nu1, mu1, X1, ok1, res1⟩
  have hh : h1 = h := heap_eq hJ J1 hT F1 (fun q t ci fs fs1 _ _ _ k hk => nomatch hk)
  subst hh
  have hpo2 := List.mem_singleton.mp hpo
  subst hpo2
  have hrv : ∃ x : Int32, rv = some (.int x) := by
    cases rv with
    | none => exact res1.elim
    | some v =>
      obtain ⟨z, -, e⟩ := (show aR nu1 mu1 (.inr (.inl (0, 0))) v from res1)
      exact ⟨_, congrArg some e⟩
  obtain ⟨x, rfl⟩ := hrv
  show nT nj_M X L xs g (d2 + 1 + 1) nm_127 _ 4 [(0, .ref a), (1, .ref t), (2, .ref f)] [.int x] h1
  refine nT_pure (pc1 := 5) (lv1 := [(3, .int x), (0, .ref a), (1, .ref t), (2, .ref f)]) (st1 := []) rfl rfl rfl ?_
  refine nT_pure (pc1 := 6) (lv1 := [(3, .int x), (0, .ref a), (1, .ref t), (2, .ref f)]) (st1 := [.int x]) rfl rfl rfl ?_
  refine nT_pure (pc1 := 8) (lv1 := [(3, .int x), (0, .ref a), (1, .ref t), (2, .ref f)]) (st1 := [.int (Int8.ofInt 109).toInt32, .int x]) rfl rfl rfl ?_
  have lvB : ∀ (nu : List Int) (c : aV), aR nu [a, t, f] c (.int x) → aLv nu [a, t, f] [(3, c), (0, .inr (.inr (.inl 0))), (1, .inr (.inr (.inl 1))), (2, .inr (.inr (.inl 2)))] [(3, .int x), (0, .ref a), (1, .ref t), (2, .ref f)] := fun nu c hc e he => by
    simp only [List.mem_cons, List.not_mem_nil, or_false] at he
    rcases he with rfl | rfl | rfl | rfl
    · exact ⟨_, rfl, hc⟩
    · exact ⟨_, rfl, a, rfl, rfl⟩
    · exact ⟨_, rfl, t, rfl, rfl⟩
    · exact ⟨_, rfl, f, rfl, rfl⟩
  by_cases e1 : x = (Int8.ofInt 109).toInt32
  · subst e1
    refine nT_pure (pc1 := 29) (lv1 := [(3, .int (Int8.ofInt 109).toInt32), (0, .ref a), (1, .ref t), (2, .ref f)]) (st1 := []) rfl rfl rfl ?_
    exact rl_g_w109 (cfs := [(nm_127, 29, [(3, .int (Int8.ofInt 109).toInt32), (0, .ref a), (1, .ref t), (2, .ref f)], [])]) rfl hd6 ⟨[], [a, t, f], hX [], ok0 [] [] ⟨rfl, fun i z r h => by simp at h⟩, ⟨⟨rfl, rfl, lvB [] (.inl 109) rfl, trivial⟩, trivial⟩, hJ, hT, nFr.rf⟩ rfl
  refine nT_pure (pc1 := 11) (lv1 := [(3, .int x), (0, .ref a), (1, .ref t), (2, .ref f)]) (st1 := []) rfl rfl (by
    show nj_br 8 21 (decide (x = (Int8.ofInt 109).toInt32)) _ _ = _
    rw [decide_eq_false e1]
    rfl) ?_
  refine nT_pure (pc1 := 12) (lv1 := [(3, .int x), (0, .ref a), (1, .ref t), (2, .ref f)]) (st1 := [.int x]) rfl rfl rfl ?_
  refine nT_pure (pc1 := 14) (lv1 := [(3, .int x), (0, .ref a), (1, .ref t), (2, .ref f)]) (st1 := [.int (Int8.ofInt 110).toInt32, .int x]) rfl rfl rfl ?_
  by_cases e2 : x = (Int8.ofInt 110).toInt32
  · subst e2
    refine nT_pure (pc1 := 29) (lv1 := [(3, .int (Int8.ofInt 110).toInt32), (0, .ref a), (1, .ref t), (2, .ref f)]) (st1 := []) rfl rfl rfl ?_
    exact rl_g_w110 (cfs := [(nm_127, 29, [(3, .int (Int8.ofInt 110).toInt32), (0, .ref a), (1, .ref t), (2, .ref f)], [])]) rfl hd6 ⟨[], [a, t, f], hX [], ok0 [] [] ⟨rfl, fun i z r h => by simp at h⟩, ⟨⟨rfl, rfl, lvB [] (.inl 110) rfl, trivial⟩, trivial⟩, hJ, hT, nFr.rf⟩ rfl
  refine nT_pure (pc1 := 17) (lv1 := [(3, .int x), (0, .ref a), (1, .ref t), (2, .ref f)]) (st1 := []) rfl rfl (by
    show nj_br 14 15 (decide (x = (Int8.ofInt 110).toInt32)) _ _ = _
    rw [decide_eq_false e2]
    rfl) ?_
  refine nT_pure (pc1 := 18) (lv1 := [(3, .int x), (0, .ref a), (1, .ref t), (2, .ref f)]) (st1 := [.ref f]) rfl rfl rfl ?_
  refine nT_pure (pc1 := 19) (lv1 := [(3, .int x), (0, .ref a), (1, .ref t), (2, .ref f)]) (st1 := [.ref t, .ref f]) rfl rfl rfl ?_
  refine nT_pure (pc1 := 20) (lv1 := [(3, .int x), (0, .ref a), (1, .ref t), (2, .ref f)]) (st1 := [.int (Int32.ofInt 1), .ref t, .ref f]) rfl rfl rfl ?_
  have okK : aOk S h1 [y10.toInt, y11.toInt] [f, t] nk_345.2.2.1 := ⟨aE2 (aFull_ok y10) (aFull_ok y11), tau2 tf tt, fun e he => by
    have he2 : e ∈ [(1, 10, (.inr (.inl (0, 0)) : aV)), (1, 11, .inr (.inl (1, 0)))] := he
    simp only [List.mem_cons, List.not_mem_nil, or_false] at he2
    rcases he2 with rfl | rfl
    · exact ⟨t, 7, ft, _, rfl, ht, (nFd_lo (by decide)).trans p10, aRi rfl (Int.add_zero _).symm⟩
    · exact ⟨t, 7, ft, _, rfl, ht, (nFd_lo (by decide)).trans p11, aRi rfl (Int.add_zero _).symm⟩, (fun e he => nomatch he), (fun e he => nomatch he)⟩
  have stK : aSt [y10.toInt, y11.toInt] [f, t] nk_345.2.2.2.1 [.ref f, .ref t, .int (Int32.ofInt 1)] := ⟨⟨f, rfl, rfl⟩, ⟨t, rfl, rfl⟩, rfl, trivial⟩
  refine nT_call (d1 := d2 + 1) (mz := nm_40) rfl rfl (by decide) (by decide) (by decide) (by decide) rfl (pass_v (recv_at hf rfl) (Nat.le_of_ble_eq_true rfl) (Nat.le_of_ble_eq_true rfl) (Nat.le_of_ble_eq_true rfl)) ?_
  obtain ⟨n2, rv2, h2, run2, J2, T2, F2, po2, hpo2, nu2, mu2, X2, ok2, res2⟩ := vk_345 (X := X) (L := L) (xs := xs) (g := g) (S := S) (d2 + 1) (by show 1 ≤ _; omega) nm_40 rfl h1 _ _ _ hJ hT okK stK
  refine ⟨n2, rv2, h2, run2, ?_⟩
  have hpo3 : po2 = NKS_0 ∨ po2 = NKS_1 := by
    have : po2 ∈ [NKS_0, NKS_1] := hpo2
    simpa using this
  rcases hpo3 with rfl | rfl
  · have hrv2 : rv2 = some (.int (Int32.ofInt (-1))) := by
      cases rv2 with
      | none => exact res2.elim
      | some v => exact congrArg some (show v = .int (Int32.ofInt (-1)) from res2)
    subst hrv2
    show nT nj_M X L xs g (d2 + 1 + 1) nm_127 _ 23 [(3, .int x), (0, .ref a), (1, .ref t), (2, .ref f)] [.int (Int32.ofInt (-1))] h2
    refine nT_pure (pc1 := 24) (lv1 := [(3, .int x), (0, .ref a), (1, .ref t), (2, .ref f)]) (st1 := [.int (Int32.ofInt (-1)), .int (Int32.ofInt (-1))]) rfl rfl rfl ?_
    refine nT_pure (pc1 := 27) (lv1 := [(3, .int x), (0, .ref a), (1, .ref t), (2, .ref f)]) (st1 := []) rfl rfl rfl ?_
    refine nT_pure (pc1 := 28) (lv1 := [(3, .int x), (0, .ref a), (1, .ref t), (2, .ref f)]) (st1 := [.int (Int32.ofInt 0)]) rfl rfl rfl ?_
    refine nT_ret (rv := some (.int (Int32.ofInt 0))) rfl rfl ⟨J2, T2, F2.wk (fun y hy => ?_) (fun y hy => nomatch hy), _, List.mem_cons_self, [], [a, t, f], aX.rf, ⟨⟨rfl, fun i z r h => by simp at h⟩, tau3 ta tt tf, (fun e he => nomatch he), (fun e he => nomatch he), (fun e he => nomatch he)⟩, rfl⟩
    have hy2 : y ∈ [(7, 10), (7, 11)] := hy
    simp only [List.mem_cons, List.not_mem_nil, or_false] at hy2
    rcases hy2 with rfl | rfl
    · exact (show (7, 10) ∈ nkR.2.2.2.2.1 by simp [nkR])
    · exact (show (7, 11) ∈ nkR.2.2.2.2.1 by simp [nkR])
  · have eqh : h2 = h1 := by
      refine heap_eq hJ J2 hT F2 (fun q t3 ci fs fs1 hS hq hq1 kk hk => ?_)
      have hk2 : (t3, kk) ∈ [(7, 10), (7, 11)] := hk
      simp only [List.mem_cons, Prod.mk.injEq, List.not_mem_nil, or_false] at hk2
      have look : ∀ (f0 i : Nat) (y : Int32), f0 < 1000 → (1, f0, (.inr (.inl (i, 0)) : aV)) ∈ NKS_1.1.2.2.1 → [y10.toInt, y11.toInt][i]? = some y.toInt → t3 = 7 → ft[f0]? = some (.int y) → fs1[f0]? = fs[f0]? := fun f0 i y hlt hm hi e3 hy => by
        subst e3
        have eq := hJ.2.2.2 q t hS tt
        subst eq
        cases ht.symm.trans hq
        obtain ⟨w, w1, w2⟩ := fc_at ok2 hm (X2.mu (show [f, q][1]? = some q from rfl)) hq1
        rw [nFd_lo hlt] at w1
        have w3 := aRs w2 (X2.nu hi)
        rw [w1, hy, w3, Int.add_zero, Int32.ofInt_toInt]
      rcases hk2 with ⟨e3, rfl⟩ | ⟨e3, rfl⟩
      · exact look 10 0 y10 (by decide) (by simp [NKS_1]) rfl e3 p10
      · exact look 11 1 y11 (by decide) (by simp [NKS_1]) rfl e3 p11
    subst eqh
    have hrv2 : ∃ x2 : Int32, rv2 = some (.int x2) ∧ 0 ≤ x2.toInt ∧ x2.toInt ≤ 9 := by
      cases rv2 with
      | none => exact res2.elim
      | some v =>
        obtain ⟨z, z1, z2⟩ := (show aR nu2 mu2 (.inr (.inl (2, 0))) v from res2)
        have zb := ok2.1.2 2 z (0, 9) z1 rfl
        refine ⟨Int32.ofInt (z + 0), congrArg some z2, ?_⟩
        rw [a32 (by omega) (by omega)]
        omega
    obtain ⟨x2, rfl, x21, x22⟩ := hrv2
    show nT nj_M X L xs g (d2 + 1 + 1) nm_127 _ 23 [(3, .int x), (0, .ref a), (1, .ref t), (2, .ref f)] [.int x2] h2
    refine nT_pure (pc1 := 24) (lv1 := [(3, .int x), (0, .ref a), (1, .ref t), (2, .ref f)]) (st1 := [.int (Int32.ofInt (-1)), .int x2]) rfl rfl rfl ?_
    have xne : ¬ x2 = Int32.ofInt (-1) := fun e => by
      rw [e] at x21
      exact absurd x21 (by decide)
    refine nT_pure (pc1 := 29) (lv1 := [(3, .int x), (0, .ref a), (1, .ref t), (2, .ref f)]) (st1 := []) rfl rfl (by
      show nj_br 24 5 (decide (¬ x2 = Int32.ofInt (-1))) _ _ = _
      rw [decide_eq_true xne]
      rfl) ?_
    refine nT_pure (pc1 := 30) (lv1 := [(3, .int x), (0, .ref a), (1, .ref t), (2, .ref f)]) (st1 := [.ref a]) rfl rfl rfl ?_
    refine nT_mem (pc1 := 33) (st1 := [.int yl]) rfl rfl rfl (getf_at ha pl) ?_
    refine nT_pure (pc1 := 35) (lv1 := [(3, .int x), (0, .ref a), (1, .ref t), (2, .ref f)]) (st1 := [.int (Int8.ofInt 40).toInt32, .int yl]) rfl rfl rfl ?_
    by_cases el : yl < (Int8.ofInt 40).toInt32
    · refine nT_pure (pc1 := 44) (lv1 := [(3, .int x), (0, .ref a), (1, .ref t), (2, .ref f)]) (st1 := []) rfl rfl (by
        show nj_br 35 9 (decide (yl < (Int8.ofInt 40).toInt32)) _ _ = _
        rw [decide_eq_true el]
        rfl) ?_
      refine nT_pure (pc1 := 45) (lv1 := [(3, .int x), (0, .ref a), (1, .ref t), (2, .ref f)]) (st1 := [.int x]) rfl rfl rfl ?_
      refine nT_pure (pc1 := 85) (lv1 := [(3, .int x), (0, .ref a), (1, .ref t), (2, .ref f)]) (st1 := []) rfl rfl (Eq.trans (b := nj_go 45 (Op.lookupswitch.offset [(109, 27), (110, 34)] 40 x.toInt) [(3, .int x), (0, .ref a), (1, .ref t), (2, .ref f)] []) rfl (by
        rw [lv_osw e1 (by decide), lv_osw e2 (by decide)]
        rfl)) ?_
      refine nT_pure (pc1 := 86) (lv1 := [(3, .int x), (0, .ref a), (1, .ref t), (2, .ref f)]) (st1 := [.ref a]) rfl rfl rfl ?_
      refine nT_pure (pc1 := 87) (lv1 := [(3, .int x), (0, .ref a), (1, .ref t), (2, .ref f)]) (st1 := [.ref t, .ref a]) rfl rfl rfl ?_
      refine nT_pure (pc1 := 88) (lv1 := [(3, .int x), (0, .ref a), (1, .ref t), (2, .ref f)]) (st1 := [.ref f, .ref t, .ref a]) rfl rfl rfl ?_
      refine nT_call (d1 := d2 + 1) (mz := nm_131) rfl rfl (by decide) (by decide) (by decide) (by decide) rfl (pass_v (recv_at ha rfl) (Nat.le_of_ble_eq_true rfl) (Nat.le_of_ble_eq_true rfl) (Nat.le_of_ble_eq_true rfl)) ?_
      show nT nj_M X L xs g (d2 + 1) nm_131 _ 0 [(0, .ref a), (1, .ref t), (2, .ref f)] [] h2
      refine nT_pure (pc1 := 1) (lv1 := [(0, .ref a), (1, .ref t), (2, .ref f)]) (st1 := [.ref f]) rfl rfl rfl ?_
      refine nT_pure (pc1 := 2) (lv1 := [(0, .ref a), (1, .ref t), (2, .ref f)]) (st1 := [.ref t, .ref f]) rfl rfl rfl ?_
      refine nT_pure (pc1 := 3) (lv1 := [(0, .ref a), (1, .ref t), (2, .ref f)]) (st1 := [.int (Int32.ofInt 1), .ref t, .ref f]) rfl rfl rfl ?_
      refine nT_call (d1 := d2) (mz := nm_40) rfl rfl (by decide) (by decide) (by decide) (by decide) rfl (pass_v (recv_at hf rfl) (Nat.le_of_ble_eq_true rfl) (Nat.le_of_ble_eq_true rfl) (Nat.le_of_ble_eq_true rfl)) ?_
      obtain ⟨n3, rv3, h3, run3, -⟩ := vk_345 (X := X) (L := L) (xs := xs) (g := g) (S := S) d2 (by show 1 ≤ _; omega) nm_40 rfl h2 _ _ _ hJ hT okK stK
      have eq3 := nj_run_det (nj_run_dmono _ _ (d2 + 1) _ _ _ _ _ _ _ (by omega) run3) run2
      cases eq3
      refine ⟨n3, _, _, run3, ?_⟩
      show nT nj_M X L xs g (d2 + 1) nm_131 _ 6 [(0, .ref a), (1, .ref t), (2, .ref f)] [.int x2] h2
      exact rl_g_wa (cfs := [(nm_131, 6, [(0, .ref a), (1, .ref t), (2, .ref f)], [.int x2]), (nm_127, 91, [(3, .int x), (0, .ref a), (1, .ref t), (2, .ref f)], [])]) rfl hd6 ⟨[x2.toInt, x.toInt], [a, t, f], hX _, ok0 _ _ (aE2 ⟨x21, x22⟩ (aFull_ok x)), ⟨⟨rfl, rfl, lvA _, ⟨aRi rfl (Int.add_zero _).symm, trivial⟩⟩, ⟨⟨rfl, rfl, lvB _ (.inr (.inl (1, 0))) (aRi rfl (Int.add_zero _).symm), trivial⟩, trivial⟩⟩, hJ, hT, nFr.rf⟩ rfl
    · refine nT_pure (pc1 := 38) (lv1 := [(3, .int x), (0, .ref a), (1, .ref t), (2, .ref f)]) (st1 := []) rfl rfl (by
        show nj_br 35 9 (decide (yl < (Int8.ofInt 40).toInt32)) _ _ = _
        rw [decide_eq_false el]
        rfl) ?_
      exact rl_g_wf (cfs := [(nm_127, 38, [(3, .int x), (0, .ref a), (1, .ref t), (2, .ref f)], [])]) rfl hd6 ⟨[x.toInt], [a, t, f], hX _, ok0 _ _ (aE1 (aFull_ok x)), ⟨⟨rfl, rfl, lvB _ (.inr (.inl (0, 0))) (aRi rfl (Int.add_zero _).symm), trivial⟩, trivial⟩, hJ, hT, nFr.rf⟩ rfl
