/-- phrase_clear -/
theorem sw_0_ok {S : List Nat} : nSv nFT nAT S (nJJ S) sw_0 := by
  intro h nu mu ws vs rst pc ini hJ hT k hw hv
  cases l0 (show 0 = nu.length from k.1.1)
  obtain ⟨q0, qr0, rfl, qe0⟩ := lc (show 1 = mu.length from k.2.1.1)
  cases l0 qe0
  have t0 : S[q0]? = some 4 := k.2.1.2 0 q0 _ rfl rfl
  obtain ⟨v0, vl0, rfl, vh0, hv0⟩ := hv.cons
  have vx0 : v0 = .int (Int32.ofInt 0) := vh0
  subst vx0
  obtain ⟨v1, vl1, rfl, vh1, hv1⟩ := hv0.cons
  have vx1 := aRr vh1 (show _ = some q0 from rfl)
  subst vx1
  have vnil : vl1 = [] := by cases vl1 with
    | nil => rfl
    | cons a b => exact hv1.elim
  subst vnil
  obtain ⟨fs, hq, hfs⟩ := hT.obj t0 (show oT 4 = some 4 from rfl)
  have hx : (Int32.ofInt 0).toInt = 0 := by decide
  obtain ⟨xx, ix, jx, mx⟩ := int_at hfs (show nFT 4 4 = some (.inl (0, 40)) from rfl)
  have hs : (fs.set 4 (.int (Int32.ofInt 0)))[4]? = some (.int (Int32.ofInt 0)) := List.getElem?_set_self (List.getElem?_eq_some_iff.mp ix).1
  have hold := hJ.1 q0 4 4 fs t0 (.inl rfl) hq
  have hnew : nGh 1000 h 4 (fs.set 4 (.int (Int32.ofInt 0))) = 1 := by
    rw [nGh4, gA_set (by decide), gA_set (by decide), gI_at hs, hx]
    refine gAll_one.mpr (fun i hi => ?_)
    exact absurd hi (by simp)
  obtain ⟨p1, p2, p3, p4, p5, p6⟩ := put_ok (b := 4) (x := (Int32.ofInt 0)) (mf := sw_0.2.2.2.1) hJ hT t0 (show oT 4 = some 4 from rfl) hq hfs (rg := (0, 40)) rfl (by rw [hx]; omega) rfl (by simp [sw_0]) (fun kk h10 hk => by
    simp only [sw_0, List.mem_cons, Prod.mk.injEq, true_and, List.not_mem_nil, or_false, not_or] at hk
    exact hnew.trans hold.symm) (fun hV => by
    exact hnew)
  refine ⟨_, (fun e => nomatch e), fun _ => p1 pc rst ini, p2, p3, p4, _, List.mem_singleton.mpr rfl, _, _, aX.rf, k.1, k.2.1, fun e he => ?_, (fun e he => nomatch he), (fun e he => nomatch he)⟩
  simp only [List.mem_cons, List.not_mem_nil, or_false] at he
  subst he
  · exact ⟨q0, 4, _, _, rfl, p5, (nFd_lo (by decide)).trans p6, rfl⟩
/-- phrase_len_a -/
theorem sw_3_ok {S : List Nat} : nSv nFT nAT S (nJJ S) sw_3 := by
  intro h nu mu ws vs rst pc ini hJ hT k hw hv
  obtain ⟨z0, zr0, rfl, ze0⟩ := lc (show 3 = nu.length from k.1.1)
  obtain ⟨z1, zr1, rfl, ze1⟩ := lc (ze0)
  obtain ⟨z2, zr2, rfl, ze2⟩ := lc (ze1)
  cases l0 ze2
  obtain ⟨q0, qr0, rfl, qe0⟩ := lc (show 2 = mu.length from k.2.1.1)
  obtain ⟨q1, qr1, rfl, qe1⟩ := lc (qe0)
  cases l0 qe1
  have b0 : 1 ≤ z0 ∧ z0 ≤ 40 := k.1.2 0 z0 _ rfl rfl
  have b1 : 0 ≤ z1 ∧ z1 ≤ 39 := k.1.2 1 z1 _ rfl rfl
  have b2 : (-2147483648) ≤ z2 ∧ z2 ≤ 115 := k.1.2 2 z2 _ rfl rfl
  have t0 : S[q0]? = some 4 := k.2.1.2 0 q0 _ rfl rfl
  have t1 : S[q1]? = some 30 := k.2.1.2 1 q1 _ rfl rfl
  have d0 := (k.2.2.2.2 _ (show .inl ([(1, 0), ((-1), 1)], (-1)) ∈ sw_3.2.1.2.2.2.2 by simp [sw_3])).2
  simp only [lS, List.map_cons, List.map_nil, List.sum_cons, List.sum_nil, List.getD_cons_zero, List.getD_cons_succ] at d0
  have d1 := (k.2.2.2.2 _ (show .inl ([((-1), 0), (1, 1)], 1) ∈ sw_3.2.1.2.2.2.2 by simp [sw_3])).2
  simp only [lS, List.map_cons, List.map_nil, List.sum_cons, List.sum_nil, List.getD_cons_zero, List.getD_cons_succ] at d1
  obtain ⟨v0, vl0, rfl, vh0, hv0⟩ := hv.cons
  have vx0 := aRs vh0 (show _ = some z0 from rfl)
  subst vx0
  obtain ⟨v1, vl1, rfl, vh1, hv1⟩ := hv0.cons
  have vx1 := aRr vh1 (show _ = some q0 from rfl)
  subst vx1
  have vnil : vl1 = [] := by cases vl1 with
    | nil => rfl
    | cons a b => exact hv1.elim
  subst vnil
  obtain ⟨fs, hq, hfs⟩ := hT.obj t0 (show oT 4 = some 4 from rfl)
  obtain ⟨u4, f4, a4⟩ := fc_at k (show (0, 4, .inr (.inl (1, 0))) ∈ sw_3.2.1.2.2.1 by simp [sw_3]) rfl hq
  rw [nFd_lo (by decide)] at f4
  have y4 := aRs a4 (show _ = some z1 from rfl)
  subst y4
  obtain ⟨u0, f0, a0⟩ := fc_at k (show (0, 0, .inr (.inr (.inl 1))) ∈ sw_3.2.1.2.2.1 by simp [sw_3]) rfl hq
  rw [nFd_lo (by decide)] at f0
  have y0 := aRr a0 (show _ = some q1 from rfl)
  subst y0
  have hx : (Int32.ofInt (z0 + 0)).toInt = z0 := by rw [a32 (by omega) (by omega)]; omega
  obtain ⟨xx, ix, jx, mx⟩ := int_at hfs (show nFT 4 4 = some (.inl (0, 40)) from rfl)
  have hs : (fs.set 4 (.int (Int32.ofInt (z0 + 0))))[4]? = some (.int (Int32.ofInt (z0 + 0))) := List.getElem?_set_self (List.getElem?_eq_some_iff.mp ix).1
  have hold := hJ.1 q0 4 4 fs t0 (.inl rfl) hq
  obtain ⟨mq, mk, mn, mf, mi, m1, m2, m3, m4⟩ := k.2.2.2.1 _ (show (1, .inr (.inl (1, 0)), .inr (.inl (2, 0))) ∈ sw_3.2.1.2.2.2.1 by simp [sw_3])
  cases (show some q1 = some mq from m1)
  have m5 := Value.int.inj (aRs m3 (show _ = some z1 from rfl))
  have m6 := Value.int.inj (aRs m4 (show _ = some z2 from rfl))
  subst m5
  have mv : (gA h fs 0 (z1 + 0).toNat).toInt = z2 := by
    rw [gA_at f0 m2]
    have e : (Int32.ofInt (z1 + 0)).toNatClampNeg = (z1 + 0).toNat := by
      show (Int32.ofInt (z1 + 0)).toInt.toNat = _
      rw [a32 (by omega) (by omega)]
    rw [← e, m6, a32 (by omega) (by omega)]
    omega
  have hnew : nGh 1000 h 4 (fs.set 4 (.int (Int32.ofInt (z0 + 0)))) = 1 := by
    rw [nGh4, gA_set (by decide), gA_set (by decide), gI_at hs, hx]
    refine gAll_one.mpr (fun i hi => ?_)
    rw [nGh4, gI_at f4, a32 (by omega) (by omega)] at hold
    by_cases e : i < (z1 + 0).toNat
    · exact gAll_one.mp hold i e
    · have e2 : i = (z1 + 0).toNat := by omega
      subst e2
      rw [decide_eq_true_eq]
      omega
  obtain ⟨p1, p2, p3, p4, p5, p6⟩ := put_ok (b := 4) (x := (Int32.ofInt (z0 + 0))) (mf := sw_3.2.2.2.1) hJ hT t0 (show oT 4 = some 4 from rfl) hq hfs (rg := (0, 40)) rfl (by rw [hx]; omega) rfl (by simp [sw_3]) (fun kk h10 hk => by
    simp only [sw_3, List.mem_cons, Prod.mk.injEq, true_and, List.not_mem_nil, or_false, not_or] at hk
    exact hnew.trans (hJ.1 q0 4 4 fs t0 (.inl rfl) hq).symm) (fun hV => by
    exact hnew)
  refine ⟨_, (fun e => nomatch e), fun _ => p1 pc rst ini, p2, p3, p4, _, List.mem_singleton.mpr rfl, _, _, aX.rf, k.1, k.2.1, fun e he => ?_, (fun e he => nomatch he), (fun e he => nomatch he)⟩
  simp only [List.mem_cons, List.not_mem_nil, or_false] at he
  subst he
  · exact ⟨q0, 4, _, _, rfl, p5, (nFd_lo (by decide)).trans p6, ⟨_, rfl, rfl⟩⟩
/-- phrase_len_b -/
theorem sw_4_ok {S : List Nat} : nSv nFT nAT S (nJJ S) sw_4 := by
  intro h nu mu ws vs rst pc ini hJ hT k hw hv
  obtain ⟨z0, zr0, rfl, ze0⟩ := lc (show 3 = nu.length from k.1.1)
  obtain ⟨z1, zr1, rfl, ze1⟩ := lc (ze0)
  obtain ⟨z2, zr2, rfl, ze2⟩ := lc (ze1)
  cases l0 ze2
  obtain ⟨q0, qr0, rfl, qe0⟩ := lc (show 2 = mu.length from k.2.1.1)
  obtain ⟨q1, qr1, rfl, qe1⟩ := lc (qe0)
  cases l0 qe1
  have b0 : 1 ≤ z0 ∧ z0 ≤ 40 := k.1.2 0 z0 _ rfl rfl
  have b1 : 0 ≤ z1 ∧ z1 ≤ 39 := k.1.2 1 z1 _ rfl rfl
  have b2 : 118 ≤ z2 ∧ z2 ≤ 2147483647 := k.1.2 2 z2 _ rfl rfl
  have t0 : S[q0]? = some 4 := k.2.1.2 0 q0 _ rfl rfl
  have t1 : S[q1]? = some 30 := k.2.1.2 1 q1 _ rfl rfl
  have d0 := (k.2.2.2.2 _ (show .inl ([(1, 0), ((-1), 1)], (-1)) ∈ sw_4.2.1.2.2.2.2 by simp [sw_4])).2
  simp only [lS, List.map_cons, List.map_nil, List.sum_cons, List.sum_nil, List.getD_cons_zero, List.getD_cons_succ] at d0
  have d1 := (k.2.2.2.2 _ (show .inl ([((-1), 0), (1, 1)], 1) ∈ sw_4.2.1.2.2.2.2 by simp [sw_4])).2
  simp only [lS, List.map_cons, List.map_nil, List.sum_cons, List.sum_nil, List.getD_cons_zero, List.getD_cons_succ] at d1
  obtain ⟨v0, vl0, rfl, vh0, hv0⟩ := hv.cons
  have vx0 := aRs vh0 (show _ = some z0 from rfl)
  subst vx0
  obtain ⟨v1, vl1, rfl, vh1, hv1⟩ := hv0.cons
  have vx1 := aRr vh1 (show _ = some q0 from rfl)
  subst vx1
  have vnil : vl1 = [] := by cases vl1 with
    | nil => rfl
    | cons a b => exact hv1.elim
  subst vnil
  obtain ⟨fs, hq, hfs⟩ := hT.obj t0 (show oT 4 = some 4 from rfl)
  obtain ⟨u4, f4, a4⟩ := fc_at k (show (0, 4, .inr (.inl (1, 0))) ∈ sw_4.2.1.2.2.1 by simp [sw_4]) rfl hq
  rw [nFd_lo (by decide)] at f4
  have y4 := aRs a4 (show _ = some z1 from rfl)
  subst y4
  obtain ⟨u0, f0, a0⟩ := fc_at k (show (0, 0, .inr (.inr (.inl 1))) ∈ sw_4.2.1.2.2.1 by simp [sw_4]) rfl hq
  rw [nFd_lo (by decide)] at f0
  have y0 := aRr a0 (show _ = some q1 from rfl)
  subst y0
  have hx : (Int32.ofInt (z0 + 0)).toInt = z0 := by rw [a32 (by omega) (by omega)]; omega
  obtain ⟨xx, ix, jx, mx⟩ := int_at hfs (show nFT 4 4 = some (.inl (0, 40)) from rfl)
  have hs : (fs.set 4 (.int (Int32.ofInt (z0 + 0))))[4]? = some (.int (Int32.ofInt (z0 + 0))) := List.getElem?_set_self (List.getElem?_eq_some_iff.mp ix).1
  have hold := hJ.1 q0 4 4 fs t0 (.inl rfl) hq
  obtain ⟨mq, mk, mn, mf, mi, m1, m2, m3, m4⟩ := k.2.2.2.1 _ (show (1, .inr (.inl (1, 0)), .inr (.inl (2, 0))) ∈ sw_4.2.1.2.2.2.1 by simp [sw_4])
  cases (show some q1 = some mq from m1)
  have m5 := Value.int.inj (aRs m3 (show _ = some z1 from rfl))
  have m6 := Value.int.inj (aRs m4 (show _ = some z2 from rfl))
  subst m5
  have mv : (gA h fs 0 (z1 + 0).toNat).toInt = z2 := by
    rw [gA_at f0 m2]
    have e : (Int32.ofInt (z1 + 0)).toNatClampNeg = (z1 + 0).toNat := by
      show (Int32.ofInt (z1 + 0)).toInt.toNat = _
      rw [a32 (by omega) (by omega)]
    rw [← e, m6, a32 (by omega) (by omega)]
    omega
  have hnew : nGh 1000 h 4 (fs.set 4 (.int (Int32.ofInt (z0 + 0)))) = 1 := by
    rw [nGh4, gA_set (by decide), gA_set (by decide), gI_at hs, hx]
    refine gAll_one.mpr (fun i hi => ?_)
    rw [nGh4, gI_at f4, a32 (by omega) (by omega)] at hold
    by_cases e : i < (z1 + 0).toNat
    · exact gAll_one.mp hold i e
    · have e2 : i = (z1 + 0).toNat := by omega
      subst e2
      rw [decide_eq_true_eq]
      omega
  obtain ⟨p1, p2, p3, p4, p5, p6⟩ := put_ok (b := 4) (x := (Int32.ofInt (z0 + 0))) (mf := sw_4.2.2.2.1) hJ hT t0 (show oT 4 = some 4 from rfl) hq hfs (rg := (0, 40)) rfl (by rw [hx]; omega) rfl (by simp [sw_4]) (fun kk h10 hk => by
    simp only [sw_4, List.mem_cons, Prod.mk.injEq, true_and, List.not_mem_nil, or_false, not_or] at hk
    exact hnew.trans (hJ.1 q0 4 4 fs t0 (.inl rfl) hq).symm) (fun hV => by
    exact hnew)
  refine ⟨_, (fun e => nomatch e), fun _ => p1 pc rst ini, p2, p3, p4, _, List.mem_singleton.mpr rfl, _, _, aX.rf, k.1, k.2.1, fun e he => ?_, (fun e he => nomatch he), (fun e he => nomatch he)⟩
  simp only [List.mem_cons, List.not_mem_nil, or_false] at he
  subst he
  · exact ⟨q0, 4, _, _, rfl, p5, (nFd_lo (by decide)).trans p6, ⟨_, rfl, rfl⟩⟩
/-- phrase_len_d -/
theorem sw_5_ok {S : List Nat} : nSv nFT nAT S (nJJ S) sw_5 := by
  intro h nu mu ws vs rst pc ini hJ hT k hw hv
  obtain ⟨z0, zr0, rfl, ze0⟩ := lc (show 4 = nu.length from k.1.1)
  obtain ⟨z1, zr1, rfl, ze1⟩ := lc (ze0)
  obtain ⟨z2, zr2, rfl, ze2⟩ := lc (ze1)
  obtain ⟨z3, zr3, rfl, ze3⟩ := lc (ze2)
  cases l0 ze3
  obtain ⟨q0, qr0, rfl, qe0⟩ := lc (show 3 = mu.length from k.2.1.1)
  obtain ⟨q1, qr1, rfl, qe1⟩ := lc (qe0)
  obtain ⟨q2, qr2, rfl, qe2⟩ := lc (qe1)
  cases l0 qe2
  have b0 : 1 ≤ z0 ∧ z0 ≤ 40 := k.1.2 0 z0 _ rfl rfl
  have b1 : 0 ≤ z1 ∧ z1 ≤ 39 := k.1.2 1 z1 _ rfl rfl
  have b2 : 117 ≤ z2 ∧ z2 ≤ 117 := k.1.2 2 z2 _ rfl rfl
  have b3 : 0 ≤ z3 ∧ z3 ≤ 9 := k.1.2 3 z3 _ rfl rfl
  have t0 : S[q0]? = some 4 := k.2.1.2 0 q0 _ rfl rfl
  have t1 : S[q1]? = some 30 := k.2.1.2 1 q1 _ rfl rfl
  have t2 : S[q2]? = some 32 := k.2.1.2 2 q2 _ rfl rfl
  have d0 := (k.2.2.2.2 _ (show .inl ([(1, 0), ((-1), 1)], (-1)) ∈ sw_5.2.1.2.2.2.2 by simp [sw_5])).2
  simp only [lS, List.map_cons, List.map_nil, List.sum_cons, List.sum_nil, List.getD_cons_zero, List.getD_cons_succ] at d0
  have d1 := (k.2.2.2.2 _ (show .inl ([((-1), 0), (1, 1)], 1) ∈ sw_5.2.1.2.2.2.2 by simp [sw_5])).2
  simp only [lS, List.map_cons, List.map_nil, List.sum_cons, List.sum_nil, List.getD_cons_zero, List.getD_cons_succ] at d1
  obtain ⟨v0, vl0, rfl, vh0, hv0⟩ := hv.cons
  have vx0 := aRs vh0 (show _ = some z0 from rfl)
  subst vx0
  obtain ⟨v1, vl1, rfl, vh1, hv1⟩ := hv0.cons
  have vx1 := aRr vh1 (show _ = some q0 from rfl)
  subst vx1
  have vnil : vl1 = [] := by cases vl1 with
    | nil => rfl
    | cons a b => exact hv1.elim
  subst vnil
  obtain ⟨fs, hq, hfs⟩ := hT.obj t0 (show oT 4 = some 4 from rfl)
  obtain ⟨u4, f4, a4⟩ := fc_at k (show (0, 4, .inr (.inl (1, 0))) ∈ sw_5.2.1.2.2.1 by simp [sw_5]) rfl hq
  rw [nFd_lo (by decide)] at f4
  have y4 := aRs a4 (show _ = some z1 from rfl)
  subst y4
  obtain ⟨u0, f0, a0⟩ := fc_at k (show (0, 0, .inr (.inr (.inl 1))) ∈ sw_5.2.1.2.2.1 by simp [sw_5]) rfl hq
  rw [nFd_lo (by decide)] at f0
  have y0 := aRr a0 (show _ = some q1 from rfl)
  subst y0
  obtain ⟨u2, f2, a2⟩ := fc_at k (show (0, 2, .inr (.inr (.inl 2))) ∈ sw_5.2.1.2.2.1 by simp [sw_5]) rfl hq
  rw [nFd_lo (by decide)] at f2
  have y2 := aRr a2 (show _ = some q2 from rfl)
  subst y2
  have hx : (Int32.ofInt (z0 + 0)).toInt = z0 := by rw [a32 (by omega) (by omega)]; omega
  obtain ⟨xx, ix, jx, mx⟩ := int_at hfs (show nFT 4 4 = some (.inl (0, 40)) from rfl)
  have hs : (fs.set 4 (.int (Int32.ofInt (z0 + 0))))[4]? = some (.int (Int32.ofInt (z0 + 0))) := List.getElem?_set_self (List.getElem?_eq_some_iff.mp ix).1
  have hold := hJ.1 q0 4 4 fs t0 (.inl rfl) hq
  obtain ⟨mq, mk, mn, mf, mi, m1, m2, m3, m4⟩ := k.2.2.2.1 _ (show (1, .inr (.inl (1, 0)), .inr (.inl (2, 0))) ∈ sw_5.2.1.2.2.2.1 by simp [sw_5])
  cases (show some q1 = some mq from m1)
  have m5 := Value.int.inj (aRs m3 (show _ = some z1 from rfl))
  have m6 := Value.int.inj (aRs m4 (show _ = some z2 from rfl))
  subst m5
  have mv : (gA h fs 0 (z1 + 0).toNat).toInt = z2 := by
    rw [gA_at f0 m2]
    have e : (Int32.ofInt (z1 + 0)).toNatClampNeg = (z1 + 0).toNat := by
      show (Int32.ofInt (z1 + 0)).toInt.toNat = _
      rw [a32 (by omega) (by omega)]
    rw [← e, m6, a32 (by omega) (by omega)]
    omega
  obtain ⟨nq, nk, nn, nf, ni, n1, n2, n3, n4⟩ := k.2.2.2.1 _ (show (2, .inr (.inl (1, 0)), .inr (.inl (3, 0))) ∈ sw_5.2.1.2.2.2.1 by simp [sw_5])
  cases (show some q2 = some nq from n1)
  have n5 := Value.int.inj (aRs n3 (show _ = some z1 from rfl))
  have n6 := Value.int.inj (aRs n4 (show _ = some z3 from rfl))
  subst n5
  have nv : (gA h fs 2 (z1 + 0).toNat).toInt = z3 := by
    rw [gA_at f2 n2]
    have e : (Int32.ofInt (z1 + 0)).toNatClampNeg = (z1 + 0).toNat := by
      show (Int32.ofInt (z1 + 0)).toInt.toNat = _
      rw [a32 (by omega) (by omega)]
    rw [← e, n6, a32 (by omega) (by omega)]
    omega
  have hnew : nGh 1000 h 4 (fs.set 4 (.int (Int32.ofInt (z0 + 0)))) = 1 := by
    rw [nGh4, gA_set (by decide), gA_set (by decide), gI_at hs, hx]
    refine gAll_one.mpr (fun i hi => ?_)
    rw [nGh4, gI_at f4, a32 (by omega) (by omega)] at hold
    by_cases e : i < (z1 + 0).toNat
    · exact gAll_one.mp hold i e
    · have e2 : i = (z1 + 0).toNat := by omega
      subst e2
      rw [decide_eq_true_eq]
      omega
  obtain ⟨p1, p2, p3, p4, p5, p6⟩ := put_ok (b := 4) (x := (Int32.ofInt (z0 + 0))) (mf := sw_5.2.2.2.1) hJ hT t0 (show oT 4 = some 4 from rfl) hq hfs (rg := (0, 40)) rfl (by rw [hx]; omega) rfl (by simp [sw_5]) (fun kk h10 hk => by
    simp only [sw_5, List.mem_cons, Prod.mk.injEq, true_and, List.not_mem_nil, or_false, not_or] at hk
    exact hnew.trans (hJ.1 q0 4 4 fs t0 (.inl rfl) hq).symm) (fun hV => by
    exact hnew)
  refine ⟨_, (fun e => nomatch e), fun _ => p1 pc rst ini, p2, p3, p4, _, List.mem_singleton.mpr rfl, _, _, aX.rf, k.1, k.2.1, fun e he => ?_, (fun e he => nomatch he), (fun e he => nomatch he)⟩
  simp only [List.mem_cons, List.not_mem_nil, or_false] at he
  subst he
  · exact ⟨q0, 4, _, _, rfl, p5, (nFd_lo (by decide)).trans p6, ⟨_, rfl, rfl⟩⟩
/-- phrase_len_c -/
theorem sw_6_ok {S : List Nat} : nSv nFT nAT S (nJJ S) sw_6 := by
  intro h nu mu ws vs rst pc ini hJ hT k hw hv
  obtain ⟨z0, zr0, rfl, ze0⟩ := lc (show 3 = nu.length from k.1.1)
  obtain ⟨z1, zr1, rfl, ze1⟩ := lc (ze0)
  obtain ⟨z2, zr2, rfl, ze2⟩ := lc (ze1)
  cases l0 ze2
  obtain ⟨q0, qr0, rfl, qe0⟩ := lc (show 2 = mu.length from k.2.1.1)
  obtain ⟨q1, qr1, rfl, qe1⟩ := lc (qe0)
  cases l0 qe1
  have b0 : 1 ≤ z0 ∧ z0 ≤ 40 := k.1.2 0 z0 _ rfl rfl
  have b1 : 0 ≤ z1 ∧ z1 ≤ 39 := k.1.2 1 z1 _ rfl rfl
  have b2 : 0 ≤ z2 ∧ z2 ≤ 5 := k.1.2 2 z2 _ rfl rfl
  have t0 : S[q0]? = some 4 := k.2.1.2 0 q0 _ rfl rfl
  have t1 : S[q1]? = some 32 := k.2.1.2 1 q1 _ rfl rfl
  have d0 := (k.2.2.2.2 _ (show .inl ([(1, 0), ((-1), 1)], (-1)) ∈ sw_6.2.1.2.2.2.2 by simp [sw_6])).2
  simp only [lS, List.map_cons, List.map_nil, List.sum_cons, List.sum_nil, List.getD_cons_zero, List.getD_cons_succ] at d0
  have d1 := (k.2.2.2.2 _ (show .inl ([((-1), 0), (1, 1)], 1) ∈ sw_6.2.1.2.2.2.2 by simp [sw_6])).2
  simp only [lS, List.map_cons, List.map_nil, List.sum_cons, List.sum_nil, List.getD_cons_zero, List.getD_cons_succ] at d1
  obtain ⟨v0, vl0, rfl, vh0, hv0⟩ := hv.cons
  have vx0 := aRs vh0 (show _ = some z0 from rfl)
  subst vx0
  obtain ⟨v1, vl1, rfl, vh1, hv1⟩ := hv0.cons
  have vx1 := aRr vh1 (show _ = some q0 from rfl)
  subst vx1
  have vnil : vl1 = [] := by cases vl1 with
    | nil => rfl
    | cons a b => exact hv1.elim
  subst vnil
  obtain ⟨fs, hq, hfs⟩ := hT.obj t0 (show oT 4 = some 4 from rfl)
  obtain ⟨u4, f4, a4⟩ := fc_at k (show (0, 4, .inr (.inl (1, 0))) ∈ sw_6.2.1.2.2.1 by simp [sw_6]) rfl hq
  rw [nFd_lo (by decide)] at f4
  have y4 := aRs a4 (show _ = some z1 from rfl)
  subst y4
  obtain ⟨u2, f2, a2⟩ := fc_at k (show (0, 2, .inr (.inr (.inl 1))) ∈ sw_6.2.1.2.2.1 by simp [sw_6]) rfl hq
  rw [nFd_lo (by decide)] at f2
  have y2 := aRr a2 (show _ = some q1 from rfl)
  subst y2
  have hx : (Int32.ofInt (z0 + 0)).toInt = z0 := by rw [a32 (by omega) (by omega)]; omega
  obtain ⟨xx, ix, jx, mx⟩ := int_at hfs (show nFT 4 4 = some (.inl (0, 40)) from rfl)
  have hs : (fs.set 4 (.int (Int32.ofInt (z0 + 0))))[4]? = some (.int (Int32.ofInt (z0 + 0))) := List.getElem?_set_self (List.getElem?_eq_some_iff.mp ix).1
  have hold := hJ.1 q0 4 4 fs t0 (.inl rfl) hq
  obtain ⟨mq, mk, mn, mf, mi, m1, m2, m3, m4⟩ := k.2.2.2.1 _ (show (1, .inr (.inl (1, 0)), .inr (.inl (2, 0))) ∈ sw_6.2.1.2.2.2.1 by simp [sw_6])
  cases (show some q1 = some mq from m1)
  have m5 := Value.int.inj (aRs m3 (show _ = some z1 from rfl))
  have m6 := Value.int.inj (aRs m4 (show _ = some z2 from rfl))
  subst m5
  have mv : (gA h fs 2 (z1 + 0).toNat).toInt = z2 := by
    rw [gA_at f2 m2]
    have e : (Int32.ofInt (z1 + 0)).toNatClampNeg = (z1 + 0).toNat := by
      show (Int32.ofInt (z1 + 0)).toInt.toNat = _
      rw [a32 (by omega) (by omega)]
    rw [← e, m6, a32 (by omega) (by omega)]
    omega
  have hnew : nGh 1000 h 4 (fs.set 4 (.int (Int32.ofInt (z0 + 0)))) = 1 := by
    rw [nGh4, gA_set (by decide), gA_set (by decide), gI_at hs, hx]
    refine gAll_one.mpr (fun i hi => ?_)
    rw [nGh4, gI_at f4, a32 (by omega) (by omega)] at hold
    by_cases e : i < (z1 + 0).toNat
    · exact gAll_one.mp hold i e
    · have e2 : i = (z1 + 0).toNat := by omega
      subst e2
      rw [decide_eq_true_eq]
      omega
  obtain ⟨p1, p2, p3, p4, p5, p6⟩ := put_ok (b := 4) (x := (Int32.ofInt (z0 + 0))) (mf := sw_6.2.2.2.1) hJ hT t0 (show oT 4 = some 4 from rfl) hq hfs (rg := (0, 40)) rfl (by rw [hx]; omega) rfl (by simp [sw_6]) (fun kk h10 hk => by
    simp only [sw_6, List.mem_cons, Prod.mk.injEq, true_and, List.not_mem_nil, or_false, not_or] at hk
    exact hnew.trans (hJ.1 q0 4 4 fs t0 (.inl rfl) hq).symm) (fun hV => by
    exact hnew)
  refine ⟨_, (fun e => nomatch e), fun _ => p1 pc rst ini, p2, p3, p4, _, List.mem_singleton.mpr rfl, _, _, aX.rf, k.1, k.2.1, fun e he => ?_, (fun e he => nomatch he), (fun e he => nomatch he)⟩
  simp only [List.mem_cons, List.not_mem_nil, or_false] at he
  subst he
  · exact ⟨q0, 4, _, _, rfl, p5, (nFd_lo (by decide)).trans p6, ⟨_, rfl, rfl⟩⟩
/-- script_clear -/
theorem sw_7_ok {S : List Nat} : nSv nFT nAT S (nJJ S) sw_7 := by
  intro h nu mu ws vs rst pc ini hJ hT k hw hv
  cases l0 (show 0 = nu.length from k.1.1)
  obtain ⟨q0, qr0, rfl, qe0⟩ := lc (show 1 = mu.length from k.2.1.1)
  cases l0 qe0
  have t0 : S[q0]? = some 6 := k.2.1.2 0 q0 _ rfl rfl
  obtain ⟨v0, vl0, rfl, vh0, hv0⟩ := hv.cons
  have vx0 : v0 = .int (Int32.ofInt 0) := vh0
  subst vx0
  obtain ⟨v1, vl1, rfl, vh1, hv1⟩ := hv0.cons
  have vx1 := aRr vh1 (show _ = some q0 from rfl)
  subst vx1
  have vnil : vl1 = [] := by cases vl1 with
    | nil => rfl
    | cons a b => exact hv1.elim
  subst vnil
  obtain ⟨fs, hq, hfs⟩ := hT.obj t0 (show oT 6 = some 6 from rfl)
  have hx : (Int32.ofInt 0).toInt = 0 := by decide
  obtain ⟨xx, ix, jx, mx⟩ := int_at hfs (show nFT 6 3 = some (.inl (0, 40)) from rfl)
  have hs : (fs.set 3 (.int (Int32.ofInt 0)))[3]? = some (.int (Int32.ofInt 0)) := List.getElem?_set_self (List.getElem?_eq_some_iff.mp ix).1
  have hold := hJ.1 q0 6 6 fs t0 (.inr rfl) hq
  have hnew : nGh 1000 h 6 (fs.set 3 (.int (Int32.ofInt 0))) = 1 := by
    rw [nGh6, gA_set (by decide), gA_set (by decide), gA_set (by decide), gI_at hs, hx]
    refine gAll_one.mpr (fun i hi => ?_)
    exact absurd hi (by simp)
  obtain ⟨p1, p2, p3, p4, p5, p6⟩ := put_ok (b := 3) (x := (Int32.ofInt 0)) (mf := sw_7.2.2.2.1) hJ hT t0 (show oT 6 = some 6 from rfl) hq hfs (rg := (0, 40)) rfl (by rw [hx]; omega) rfl (by simp [sw_7]) (fun kk h10 hk => by
    simp only [sw_7, List.mem_cons, Prod.mk.injEq, true_and, List.not_mem_nil, or_false, not_or] at hk
    exact hnew.trans hold.symm) (fun hV => by
    exact hnew)
  refine ⟨_, (fun e => nomatch e), fun _ => p1 pc rst ini, p2, p3, p4, _, List.mem_singleton.mpr rfl, _, _, aX.rf, k.1, k.2.1, fun e he => ?_, (fun e he => nomatch he), (fun e he => nomatch he)⟩
  simp only [List.mem_cons, List.not_mem_nil, or_false] at he
  subst he
  · exact ⟨q0, 6, _, _, rfl, p5, (nFd_lo (by decide)).trans p6, rfl⟩
/-- script_does -/
theorem sw_11_ok {S : List Nat} : nSv nFT nAT S (nJJ S) sw_11 := by
  intro h nu mu ws vs rst pc ini hJ hT k hw hv
  obtain ⟨z0, zr0, rfl, ze0⟩ := lc (show 5 = nu.length from k.1.1)
  obtain ⟨z1, zr1, rfl, ze1⟩ := lc (ze0)
  obtain ⟨z2, zr2, rfl, ze2⟩ := lc (ze1)
  obtain ⟨z3, zr3, rfl, ze3⟩ := lc (ze2)
  obtain ⟨z4, zr4, rfl, ze4⟩ := lc (ze3)
  cases l0 ze4
  obtain ⟨q0, qr0, rfl, qe0⟩ := lc (show 4 = mu.length from k.2.1.1)
  obtain ⟨q1, qr1, rfl, qe1⟩ := lc (qe0)
  obtain ⟨q2, qr2, rfl, qe2⟩ := lc (qe1)
  obtain ⟨q3, qr3, rfl, qe3⟩ := lc (qe2)
  cases l0 qe3
  have b0 : 1 ≤ z0 ∧ z0 ≤ 40 := k.1.2 0 z0 _ rfl rfl
  have b1 : 0 ≤ z1 ∧ z1 ≤ 39 := k.1.2 1 z1 _ rfl rfl
  have b2 : 107 ≤ z2 ∧ z2 ≤ 107 := k.1.2 2 z2 _ rfl rfl
  have b3 : 0 ≤ z3 ∧ z3 ≤ 9 := k.1.2 3 z3 _ rfl rfl
  have b4 : 0 ≤ z4 ∧ z4 ≤ 3 := k.1.2 4 z4 _ rfl rfl
  have t0 : S[q0]? = some 6 := k.2.1.2 0 q0 _ rfl rfl
  have t1 : S[q1]? = some 38 := k.2.1.2 1 q1 _ rfl rfl
  have t2 : S[q2]? = some 39 := k.2.1.2 2 q2 _ rfl rfl
  have t3 : S[q3]? = some 40 := k.2.1.2 3 q3 _ rfl rfl
  have d0 := (k.2.2.2.2 _ (show .inl ([(1, 0), ((-1), 1)], (-1)) ∈ sw_11.2.1.2.2.2.2 by simp [sw_11])).2
  simp only [lS, List.map_cons, List.map_nil, List.sum_cons, List.sum_nil, List.getD_cons_zero, List.getD_cons_succ] at d0
  have d1 := (k.2.2.2.2 _ (show .inl ([((-1), 0), (1, 1)], 1) ∈ sw_11.2.1.2.2.2.2 by simp [sw_11])).2
  simp only [lS, List.map_cons, List.map_nil, List.sum_cons, List.sum_nil, List.getD_cons_zero, List.getD_cons_succ] at d1
  obtain ⟨v0, vl0, rfl, vh0, hv0⟩ := hv.cons
  have vx0 := aRs vh0 (show _ = some z0 from rfl)
  subst vx0
  obtain ⟨v1, vl1, rfl, vh1, hv1⟩ := hv0.cons
  have vx1 := aRr vh1 (show _ = some q0 from rfl)
  subst vx1
  have vnil : vl1 = [] := by cases vl1 with
    | nil => rfl
    | cons a b => exact hv1.elim
  subst vnil
  obtain ⟨fs, hq, hfs⟩ := hT.obj t0 (show oT 6 = some 6 from rfl)
  obtain ⟨u3, f3, a3⟩ := fc_at k (show (0, 3, .inr (.inl (1, 0))) ∈ sw_11.2.1.2.2.1 by simp [sw_11]) rfl hq
  rw [nFd_lo (by decide)] at f3
  have y3 := aRs a3 (show _ = some z1 from rfl)
  subst y3
  obtain ⟨u0, f0, a0⟩ := fc_at k (show (0, 0, .inr (.inr (.inl 1))) ∈ sw_11.2.1.2.2.1 by simp [sw_11]) rfl hq
  rw [nFd_lo (by decide)] at f0
  have y0 := aRr a0 (show _ = some q1 from rfl)
  subst y0
  obtain ⟨u1, f1, a1⟩ := fc_at k (show (0, 1, .inr (.inr (.inl 2))) ∈ sw_11.2.1.2.2.1 by simp [sw_11]) rfl hq
  rw [nFd_lo (by decide)] at f1
  have y1 := aRr a1 (show _ = some q2 from rfl)
  subst y1
  obtain ⟨u2, f2, a2⟩ := fc_at k (show (0, 2, .inr (.inr (.inl 3))) ∈ sw_11.2.1.2.2.1 by simp [sw_11]) rfl hq
  rw [nFd_lo (by decide)] at f2
  have y2 := aRr a2 (show _ = some q3 from rfl)
  subst y2
  have hx : (Int32.ofInt (z0 + 0)).toInt = z0 := by rw [a32 (by omega) (by omega)]; omega
  obtain ⟨xx, ix, jx, mx⟩ := int_at hfs (show nFT 6 3 = some (.inl (0, 40)) from rfl)
  have hs : (fs.set 3 (.int (Int32.ofInt (z0 + 0))))[3]? = some (.int (Int32.ofInt (z0 + 0))) := List.getElem?_set_self (List.getElem?_eq_some_iff.mp ix).1
  have hold := hJ.1 q0 6 6 fs t0 (.inr rfl) hq
  obtain ⟨mq, mk, mn, mf, mi, m1, m2, m3, m4⟩ := k.2.2.2.1 _ (show (1, .inr (.inl (1, 0)), .inr (.inl (2, 0))) ∈ sw_11.2.1.2.2.2.1 by simp [sw_11])
  cases (show some q1 = some mq from m1)
  have m5 := Value.int.inj (aRs m3 (show _ = some z1 from rfl))
  have m6 := Value.int.inj (aRs m4 (show _ = some z2 from rfl))
  subst m5
  have mv : (gA h fs 0 (z1 + 0).toNat).toInt = z2 := by
    rw [gA_at f0 m2]
    have e : (Int32.ofInt (z1 + 0)).toNatClampNeg = (z1 + 0).toNat := by
      show (Int32.ofInt (z1 + 0)).toInt.toNat = _
      rw [a32 (by omega) (by omega)]
    rw [← e, m6, a32 (by omega) (by omega)]
    omega
  obtain ⟨nq, nk, nn, nf, ni, n1, n2, n3, n4⟩ := k.2.2.2.1 _ (show (2, .inr (.inl (1, 0)), .inr (.inl (3, 0))) ∈ sw_11.2.1.2.2.2.1 by simp [sw_11])
  cases (show some q2 = some nq from n1)
  have n5 := Value.int.inj (aRs n3 (show _ = some z1 from rfl))
  have n6 := Value.int.inj (aRs n4 (show _ = some z3 from rfl))
  subst n5
  have nv : (gA h fs 1 (z1 + 0).toNat).toInt = z3 := by
    rw [gA_at f1 n2]
    have e : (Int32.ofInt (z1 + 0)).toNatClampNeg = (z1 + 0).toNat := by
      show (Int32.ofInt (z1 + 0)).toInt.toNat = _
      rw [a32 (by omega) (by omega)]
    rw [← e, n6, a32 (by omega) (by omega)]
    omega
  obtain ⟨pq, pk, pn, pf, pi, p1, p2, p3, p4⟩ := k.2.2.2.1 _ (show (3, .inr (.inl (1, 0)), .inr (.inl (4, 0))) ∈ sw_11.2.1.2.2.2.1 by simp [sw_11])
  cases (show some q3 = some pq from p1)
  have p5 := Value.int.inj (aRs p3 (show _ = some z1 from rfl))
  have p6 := Value.int.inj (aRs p4 (show _ = some z4 from rfl))
  subst p5
  have pv : (gA h fs 2 (z1 + 0).toNat).toInt = z4 := by
    rw [gA_at f2 p2]
    have e : (Int32.ofInt (z1 + 0)).toNatClampNeg = (z1 + 0).toNat := by
      show (Int32.ofInt (z1 + 0)).toInt.toNat = _
      rw [a32 (by omega) (by omega)]
    rw [← e, p6, a32 (by omega) (by omega)]
    omega
  have hnew : nGh 1000 h 6 (fs.set 3 (.int (Int32.ofInt (z0 + 0)))) = 1 := by
    rw [nGh6, gA_set (by decide), gA_set (by decide), gA_set (by decide), gI_at hs, hx]
    refine gAll_one.mpr (fun i hi => ?_)
    rw [nGh6, gI_at f3, a32 (by omega) (by omega)] at hold
    by_cases e : i < (z1 + 0).toNat
    · exact gAll_one.mp hold i e
    · have e2 : i = (z1 + 0).toNat := by omega
      subst e2
      rw [decide_eq_true_eq]
      omega
  obtain ⟨p1, p2, p3, p4, p5, p6⟩ := put_ok (b := 3) (x := (Int32.ofInt (z0 + 0))) (mf := sw_11.2.2.2.1) hJ hT t0 (show oT 6 = some 6 from rfl) hq hfs (rg := (0, 40)) rfl (by rw [hx]; omega) rfl (by simp [sw_11]) (fun kk h10 hk => by
    simp only [sw_11, List.mem_cons, Prod.mk.injEq, true_and, List.not_mem_nil, or_false, not_or] at hk
    exact hnew.trans (hJ.1 q0 6 6 fs t0 (.inr rfl) hq).symm) (fun hV => by
    exact hnew)
  refine ⟨_, (fun e => nomatch e), fun _ => p1 pc rst ini, p2, p3, p4, _, List.mem_singleton.mpr rfl, _, _, aX.rf, k.1, k.2.1, fun e he => ?_, (fun e he => nomatch he), (fun e he => nomatch he)⟩
  simp only [List.mem_cons, List.not_mem_nil, or_false] at he
  subst he
  · exact ⟨q0, 6, _, _, rfl, p5, (nFd_lo (by decide)).trans p6, ⟨_, rfl, rfl⟩⟩
/-- script_dies -/
theorem sw_12_ok {S : List Nat} : nSv nFT nAT S (nJJ S) sw_12 := by
  intro h nu mu ws vs rst pc ini hJ hT k hw hv
  obtain ⟨z0, zr0, rfl, ze0⟩ := lc (show 5 = nu.length from k.1.1)
  obtain ⟨z1, zr1, rfl, ze1⟩ := lc (ze0)
  obtain ⟨z2, zr2, rfl, ze2⟩ := lc (ze1)
  obtain ⟨z3, zr3, rfl, ze3⟩ := lc (ze2)
  obtain ⟨z4, zr4, rfl, ze4⟩ := lc (ze3)
  cases l0 ze4
  obtain ⟨q0, qr0, rfl, qe0⟩ := lc (show 4 = mu.length from k.2.1.1)
  obtain ⟨q1, qr1, rfl, qe1⟩ := lc (qe0)
  obtain ⟨q2, qr2, rfl, qe2⟩ := lc (qe1)
  obtain ⟨q3, qr3, rfl, qe3⟩ := lc (qe2)
  cases l0 qe3
  have b0 : 1 ≤ z0 ∧ z0 ≤ 40 := k.1.2 0 z0 _ rfl rfl
  have b1 : 0 ≤ z1 ∧ z1 ≤ 39 := k.1.2 1 z1 _ rfl rfl
  have b2 : 108 ≤ z2 ∧ z2 ≤ 108 := k.1.2 2 z2 _ rfl rfl
  have b3 : 0 ≤ z3 ∧ z3 ≤ 9 := k.1.2 3 z3 _ rfl rfl
  have b4 : (-2147483648) ≤ z4 ∧ z4 ≤ 2147483647 := k.1.2 4 z4 _ rfl rfl
  have t0 : S[q0]? = some 6 := k.2.1.2 0 q0 _ rfl rfl
  have t1 : S[q1]? = some 38 := k.2.1.2 1 q1 _ rfl rfl
  have t2 : S[q2]? = some 39 := k.2.1.2 2 q2 _ rfl rfl
  have t3 : S[q3]? = some 40 := k.2.1.2 3 q3 _ rfl rfl
  have d0 := (k.2.2.2.2 _ (show .inl ([(1, 0), ((-1), 1)], (-1)) ∈ sw_12.2.1.2.2.2.2 by simp [sw_12])).2
  simp only [lS, List.map_cons, List.map_nil, List.sum_cons, List.sum_nil, List.getD_cons_zero, List.getD_cons_succ] at d0
  have d1 := (k.2.2.2.2 _ (show .inl ([((-1), 0), (1, 1)], 1) ∈ sw_12.2.1.2.2.2.2 by simp [sw_12])).2
  simp only [lS, List.map_cons, List.map_nil, List.sum_cons, List.sum_nil, List.getD_cons_zero, List.getD_cons_succ] at d1
  obtain ⟨v0, vl0, rfl, vh0, hv0⟩ := hv.cons
  have vx0 := aRs vh0 (show _ = some z0 from rfl)
  subst vx0
  obtain ⟨v1, vl1, rfl, vh1, hv1⟩ := hv0.cons
  have vx1 := aRr vh1 (show _ = some q0 from rfl)
  subst vx1
  have vnil : vl1 = [] := by cases vl1 with
    | nil => rfl
    | cons a b => exact hv1.elim
  subst vnil
  obtain ⟨fs, hq, hfs⟩ := hT.obj t0 (show oT 6 = some 6 from rfl)
  obtain ⟨u3, f3, a3⟩ := fc_at k (show (0, 3, .inr (.inl (1, 0))) ∈ sw_12.2.1.2.2.1 by simp [sw_12]) rfl hq
  rw [nFd_lo (by decide)] at f3
  have y3 := aRs a3 (show _ = some z1 from rfl)
  subst y3
  obtain ⟨u0, f0, a0⟩ := fc_at k (show (0, 0, .inr (.inr (.inl 1))) ∈ sw_12.2.1.2.2.1 by simp [sw_12]) rfl hq
  rw [nFd_lo (by decide)] at f0
  have y0 := aRr a0 (show _ = some q1 from rfl)
  subst y0
  obtain ⟨u1, f1, a1⟩ := fc_at k (show (0, 1, .inr (.inr (.inl 2))) ∈ sw_12.2.1.2.2.1 by simp [sw_12]) rfl hq
  rw [nFd_lo (by decide)] at f1
  have y1 := aRr a1 (show _ = some q2 from rfl)
  subst y1
  obtain ⟨u2, f2, a2⟩ := fc_at k (show (0, 2, .inr (.inr (.inl 3))) ∈ sw_12.2.1.2.2.1 by simp [sw_12]) rfl hq
  rw [nFd_lo (by decide)] at f2
  have y2 := aRr a2 (show _ = some q3 from rfl)
  subst y2
  have hx : (Int32.ofInt (z0 + 0)).toInt = z0 := by rw [a32 (by omega) (by omega)]; omega
  obtain ⟨xx, ix, jx, mx⟩ := int_at hfs (show nFT 6 3 = some (.inl (0, 40)) from rfl)
  have hs : (fs.set 3 (.int (Int32.ofInt (z0 + 0))))[3]? = some (.int (Int32.ofInt (z0 + 0))) := List.getElem?_set_self (List.getElem?_eq_some_iff.mp ix).1
  have hold := hJ.1 q0 6 6 fs t0 (.inr rfl) hq
  obtain ⟨mq, mk, mn, mf, mi, m1, m2, m3, m4⟩ := k.2.2.2.1 _ (show (1, .inr (.inl (1, 0)), .inr (.inl (2, 0))) ∈ sw_12.2.1.2.2.2.1 by simp [sw_12])
  cases (show some q1 = some mq from m1)
  have m5 := Value.int.inj (aRs m3 (show _ = some z1 from rfl))
  have m6 := Value.int.inj (aRs m4 (show _ = some z2 from rfl))
  subst m5
  have mv : (gA h fs 0 (z1 + 0).toNat).toInt = z2 := by
    rw [gA_at f0 m2]
    have e : (Int32.ofInt (z1 + 0)).toNatClampNeg = (z1 + 0).toNat := by
      show (Int32.ofInt (z1 + 0)).toInt.toNat = _
      rw [a32 (by omega) (by omega)]
    rw [← e, m6, a32 (by omega) (by omega)]
    omega
  obtain ⟨nq, nk, nn, nf, ni, n1, n2, n3, n4⟩ := k.2.2.2.1 _ (show (2, .inr (.inl (1, 0)), .inr (.inl (3, 0))) ∈ sw_12.2.1.2.2.2.1 by simp [sw_12])
  cases (show some q2 = some nq from n1)
  have n5 := Value.int.inj (aRs n3 (show _ = some z1 from rfl))
  have n6 := Value.int.inj (aRs n4 (show _ = some z3 from rfl))
  subst n5
  have nv : (gA h fs 1 (z1 + 0).toNat).toInt = z3 := by
    rw [gA_at f1 n2]
    have e : (Int32.ofInt (z1 + 0)).toNatClampNeg = (z1 + 0).toNat := by
      show (Int32.ofInt (z1 + 0)).toInt.toNat = _
      rw [a32 (by omega) (by omega)]
    rw [← e, n6, a32 (by omega) (by omega)]
    omega
  obtain ⟨pq, pk, pn, pf, pi, p1, p2, p3, p4⟩ := k.2.2.2.1 _ (show (3, .inr (.inl (1, 0)), .inr (.inl (4, 0))) ∈ sw_12.2.1.2.2.2.1 by simp [sw_12])
  cases (show some q3 = some pq from p1)
  have p5 := Value.int.inj (aRs p3 (show _ = some z1 from rfl))
  have p6 := Value.int.inj (aRs p4 (show _ = some z4 from rfl))
  subst p5
  have pv : (gA h fs 2 (z1 + 0).toNat).toInt = z4 := by
    rw [gA_at f2 p2]
    have e : (Int32.ofInt (z1 + 0)).toNatClampNeg = (z1 + 0).toNat := by
      show (Int32.ofInt (z1 + 0)).toInt.toNat = _
      rw [a32 (by omega) (by omega)]
    rw [← e, p6, a32 (by omega) (by omega)]
    omega
  have hnew : nGh 1000 h 6 (fs.set 3 (.int (Int32.ofInt (z0 + 0)))) = 1 := by
    rw [nGh6, gA_set (by decide), gA_set (by decide), gA_set (by decide), gI_at hs, hx]
    refine gAll_one.mpr (fun i hi => ?_)
    rw [nGh6, gI_at f3, a32 (by omega) (by omega)] at hold
    by_cases e : i < (z1 + 0).toNat
    · exact gAll_one.mp hold i e
    · have e2 : i = (z1 + 0).toNat := by omega
      subst e2
      rw [decide_eq_true_eq]
      omega
  obtain ⟨p1, p2, p3, p4, p5, p6⟩ := put_ok (b := 3) (x := (Int32.ofInt (z0 + 0))) (mf := sw_12.2.2.2.1) hJ hT t0 (show oT 6 = some 6 from rfl) hq hfs (rg := (0, 40)) rfl (by rw [hx]; omega) rfl (by simp [sw_12]) (fun kk h10 hk => by
    simp only [sw_12, List.mem_cons, Prod.mk.injEq, true_and, List.not_mem_nil, or_false, not_or] at hk
    exact hnew.trans (hJ.1 q0 6 6 fs t0 (.inr rfl) hq).symm) (fun hV => by
    exact hnew)
  refine ⟨_, (fun e => nomatch e), fun _ => p1 pc rst ini, p2, p3, p4, _, List.mem_singleton.mpr rfl, _, _, aX.rf, k.1, k.2.1, fun e he => ?_, (fun e he => nomatch he), (fun e he => nomatch he)⟩
  simp only [List.mem_cons, List.not_mem_nil, or_false] at he
  subst he
  · exact ⟨q0, 6, _, _, rfl, p5, (nFd_lo (by decide)).trans p6, ⟨_, rfl, rfl⟩⟩
/-- script_gives -/
theorem sw_13_ok {S : List Nat} : nSv nFT nAT S (nJJ S) sw_13 := by
  intro h nu mu ws vs rst pc ini hJ hT k hw hv
  obtain ⟨z0, zr0, rfl, ze0⟩ := lc (show 5 = nu.length from k.1.1)
  obtain ⟨z1, zr1, rfl, ze1⟩ := lc (ze0)
  obtain ⟨z2, zr2, rfl, ze2⟩ := lc (ze1)
  obtain ⟨z3, zr3, rfl, ze3⟩ := lc (ze2)
  obtain ⟨z4, zr4, rfl, ze4⟩ := lc (ze3)
  cases l0 ze4
  obtain ⟨q0, qr0, rfl, qe0⟩ := lc (show 4 = mu.length from k.2.1.1)
  obtain ⟨q1, qr1, rfl, qe1⟩ := lc (qe0)
  obtain ⟨q2, qr2, rfl, qe2⟩ := lc (qe1)
  obtain ⟨q3, qr3, rfl, qe3⟩ := lc (qe2)
  cases l0 qe3
  have b0 : 1 ≤ z0 ∧ z0 ≤ 40 := k.1.2 0 z0 _ rfl rfl
  have b1 : 0 ≤ z1 ∧ z1 ≤ 39 := k.1.2 1 z1 _ rfl rfl
  have b2 : 109 ≤ z2 ∧ z2 ≤ 109 := k.1.2 2 z2 _ rfl rfl
  have b3 : 0 ≤ z3 ∧ z3 ≤ 5 := k.1.2 3 z3 _ rfl rfl
  have b4 : 0 ≤ z4 ∧ z4 ≤ 9 := k.1.2 4 z4 _ rfl rfl
  have t0 : S[q0]? = some 6 := k.2.1.2 0 q0 _ rfl rfl
  have t1 : S[q1]? = some 38 := k.2.1.2 1 q1 _ rfl rfl
  have t2 : S[q2]? = some 39 := k.2.1.2 2 q2 _ rfl rfl
  have t3 : S[q3]? = some 40 := k.2.1.2 3 q3 _ rfl rfl
  have d0 := (k.2.2.2.2 _ (show .inl ([(1, 0), ((-1), 1)], (-1)) ∈ sw_13.2.1.2.2.2.2 by simp [sw_13])).2
  simp only [lS, List.map_cons, List.map_nil, List.sum_cons, List.sum_nil, List.getD_cons_zero, List.getD_cons_succ] at d0
  have d1 := (k.2.2.2.2 _ (show .inl ([((-1), 0), (1, 1)], 1) ∈ sw_13.2.1.2.2.2.2 by simp [sw_13])).2
  simp only [lS, List.map_cons, List.map_nil, List.sum_cons, List.sum_nil, List.getD_cons_zero, List.getD_cons_succ] at d1
  obtain ⟨v0, vl0, rfl, vh0, hv0⟩ := hv.cons
  have vx0 := aRs vh0 (show _ = some z0 from rfl)
  subst vx0
  obtain ⟨v1, vl1, rfl, vh1, hv1⟩ := hv0.cons
  have vx1 := aRr vh1 (show _ = some q0 from rfl)
  subst vx1
  have vnil : vl1 = [] := by cases vl1 with
    | nil => rfl
    | cons a b => exact hv1.elim
  subst vnil
  obtain ⟨fs, hq, hfs⟩ := hT.obj t0 (show oT 6 = some 6 from rfl)
  obtain ⟨u3, f3, a3⟩ := fc_at k (show (0, 3, .inr (.inl (1, 0))) ∈ sw_13.2.1.2.2.1 by simp [sw_13]) rfl hq
  rw [nFd_lo (by decide)] at f3
  have y3 := aRs a3 (show _ = some z1 from rfl)
  subst y3
  obtain ⟨u0, f0, a0⟩ := fc_at k (show (0, 0, .inr (.inr (.inl 1))) ∈ sw_13.2.1.2.2.1 by simp [sw_13]) rfl hq
  rw [nFd_lo (by decide)] at f0
  have y0 := aRr a0 (show _ = some q1 from rfl)
  subst y0
  obtain ⟨u1, f1, a1⟩ := fc_at k (show (0, 1, .inr (.inr (.inl 2))) ∈ sw_13.2.1.2.2.1 by simp [sw_13]) rfl hq
  rw [nFd_lo (by decide)] at f1
  have y1 := aRr a1 (show _ = some q2 from rfl)
  subst y1
  obtain ⟨u2, f2, a2⟩ := fc_at k (show (0, 2, .inr (.inr (.inl 3))) ∈ sw_13.2.1.2.2.1 by simp [sw_13]) rfl hq
  rw [nFd_lo (by decide)] at f2
  have y2 := aRr a2 (show _ = some q3 from rfl)
  subst y2
  have hx : (Int32.ofInt (z0 + 0)).toInt = z0 := by rw [a32 (by omega) (by omega)]; omega
  obtain ⟨xx, ix, jx, mx⟩ := int_at hfs (show nFT 6 3 = some (.inl (0, 40)) from rfl)
  have hs : (fs.set 3 (.int (Int32.ofInt (z0 + 0))))[3]? = some (.int (Int32.ofInt (z0 + 0))) := List.getElem?_set_self (List.getElem?_eq_some_iff.mp ix).1
  have hold := hJ.1 q0 6 6 fs t0 (.inr rfl) hq
  obtain ⟨mq, mk, mn, mf, mi, m1, m2, m3, m4⟩ := k.2.2.2.1 _ (show (1, .inr (.inl (1, 0)), .inr (.inl (2, 0))) ∈ sw_13.2.1.2.2.2.1 by simp [sw_13])
  cases (show some q1 = some mq from m1)
  have m5 := Value.int.inj (aRs m3 (show _ = some z1 from rfl))
  have m6 := Value.int.inj (aRs m4 (show _ = some z2 from rfl))
  subst m5
  have mv : (gA h fs 0 (z1 + 0).toNat).toInt = z2 := by
    rw [gA_at f0 m2]
    have e : (Int32.ofInt (z1 + 0)).toNatClampNeg = (z1 + 0).toNat := by
      show (Int32.ofInt (z1 + 0)).toInt.toNat = _
      rw [a32 (by omega) (by omega)]
    rw [← e, m6, a32 (by omega) (by omega)]
    omega
  obtain ⟨nq, nk, nn, nf, ni, n1, n2, n3, n4⟩ := k.2.2.2.1 _ (show (2, .inr (.inl (1, 0)), .inr (.inl (3, 0))) ∈ sw_13.2.1.2.2.2.1 by simp [sw_13])
  cases (show some q2 = some nq from n1)
  have n5 := Value.int.inj (aRs n3 (show _ = some z1 from rfl))
  have n6 := Value.int.inj (aRs n4 (show _ = some z3 from rfl))
  subst n5
  have nv : (gA h fs 1 (z1 + 0).toNat).toInt = z3 := by
    rw [gA_at f1 n2]
    have e : (Int32.ofInt (z1 + 0)).toNatClampNeg = (z1 + 0).toNat := by
      show (Int32.ofInt (z1 + 0)).toInt.toNat = _
      rw [a32 (by omega) (by omega)]
    rw [← e, n6, a32 (by omega) (by omega)]
    omega
  obtain ⟨pq, pk, pn, pf, pi, p1, p2, p3, p4⟩ := k.2.2.2.1 _ (show (3, .inr (.inl (1, 0)), .inr (.inl (4, 0))) ∈ sw_13.2.1.2.2.2.1 by simp [sw_13])
  cases (show some q3 = some pq from p1)
  have p5 := Value.int.inj (aRs p3 (show _ = some z1 from rfl))
  have p6 := Value.int.inj (aRs p4 (show _ = some z4 from rfl))
  subst p5
  have pv : (gA h fs 2 (z1 + 0).toNat).toInt = z4 := by
    rw [gA_at f2 p2]
    have e : (Int32.ofInt (z1 + 0)).toNatClampNeg = (z1 + 0).toNat := by
      show (Int32.ofInt (z1 + 0)).toInt.toNat = _
      rw [a32 (by omega) (by omega)]
    rw [← e, p6, a32 (by omega) (by omega)]
    omega
  have hnew : nGh 1000 h 6 (fs.set 3 (.int (Int32.ofInt (z0 + 0)))) = 1 := by
    rw [nGh6, gA_set (by decide), gA_set (by decide), gA_set (by decide), gI_at hs, hx]
    refine gAll_one.mpr (fun i hi => ?_)
    rw [nGh6, gI_at f3, a32 (by omega) (by omega)] at hold
    by_cases e : i < (z1 + 0).toNat
    · exact gAll_one.mp hold i e
    · have e2 : i = (z1 + 0).toNat := by omega
      subst e2
      rw [decide_eq_true_eq]
      omega
  obtain ⟨p1, p2, p3, p4, p5, p6⟩ := put_ok (b := 3) (x := (Int32.ofInt (z0 + 0))) (mf := sw_13.2.2.2.1) hJ hT t0 (show oT 6 = some 6 from rfl) hq hfs (rg := (0, 40)) rfl (by rw [hx]; omega) rfl (by simp [sw_13]) (fun kk h10 hk => by
    simp only [sw_13, List.mem_cons, Prod.mk.injEq, true_and, List.not_mem_nil, or_false, not_or] at hk
    exact hnew.trans (hJ.1 q0 6 6 fs t0 (.inr rfl) hq).symm) (fun hV => by
    exact hnew)
  refine ⟨_, (fun e => nomatch e), fun _ => p1 pc rst ini, p2, p3, p4, _, List.mem_singleton.mpr rfl, _, _, aX.rf, k.1, k.2.1, fun e he => ?_, (fun e he => nomatch he), (fun e he => nomatch he)⟩
  simp only [List.mem_cons, List.not_mem_nil, or_false] at he
  subst he
  · exact ⟨q0, 6, _, _, rfl, p5, (nFd_lo (by decide)).trans p6, ⟨_, rfl, rfl⟩⟩
/-- script_year -/
theorem sw_14_ok {S : List Nat} : nSv nFT nAT S (nJJ S) sw_14 := by
  intro h nu mu ws vs rst pc ini hJ hT k hw hv
  obtain ⟨z0, zr0, rfl, ze0⟩ := lc (show 5 = nu.length from k.1.1)
  obtain ⟨z1, zr1, rfl, ze1⟩ := lc (ze0)
  obtain ⟨z2, zr2, rfl, ze2⟩ := lc (ze1)
  obtain ⟨z3, zr3, rfl, ze3⟩ := lc (ze2)
  obtain ⟨z4, zr4, rfl, ze4⟩ := lc (ze3)
  cases l0 ze4
  obtain ⟨q0, qr0, rfl, qe0⟩ := lc (show 4 = mu.length from k.2.1.1)
  obtain ⟨q1, qr1, rfl, qe1⟩ := lc (qe0)
  obtain ⟨q2, qr2, rfl, qe2⟩ := lc (qe1)
  obtain ⟨q3, qr3, rfl, qe3⟩ := lc (qe2)
  cases l0 qe3
  have b0 : 1 ≤ z0 ∧ z0 ≤ 40 := k.1.2 0 z0 _ rfl rfl
  have b1 : 0 ≤ z1 ∧ z1 ≤ 39 := k.1.2 1 z1 _ rfl rfl
  have b2 : 110 ≤ z2 ∧ z2 ≤ 2147483647 := k.1.2 2 z2 _ rfl rfl
  have b3 : (-2147483648) ≤ z3 ∧ z3 ≤ 2147483647 := k.1.2 3 z3 _ rfl rfl
  have b4 : (-2147483648) ≤ z4 ∧ z4 ≤ 2147483647 := k.1.2 4 z4 _ rfl rfl
  have t0 : S[q0]? = some 6 := k.2.1.2 0 q0 _ rfl rfl
  have t1 : S[q1]? = some 38 := k.2.1.2 1 q1 _ rfl rfl
  have t2 : S[q2]? = some 39 := k.2.1.2 2 q2 _ rfl rfl
  have t3 : S[q3]? = some 40 := k.2.1.2 3 q3 _ rfl rfl
  have d0 := (k.2.2.2.2 _ (show .inl ([(1, 0), ((-1), 1)], (-1)) ∈ sw_14.2.1.2.2.2.2 by simp [sw_14])).2
  simp only [lS, List.map_cons, List.map_nil, List.sum_cons, List.sum_nil, List.getD_cons_zero, List.getD_cons_succ] at d0
  have d1 := (k.2.2.2.2 _ (show .inl ([((-1), 0), (1, 1)], 1) ∈ sw_14.2.1.2.2.2.2 by simp [sw_14])).2
  simp only [lS, List.map_cons, List.map_nil, List.sum_cons, List.sum_nil, List.getD_cons_zero, List.getD_cons_succ] at d1
  obtain ⟨v0, vl0, rfl, vh0, hv0⟩ := hv.cons
  have vx0 := aRs vh0 (show _ = some z0 from rfl)
  subst vx0
  obtain ⟨v1, vl1, rfl, vh1, hv1⟩ := hv0.cons
  have vx1 := aRr vh1 (show _ = some q0 from rfl)
  subst vx1
  have vnil : vl1 = [] := by cases vl1 with
    | nil => rfl
    | cons a b => exact hv1.elim
  subst vnil
  obtain ⟨fs, hq, hfs⟩ := hT.obj t0 (show oT 6 = some 6 from rfl)
  obtain ⟨u3, f3, a3⟩ := fc_at k (show (0, 3, .inr (.inl (1, 0))) ∈ sw_14.2.1.2.2.1 by simp [sw_14]) rfl hq
  rw [nFd_lo (by decide)] at f3
  have y3 := aRs a3 (show _ = some z1 from rfl)
  subst y3
  obtain ⟨u0, f0, a0⟩ := fc_at k (show (0, 0, .inr (.inr (.inl 1))) ∈ sw_14.2.1.2.2.1 by simp [sw_14]) rfl hq
  rw [nFd_lo (by decide)] at f0
  have y0 := aRr a0 (show _ = some q1 from rfl)
  subst y0
  obtain ⟨u1, f1, a1⟩ := fc_at k (show (0, 1, .inr (.inr (.inl 2))) ∈ sw_14.2.1.2.2.1 by simp [sw_14]) rfl hq
  rw [nFd_lo (by decide)] at f1
  have y1 := aRr a1 (show _ = some q2 from rfl)
  subst y1
  obtain ⟨u2, f2, a2⟩ := fc_at k (show (0, 2, .inr (.inr (.inl 3))) ∈ sw_14.2.1.2.2.1 by simp [sw_14]) rfl hq
  rw [nFd_lo (by decide)] at f2
  have y2 := aRr a2 (show _ = some q3 from rfl)
  subst y2
  have hx : (Int32.ofInt (z0 + 0)).toInt = z0 := by rw [a32 (by omega) (by omega)]; omega
  obtain ⟨xx, ix, jx, mx⟩ := int_at hfs (show nFT 6 3 = some (.inl (0, 40)) from rfl)
  have hs : (fs.set 3 (.int (Int32.ofInt (z0 + 0))))[3]? = some (.int (Int32.ofInt (z0 + 0))) := List.getElem?_set_self (List.getElem?_eq_some_iff.mp ix).1
  have hold := hJ.1 q0 6 6 fs t0 (.inr rfl) hq
  obtain ⟨mq, mk, mn, mf, mi, m1, m2, m3, m4⟩ := k.2.2.2.1 _ (show (1, .inr (.inl (1, 0)), .inr (.inl (2, 0))) ∈ sw_14.2.1.2.2.2.1 by simp [sw_14])
  cases (show some q1 = some mq from m1)
  have m5 := Value.int.inj (aRs m3 (show _ = some z1 from rfl))
  have m6 := Value.int.inj (aRs m4 (show _ = some z2 from rfl))
  subst m5
  have mv : (gA h fs 0 (z1 + 0).toNat).toInt = z2 := by
    rw [gA_at f0 m2]
    have e : (Int32.ofInt (z1 + 0)).toNatClampNeg = (z1 + 0).toNat := by
      show (Int32.ofInt (z1 + 0)).toInt.toNat = _
      rw [a32 (by omega) (by omega)]
    rw [← e, m6, a32 (by omega) (by omega)]
    omega
  obtain ⟨nq, nk, nn, nf, ni, n1, n2, n3, n4⟩ := k.2.2.2.1 _ (show (2, .inr (.inl (1, 0)), .inr (.inl (3, 0))) ∈ sw_14.2.1.2.2.2.1 by simp [sw_14])
  cases (show some q2 = some nq from n1)
  have n5 := Value.int.inj (aRs n3 (show _ = some z1 from rfl))
  have n6 := Value.int.inj (aRs n4 (show _ = some z3 from rfl))
  subst n5
  have nv : (gA h fs 1 (z1 + 0).toNat).toInt = z3 := by
    rw [gA_at f1 n2]
    have e : (Int32.ofInt (z1 + 0)).toNatClampNeg = (z1 + 0).toNat := by
      show (Int32.ofInt (z1 + 0)).toInt.toNat = _
      rw [a32 (by omega) (by omega)]
    rw [← e, n6, a32 (by omega) (by omega)]
    omega
  obtain ⟨pq, pk, pn, pf, pi, p1, p2, p3, p4⟩ := k.2.2.2.1 _ (show (3, .inr (.inl (1, 0)), .inr (.inl (4, 0))) ∈ sw_14.2.1.2.2.2.1 by simp [sw_14])
  cases (show some q3 = some pq from p1)
  have p5 := Value.int.inj (aRs p3 (show _ = some z1 from rfl))
  have p6 := Value.int.inj (aRs p4 (show _ = some z4 from rfl))
  subst p5
  have pv : (gA h fs 2 (z1 + 0).toNat).toInt = z4 := by
    rw [gA_at f2 p2]
    have e : (Int32.ofInt (z1 + 0)).toNatClampNeg = (z1 + 0).toNat := by
      show (Int32.ofInt (z1 + 0)).toInt.toNat = _
      rw [a32 (by omega) (by omega)]
    rw [← e, p6, a32 (by omega) (by omega)]
    omega
  have hnew : nGh 1000 h 6 (fs.set 3 (.int (Int32.ofInt (z0 + 0)))) = 1 := by
    rw [nGh6, gA_set (by decide), gA_set (by decide), gA_set (by decide), gI_at hs, hx]
    refine gAll_one.mpr (fun i hi => ?_)
    rw [nGh6, gI_at f3, a32 (by omega) (by omega)] at hold
    by_cases e : i < (z1 + 0).toNat
    · exact gAll_one.mp hold i e
    · have e2 : i = (z1 + 0).toNat := by omega
      subst e2
      rw [decide_eq_true_eq]
      omega
  obtain ⟨p1, p2, p3, p4, p5, p6⟩ := put_ok (b := 3) (x := (Int32.ofInt (z0 + 0))) (mf := sw_14.2.2.2.1) hJ hT t0 (show oT 6 = some 6 from rfl) hq hfs (rg := (0, 40)) rfl (by rw [hx]; omega) rfl (by simp [sw_14]) (fun kk h10 hk => by
    simp only [sw_14, List.mem_cons, Prod.mk.injEq, true_and, List.not_mem_nil, or_false, not_or] at hk
    exact hnew.trans (hJ.1 q0 6 6 fs t0 (.inr rfl) hq).symm) (fun hV => by
    exact hnew)
  refine ⟨_, (fun e => nomatch e), fun _ => p1 pc rst ini, p2, p3, p4, _, List.mem_singleton.mpr rfl, _, _, aX.rf, k.1, k.2.1, fun e he => ?_, (fun e he => nomatch he), (fun e he => nomatch he)⟩
  simp only [List.mem_cons, List.not_mem_nil, or_false] at he
  subst he
  · exact ⟨q0, 6, _, _, rfl, p5, (nFd_lo (by decide)).trans p6, ⟨_, rfl, rfl⟩⟩
