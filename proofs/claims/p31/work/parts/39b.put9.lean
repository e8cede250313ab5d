/-- told_zero -/
theorem sw_18_ok {S : List Nat} : nSv nFT nAT S (nJJ S) sw_18 := by
  intro h nu mu ws vs rst pc ini hJ hT k hw hv
  cases l0 (show 0 = nu.length from k.1.1)
  obtain ⟨q0, qr0, rfl, qe0⟩ := lc (show 1 = mu.length from k.2.1.1)
  cases l0 qe0
  have t0 : S[q0]? = some 9 := k.2.1.2 0 q0 _ rfl rfl
  obtain ⟨v0, vl0, rfl, vh0, hv0⟩ := hv.cons
  have vx0 : v0 = .int (Int32.ofInt 0) := vh0
  subst vx0
  obtain ⟨v1, vl1, rfl, vh1, hv1⟩ := hv0.cons
  have vx1 := aRr vh1 (show _ = some q0 from rfl)
  subst vx1
  have vnil : vl1 = [] := by cases vl1 with
    | nil => rfl
    | cons a b => exact hv1.elim
  subst vnil
  obtain ⟨fs, hq, hfs⟩ := hT.obj t0 (show oT 9 = some 9 from rfl)
  have hx : (Int32.ofInt 0).toInt = 0 := by decide
  obtain ⟨p1, p2, p3, p4, p5, p6⟩ := put_ok (b := 35) (x := (Int32.ofInt 0)) (mf := sw_18.2.2.2.1) hJ hT t0 (show oT 9 = some 9 from rfl) hq hfs (rg := (0, 40)) rfl (by rw [hx]; omega) rfl (by simp [sw_18]) (fun kk h10 hk => by
    simp only [sw_18, List.mem_cons, Prod.mk.injEq, true_and, List.not_mem_nil, or_false, not_or] at hk
    rw [nGh9, nGh9, gA_set (by decide), gA_set (by decide), gA_set (by decide), gA_set (by decide), gI_set (k := 39) (by decide), gI_set (k := 41) (by decide)]
    exact nG9_told (by omega) (by omega) (by omega) (by omega)) (fun hV => by
    rcases hV with hV | hV <;> cases hV)
  refine ⟨_, (fun e => nomatch e), fun _ => p1 pc rst ini, p2, p3, p4, _, List.mem_singleton.mpr rfl, _, _, aX.rf, k.1, k.2.1, fun e he => ?_, (fun e he => nomatch he), (fun e he => nomatch he)⟩
  simp only [List.mem_cons, List.not_mem_nil, or_false] at he
  rcases he with rfl | rfl
  · exact ⟨q0, 9, _, _, rfl, p5, (nFd_lo (by decide)).trans p6, rfl⟩
  · refine ⟨q0, 9, _, _, rfl, p5, nFd_hi (by decide), ?_⟩
    show _ = Value.int (Int32.ofInt 1)
    rw [nGh_obj hq]
    congr 1
    rw [nGh9, nG9_1, gI_at p6, hx]
    exact gAll_one.mpr (fun i hi => absurd hi (by simp))
/-- told_up0 -/
theorem sw_19_ok {S : List Nat} : nSv nFT nAT S (nJJ S) sw_19 := by
  intro h nu mu ws vs rst pc ini hJ hT k hw hv
  obtain ⟨z0, zr0, rfl, ze0⟩ := lc (show 5 = nu.length from k.1.1)
  obtain ⟨z1, zr1, rfl, ze1⟩ := lc (ze0)
  obtain ⟨z2, zr2, rfl, ze2⟩ := lc (ze1)
  obtain ⟨z3, zr3, rfl, ze3⟩ := lc (ze2)
  obtain ⟨z4, zr4, rfl, ze4⟩ := lc (ze3)
  cases l0 ze4
  obtain ⟨q0, qr0, rfl, qe0⟩ := lc (show 1 = mu.length from k.2.1.1)
  cases l0 qe0
  have b0 : 1 ≤ z0 ∧ z0 ≤ 40 := k.1.2 0 z0 _ rfl rfl
  have b1 : 0 ≤ z1 ∧ z1 ≤ 39 := k.1.2 1 z1 _ rfl rfl
  have b2 : 0 ≤ z2 ∧ z2 ≤ 0 := k.1.2 2 z2 _ rfl rfl
  have b3 : 0 ≤ z3 ∧ z3 ≤ 9 := k.1.2 3 z3 _ rfl rfl
  have b4 : 0 ≤ z4 ∧ z4 ≤ 3 := k.1.2 4 z4 _ rfl rfl
  have t0 : S[q0]? = some 9 := k.2.1.2 0 q0 _ rfl rfl
  have d0 := (k.2.2.2.2 _ (show .inl ([(1, 0), ((-1), 1)], (-1)) ∈ sw_19.2.1.2.2.2.2 by simp [sw_19])).2
  simp only [lS, List.map_cons, List.map_nil, List.sum_cons, List.sum_nil, List.getD_cons_zero, List.getD_cons_succ] at d0
  have d1 := (k.2.2.2.2 _ (show .inl ([((-1), 0), (1, 1)], 1) ∈ sw_19.2.1.2.2.2.2 by simp [sw_19])).2
  simp only [lS, List.map_cons, List.map_nil, List.sum_cons, List.sum_nil, List.getD_cons_zero, List.getD_cons_succ] at d1
  obtain ⟨v0, vl0, rfl, vh0, hv0⟩ := hv.cons
  have vx0 := aRs vh0 (show _ = some z0 from rfl)
  subst vx0
  obtain ⟨v1, vl1, rfl, vh1, hv1⟩ := hv0.cons
  have vx1 := aRr vh1 (show _ = some q0 from rfl)
  subst vx1
  have vnil : vl1 = [] := by cases vl1 with
    | nil => rfl
    | cons a b => exact hv1.elim
  subst vnil
  obtain ⟨fs, hq, hfs⟩ := hT.obj t0 (show oT 9 = some 9 from rfl)
  obtain ⟨u35, f35, a35⟩ := fc_at k (show (0, 35, .inr (.inl (1, 0))) ∈ sw_19.2.1.2.2.1 by simp [sw_19]) rfl hq
  rw [nFd_lo (by decide)] at f35
  have y35 := aRs a35 (show _ = some z1 from rfl)
  subst y35
  obtain ⟨u1001, f1001, a1001⟩ := fc_at k (show (0, 1001, .inl 1) ∈ sw_19.2.1.2.2.1 by simp [sw_19]) rfl hq
  rw [nFd_hi (by decide)] at f1001
  have y1001 : u1001 = .int (Int32.ofInt 1) := a1001
  subst y1001
  have g1001 := Value.int.inj (Option.some.inj f1001)
  obtain ⟨u1010, f1010, a1010⟩ := fc_at k (show (0, 1010, .inr (.inl (2, 0))) ∈ sw_19.2.1.2.2.1 by simp [sw_19]) rfl hq
  rw [nFd_hi (by decide)] at f1010
  have y1010 := aRs a1010 (show _ = some z2 from rfl)
  subst y1010
  have g1010 := Value.int.inj (Option.some.inj f1010)
  obtain ⟨u1011, f1011, a1011⟩ := fc_at k (show (0, 1011, .inr (.inl (3, 0))) ∈ sw_19.2.1.2.2.1 by simp [sw_19]) rfl hq
  rw [nFd_hi (by decide)] at f1011
  have y1011 := aRs a1011 (show _ = some z3 from rfl)
  subst y1011
  have g1011 := Value.int.inj (Option.some.inj f1011)
  obtain ⟨u1012, f1012, a1012⟩ := fc_at k (show (0, 1012, .inr (.inl (4, 0))) ∈ sw_19.2.1.2.2.1 by simp [sw_19]) rfl hq
  rw [nFd_hi (by decide)] at f1012
  have y1012 := aRs a1012 (show _ = some z4 from rfl)
  subst y1012
  have g1012 := Value.int.inj (Option.some.inj f1012)
  have hx : (Int32.ofInt (z0 + 0)).toInt = z0 := by rw [a32 (by omega) (by omega)]; omega
  obtain ⟨p1, p2, p3, p4, p5, p6⟩ := put_ok (b := 35) (x := (Int32.ofInt (z0 + 0))) (mf := sw_19.2.2.2.1) hJ hT t0 (show oT 9 = some 9 from rfl) hq hfs (rg := (0, 40)) rfl (by rw [hx]; omega) rfl (by simp [sw_19]) (fun kk h10 hk => by
    simp only [sw_19, List.mem_cons, Prod.mk.injEq, true_and, List.not_mem_nil, or_false, not_or] at hk
    rw [nGh9, nGh9, gA_set (by decide), gA_set (by decide), gA_set (by decide), gA_set (by decide), gI_set (k := 39) (by decide), gI_set (k := 41) (by decide)]
    exact nG9_told (by omega) (by omega) (by omega) (by omega)) (fun hV => by
    rcases hV with hV | hV <;> cases hV)
  refine ⟨_, (fun e => nomatch e), fun _ => p1 pc rst ini, p2, p3, p4, _, List.mem_singleton.mpr rfl, _, _, aX.rf, k.1, k.2.1, fun e he => ?_, (fun e he => nomatch he), (fun e he => nomatch he)⟩
  simp only [List.mem_cons, List.not_mem_nil, or_false] at he
  rcases he with rfl | rfl
  · exact ⟨q0, 9, _, _, rfl, p5, (nFd_lo (by decide)).trans p6, ⟨_, rfl, rfl⟩⟩
  · refine ⟨q0, 9, _, _, rfl, p5, nFd_hi (by decide), ?_⟩
    show _ = Value.int (Int32.ofInt 1)
    rw [nGh_obj hq]
    congr 1
    rw [nGh9, nG9_1, gI_at p6, hx, gA_set (by decide)]
    rw [nGh9, nG9_1, gI_at f35, a32 (by omega) (by omega)] at g1001
    rw [nGh9, nG9_a, gI_at f35, a32 (by omega) (by omega)] at g1010
    rw [nGh9, nG9_b, gI_at f35, a32 (by omega) (by omega)] at g1011
    rw [nGh9, nG9_c, gI_at f35, a32 (by omega) (by omega)] at g1012
    have gg := gAll_one.mp (show gAll _ _ = 1 from g1001)
    refine gAll_one.mpr (fun i hi => ?_)
    by_cases e : i < (z1 + 0).toNat
    · exact gg i e
    · have e2 : i = (z1 + 0).toNat := by omega
      subst e2
      have c0 : (gA h fs 8 (3 * (z1 + 0).toNat)).toInt = 0 := by rw [g1010, a32 (by omega) (by omega)]; omega
      have c1 : (gA h fs 8 (3 * (z1 + 0).toNat + 1)).toInt = z3 := by rw [g1011, a32 (by omega) (by omega)]; omega
      have c2 : (gA h fs 8 (3 * (z1 + 0).toNat + 2)).toInt = z4 := by rw [g1012, a32 (by omega) (by omega)]; omega
      unfold gC
      rw [decide_eq_true_eq]
      omega
/-- told_up1 -/
theorem sw_20_ok {S : List Nat} : nSv nFT nAT S (nJJ S) sw_20 := by
  intro h nu mu ws vs rst pc ini hJ hT k hw hv
  obtain ⟨z0, zr0, rfl, ze0⟩ := lc (show 4 = nu.length from k.1.1)
  obtain ⟨z1, zr1, rfl, ze1⟩ := lc (ze0)
  obtain ⟨z2, zr2, rfl, ze2⟩ := lc (ze1)
  obtain ⟨z3, zr3, rfl, ze3⟩ := lc (ze2)
  cases l0 ze3
  obtain ⟨q0, qr0, rfl, qe0⟩ := lc (show 1 = mu.length from k.2.1.1)
  cases l0 qe0
  have b0 : 1 ≤ z0 ∧ z0 ≤ 40 := k.1.2 0 z0 _ rfl rfl
  have b1 : 0 ≤ z1 ∧ z1 ≤ 39 := k.1.2 1 z1 _ rfl rfl
  have b2 : 1 ≤ z2 ∧ z2 ≤ 1 := k.1.2 2 z2 _ rfl rfl
  have b3 : 0 ≤ z3 ∧ z3 ≤ 9 := k.1.2 3 z3 _ rfl rfl
  have t0 : S[q0]? = some 9 := k.2.1.2 0 q0 _ rfl rfl
  have d0 := (k.2.2.2.2 _ (show .inl ([(1, 0), ((-1), 1)], (-1)) ∈ sw_20.2.1.2.2.2.2 by simp [sw_20])).2
  simp only [lS, List.map_cons, List.map_nil, List.sum_cons, List.sum_nil, List.getD_cons_zero, List.getD_cons_succ] at d0
  have d1 := (k.2.2.2.2 _ (show .inl ([((-1), 0), (1, 1)], 1) ∈ sw_20.2.1.2.2.2.2 by simp [sw_20])).2
  simp only [lS, List.map_cons, List.map_nil, List.sum_cons, List.sum_nil, List.getD_cons_zero, List.getD_cons_succ] at d1
  obtain ⟨v0, vl0, rfl, vh0, hv0⟩ := hv.cons
  have vx0 := aRs vh0 (show _ = some z0 from rfl)
  subst vx0
  obtain ⟨v1, vl1, rfl, vh1, hv1⟩ := hv0.cons
  have vx1 := aRr vh1 (show _ = some q0 from rfl)
  subst vx1
  have vnil : vl1 = [] := by cases vl1 with
    | nil => rfl
    | cons a b => exact hv1.elim
  subst vnil
  obtain ⟨fs, hq, hfs⟩ := hT.obj t0 (show oT 9 = some 9 from rfl)
  obtain ⟨u35, f35, a35⟩ := fc_at k (show (0, 35, .inr (.inl (1, 0))) ∈ sw_20.2.1.2.2.1 by simp [sw_20]) rfl hq
  rw [nFd_lo (by decide)] at f35
  have y35 := aRs a35 (show _ = some z1 from rfl)
  subst y35
  obtain ⟨u1001, f1001, a1001⟩ := fc_at k (show (0, 1001, .inl 1) ∈ sw_20.2.1.2.2.1 by simp [sw_20]) rfl hq
  rw [nFd_hi (by decide)] at f1001
  have y1001 : u1001 = .int (Int32.ofInt 1) := a1001
  subst y1001
  have g1001 := Value.int.inj (Option.some.inj f1001)
  obtain ⟨u1010, f1010, a1010⟩ := fc_at k (show (0, 1010, .inr (.inl (2, 0))) ∈ sw_20.2.1.2.2.1 by simp [sw_20]) rfl hq
  rw [nFd_hi (by decide)] at f1010
  have y1010 := aRs a1010 (show _ = some z2 from rfl)
  subst y1010
  have g1010 := Value.int.inj (Option.some.inj f1010)
  obtain ⟨u1011, f1011, a1011⟩ := fc_at k (show (0, 1011, .inr (.inl (3, 0))) ∈ sw_20.2.1.2.2.1 by simp [sw_20]) rfl hq
  rw [nFd_hi (by decide)] at f1011
  have y1011 := aRs a1011 (show _ = some z3 from rfl)
  subst y1011
  have g1011 := Value.int.inj (Option.some.inj f1011)
  have hx : (Int32.ofInt (z0 + 0)).toInt = z0 := by rw [a32 (by omega) (by omega)]; omega
  obtain ⟨p1, p2, p3, p4, p5, p6⟩ := put_ok (b := 35) (x := (Int32.ofInt (z0 + 0))) (mf := sw_20.2.2.2.1) hJ hT t0 (show oT 9 = some 9 from rfl) hq hfs (rg := (0, 40)) rfl (by rw [hx]; omega) rfl (by simp [sw_20]) (fun kk h10 hk => by
    simp only [sw_20, List.mem_cons, Prod.mk.injEq, true_and, List.not_mem_nil, or_false, not_or] at hk
    rw [nGh9, nGh9, gA_set (by decide), gA_set (by decide), gA_set (by decide), gA_set (by decide), gI_set (k := 39) (by decide), gI_set (k := 41) (by decide)]
    exact nG9_told (by omega) (by omega) (by omega) (by omega)) (fun hV => by
    rcases hV with hV | hV <;> cases hV)
  refine ⟨_, (fun e => nomatch e), fun _ => p1 pc rst ini, p2, p3, p4, _, List.mem_singleton.mpr rfl, _, _, aX.rf, k.1, k.2.1, fun e he => ?_, (fun e he => nomatch he), (fun e he => nomatch he)⟩
  simp only [List.mem_cons, List.not_mem_nil, or_false] at he
  rcases he with rfl | rfl
  · exact ⟨q0, 9, _, _, rfl, p5, (nFd_lo (by decide)).trans p6, ⟨_, rfl, rfl⟩⟩
  · refine ⟨q0, 9, _, _, rfl, p5, nFd_hi (by decide), ?_⟩
    show _ = Value.int (Int32.ofInt 1)
    rw [nGh_obj hq]
    congr 1
    rw [nGh9, nG9_1, gI_at p6, hx, gA_set (by decide)]
    rw [nGh9, nG9_1, gI_at f35, a32 (by omega) (by omega)] at g1001
    rw [nGh9, nG9_a, gI_at f35, a32 (by omega) (by omega)] at g1010
    rw [nGh9, nG9_b, gI_at f35, a32 (by omega) (by omega)] at g1011
    have gg := gAll_one.mp (show gAll _ _ = 1 from g1001)
    refine gAll_one.mpr (fun i hi => ?_)
    by_cases e : i < (z1 + 0).toNat
    · exact gg i e
    · have e2 : i = (z1 + 0).toNat := by omega
      subst e2
      have c0 : (gA h fs 8 (3 * (z1 + 0).toNat)).toInt = 1 := by rw [g1010, a32 (by omega) (by omega)]; omega
      have c1 : (gA h fs 8 (3 * (z1 + 0).toNat + 1)).toInt = z3 := by rw [g1011, a32 (by omega) (by omega)]; omega
      unfold gC
      rw [decide_eq_true_eq]
      omega
/-- told_up2 -/
theorem sw_21_ok {S : List Nat} : nSv nFT nAT S (nJJ S) sw_21 := by
  intro h nu mu ws vs rst pc ini hJ hT k hw hv
  obtain ⟨z0, zr0, rfl, ze0⟩ := lc (show 5 = nu.length from k.1.1)
  obtain ⟨z1, zr1, rfl, ze1⟩ := lc (ze0)
  obtain ⟨z2, zr2, rfl, ze2⟩ := lc (ze1)
  obtain ⟨z3, zr3, rfl, ze3⟩ := lc (ze2)
  obtain ⟨z4, zr4, rfl, ze4⟩ := lc (ze3)
  cases l0 ze4
  obtain ⟨q0, qr0, rfl, qe0⟩ := lc (show 1 = mu.length from k.2.1.1)
  cases l0 qe0
  have b0 : 1 ≤ z0 ∧ z0 ≤ 40 := k.1.2 0 z0 _ rfl rfl
  have b1 : 0 ≤ z1 ∧ z1 ≤ 39 := k.1.2 1 z1 _ rfl rfl
  have b2 : 2 ≤ z2 ∧ z2 ≤ 2 := k.1.2 2 z2 _ rfl rfl
  have b3 : 0 ≤ z3 ∧ z3 ≤ 5 := k.1.2 3 z3 _ rfl rfl
  have b4 : 0 ≤ z4 ∧ z4 ≤ 9 := k.1.2 4 z4 _ rfl rfl
  have t0 : S[q0]? = some 9 := k.2.1.2 0 q0 _ rfl rfl
  have d0 := (k.2.2.2.2 _ (show .inl ([(1, 0), ((-1), 1)], (-1)) ∈ sw_21.2.1.2.2.2.2 by simp [sw_21])).2
  simp only [lS, List.map_cons, List.map_nil, List.sum_cons, List.sum_nil, List.getD_cons_zero, List.getD_cons_succ] at d0
  have d1 := (k.2.2.2.2 _ (show .inl ([((-1), 0), (1, 1)], 1) ∈ sw_21.2.1.2.2.2.2 by simp [sw_21])).2
  simp only [lS, List.map_cons, List.map_nil, List.sum_cons, List.sum_nil, List.getD_cons_zero, List.getD_cons_succ] at d1
  obtain ⟨v0, vl0, rfl, vh0, hv0⟩ := hv.cons
  have vx0 := aRs vh0 (show _ = some z0 from rfl)
  subst vx0
  obtain ⟨v1, vl1, rfl, vh1, hv1⟩ := hv0.cons
  have vx1 := aRr vh1 (show _ = some q0 from rfl)
  subst vx1
  have vnil : vl1 = [] := by cases vl1 with
    | nil => rfl
    | cons a b => exact hv1.elim
  subst vnil
  obtain ⟨fs, hq, hfs⟩ := hT.obj t0 (show oT 9 = some 9 from rfl)
  obtain ⟨u35, f35, a35⟩ := fc_at k (show (0, 35, .inr (.inl (1, 0))) ∈ sw_21.2.1.2.2.1 by simp [sw_21]) rfl hq
  rw [nFd_lo (by decide)] at f35
  have y35 := aRs a35 (show _ = some z1 from rfl)
  subst y35
  obtain ⟨u1001, f1001, a1001⟩ := fc_at k (show (0, 1001, .inl 1) ∈ sw_21.2.1.2.2.1 by simp [sw_21]) rfl hq
  rw [nFd_hi (by decide)] at f1001
  have y1001 : u1001 = .int (Int32.ofInt 1) := a1001
  subst y1001
  have g1001 := Value.int.inj (Option.some.inj f1001)
  obtain ⟨u1010, f1010, a1010⟩ := fc_at k (show (0, 1010, .inr (.inl (2, 0))) ∈ sw_21.2.1.2.2.1 by simp [sw_21]) rfl hq
  rw [nFd_hi (by decide)] at f1010
  have y1010 := aRs a1010 (show _ = some z2 from rfl)
  subst y1010
  have g1010 := Value.int.inj (Option.some.inj f1010)
  obtain ⟨u1011, f1011, a1011⟩ := fc_at k (show (0, 1011, .inr (.inl (3, 0))) ∈ sw_21.2.1.2.2.1 by simp [sw_21]) rfl hq
  rw [nFd_hi (by decide)] at f1011
  have y1011 := aRs a1011 (show _ = some z3 from rfl)
  subst y1011
  have g1011 := Value.int.inj (Option.some.inj f1011)
  obtain ⟨u1012, f1012, a1012⟩ := fc_at k (show (0, 1012, .inr (.inl (4, 0))) ∈ sw_21.2.1.2.2.1 by simp [sw_21]) rfl hq
  rw [nFd_hi (by decide)] at f1012
  have y1012 := aRs a1012 (show _ = some z4 from rfl)
  subst y1012
  have g1012 := Value.int.inj (Option.some.inj f1012)
  have hx : (Int32.ofInt (z0 + 0)).toInt = z0 := by rw [a32 (by omega) (by omega)]; omega
  obtain ⟨p1, p2, p3, p4, p5, p6⟩ := put_ok (b := 35) (x := (Int32.ofInt (z0 + 0))) (mf := sw_21.2.2.2.1) hJ hT t0 (show oT 9 = some 9 from rfl) hq hfs (rg := (0, 40)) rfl (by rw [hx]; omega) rfl (by simp [sw_21]) (fun kk h10 hk => by
    simp only [sw_21, List.mem_cons, Prod.mk.injEq, true_and, List.not_mem_nil, or_false, not_or] at hk
    rw [nGh9, nGh9, gA_set (by decide), gA_set (by decide), gA_set (by decide), gA_set (by decide), gI_set (k := 39) (by decide), gI_set (k := 41) (by decide)]
    exact nG9_told (by omega) (by omega) (by omega) (by omega)) (fun hV => by
    rcases hV with hV | hV <;> cases hV)
  refine ⟨_, (fun e => nomatch e), fun _ => p1 pc rst ini, p2, p3, p4, _, List.mem_singleton.mpr rfl, _, _, aX.rf, k.1, k.2.1, fun e he => ?_, (fun e he => nomatch he), (fun e he => nomatch he)⟩
  simp only [List.mem_cons, List.not_mem_nil, or_false] at he
  rcases he with rfl | rfl
  · exact ⟨q0, 9, _, _, rfl, p5, (nFd_lo (by decide)).trans p6, ⟨_, rfl, rfl⟩⟩
  · refine ⟨q0, 9, _, _, rfl, p5, nFd_hi (by decide), ?_⟩
    show _ = Value.int (Int32.ofInt 1)
    rw [nGh_obj hq]
    congr 1
    rw [nGh9, nG9_1, gI_at p6, hx, gA_set (by decide)]
    rw [nGh9, nG9_1, gI_at f35, a32 (by omega) (by omega)] at g1001
    rw [nGh9, nG9_a, gI_at f35, a32 (by omega) (by omega)] at g1010
    rw [nGh9, nG9_b, gI_at f35, a32 (by omega) (by omega)] at g1011
    rw [nGh9, nG9_c, gI_at f35, a32 (by omega) (by omega)] at g1012
    have gg := gAll_one.mp (show gAll _ _ = 1 from g1001)
    refine gAll_one.mpr (fun i hi => ?_)
    by_cases e : i < (z1 + 0).toNat
    · exact gg i e
    · have e2 : i = (z1 + 0).toNat := by omega
      subst e2
      have c0 : (gA h fs 8 (3 * (z1 + 0).toNat)).toInt = 2 := by rw [g1010, a32 (by omega) (by omega)]; omega
      have c1 : (gA h fs 8 (3 * (z1 + 0).toNat + 1)).toInt = z3 := by rw [g1011, a32 (by omega) (by omega)]; omega
      have c2 : (gA h fs 8 (3 * (z1 + 0).toNat + 2)).toInt = z4 := by rw [g1012, a32 (by omega) (by omega)]; omega
      unfold gC
      rw [decide_eq_true_eq]
      omega
/-- told_up3 -/
theorem sw_22_ok {S : List Nat} : nSv nFT nAT S (nJJ S) sw_22 := by
  intro h nu mu ws vs rst pc ini hJ hT k hw hv
  obtain ⟨z0, zr0, rfl, ze0⟩ := lc (show 3 = nu.length from k.1.1)
  obtain ⟨z1, zr1, rfl, ze1⟩ := lc (ze0)
  obtain ⟨z2, zr2, rfl, ze2⟩ := lc (ze1)
  cases l0 ze2
  obtain ⟨q0, qr0, rfl, qe0⟩ := lc (show 1 = mu.length from k.2.1.1)
  cases l0 qe0
  have b0 : 1 ≤ z0 ∧ z0 ≤ 40 := k.1.2 0 z0 _ rfl rfl
  have b1 : 0 ≤ z1 ∧ z1 ≤ 39 := k.1.2 1 z1 _ rfl rfl
  have b2 : 3 ≤ z2 ∧ z2 ≤ 3 := k.1.2 2 z2 _ rfl rfl
  have t0 : S[q0]? = some 9 := k.2.1.2 0 q0 _ rfl rfl
  have d0 := (k.2.2.2.2 _ (show .inl ([(1, 0), ((-1), 1)], (-1)) ∈ sw_22.2.1.2.2.2.2 by simp [sw_22])).2
  simp only [lS, List.map_cons, List.map_nil, List.sum_cons, List.sum_nil, List.getD_cons_zero, List.getD_cons_succ] at d0
  have d1 := (k.2.2.2.2 _ (show .inl ([((-1), 0), (1, 1)], 1) ∈ sw_22.2.1.2.2.2.2 by simp [sw_22])).2
  simp only [lS, List.map_cons, List.map_nil, List.sum_cons, List.sum_nil, List.getD_cons_zero, List.getD_cons_succ] at d1
  obtain ⟨v0, vl0, rfl, vh0, hv0⟩ := hv.cons
  have vx0 := aRs vh0 (show _ = some z0 from rfl)
  subst vx0
  obtain ⟨v1, vl1, rfl, vh1, hv1⟩ := hv0.cons
  have vx1 := aRr vh1 (show _ = some q0 from rfl)
  subst vx1
  have vnil : vl1 = [] := by cases vl1 with
    | nil => rfl
    | cons a b => exact hv1.elim
  subst vnil
  obtain ⟨fs, hq, hfs⟩ := hT.obj t0 (show oT 9 = some 9 from rfl)
  obtain ⟨u35, f35, a35⟩ := fc_at k (show (0, 35, .inr (.inl (1, 0))) ∈ sw_22.2.1.2.2.1 by simp [sw_22]) rfl hq
  rw [nFd_lo (by decide)] at f35
  have y35 := aRs a35 (show _ = some z1 from rfl)
  subst y35
  obtain ⟨u1001, f1001, a1001⟩ := fc_at k (show (0, 1001, .inl 1) ∈ sw_22.2.1.2.2.1 by simp [sw_22]) rfl hq
  rw [nFd_hi (by decide)] at f1001
  have y1001 : u1001 = .int (Int32.ofInt 1) := a1001
  subst y1001
  have g1001 := Value.int.inj (Option.some.inj f1001)
  obtain ⟨u1010, f1010, a1010⟩ := fc_at k (show (0, 1010, .inr (.inl (2, 0))) ∈ sw_22.2.1.2.2.1 by simp [sw_22]) rfl hq
  rw [nFd_hi (by decide)] at f1010
  have y1010 := aRs a1010 (show _ = some z2 from rfl)
  subst y1010
  have g1010 := Value.int.inj (Option.some.inj f1010)
  have hx : (Int32.ofInt (z0 + 0)).toInt = z0 := by rw [a32 (by omega) (by omega)]; omega
  obtain ⟨p1, p2, p3, p4, p5, p6⟩ := put_ok (b := 35) (x := (Int32.ofInt (z0 + 0))) (mf := sw_22.2.2.2.1) hJ hT t0 (show oT 9 = some 9 from rfl) hq hfs (rg := (0, 40)) rfl (by rw [hx]; omega) rfl (by simp [sw_22]) (fun kk h10 hk => by
    simp only [sw_22, List.mem_cons, Prod.mk.injEq, true_and, List.not_mem_nil, or_false, not_or] at hk
    rw [nGh9, nGh9, gA_set (by decide), gA_set (by decide), gA_set (by decide), gA_set (by decide), gI_set (k := 39) (by decide), gI_set (k := 41) (by decide)]
    exact nG9_told (by omega) (by omega) (by omega) (by omega)) (fun hV => by
    rcases hV with hV | hV <;> cases hV)
  refine ⟨_, (fun e => nomatch e), fun _ => p1 pc rst ini, p2, p3, p4, _, List.mem_singleton.mpr rfl, _, _, aX.rf, k.1, k.2.1, fun e he => ?_, (fun e he => nomatch he), (fun e he => nomatch he)⟩
  simp only [List.mem_cons, List.not_mem_nil, or_false] at he
  rcases he with rfl | rfl
  · exact ⟨q0, 9, _, _, rfl, p5, (nFd_lo (by decide)).trans p6, ⟨_, rfl, rfl⟩⟩
  · refine ⟨q0, 9, _, _, rfl, p5, nFd_hi (by decide), ?_⟩
    show _ = Value.int (Int32.ofInt 1)
    rw [nGh_obj hq]
    congr 1
    rw [nGh9, nG9_1, gI_at p6, hx, gA_set (by decide)]
    rw [nGh9, nG9_1, gI_at f35, a32 (by omega) (by omega)] at g1001
    rw [nGh9, nG9_a, gI_at f35, a32 (by omega) (by omega)] at g1010
    have gg := gAll_one.mp (show gAll _ _ = 1 from g1001)
    refine gAll_one.mpr (fun i hi => ?_)
    by_cases e : i < (z1 + 0).toNat
    · exact gg i e
    · have e2 : i = (z1 + 0).toNat := by omega
      subst e2
      have c0 : (gA h fs 8 (3 * (z1 + 0).toNat)).toInt = 3 := by rw [g1010, a32 (by omega) (by omega)]; omega
      unfold gC
      rw [decide_eq_true_eq]
      omega
/-- codes_zero -/
theorem sw_26_ok {S : List Nat} : nSv nFT nAT S (nJJ S) sw_26 := by
  intro h nu mu ws vs rst pc ini hJ hT k hw hv
  cases l0 (show 0 = nu.length from k.1.1)
  obtain ⟨q0, qr0, rfl, qe0⟩ := lc (show 1 = mu.length from k.2.1.1)
  cases l0 qe0
  have t0 : S[q0]? = some 9 := k.2.1.2 0 q0 _ rfl rfl
  obtain ⟨v0, vl0, rfl, vh0, hv0⟩ := hv.cons
  have vx0 : v0 = .int (Int32.ofInt 0) := vh0
  subst vx0
  obtain ⟨v1, vl1, rfl, vh1, hv1⟩ := hv0.cons
  have vx1 := aRr vh1 (show _ = some q0 from rfl)
  subst vx1
  have vnil : vl1 = [] := by cases vl1 with
    | nil => rfl
    | cons a b => exact hv1.elim
  subst vnil
  obtain ⟨fs, hq, hfs⟩ := hT.obj t0 (show oT 9 = some 9 from rfl)
  have hx : (Int32.ofInt 0).toInt = 0 := by decide
  obtain ⟨p1, p2, p3, p4, p5, p6⟩ := put_ok (b := 39) (x := (Int32.ofInt 0)) (mf := sw_26.2.2.2.1) hJ hT t0 (show oT 9 = some 9 from rfl) hq hfs (rg := (0, 44)) rfl (by rw [hx]; omega) rfl (by simp [sw_26]) (fun kk h10 hk => by
    simp only [sw_26, List.mem_cons, Prod.mk.injEq, true_and, List.not_mem_nil, or_false, not_or] at hk
    rw [nGh9, nGh9, gA_set (by decide), gA_set (by decide), gA_set (by decide), gA_set (by decide), gI_set (k := 41) (by decide), gI_set (k := 35) (by decide)]
    exact nG9_codes (by omega) (by omega) (by omega)) (fun hV => by
    rcases hV with hV | hV <;> cases hV)
  refine ⟨_, (fun e => nomatch e), fun _ => p1 pc rst ini, p2, p3, p4, _, List.mem_singleton.mpr rfl, _, _, aX.rf, k.1, k.2.1, fun e he => ?_, (fun e he => nomatch he), (fun e he => nomatch he)⟩
  simp only [List.mem_cons, List.not_mem_nil, or_false] at he
  subst he
  · exact ⟨q0, 9, _, _, rfl, p5, (nFd_lo (by decide)).trans p6, rfl⟩
/-- codes_not -/
theorem sw_27_ok {S : List Nat} : nSv nFT nAT S (nJJ S) sw_27 := by
  intro h nu mu ws vs rst pc ini hJ hT k hw hv
  obtain ⟨z0, zr0, rfl, ze0⟩ := lc (show 3 = nu.length from k.1.1)
  obtain ⟨z1, zr1, rfl, ze1⟩ := lc (ze0)
  obtain ⟨z2, zr2, rfl, ze2⟩ := lc (ze1)
  cases l0 ze2
  obtain ⟨q0, qr0, rfl, qe0⟩ := lc (show 1 = mu.length from k.2.1.1)
  cases l0 qe0
  have b0 : 1 ≤ z0 ∧ z0 ≤ 44 := k.1.2 0 z0 _ rfl rfl
  have b1 : 0 ≤ z1 ∧ z1 ≤ 43 := k.1.2 1 z1 _ rfl rfl
  have b2 : 20 ≤ z2 ∧ z2 ≤ 20 := k.1.2 2 z2 _ rfl rfl
  have t0 : S[q0]? = some 9 := k.2.1.2 0 q0 _ rfl rfl
  have d0 := (k.2.2.2.2 _ (show .inl ([(1, 0), ((-1), 1)], (-1)) ∈ sw_27.2.1.2.2.2.2 by simp [sw_27])).2
  simp only [lS, List.map_cons, List.map_nil, List.sum_cons, List.sum_nil, List.getD_cons_zero, List.getD_cons_succ] at d0
  have d1 := (k.2.2.2.2 _ (show .inl ([((-1), 0), (1, 1)], 1) ∈ sw_27.2.1.2.2.2.2 by simp [sw_27])).2
  simp only [lS, List.map_cons, List.map_nil, List.sum_cons, List.sum_nil, List.getD_cons_zero, List.getD_cons_succ] at d1
  obtain ⟨v0, vl0, rfl, vh0, hv0⟩ := hv.cons
  have vx0 := aRs vh0 (show _ = some z0 from rfl)
  subst vx0
  obtain ⟨v1, vl1, rfl, vh1, hv1⟩ := hv0.cons
  have vx1 := aRr vh1 (show _ = some q0 from rfl)
  subst vx1
  have vnil : vl1 = [] := by cases vl1 with
    | nil => rfl
    | cons a b => exact hv1.elim
  subst vnil
  obtain ⟨fs, hq, hfs⟩ := hT.obj t0 (show oT 9 = some 9 from rfl)
  obtain ⟨u39, f39, a39⟩ := fc_at k (show (0, 39, .inr (.inl (1, 0))) ∈ sw_27.2.1.2.2.1 by simp [sw_27]) rfl hq
  rw [nFd_lo (by decide)] at f39
  have y39 := aRs a39 (show _ = some z1 from rfl)
  subst y39
  obtain ⟨u1000, f1000, a1000⟩ := fc_at k (show (0, 1000, .inl 1) ∈ sw_27.2.1.2.2.1 by simp [sw_27]) rfl hq
  rw [nFd_hi (by decide)] at f1000
  have y1000 : u1000 = .int (Int32.ofInt 1) := a1000
  subst y1000
  have g1000 := Value.int.inj (Option.some.inj f1000)
  obtain ⟨u1008, f1008, a1008⟩ := fc_at k (show (0, 1008, .inr (.inl (2, 0))) ∈ sw_27.2.1.2.2.1 by simp [sw_27]) rfl hq
  rw [nFd_hi (by decide)] at f1008
  have y1008 := aRs a1008 (show _ = some z2 from rfl)
  subst y1008
  have g1008 := Value.int.inj (Option.some.inj f1008)
  have hx : (Int32.ofInt (z0 + 0)).toInt = z0 := by rw [a32 (by omega) (by omega)]; omega
  obtain ⟨x41, i41, j41, m41⟩ := int_at hfs (show nFT 9 41 = some (.inl (0, 44)) from rfl)
  obtain ⟨p1, p2, p3, p4, p5, p6⟩ := put_ok (b := 39) (x := (Int32.ofInt (z0 + 0))) (mf := sw_27.2.2.2.1) hJ hT t0 (show oT 9 = some 9 from rfl) hq hfs (rg := (0, 44)) rfl (by rw [hx]; omega) rfl (by simp [sw_27]) (fun kk h10 hk => by
    simp only [sw_27, List.mem_cons, Prod.mk.injEq, true_and, List.not_mem_nil, or_false, not_or] at hk
    rw [nGh9, nGh9, gA_set (by decide), gA_set (by decide), gA_set (by decide), gA_set (by decide), gI_set (k := 41) (by decide), gI_set (k := 35) (by decide)]
    exact nG9_codes (by omega) (by omega) (by omega)) (fun hV => by
    rcases hV with hV | hV <;> cases hV)
  refine ⟨_, (fun e => nomatch e), fun _ => p1 pc rst ini, p2, p3, p4, _, List.mem_singleton.mpr rfl, _, _, aX.rf, k.1, k.2.1, fun e he => ?_, (fun e he => nomatch he), (fun e he => nomatch he)⟩
  simp only [List.mem_cons, List.not_mem_nil, or_false] at he
  rcases he with rfl | rfl
  · exact ⟨q0, 9, _, _, rfl, p5, (nFd_lo (by decide)).trans p6, ⟨_, rfl, rfl⟩⟩
  · refine ⟨q0, 9, _, _, rfl, p5, nFd_hi (by decide), ?_⟩
    show _ = Value.int (Int32.ofInt 1)
    rw [nGh_obj hq]
    congr 1
    rw [nGh9, nG9_0, gI_at p6, hx, gA_set (by decide), gA_set (by decide), gI_set (k := 41) (by decide)]
    rw [nGh9, nG9_0, gI_at f39, a32 (by omega) (by omega)] at g1000
    rw [nGh9, nG9_8, gI_at f39, a32 (by omega) (by omega)] at g1008
    obtain ⟨n, n1, n2⟩ := (g0_iff (g := 1) (by omega) (by rw [j41]; omega) (by decide)).mp g1000
    refine (g0_iff (g := 1) (by omega) (by rw [j41]; omega) (by decide)).mpr ?_
    have ez : z0.toNat = (z1 + 0).toNat + 1 := by omega
    rw [ez]
    have c0 : (gA h fs 8 (0 + 3 * (z1 + 0).toNat)).toInt = z2 := by rw [Nat.zero_add, g1008, a32 (by omega) (by omega)]; omega
    refine ⟨n, ?_, by omega⟩
    simp only [gH, n1]
    rw [if_pos (by omega), if_pos (by omega)]
/-- codes_join -/
theorem sw_28_ok {S : List Nat} : nSv nFT nAT S (nJJ S) sw_28 := by
  intro h nu mu ws vs rst pc ini hJ hT k hw hv
  obtain ⟨z0, zr0, rfl, ze0⟩ := lc (show 3 = nu.length from k.1.1)
  obtain ⟨z1, zr1, rfl, ze1⟩ := lc (ze0)
  obtain ⟨z2, zr2, rfl, ze2⟩ := lc (ze1)
  cases l0 ze2
  obtain ⟨q0, qr0, rfl, qe0⟩ := lc (show 1 = mu.length from k.2.1.1)
  cases l0 qe0
  have b0 : 1 ≤ z0 ∧ z0 ≤ 44 := k.1.2 0 z0 _ rfl rfl
  have b1 : 0 ≤ z1 ∧ z1 ≤ 43 := k.1.2 1 z1 _ rfl rfl
  have b2 : 21 ≤ z2 ∧ z2 ≤ 22 := k.1.2 2 z2 _ rfl rfl
  have t0 : S[q0]? = some 9 := k.2.1.2 0 q0 _ rfl rfl
  have d0 := (k.2.2.2.2 _ (show .inl ([(1, 0), ((-1), 1)], (-1)) ∈ sw_28.2.1.2.2.2.2 by simp [sw_28])).2
  simp only [lS, List.map_cons, List.map_nil, List.sum_cons, List.sum_nil, List.getD_cons_zero, List.getD_cons_succ] at d0
  have d1 := (k.2.2.2.2 _ (show .inl ([((-1), 0), (1, 1)], 1) ∈ sw_28.2.1.2.2.2.2 by simp [sw_28])).2
  simp only [lS, List.map_cons, List.map_nil, List.sum_cons, List.sum_nil, List.getD_cons_zero, List.getD_cons_succ] at d1
  obtain ⟨v0, vl0, rfl, vh0, hv0⟩ := hv.cons
  have vx0 := aRs vh0 (show _ = some z0 from rfl)
  subst vx0
  obtain ⟨v1, vl1, rfl, vh1, hv1⟩ := hv0.cons
  have vx1 := aRr vh1 (show _ = some q0 from rfl)
  subst vx1
  have vnil : vl1 = [] := by cases vl1 with
    | nil => rfl
    | cons a b => exact hv1.elim
  subst vnil
  obtain ⟨fs, hq, hfs⟩ := hT.obj t0 (show oT 9 = some 9 from rfl)
  obtain ⟨u39, f39, a39⟩ := fc_at k (show (0, 39, .inr (.inl (1, 0))) ∈ sw_28.2.1.2.2.1 by simp [sw_28]) rfl hq
  rw [nFd_lo (by decide)] at f39
  have y39 := aRs a39 (show _ = some z1 from rfl)
  subst y39
  obtain ⟨u1000, f1000, a1000⟩ := fc_at k (show (0, 1000, .inl 2) ∈ sw_28.2.1.2.2.1 by simp [sw_28]) rfl hq
  rw [nFd_hi (by decide)] at f1000
  have y1000 : u1000 = .int (Int32.ofInt 2) := a1000
  subst y1000
  have g1000 := Value.int.inj (Option.some.inj f1000)
  obtain ⟨u1008, f1008, a1008⟩ := fc_at k (show (0, 1008, .inr (.inl (2, 0))) ∈ sw_28.2.1.2.2.1 by simp [sw_28]) rfl hq
  rw [nFd_hi (by decide)] at f1008
  have y1008 := aRs a1008 (show _ = some z2 from rfl)
  subst y1008
  have g1008 := Value.int.inj (Option.some.inj f1008)
  have hx : (Int32.ofInt (z0 + 0)).toInt = z0 := by rw [a32 (by omega) (by omega)]; omega
  obtain ⟨x41, i41, j41, m41⟩ := int_at hfs (show nFT 9 41 = some (.inl (0, 44)) from rfl)
  obtain ⟨p1, p2, p3, p4, p5, p6⟩ := put_ok (b := 39) (x := (Int32.ofInt (z0 + 0))) (mf := sw_28.2.2.2.1) hJ hT t0 (show oT 9 = some 9 from rfl) hq hfs (rg := (0, 44)) rfl (by rw [hx]; omega) rfl (by simp [sw_28]) (fun kk h10 hk => by
    simp only [sw_28, List.mem_cons, Prod.mk.injEq, true_and, List.not_mem_nil, or_false, not_or] at hk
    rw [nGh9, nGh9, gA_set (by decide), gA_set (by decide), gA_set (by decide), gA_set (by decide), gI_set (k := 41) (by decide), gI_set (k := 35) (by decide)]
    exact nG9_codes (by omega) (by omega) (by omega)) (fun hV => by
    rcases hV with hV | hV <;> cases hV)
  refine ⟨_, (fun e => nomatch e), fun _ => p1 pc rst ini, p2, p3, p4, _, List.mem_singleton.mpr rfl, _, _, aX.rf, k.1, k.2.1, fun e he => ?_, (fun e he => nomatch he), (fun e he => nomatch he)⟩
  simp only [List.mem_cons, List.not_mem_nil, or_false] at he
  rcases he with rfl | rfl
  · exact ⟨q0, 9, _, _, rfl, p5, (nFd_lo (by decide)).trans p6, ⟨_, rfl, rfl⟩⟩
  · refine ⟨q0, 9, _, _, rfl, p5, nFd_hi (by decide), ?_⟩
    show _ = Value.int (Int32.ofInt 1)
    rw [nGh_obj hq]
    congr 1
    rw [nGh9, nG9_0, gI_at p6, hx, gA_set (by decide), gA_set (by decide), gI_set (k := 41) (by decide)]
    rw [nGh9, nG9_0, gI_at f39, a32 (by omega) (by omega)] at g1000
    rw [nGh9, nG9_8, gI_at f39, a32 (by omega) (by omega)] at g1008
    obtain ⟨n, n1, n2⟩ := (g0_iff (g := 2) (by omega) (by rw [j41]; omega) (by decide)).mp g1000
    refine (g0_iff (g := 1) (by omega) (by rw [j41]; omega) (by decide)).mpr ?_
    have ez : z0.toNat = (z1 + 0).toNat + 1 := by omega
    rw [ez]
    have c0 : (gA h fs 8 (0 + 3 * (z1 + 0).toNat)).toInt = z2 := by rw [Nat.zero_add, g1008, a32 (by omega) (by omega)]; omega
    refine ⟨n - 1, ?_, by omega⟩
    simp only [gH, n1]
    rw [if_neg (by omega), if_pos (by omega), if_pos (by omega)]
/-- codes_leafa -/
theorem sw_29_ok {S : List Nat} : nSv nFT nAT S (nJJ S) sw_29 := by
  intro h nu mu ws vs rst pc ini hJ hT k hw hv
  obtain ⟨z0, zr0, rfl, ze0⟩ := lc (show 3 = nu.length from k.1.1)
  obtain ⟨z1, zr1, rfl, ze1⟩ := lc (ze0)
  obtain ⟨z2, zr2, rfl, ze2⟩ := lc (ze1)
  cases l0 ze2
  obtain ⟨q0, qr0, rfl, qe0⟩ := lc (show 1 = mu.length from k.2.1.1)
  cases l0 qe0
  have b0 : 1 ≤ z0 ∧ z0 ≤ 44 := k.1.2 0 z0 _ rfl rfl
  have b1 : 0 ≤ z1 ∧ z1 ≤ 43 := k.1.2 1 z1 _ rfl rfl
  have b2 : 0 ≤ z2 ∧ z2 ≤ 1 := k.1.2 2 z2 _ rfl rfl
  have t0 : S[q0]? = some 9 := k.2.1.2 0 q0 _ rfl rfl
  have d0 := (k.2.2.2.2 _ (show .inl ([(1, 0), ((-1), 1)], (-1)) ∈ sw_29.2.1.2.2.2.2 by simp [sw_29])).2
  simp only [lS, List.map_cons, List.map_nil, List.sum_cons, List.sum_nil, List.getD_cons_zero, List.getD_cons_succ] at d0
  have d1 := (k.2.2.2.2 _ (show .inl ([((-1), 0), (1, 1)], 1) ∈ sw_29.2.1.2.2.2.2 by simp [sw_29])).2
  simp only [lS, List.map_cons, List.map_nil, List.sum_cons, List.sum_nil, List.getD_cons_zero, List.getD_cons_succ] at d1
  obtain ⟨v0, vl0, rfl, vh0, hv0⟩ := hv.cons
  have vx0 := aRs vh0 (show _ = some z0 from rfl)
  subst vx0
  obtain ⟨v1, vl1, rfl, vh1, hv1⟩ := hv0.cons
  have vx1 := aRr vh1 (show _ = some q0 from rfl)
  subst vx1
  have vnil : vl1 = [] := by cases vl1 with
    | nil => rfl
    | cons a b => exact hv1.elim
  subst vnil
  obtain ⟨fs, hq, hfs⟩ := hT.obj t0 (show oT 9 = some 9 from rfl)
  obtain ⟨u39, f39, a39⟩ := fc_at k (show (0, 39, .inr (.inl (1, 0))) ∈ sw_29.2.1.2.2.1 by simp [sw_29]) rfl hq
  rw [nFd_lo (by decide)] at f39
  have y39 := aRs a39 (show _ = some z1 from rfl)
  subst y39
  obtain ⟨u1000, f1000, a1000⟩ := fc_at k (show (0, 1000, .inl 0) ∈ sw_29.2.1.2.2.1 by simp [sw_29]) rfl hq
  rw [nFd_hi (by decide)] at f1000
  have y1000 : u1000 = .int (Int32.ofInt 0) := a1000
  subst y1000
  have g1000 := Value.int.inj (Option.some.inj f1000)
  obtain ⟨u1008, f1008, a1008⟩ := fc_at k (show (0, 1008, .inr (.inl (2, 0))) ∈ sw_29.2.1.2.2.1 by simp [sw_29]) rfl hq
  rw [nFd_hi (by decide)] at f1008
  have y1008 := aRs a1008 (show _ = some z2 from rfl)
  subst y1008
  have g1008 := Value.int.inj (Option.some.inj f1008)
  have hx : (Int32.ofInt (z0 + 0)).toInt = z0 := by rw [a32 (by omega) (by omega)]; omega
  obtain ⟨x41, i41, j41, m41⟩ := int_at hfs (show nFT 9 41 = some (.inl (0, 44)) from rfl)
  obtain ⟨p1, p2, p3, p4, p5, p6⟩ := put_ok (b := 39) (x := (Int32.ofInt (z0 + 0))) (mf := sw_29.2.2.2.1) hJ hT t0 (show oT 9 = some 9 from rfl) hq hfs (rg := (0, 44)) rfl (by rw [hx]; omega) rfl (by simp [sw_29]) (fun kk h10 hk => by
    simp only [sw_29, List.mem_cons, Prod.mk.injEq, true_and, List.not_mem_nil, or_false, not_or] at hk
    rw [nGh9, nGh9, gA_set (by decide), gA_set (by decide), gA_set (by decide), gA_set (by decide), gI_set (k := 41) (by decide), gI_set (k := 35) (by decide)]
    exact nG9_codes (by omega) (by omega) (by omega)) (fun hV => by
    rcases hV with hV | hV <;> cases hV)
  refine ⟨_, (fun e => nomatch e), fun _ => p1 pc rst ini, p2, p3, p4, _, List.mem_singleton.mpr rfl, _, _, aX.rf, k.1, k.2.1, fun e he => ?_, (fun e he => nomatch he), (fun e he => nomatch he)⟩
  simp only [List.mem_cons, List.not_mem_nil, or_false] at he
  rcases he with rfl | rfl
  · exact ⟨q0, 9, _, _, rfl, p5, (nFd_lo (by decide)).trans p6, ⟨_, rfl, rfl⟩⟩
  · refine ⟨q0, 9, _, _, rfl, p5, nFd_hi (by decide), ?_⟩
    show _ = Value.int (Int32.ofInt 1)
    rw [nGh_obj hq]
    congr 1
    rw [nGh9, nG9_0, gI_at p6, hx, gA_set (by decide), gA_set (by decide), gI_set (k := 41) (by decide)]
    rw [nGh9, nG9_0, gI_at f39, a32 (by omega) (by omega)] at g1000
    rw [nGh9, nG9_8, gI_at f39, a32 (by omega) (by omega)] at g1008
    obtain ⟨n, n1, n2⟩ := (g0_iff (g := 0) (by omega) (by rw [j41]; omega) (by decide)).mp g1000
    refine (g0_iff (g := 1) (by omega) (by rw [j41]; omega) (by decide)).mpr ?_
    have ez : z0.toNat = (z1 + 0).toNat + 1 := by omega
    rw [ez]
    have c0 : (gA h fs 8 (0 + 3 * (z1 + 0).toNat)).toInt = z2 := by rw [Nat.zero_add, g1008, a32 (by omega) (by omega)]; omega
    refine ⟨n + 1, ?_, by omega⟩
    simp only [gH, n1]
    rw [if_neg (by omega), if_neg (by omega), if_pos (by omega)]
/-- codes_leafb -/
theorem sw_30_ok {S : List Nat} : nSv nFT nAT S (nJJ S) sw_30 := by
  intro h nu mu ws vs rst pc ini hJ hT k hw hv
  obtain ⟨z0, zr0, rfl, ze0⟩ := lc (show 4 = nu.length from k.1.1)
  obtain ⟨z1, zr1, rfl, ze1⟩ := lc (ze0)
  obtain ⟨z2, zr2, rfl, ze2⟩ := lc (ze1)
  obtain ⟨z3, zr3, rfl, ze3⟩ := lc (ze2)
  cases l0 ze3
  obtain ⟨q0, qr0, rfl, qe0⟩ := lc (show 1 = mu.length from k.2.1.1)
  cases l0 qe0
  have b0 : 1 ≤ z0 ∧ z0 ≤ 44 := k.1.2 0 z0 _ rfl rfl
  have b1 : 0 ≤ z1 ∧ z1 ≤ 43 := k.1.2 1 z1 _ rfl rfl
  have b2 : 2 ≤ z2 ∧ z2 ≤ 2 := k.1.2 2 z2 _ rfl rfl
  have b3 : 0 ≤ z3 ∧ z3 ≤ 5 := k.1.2 3 z3 _ rfl rfl
  have t0 : S[q0]? = some 9 := k.2.1.2 0 q0 _ rfl rfl
  have d0 := (k.2.2.2.2 _ (show .inl ([(1, 0), ((-1), 1)], (-1)) ∈ sw_30.2.1.2.2.2.2 by simp [sw_30])).2
  simp only [lS, List.map_cons, List.map_nil, List.sum_cons, List.sum_nil, List.getD_cons_zero, List.getD_cons_succ] at d0
  have d1 := (k.2.2.2.2 _ (show .inl ([((-1), 0), (1, 1)], 1) ∈ sw_30.2.1.2.2.2.2 by simp [sw_30])).2
  simp only [lS, List.map_cons, List.map_nil, List.sum_cons, List.sum_nil, List.getD_cons_zero, List.getD_cons_succ] at d1
  obtain ⟨v0, vl0, rfl, vh0, hv0⟩ := hv.cons
  have vx0 := aRs vh0 (show _ = some z0 from rfl)
  subst vx0
  obtain ⟨v1, vl1, rfl, vh1, hv1⟩ := hv0.cons
  have vx1 := aRr vh1 (show _ = some q0 from rfl)
  subst vx1
  have vnil : vl1 = [] := by cases vl1 with
    | nil => rfl
    | cons a b => exact hv1.elim
  subst vnil
  obtain ⟨fs, hq, hfs⟩ := hT.obj t0 (show oT 9 = some 9 from rfl)
  obtain ⟨u39, f39, a39⟩ := fc_at k (show (0, 39, .inr (.inl (1, 0))) ∈ sw_30.2.1.2.2.1 by simp [sw_30]) rfl hq
  rw [nFd_lo (by decide)] at f39
  have y39 := aRs a39 (show _ = some z1 from rfl)
  subst y39
  obtain ⟨u1000, f1000, a1000⟩ := fc_at k (show (0, 1000, .inl 0) ∈ sw_30.2.1.2.2.1 by simp [sw_30]) rfl hq
  rw [nFd_hi (by decide)] at f1000
  have y1000 : u1000 = .int (Int32.ofInt 0) := a1000
  subst y1000
  have g1000 := Value.int.inj (Option.some.inj f1000)
  obtain ⟨u1008, f1008, a1008⟩ := fc_at k (show (0, 1008, .inr (.inl (2, 0))) ∈ sw_30.2.1.2.2.1 by simp [sw_30]) rfl hq
  rw [nFd_hi (by decide)] at f1008
  have y1008 := aRs a1008 (show _ = some z2 from rfl)
  subst y1008
  have g1008 := Value.int.inj (Option.some.inj f1008)
  obtain ⟨u1009, f1009, a1009⟩ := fc_at k (show (0, 1009, .inr (.inl (3, 0))) ∈ sw_30.2.1.2.2.1 by simp [sw_30]) rfl hq
  rw [nFd_hi (by decide)] at f1009
  have y1009 := aRs a1009 (show _ = some z3 from rfl)
  subst y1009
  have g1009 := Value.int.inj (Option.some.inj f1009)
  have hx : (Int32.ofInt (z0 + 0)).toInt = z0 := by rw [a32 (by omega) (by omega)]; omega
  obtain ⟨x41, i41, j41, m41⟩ := int_at hfs (show nFT 9 41 = some (.inl (0, 44)) from rfl)
  obtain ⟨p1, p2, p3, p4, p5, p6⟩ := put_ok (b := 39) (x := (Int32.ofInt (z0 + 0))) (mf := sw_30.2.2.2.1) hJ hT t0 (show oT 9 = some 9 from rfl) hq hfs (rg := (0, 44)) rfl (by rw [hx]; omega) rfl (by simp [sw_30]) (fun kk h10 hk => by
    simp only [sw_30, List.mem_cons, Prod.mk.injEq, true_and, List.not_mem_nil, or_false, not_or] at hk
    rw [nGh9, nGh9, gA_set (by decide), gA_set (by decide), gA_set (by decide), gA_set (by decide), gI_set (k := 41) (by decide), gI_set (k := 35) (by decide)]
    exact nG9_codes (by omega) (by omega) (by omega)) (fun hV => by
    rcases hV with hV | hV <;> cases hV)
  refine ⟨_, (fun e => nomatch e), fun _ => p1 pc rst ini, p2, p3, p4, _, List.mem_singleton.mpr rfl, _, _, aX.rf, k.1, k.2.1, fun e he => ?_, (fun e he => nomatch he), (fun e he => nomatch he)⟩
  simp only [List.mem_cons, List.not_mem_nil, or_false] at he
  rcases he with rfl | rfl
  · exact ⟨q0, 9, _, _, rfl, p5, (nFd_lo (by decide)).trans p6, ⟨_, rfl, rfl⟩⟩
  · refine ⟨q0, 9, _, _, rfl, p5, nFd_hi (by decide), ?_⟩
    show _ = Value.int (Int32.ofInt 1)
    rw [nGh_obj hq]
    congr 1
    rw [nGh9, nG9_0, gI_at p6, hx, gA_set (by decide), gA_set (by decide), gI_set (k := 41) (by decide)]
    rw [nGh9, nG9_0, gI_at f39, a32 (by omega) (by omega)] at g1000
    rw [nGh9, nG9_8, gI_at f39, a32 (by omega) (by omega)] at g1008
    rw [nGh9, nG9_9, gI_at f39, a32 (by omega) (by omega)] at g1009
    obtain ⟨n, n1, n2⟩ := (g0_iff (g := 0) (by omega) (by rw [j41]; omega) (by decide)).mp g1000
    refine (g0_iff (g := 1) (by omega) (by rw [j41]; omega) (by decide)).mpr ?_
    have ez : z0.toNat = (z1 + 0).toNat + 1 := by omega
    rw [ez]
    have c0 : (gA h fs 8 (0 + 3 * (z1 + 0).toNat)).toInt = z2 := by rw [Nat.zero_add, g1008, a32 (by omega) (by omega)]; omega
    have c2 : (gA h fs 8 (0 + 3 * (z1 + 0).toNat + 2)).toInt = z3 := by rw [Nat.zero_add, g1009, a32 (by omega) (by omega)]; omega
    refine ⟨n + 1, ?_, by omega⟩
    simp only [gH, n1]
    rw [if_neg (by omega), if_neg (by omega), if_pos (by omega)]
/-- codes_leafc -/
theorem sw_31_ok {S : List Nat} : nSv nFT nAT S (nJJ S) sw_31 := by
  intro h nu mu ws vs rst pc ini hJ hT k hw hv
  obtain ⟨z0, zr0, rfl, ze0⟩ := lc (show 4 = nu.length from k.1.1)
  obtain ⟨z1, zr1, rfl, ze1⟩ := lc (ze0)
  obtain ⟨z2, zr2, rfl, ze2⟩ := lc (ze1)
  obtain ⟨z3, zr3, rfl, ze3⟩ := lc (ze2)
  cases l0 ze3
  obtain ⟨q0, qr0, rfl, qe0⟩ := lc (show 1 = mu.length from k.2.1.1)
  cases l0 qe0
  have b0 : 1 ≤ z0 ∧ z0 ≤ 44 := k.1.2 0 z0 _ rfl rfl
  have b1 : 0 ≤ z1 ∧ z1 ≤ 43 := k.1.2 1 z1 _ rfl rfl
  have b2 : 3 ≤ z2 ∧ z2 ≤ 3 := k.1.2 2 z2 _ rfl rfl
  have b3 : 0 ≤ z3 ∧ z3 ≤ 9 := k.1.2 3 z3 _ rfl rfl
  have t0 : S[q0]? = some 9 := k.2.1.2 0 q0 _ rfl rfl
  have d0 := (k.2.2.2.2 _ (show .inl ([(1, 0), ((-1), 1)], (-1)) ∈ sw_31.2.1.2.2.2.2 by simp [sw_31])).2
  simp only [lS, List.map_cons, List.map_nil, List.sum_cons, List.sum_nil, List.getD_cons_zero, List.getD_cons_succ] at d0
  have d1 := (k.2.2.2.2 _ (show .inl ([((-1), 0), (1, 1)], 1) ∈ sw_31.2.1.2.2.2.2 by simp [sw_31])).2
  simp only [lS, List.map_cons, List.map_nil, List.sum_cons, List.sum_nil, List.getD_cons_zero, List.getD_cons_succ] at d1
  obtain ⟨v0, vl0, rfl, vh0, hv0⟩ := hv.cons
  have vx0 := aRs vh0 (show _ = some z0 from rfl)
  subst vx0
  obtain ⟨v1, vl1, rfl, vh1, hv1⟩ := hv0.cons
  have vx1 := aRr vh1 (show _ = some q0 from rfl)
  subst vx1
  have vnil : vl1 = [] := by cases vl1 with
    | nil => rfl
    | cons a b => exact hv1.elim
  subst vnil
  obtain ⟨fs, hq, hfs⟩ := hT.obj t0 (show oT 9 = some 9 from rfl)
  obtain ⟨u39, f39, a39⟩ := fc_at k (show (0, 39, .inr (.inl (1, 0))) ∈ sw_31.2.1.2.2.1 by simp [sw_31]) rfl hq
  rw [nFd_lo (by decide)] at f39
  have y39 := aRs a39 (show _ = some z1 from rfl)
  subst y39
  obtain ⟨u1000, f1000, a1000⟩ := fc_at k (show (0, 1000, .inl 0) ∈ sw_31.2.1.2.2.1 by simp [sw_31]) rfl hq
  rw [nFd_hi (by decide)] at f1000
  have y1000 : u1000 = .int (Int32.ofInt 0) := a1000
  subst y1000
  have g1000 := Value.int.inj (Option.some.inj f1000)
  obtain ⟨u1008, f1008, a1008⟩ := fc_at k (show (0, 1008, .inr (.inl (2, 0))) ∈ sw_31.2.1.2.2.1 by simp [sw_31]) rfl hq
  rw [nFd_hi (by decide)] at f1008
  have y1008 := aRs a1008 (show _ = some z2 from rfl)
  subst y1008
  have g1008 := Value.int.inj (Option.some.inj f1008)
  obtain ⟨u1009, f1009, a1009⟩ := fc_at k (show (0, 1009, .inr (.inl (3, 0))) ∈ sw_31.2.1.2.2.1 by simp [sw_31]) rfl hq
  rw [nFd_hi (by decide)] at f1009
  have y1009 := aRs a1009 (show _ = some z3 from rfl)
  subst y1009
  have g1009 := Value.int.inj (Option.some.inj f1009)
  have hx : (Int32.ofInt (z0 + 0)).toInt = z0 := by rw [a32 (by omega) (by omega)]; omega
  obtain ⟨x41, i41, j41, m41⟩ := int_at hfs (show nFT 9 41 = some (.inl (0, 44)) from rfl)
  obtain ⟨p1, p2, p3, p4, p5, p6⟩ := put_ok (b := 39) (x := (Int32.ofInt (z0 + 0))) (mf := sw_31.2.2.2.1) hJ hT t0 (show oT 9 = some 9 from rfl) hq hfs (rg := (0, 44)) rfl (by rw [hx]; omega) rfl (by simp [sw_31]) (fun kk h10 hk => by
    simp only [sw_31, List.mem_cons, Prod.mk.injEq, true_and, List.not_mem_nil, or_false, not_or] at hk
    rw [nGh9, nGh9, gA_set (by decide), gA_set (by decide), gA_set (by decide), gA_set (by decide), gI_set (k := 41) (by decide), gI_set (k := 35) (by decide)]
    exact nG9_codes (by omega) (by omega) (by omega)) (fun hV => by
    rcases hV with hV | hV <;> cases hV)
  refine ⟨_, (fun e => nomatch e), fun _ => p1 pc rst ini, p2, p3, p4, _, List.mem_singleton.mpr rfl, _, _, aX.rf, k.1, k.2.1, fun e he => ?_, (fun e he => nomatch he), (fun e he => nomatch he)⟩
  simp only [List.mem_cons, List.not_mem_nil, or_false] at he
  rcases he with rfl | rfl
  · exact ⟨q0, 9, _, _, rfl, p5, (nFd_lo (by decide)).trans p6, ⟨_, rfl, rfl⟩⟩
  · refine ⟨q0, 9, _, _, rfl, p5, nFd_hi (by decide), ?_⟩
    show _ = Value.int (Int32.ofInt 1)
    rw [nGh_obj hq]
    congr 1
    rw [nGh9, nG9_0, gI_at p6, hx, gA_set (by decide), gA_set (by decide), gI_set (k := 41) (by decide)]
    rw [nGh9, nG9_0, gI_at f39, a32 (by omega) (by omega)] at g1000
    rw [nGh9, nG9_8, gI_at f39, a32 (by omega) (by omega)] at g1008
    rw [nGh9, nG9_9, gI_at f39, a32 (by omega) (by omega)] at g1009
    obtain ⟨n, n1, n2⟩ := (g0_iff (g := 0) (by omega) (by rw [j41]; omega) (by decide)).mp g1000
    refine (g0_iff (g := 1) (by omega) (by rw [j41]; omega) (by decide)).mpr ?_
    have ez : z0.toNat = (z1 + 0).toNat + 1 := by omega
    rw [ez]
    have c0 : (gA h fs 8 (0 + 3 * (z1 + 0).toNat)).toInt = z2 := by rw [Nat.zero_add, g1008, a32 (by omega) (by omega)]; omega
    have c2 : (gA h fs 8 (0 + 3 * (z1 + 0).toNat + 2)).toInt = z3 := by rw [Nat.zero_add, g1009, a32 (by omega) (by omega)]; omega
    refine ⟨n + 1, ?_, by omega⟩
    simp only [gH, n1]
    rw [if_neg (by omega), if_neg (by omega), if_pos (by omega)]
/-- codes_leafd -/
theorem sw_32_ok {S : List Nat} : nSv nFT nAT S (nJJ S) sw_32 := by
  intro h nu mu ws vs rst pc ini hJ hT k hw hv
  obtain ⟨z0, zr0, rfl, ze0⟩ := lc (show 3 = nu.length from k.1.1)
  obtain ⟨z1, zr1, rfl, ze1⟩ := lc (ze0)
  obtain ⟨z2, zr2, rfl, ze2⟩ := lc (ze1)
  cases l0 ze2
  obtain ⟨q0, qr0, rfl, qe0⟩ := lc (show 1 = mu.length from k.2.1.1)
  cases l0 qe0
  have b0 : 1 ≤ z0 ∧ z0 ≤ 44 := k.1.2 0 z0 _ rfl rfl
  have b1 : 0 ≤ z1 ∧ z1 ≤ 43 := k.1.2 1 z1 _ rfl rfl
  have b2 : 4 ≤ z2 ∧ z2 ≤ 19 := k.1.2 2 z2 _ rfl rfl
  have t0 : S[q0]? = some 9 := k.2.1.2 0 q0 _ rfl rfl
  have d0 := (k.2.2.2.2 _ (show .inl ([(1, 0), ((-1), 1)], (-1)) ∈ sw_32.2.1.2.2.2.2 by simp [sw_32])).2
  simp only [lS, List.map_cons, List.map_nil, List.sum_cons, List.sum_nil, List.getD_cons_zero, List.getD_cons_succ] at d0
  have d1 := (k.2.2.2.2 _ (show .inl ([((-1), 0), (1, 1)], 1) ∈ sw_32.2.1.2.2.2.2 by simp [sw_32])).2
  simp only [lS, List.map_cons, List.map_nil, List.sum_cons, List.sum_nil, List.getD_cons_zero, List.getD_cons_succ] at d1
  obtain ⟨v0, vl0, rfl, vh0, hv0⟩ := hv.cons
  have vx0 := aRs vh0 (show _ = some z0 from rfl)
  subst vx0
  obtain ⟨v1, vl1, rfl, vh1, hv1⟩ := hv0.cons
  have vx1 := aRr vh1 (show _ = some q0 from rfl)
  subst vx1
  have vnil : vl1 = [] := by cases vl1 with
    | nil => rfl
    | cons a b => exact hv1.elim
  subst vnil
  obtain ⟨fs, hq, hfs⟩ := hT.obj t0 (show oT 9 = some 9 from rfl)
  obtain ⟨u39, f39, a39⟩ := fc_at k (show (0, 39, .inr (.inl (1, 0))) ∈ sw_32.2.1.2.2.1 by simp [sw_32]) rfl hq
  rw [nFd_lo (by decide)] at f39
  have y39 := aRs a39 (show _ = some z1 from rfl)
  subst y39
  obtain ⟨u1000, f1000, a1000⟩ := fc_at k (show (0, 1000, .inl 0) ∈ sw_32.2.1.2.2.1 by simp [sw_32]) rfl hq
  rw [nFd_hi (by decide)] at f1000
  have y1000 : u1000 = .int (Int32.ofInt 0) := a1000
  subst y1000
  have g1000 := Value.int.inj (Option.some.inj f1000)
  obtain ⟨u1008, f1008, a1008⟩ := fc_at k (show (0, 1008, .inr (.inl (2, 0))) ∈ sw_32.2.1.2.2.1 by simp [sw_32]) rfl hq
  rw [nFd_hi (by decide)] at f1008
  have y1008 := aRs a1008 (show _ = some z2 from rfl)
  subst y1008
  have g1008 := Value.int.inj (Option.some.inj f1008)
  have hx : (Int32.ofInt (z0 + 0)).toInt = z0 := by rw [a32 (by omega) (by omega)]; omega
  obtain ⟨x41, i41, j41, m41⟩ := int_at hfs (show nFT 9 41 = some (.inl (0, 44)) from rfl)
  obtain ⟨p1, p2, p3, p4, p5, p6⟩ := put_ok (b := 39) (x := (Int32.ofInt (z0 + 0))) (mf := sw_32.2.2.2.1) hJ hT t0 (show oT 9 = some 9 from rfl) hq hfs (rg := (0, 44)) rfl (by rw [hx]; omega) rfl (by simp [sw_32]) (fun kk h10 hk => by
    simp only [sw_32, List.mem_cons, Prod.mk.injEq, true_and, List.not_mem_nil, or_false, not_or] at hk
    rw [nGh9, nGh9, gA_set (by decide), gA_set (by decide), gA_set (by decide), gA_set (by decide), gI_set (k := 41) (by decide), gI_set (k := 35) (by decide)]
    exact nG9_codes (by omega) (by omega) (by omega)) (fun hV => by
    rcases hV with hV | hV <;> cases hV)
  refine ⟨_, (fun e => nomatch e), fun _ => p1 pc rst ini, p2, p3, p4, _, List.mem_singleton.mpr rfl, _, _, aX.rf, k.1, k.2.1, fun e he => ?_, (fun e he => nomatch he), (fun e he => nomatch he)⟩
  simp only [List.mem_cons, List.not_mem_nil, or_false] at he
  rcases he with rfl | rfl
  · exact ⟨q0, 9, _, _, rfl, p5, (nFd_lo (by decide)).trans p6, ⟨_, rfl, rfl⟩⟩
  · refine ⟨q0, 9, _, _, rfl, p5, nFd_hi (by decide), ?_⟩
    show _ = Value.int (Int32.ofInt 1)
    rw [nGh_obj hq]
    congr 1
    rw [nGh9, nG9_0, gI_at p6, hx, gA_set (by decide), gA_set (by decide), gI_set (k := 41) (by decide)]
    rw [nGh9, nG9_0, gI_at f39, a32 (by omega) (by omega)] at g1000
    rw [nGh9, nG9_8, gI_at f39, a32 (by omega) (by omega)] at g1008
    obtain ⟨n, n1, n2⟩ := (g0_iff (g := 0) (by omega) (by rw [j41]; omega) (by decide)).mp g1000
    refine (g0_iff (g := 1) (by omega) (by rw [j41]; omega) (by decide)).mpr ?_
    have ez : z0.toNat = (z1 + 0).toNat + 1 := by omega
    rw [ez]
    have c0 : (gA h fs 8 (0 + 3 * (z1 + 0).toNat)).toInt = z2 := by rw [Nat.zero_add, g1008, a32 (by omega) (by omega)]; omega
    refine ⟨n + 1, ?_, by omega⟩
    simp only [gH, n1]
    rw [if_neg (by omega), if_neg (by omega), if_pos (by omega)]
/-- top_zero -/
theorem sw_33_ok {S : List Nat} : nSv nFT nAT S (nJJ S) sw_33 := by
  intro h nu mu ws vs rst pc ini hJ hT k hw hv
  cases l0 (show 0 = nu.length from k.1.1)
  obtain ⟨q0, qr0, rfl, qe0⟩ := lc (show 1 = mu.length from k.2.1.1)
  cases l0 qe0
  have t0 : S[q0]? = some 9 := k.2.1.2 0 q0 _ rfl rfl
  obtain ⟨v0, vl0, rfl, vh0, hv0⟩ := hv.cons
  have vx0 : v0 = .int (Int32.ofInt 0) := vh0
  subst vx0
  obtain ⟨v1, vl1, rfl, vh1, hv1⟩ := hv0.cons
  have vx1 := aRr vh1 (show _ = some q0 from rfl)
  subst vx1
  have vnil : vl1 = [] := by cases vl1 with
    | nil => rfl
    | cons a b => exact hv1.elim
  subst vnil
  obtain ⟨fs, hq, hfs⟩ := hT.obj t0 (show oT 9 = some 9 from rfl)
  obtain ⟨u39, f39, a39⟩ := fc_at k (show (0, 39, .inl 0) ∈ sw_33.2.1.2.2.1 by simp [sw_33]) rfl hq
  rw [nFd_lo (by decide)] at f39
  have y39 : u39 = .int (Int32.ofInt 0) := a39
  subst y39
  have hx : (Int32.ofInt 0).toInt = 0 := by decide
  obtain ⟨p1, p2, p3, p4, p5, p6⟩ := put_ok (b := 41) (x := (Int32.ofInt 0)) (mf := sw_33.2.2.2.1) hJ hT t0 (show oT 9 = some 9 from rfl) hq hfs (rg := (0, 44)) rfl (by rw [hx]; omega) rfl (by simp [sw_33]) (fun kk h10 hk => by
    simp only [sw_33, List.mem_cons, Prod.mk.injEq, true_and, List.not_mem_nil, or_false, not_or] at hk
    rw [nGh9, nGh9, gA_set (by decide), gA_set (by decide), gA_set (by decide), gA_set (by decide), gI_set (k := 39) (by decide), gI_set (k := 35) (by decide)]
    exact nG9_top (by omega)) (fun hV => by
    rcases hV with hV | hV <;> cases hV)
  refine ⟨_, (fun e => nomatch e), fun _ => p1 pc rst ini, p2, p3, p4, _, List.mem_singleton.mpr rfl, _, _, aX.rf, k.1, k.2.1, fun e he => ?_, (fun e he => nomatch he), (fun e he => nomatch he)⟩
  simp only [List.mem_cons, List.not_mem_nil, or_false] at he
  rcases he with rfl | rfl
  · exact ⟨q0, 9, _, _, rfl, p5, (nFd_lo (by decide)).trans p6, rfl⟩
  · refine ⟨q0, 9, _, _, rfl, p5, nFd_hi (by decide), ?_⟩
    show _ = Value.int (Int32.ofInt 0)
    rw [nGh_obj hq]
    congr 1
    rw [nGh9, nG9_0, gI_at p6, hx, gI_set (by decide), gI_at f39]
    rfl
/-- top_pop_join -/
theorem sw_34_ok {S : List Nat} : nSv nFT nAT S (nJJ S) sw_34 := by
  intro h nu mu ws vs rst pc ini hJ hT k hw hv
  obtain ⟨z0, zr0, rfl, ze0⟩ := lc (show 3 = nu.length from k.1.1)
  obtain ⟨z1, zr1, rfl, ze1⟩ := lc (ze0)
  obtain ⟨z2, zr2, rfl, ze2⟩ := lc (ze1)
  cases l0 ze2
  obtain ⟨q0, qr0, rfl, qe0⟩ := lc (show 2 = mu.length from k.2.1.1)
  obtain ⟨q1, qr1, rfl, qe1⟩ := lc (qe0)
  cases l0 qe1
  have b0 : 0 ≤ z0 ∧ z0 ≤ 43 := k.1.2 0 z0 _ rfl rfl
  have b1 : 1 ≤ z1 ∧ z1 ≤ 44 := k.1.2 1 z1 _ rfl rfl
  have b2 : 21 ≤ z2 ∧ z2 ≤ 22 := k.1.2 2 z2 _ rfl rfl
  have t0 : S[q0]? = some 9 := k.2.1.2 0 q0 _ rfl rfl
  have t1 : S[q1]? = some 63 := k.2.1.2 1 q1 _ rfl rfl
  have d0 := (k.2.2.2.2 _ (show .inl ([(1, 0), ((-1), 1)], 1) ∈ sw_34.2.1.2.2.2.2 by simp [sw_34])).2
  simp only [lS, List.map_cons, List.map_nil, List.sum_cons, List.sum_nil, List.getD_cons_zero, List.getD_cons_succ] at d0
  have d1 := (k.2.2.2.2 _ (show .inl ([((-1), 0), (1, 1)], (-1)) ∈ sw_34.2.1.2.2.2.2 by simp [sw_34])).2
  simp only [lS, List.map_cons, List.map_nil, List.sum_cons, List.sum_nil, List.getD_cons_zero, List.getD_cons_succ] at d1
  obtain ⟨v0, vl0, rfl, vh0, hv0⟩ := hv.cons
  have vx0 := aRs vh0 (show _ = some z0 from rfl)
  subst vx0
  obtain ⟨v1, vl1, rfl, vh1, hv1⟩ := hv0.cons
  have vx1 := aRr vh1 (show _ = some q0 from rfl)
  subst vx1
  have vnil : vl1 = [] := by cases vl1 with
    | nil => rfl
    | cons a b => exact hv1.elim
  subst vnil
  obtain ⟨fs, hq, hfs⟩ := hT.obj t0 (show oT 9 = some 9 from rfl)
  obtain ⟨u41, f41, a41⟩ := fc_at k (show (0, 41, .inr (.inl (1, 0))) ∈ sw_34.2.1.2.2.1 by simp [sw_34]) rfl hq
  rw [nFd_lo (by decide)] at f41
  have y41 := aRs a41 (show _ = some z1 from rfl)
  subst y41
  obtain ⟨u38, f38, a38⟩ := fc_at k (show (0, 38, .inr (.inr (.inl 1))) ∈ sw_34.2.1.2.2.1 by simp [sw_34]) rfl hq
  rw [nFd_lo (by decide)] at f38
  have y38 := aRr a38 (show _ = some q1 from rfl)
  subst y38
  obtain ⟨u1000, f1000, a1000⟩ := fc_at k (show (0, 1000, .inl 1) ∈ sw_34.2.1.2.2.1 by simp [sw_34]) rfl hq
  rw [nFd_hi (by decide)] at f1000
  have y1000 : u1000 = .int (Int32.ofInt 1) := a1000
  subst y1000
  have g1000 := Value.int.inj (Option.some.inj f1000)
  have hx : (Int32.ofInt (z0 + 0)).toInt = z0 := by rw [a32 (by omega) (by omega)]; omega
  obtain ⟨x39, i39, j39, m39⟩ := int_at hfs (show nFT 9 39 = some (.inl (0, 44)) from rfl)
  obtain ⟨qq, kd, nn, ff, ii, r1, r2, r3, r4⟩ := k.2.2.2.1 _ (show (1, .inr (.inl (0, 0)), .inr (.inl (2, 0))) ∈ sw_34.2.1.2.2.2.1 by simp [sw_34])
  cases (show some q1 = some qq from r1)
  have r5 := Value.int.inj (aRs r3 (show _ = some z0 from rfl))
  have r6 := Value.int.inj (aRs r4 (show _ = some z2 from rfl))
  subst r5
  have sk2 : (gA h fs 38 z0.toNat).toInt = z2 := by
    rw [gA_at f38 r2]
    have e : (Int32.ofInt (z0 + 0)).toNatClampNeg = z0.toNat := by
      show (Int32.ofInt (z0 + 0)).toInt.toNat = _
      rw [a32 (by omega) (by omega)]
      omega
    rw [← e, r6, a32 (by omega) (by omega)]
    omega
  obtain ⟨p1, p2, p3, p4, p5, p6⟩ := put_ok (b := 41) (x := (Int32.ofInt (z0 + 0))) (mf := sw_34.2.2.2.1) hJ hT t0 (show oT 9 = some 9 from rfl) hq hfs (rg := (0, 44)) rfl (by rw [hx]; omega) rfl (by simp [sw_34]) (fun kk h10 hk => by
    simp only [sw_34, List.mem_cons, Prod.mk.injEq, true_and, List.not_mem_nil, or_false, not_or] at hk
    rw [nGh9, nGh9, gA_set (by decide), gA_set (by decide), gA_set (by decide), gA_set (by decide), gI_set (k := 39) (by decide), gI_set (k := 35) (by decide)]
    exact nG9_top (by omega)) (fun hV => by
    rcases hV with hV | hV <;> cases hV)
  refine ⟨_, (fun e => nomatch e), fun _ => p1 pc rst ini, p2, p3, p4, _, List.mem_singleton.mpr rfl, _, _, aX.rf, k.1, k.2.1, fun e he => ?_, (fun e he => nomatch he), (fun e he => nomatch he)⟩
  simp only [List.mem_cons, List.not_mem_nil, or_false] at he
  rcases he with rfl | rfl
  · exact ⟨q0, 9, _, _, rfl, p5, (nFd_lo (by decide)).trans p6, ⟨_, rfl, rfl⟩⟩
  · refine ⟨q0, 9, _, _, rfl, p5, nFd_hi (by decide), ?_⟩
    show _ = Value.int (Int32.ofInt 2)
    rw [nGh_obj hq]
    congr 1
    rw [nGh9, nG9_0, gI_at p6, hx, gA_set (by decide), gA_set (by decide), gI_set (k := 39) (by decide)]
    rw [nGh9, nG9_0, gI_at f41, a32 (by omega) (by omega)] at g1000
    obtain ⟨n, n1, n2⟩ := (g0_iff (g := 1) (by rw [j39]; omega) (by omega) (by decide)).mp g1000
    refine (g0_iff (g := 2) (by rw [j39]; omega) (by omega) (by decide)).mpr ⟨n, n1, ?_⟩
    have ez : (z1 + 0).toNat = z0.toNat + 1 := by omega
    rw [ez] at n2
    simp only [gB, sk2] at n2
    rw [if_pos (by omega)] at n2
    omega
/-- top_pop_low -/
theorem sw_35_ok {S : List Nat} : nSv nFT nAT S (nJJ S) sw_35 := by
  intro h nu mu ws vs rst pc ini hJ hT k hw hv
  obtain ⟨z0, zr0, rfl, ze0⟩ := lc (show 3 = nu.length from k.1.1)
  obtain ⟨z1, zr1, rfl, ze1⟩ := lc (ze0)
  obtain ⟨z2, zr2, rfl, ze2⟩ := lc (ze1)
  cases l0 ze2
  obtain ⟨q0, qr0, rfl, qe0⟩ := lc (show 2 = mu.length from k.2.1.1)
  obtain ⟨q1, qr1, rfl, qe1⟩ := lc (qe0)
  cases l0 qe1
  have b0 : 0 ≤ z0 ∧ z0 ≤ 43 := k.1.2 0 z0 _ rfl rfl
  have b1 : 1 ≤ z1 ∧ z1 ≤ 44 := k.1.2 1 z1 _ rfl rfl
  have b2 : (-2147483648) ≤ z2 ∧ z2 ≤ 20 := k.1.2 2 z2 _ rfl rfl
  have t0 : S[q0]? = some 9 := k.2.1.2 0 q0 _ rfl rfl
  have t1 : S[q1]? = some 63 := k.2.1.2 1 q1 _ rfl rfl
  have d0 := (k.2.2.2.2 _ (show .inl ([(1, 0), ((-1), 1)], 1) ∈ sw_35.2.1.2.2.2.2 by simp [sw_35])).2
  simp only [lS, List.map_cons, List.map_nil, List.sum_cons, List.sum_nil, List.getD_cons_zero, List.getD_cons_succ] at d0
  have d1 := (k.2.2.2.2 _ (show .inl ([((-1), 0), (1, 1)], (-1)) ∈ sw_35.2.1.2.2.2.2 by simp [sw_35])).2
  simp only [lS, List.map_cons, List.map_nil, List.sum_cons, List.sum_nil, List.getD_cons_zero, List.getD_cons_succ] at d1
  obtain ⟨v0, vl0, rfl, vh0, hv0⟩ := hv.cons
  have vx0 := aRs vh0 (show _ = some z0 from rfl)
  subst vx0
  obtain ⟨v1, vl1, rfl, vh1, hv1⟩ := hv0.cons
  have vx1 := aRr vh1 (show _ = some q0 from rfl)
  subst vx1
  have vnil : vl1 = [] := by cases vl1 with
    | nil => rfl
    | cons a b => exact hv1.elim
  subst vnil
  obtain ⟨fs, hq, hfs⟩ := hT.obj t0 (show oT 9 = some 9 from rfl)
  obtain ⟨u41, f41, a41⟩ := fc_at k (show (0, 41, .inr (.inl (1, 0))) ∈ sw_35.2.1.2.2.1 by simp [sw_35]) rfl hq
  rw [nFd_lo (by decide)] at f41
  have y41 := aRs a41 (show _ = some z1 from rfl)
  subst y41
  obtain ⟨u38, f38, a38⟩ := fc_at k (show (0, 38, .inr (.inr (.inl 1))) ∈ sw_35.2.1.2.2.1 by simp [sw_35]) rfl hq
  rw [nFd_lo (by decide)] at f38
  have y38 := aRr a38 (show _ = some q1 from rfl)
  subst y38
  obtain ⟨u1000, f1000, a1000⟩ := fc_at k (show (0, 1000, .inl 1) ∈ sw_35.2.1.2.2.1 by simp [sw_35]) rfl hq
  rw [nFd_hi (by decide)] at f1000
  have y1000 : u1000 = .int (Int32.ofInt 1) := a1000
  subst y1000
  have g1000 := Value.int.inj (Option.some.inj f1000)
  have hx : (Int32.ofInt (z0 + 0)).toInt = z0 := by rw [a32 (by omega) (by omega)]; omega
  obtain ⟨x39, i39, j39, m39⟩ := int_at hfs (show nFT 9 39 = some (.inl (0, 44)) from rfl)
  obtain ⟨qq, kd, nn, ff, ii, r1, r2, r3, r4⟩ := k.2.2.2.1 _ (show (1, .inr (.inl (0, 0)), .inr (.inl (2, 0))) ∈ sw_35.2.1.2.2.2.1 by simp [sw_35])
  cases (show some q1 = some qq from r1)
  have r5 := Value.int.inj (aRs r3 (show _ = some z0 from rfl))
  have r6 := Value.int.inj (aRs r4 (show _ = some z2 from rfl))
  subst r5
  have sk2 : (gA h fs 38 z0.toNat).toInt = z2 := by
    rw [gA_at f38 r2]
    have e : (Int32.ofInt (z0 + 0)).toNatClampNeg = z0.toNat := by
      show (Int32.ofInt (z0 + 0)).toInt.toNat = _
      rw [a32 (by omega) (by omega)]
      omega
    rw [← e, r6, a32 (by omega) (by omega)]
    omega
  obtain ⟨p1, p2, p3, p4, p5, p6⟩ := put_ok (b := 41) (x := (Int32.ofInt (z0 + 0))) (mf := sw_35.2.2.2.1) hJ hT t0 (show oT 9 = some 9 from rfl) hq hfs (rg := (0, 44)) rfl (by rw [hx]; omega) rfl (by simp [sw_35]) (fun kk h10 hk => by
    simp only [sw_35, List.mem_cons, Prod.mk.injEq, true_and, List.not_mem_nil, or_false, not_or] at hk
    rw [nGh9, nGh9, gA_set (by decide), gA_set (by decide), gA_set (by decide), gA_set (by decide), gI_set (k := 39) (by decide), gI_set (k := 35) (by decide)]
    exact nG9_top (by omega)) (fun hV => by
    rcases hV with hV | hV <;> cases hV)
  refine ⟨_, (fun e => nomatch e), fun _ => p1 pc rst ini, p2, p3, p4, _, List.mem_singleton.mpr rfl, _, _, aX.rf, k.1, k.2.1, fun e he => ?_, (fun e he => nomatch he), (fun e he => nomatch he)⟩
  simp only [List.mem_cons, List.not_mem_nil, or_false] at he
  rcases he with rfl | rfl
  · exact ⟨q0, 9, _, _, rfl, p5, (nFd_lo (by decide)).trans p6, ⟨_, rfl, rfl⟩⟩
  · refine ⟨q0, 9, _, _, rfl, p5, nFd_hi (by decide), ?_⟩
    show _ = Value.int (Int32.ofInt 1)
    rw [nGh_obj hq]
    congr 1
    rw [nGh9, nG9_0, gI_at p6, hx, gA_set (by decide), gA_set (by decide), gI_set (k := 39) (by decide)]
    rw [nGh9, nG9_0, gI_at f41, a32 (by omega) (by omega)] at g1000
    obtain ⟨n, n1, n2⟩ := (g0_iff (g := 1) (by rw [j39]; omega) (by omega) (by decide)).mp g1000
    refine (g0_iff (g := 1) (by rw [j39]; omega) (by omega) (by decide)).mpr ⟨n, n1, ?_⟩
    have ez : (z1 + 0).toNat = z0.toNat + 1 := by omega
    rw [ez] at n2
    simp only [gB, sk2] at n2
    rw [if_neg (by omega)] at n2
    omega
/-- top_pop_high -/
theorem sw_36_ok {S : List Nat} : nSv nFT nAT S (nJJ S) sw_36 := by
  intro h nu mu ws vs rst pc ini hJ hT k hw hv
  obtain ⟨z0, zr0, rfl, ze0⟩ := lc (show 3 = nu.length from k.1.1)
  obtain ⟨z1, zr1, rfl, ze1⟩ := lc (ze0)
  obtain ⟨z2, zr2, rfl, ze2⟩ := lc (ze1)
  cases l0 ze2
  obtain ⟨q0, qr0, rfl, qe0⟩ := lc (show 2 = mu.length from k.2.1.1)
  obtain ⟨q1, qr1, rfl, qe1⟩ := lc (qe0)
  cases l0 qe1
  have b0 : 0 ≤ z0 ∧ z0 ≤ 43 := k.1.2 0 z0 _ rfl rfl
  have b1 : 1 ≤ z1 ∧ z1 ≤ 44 := k.1.2 1 z1 _ rfl rfl
  have b2 : 23 ≤ z2 ∧ z2 ≤ 2147483647 := k.1.2 2 z2 _ rfl rfl
  have t0 : S[q0]? = some 9 := k.2.1.2 0 q0 _ rfl rfl
  have t1 : S[q1]? = some 63 := k.2.1.2 1 q1 _ rfl rfl
  have d0 := (k.2.2.2.2 _ (show .inl ([(1, 0), ((-1), 1)], 1) ∈ sw_36.2.1.2.2.2.2 by simp [sw_36])).2
  simp only [lS, List.map_cons, List.map_nil, List.sum_cons, List.sum_nil, List.getD_cons_zero, List.getD_cons_succ] at d0
  have d1 := (k.2.2.2.2 _ (show .inl ([((-1), 0), (1, 1)], (-1)) ∈ sw_36.2.1.2.2.2.2 by simp [sw_36])).2
  simp only [lS, List.map_cons, List.map_nil, List.sum_cons, List.sum_nil, List.getD_cons_zero, List.getD_cons_succ] at d1
  obtain ⟨v0, vl0, rfl, vh0, hv0⟩ := hv.cons
  have vx0 := aRs vh0 (show _ = some z0 from rfl)
  subst vx0
  obtain ⟨v1, vl1, rfl, vh1, hv1⟩ := hv0.cons
  have vx1 := aRr vh1 (show _ = some q0 from rfl)
  subst vx1
  have vnil : vl1 = [] := by cases vl1 with
    | nil => rfl
    | cons a b => exact hv1.elim
  subst vnil
  obtain ⟨fs, hq, hfs⟩ := hT.obj t0 (show oT 9 = some 9 from rfl)
  obtain ⟨u41, f41, a41⟩ := fc_at k (show (0, 41, .inr (.inl (1, 0))) ∈ sw_36.2.1.2.2.1 by simp [sw_36]) rfl hq
  rw [nFd_lo (by decide)] at f41
  have y41 := aRs a41 (show _ = some z1 from rfl)
  subst y41
  obtain ⟨u38, f38, a38⟩ := fc_at k (show (0, 38, .inr (.inr (.inl 1))) ∈ sw_36.2.1.2.2.1 by simp [sw_36]) rfl hq
  rw [nFd_lo (by decide)] at f38
  have y38 := aRr a38 (show _ = some q1 from rfl)
  subst y38
  obtain ⟨u1000, f1000, a1000⟩ := fc_at k (show (0, 1000, .inl 1) ∈ sw_36.2.1.2.2.1 by simp [sw_36]) rfl hq
  rw [nFd_hi (by decide)] at f1000
  have y1000 : u1000 = .int (Int32.ofInt 1) := a1000
  subst y1000
  have g1000 := Value.int.inj (Option.some.inj f1000)
  have hx : (Int32.ofInt (z0 + 0)).toInt = z0 := by rw [a32 (by omega) (by omega)]; omega
  obtain ⟨x39, i39, j39, m39⟩ := int_at hfs (show nFT 9 39 = some (.inl (0, 44)) from rfl)
  obtain ⟨qq, kd, nn, ff, ii, r1, r2, r3, r4⟩ := k.2.2.2.1 _ (show (1, .inr (.inl (0, 0)), .inr (.inl (2, 0))) ∈ sw_36.2.1.2.2.2.1 by simp [sw_36])
  cases (show some q1 = some qq from r1)
  have r5 := Value.int.inj (aRs r3 (show _ = some z0 from rfl))
  have r6 := Value.int.inj (aRs r4 (show _ = some z2 from rfl))
  subst r5
  have sk2 : (gA h fs 38 z0.toNat).toInt = z2 := by
    rw [gA_at f38 r2]
    have e : (Int32.ofInt (z0 + 0)).toNatClampNeg = z0.toNat := by
      show (Int32.ofInt (z0 + 0)).toInt.toNat = _
      rw [a32 (by omega) (by omega)]
      omega
    rw [← e, r6, a32 (by omega) (by omega)]
    omega
  obtain ⟨p1, p2, p3, p4, p5, p6⟩ := put_ok (b := 41) (x := (Int32.ofInt (z0 + 0))) (mf := sw_36.2.2.2.1) hJ hT t0 (show oT 9 = some 9 from rfl) hq hfs (rg := (0, 44)) rfl (by rw [hx]; omega) rfl (by simp [sw_36]) (fun kk h10 hk => by
    simp only [sw_36, List.mem_cons, Prod.mk.injEq, true_and, List.not_mem_nil, or_false, not_or] at hk
    rw [nGh9, nGh9, gA_set (by decide), gA_set (by decide), gA_set (by decide), gA_set (by decide), gI_set (k := 39) (by decide), gI_set (k := 35) (by decide)]
    exact nG9_top (by omega)) (fun hV => by
    rcases hV with hV | hV <;> cases hV)
  refine ⟨_, (fun e => nomatch e), fun _ => p1 pc rst ini, p2, p3, p4, _, List.mem_singleton.mpr rfl, _, _, aX.rf, k.1, k.2.1, fun e he => ?_, (fun e he => nomatch he), (fun e he => nomatch he)⟩
  simp only [List.mem_cons, List.not_mem_nil, or_false] at he
  rcases he with rfl | rfl
  · exact ⟨q0, 9, _, _, rfl, p5, (nFd_lo (by decide)).trans p6, ⟨_, rfl, rfl⟩⟩
  · refine ⟨q0, 9, _, _, rfl, p5, nFd_hi (by decide), ?_⟩
    show _ = Value.int (Int32.ofInt 1)
    rw [nGh_obj hq]
    congr 1
    rw [nGh9, nG9_0, gI_at p6, hx, gA_set (by decide), gA_set (by decide), gI_set (k := 39) (by decide)]
    rw [nGh9, nG9_0, gI_at f41, a32 (by omega) (by omega)] at g1000
    obtain ⟨n, n1, n2⟩ := (g0_iff (g := 1) (by rw [j39]; omega) (by omega) (by decide)).mp g1000
    refine (g0_iff (g := 1) (by rw [j39]; omega) (by omega) (by decide)).mpr ⟨n, n1, ?_⟩
    have ez : (z1 + 0).toNat = z0.toNat + 1 := by omega
    rw [ez] at n2
    simp only [gB, sk2] at n2
    rw [if_neg (by omega)] at n2
    omega
/-- top_push_join -/
theorem sw_37_ok {S : List Nat} : nSv nFT nAT S (nJJ S) sw_37 := by
  intro h nu mu ws vs rst pc ini hJ hT k hw hv
  obtain ⟨z0, zr0, rfl, ze0⟩ := lc (show 3 = nu.length from k.1.1)
  obtain ⟨z1, zr1, rfl, ze1⟩ := lc (ze0)
  obtain ⟨z2, zr2, rfl, ze2⟩ := lc (ze1)
  cases l0 ze2
  obtain ⟨q0, qr0, rfl, qe0⟩ := lc (show 2 = mu.length from k.2.1.1)
  obtain ⟨q1, qr1, rfl, qe1⟩ := lc (qe0)
  cases l0 qe1
  have b0 : 1 ≤ z0 ∧ z0 ≤ 44 := k.1.2 0 z0 _ rfl rfl
  have b1 : 0 ≤ z1 ∧ z1 ≤ 43 := k.1.2 1 z1 _ rfl rfl
  have b2 : 21 ≤ z2 ∧ z2 ≤ 22 := k.1.2 2 z2 _ rfl rfl
  have t0 : S[q0]? = some 9 := k.2.1.2 0 q0 _ rfl rfl
  have t1 : S[q1]? = some 63 := k.2.1.2 1 q1 _ rfl rfl
  have d0 := (k.2.2.2.2 _ (show .inl ([(1, 0), ((-1), 1)], (-1)) ∈ sw_37.2.1.2.2.2.2 by simp [sw_37])).2
  simp only [lS, List.map_cons, List.map_nil, List.sum_cons, List.sum_nil, List.getD_cons_zero, List.getD_cons_succ] at d0
  have d1 := (k.2.2.2.2 _ (show .inl ([((-1), 0), (1, 1)], 1) ∈ sw_37.2.1.2.2.2.2 by simp [sw_37])).2
  simp only [lS, List.map_cons, List.map_nil, List.sum_cons, List.sum_nil, List.getD_cons_zero, List.getD_cons_succ] at d1
  obtain ⟨v0, vl0, rfl, vh0, hv0⟩ := hv.cons
  have vx0 := aRs vh0 (show _ = some z0 from rfl)
  subst vx0
  obtain ⟨v1, vl1, rfl, vh1, hv1⟩ := hv0.cons
  have vx1 := aRr vh1 (show _ = some q0 from rfl)
  subst vx1
  have vnil : vl1 = [] := by cases vl1 with
    | nil => rfl
    | cons a b => exact hv1.elim
  subst vnil
  obtain ⟨fs, hq, hfs⟩ := hT.obj t0 (show oT 9 = some 9 from rfl)
  obtain ⟨u41, f41, a41⟩ := fc_at k (show (0, 41, .inr (.inl (1, 0))) ∈ sw_37.2.1.2.2.1 by simp [sw_37]) rfl hq
  rw [nFd_lo (by decide)] at f41
  have y41 := aRs a41 (show _ = some z1 from rfl)
  subst y41
  obtain ⟨u38, f38, a38⟩ := fc_at k (show (0, 38, .inr (.inr (.inl 1))) ∈ sw_37.2.1.2.2.1 by simp [sw_37]) rfl hq
  rw [nFd_lo (by decide)] at f38
  have y38 := aRr a38 (show _ = some q1 from rfl)
  subst y38
  obtain ⟨u1000, f1000, a1000⟩ := fc_at k (show (0, 1000, .inl 1) ∈ sw_37.2.1.2.2.1 by simp [sw_37]) rfl hq
  rw [nFd_hi (by decide)] at f1000
  have y1000 : u1000 = .int (Int32.ofInt 1) := a1000
  subst y1000
  have g1000 := Value.int.inj (Option.some.inj f1000)
  have hx : (Int32.ofInt (z0 + 0)).toInt = z0 := by rw [a32 (by omega) (by omega)]; omega
  obtain ⟨x39, i39, j39, m39⟩ := int_at hfs (show nFT 9 39 = some (.inl (0, 44)) from rfl)
  obtain ⟨qq, kd, nn, ff, ii, r1, r2, r3, r4⟩ := k.2.2.2.1 _ (show (1, .inr (.inl (1, 0)), .inr (.inl (2, 0))) ∈ sw_37.2.1.2.2.2.1 by simp [sw_37])
  cases (show some q1 = some qq from r1)
  have r5 := Value.int.inj (aRs r3 (show _ = some z1 from rfl))
  have r6 := Value.int.inj (aRs r4 (show _ = some z2 from rfl))
  subst r5
  have sk2 : (gA h fs 38 (z1 + 0).toNat).toInt = z2 := by
    rw [gA_at f38 r2]
    have e : (Int32.ofInt (z1 + 0)).toNatClampNeg = (z1 + 0).toNat := by
      show (Int32.ofInt (z1 + 0)).toInt.toNat = _
      rw [a32 (by omega) (by omega)]
    rw [← e, r6, a32 (by omega) (by omega)]
    omega
  obtain ⟨p1, p2, p3, p4, p5, p6⟩ := put_ok (b := 41) (x := (Int32.ofInt (z0 + 0))) (mf := sw_37.2.2.2.1) hJ hT t0 (show oT 9 = some 9 from rfl) hq hfs (rg := (0, 44)) rfl (by rw [hx]; omega) rfl (by simp [sw_37]) (fun kk h10 hk => by
    simp only [sw_37, List.mem_cons, Prod.mk.injEq, true_and, List.not_mem_nil, or_false, not_or] at hk
    rw [nGh9, nGh9, gA_set (by decide), gA_set (by decide), gA_set (by decide), gA_set (by decide), gI_set (k := 39) (by decide), gI_set (k := 35) (by decide)]
    exact nG9_top (by omega)) (fun hV => by
    rcases hV with hV | hV <;> cases hV)
  refine ⟨_, (fun e => nomatch e), fun _ => p1 pc rst ini, p2, p3, p4, _, List.mem_singleton.mpr rfl, _, _, aX.rf, k.1, k.2.1, fun e he => ?_, (fun e he => nomatch he), (fun e he => nomatch he)⟩
  simp only [List.mem_cons, List.not_mem_nil, or_false] at he
  rcases he with rfl | rfl
  · exact ⟨q0, 9, _, _, rfl, p5, (nFd_lo (by decide)).trans p6, ⟨_, rfl, rfl⟩⟩
  · refine ⟨q0, 9, _, _, rfl, p5, nFd_hi (by decide), ?_⟩
    show _ = Value.int (Int32.ofInt 0)
    rw [nGh_obj hq]
    congr 1
    rw [nGh9, nG9_0, gI_at p6, hx, gA_set (by decide), gA_set (by decide), gI_set (k := 39) (by decide)]
    rw [nGh9, nG9_0, gI_at f41, a32 (by omega) (by omega)] at g1000
    obtain ⟨n, n1, n2⟩ := (g0_iff (g := 1) (by rw [j39]; omega) (by omega) (by decide)).mp g1000
    refine (g0_iff (g := 0) (by rw [j39]; omega) (by omega) (by decide)).mpr ⟨n, n1, ?_⟩
    have ez : z0.toNat = (z1 + 0).toNat + 1 := by omega
    rw [ez]
    simp only [gB, sk2]
    rw [if_pos (by omega)]
    omega
/-- top_push_low -/
theorem sw_38_ok {S : List Nat} : nSv nFT nAT S (nJJ S) sw_38 := by
  intro h nu mu ws vs rst pc ini hJ hT k hw hv
  obtain ⟨z0, zr0, rfl, ze0⟩ := lc (show 3 = nu.length from k.1.1)
  obtain ⟨z1, zr1, rfl, ze1⟩ := lc (ze0)
  obtain ⟨z2, zr2, rfl, ze2⟩ := lc (ze1)
  cases l0 ze2
  obtain ⟨q0, qr0, rfl, qe0⟩ := lc (show 2 = mu.length from k.2.1.1)
  obtain ⟨q1, qr1, rfl, qe1⟩ := lc (qe0)
  cases l0 qe1
  have b0 : 1 ≤ z0 ∧ z0 ≤ 44 := k.1.2 0 z0 _ rfl rfl
  have b1 : 0 ≤ z1 ∧ z1 ≤ 43 := k.1.2 1 z1 _ rfl rfl
  have b2 : (-2147483648) ≤ z2 ∧ z2 ≤ 20 := k.1.2 2 z2 _ rfl rfl
  have t0 : S[q0]? = some 9 := k.2.1.2 0 q0 _ rfl rfl
  have t1 : S[q1]? = some 63 := k.2.1.2 1 q1 _ rfl rfl
  have d0 := (k.2.2.2.2 _ (show .inl ([(1, 0), ((-1), 1)], (-1)) ∈ sw_38.2.1.2.2.2.2 by simp [sw_38])).2
  simp only [lS, List.map_cons, List.map_nil, List.sum_cons, List.sum_nil, List.getD_cons_zero, List.getD_cons_succ] at d0
  have d1 := (k.2.2.2.2 _ (show .inl ([((-1), 0), (1, 1)], 1) ∈ sw_38.2.1.2.2.2.2 by simp [sw_38])).2
  simp only [lS, List.map_cons, List.map_nil, List.sum_cons, List.sum_nil, List.getD_cons_zero, List.getD_cons_succ] at d1
  obtain ⟨v0, vl0, rfl, vh0, hv0⟩ := hv.cons
  have vx0 := aRs vh0 (show _ = some z0 from rfl)
  subst vx0
  obtain ⟨v1, vl1, rfl, vh1, hv1⟩ := hv0.cons
  have vx1 := aRr vh1 (show _ = some q0 from rfl)
  subst vx1
  have vnil : vl1 = [] := by cases vl1 with
    | nil => rfl
    | cons a b => exact hv1.elim
  subst vnil
  obtain ⟨fs, hq, hfs⟩ := hT.obj t0 (show oT 9 = some 9 from rfl)
  obtain ⟨u41, f41, a41⟩ := fc_at k (show (0, 41, .inr (.inl (1, 0))) ∈ sw_38.2.1.2.2.1 by simp [sw_38]) rfl hq
  rw [nFd_lo (by decide)] at f41
  have y41 := aRs a41 (show _ = some z1 from rfl)
  subst y41
  obtain ⟨u38, f38, a38⟩ := fc_at k (show (0, 38, .inr (.inr (.inl 1))) ∈ sw_38.2.1.2.2.1 by simp [sw_38]) rfl hq
  rw [nFd_lo (by decide)] at f38
  have y38 := aRr a38 (show _ = some q1 from rfl)
  subst y38
  obtain ⟨u1000, f1000, a1000⟩ := fc_at k (show (0, 1000, .inl 0) ∈ sw_38.2.1.2.2.1 by simp [sw_38]) rfl hq
  rw [nFd_hi (by decide)] at f1000
  have y1000 : u1000 = .int (Int32.ofInt 0) := a1000
  subst y1000
  have g1000 := Value.int.inj (Option.some.inj f1000)
  have hx : (Int32.ofInt (z0 + 0)).toInt = z0 := by rw [a32 (by omega) (by omega)]; omega
  obtain ⟨x39, i39, j39, m39⟩ := int_at hfs (show nFT 9 39 = some (.inl (0, 44)) from rfl)
  obtain ⟨qq, kd, nn, ff, ii, r1, r2, r3, r4⟩ := k.2.2.2.1 _ (show (1, .inr (.inl (1, 0)), .inr (.inl (2, 0))) ∈ sw_38.2.1.2.2.2.1 by simp [sw_38])
  cases (show some q1 = some qq from r1)
  have r5 := Value.int.inj (aRs r3 (show _ = some z1 from rfl))
  have r6 := Value.int.inj (aRs r4 (show _ = some z2 from rfl))
  subst r5
  have sk2 : (gA h fs 38 (z1 + 0).toNat).toInt = z2 := by
    rw [gA_at f38 r2]
    have e : (Int32.ofInt (z1 + 0)).toNatClampNeg = (z1 + 0).toNat := by
      show (Int32.ofInt (z1 + 0)).toInt.toNat = _
      rw [a32 (by omega) (by omega)]
    rw [← e, r6, a32 (by omega) (by omega)]
    omega
  obtain ⟨p1, p2, p3, p4, p5, p6⟩ := put_ok (b := 41) (x := (Int32.ofInt (z0 + 0))) (mf := sw_38.2.2.2.1) hJ hT t0 (show oT 9 = some 9 from rfl) hq hfs (rg := (0, 44)) rfl (by rw [hx]; omega) rfl (by simp [sw_38]) (fun kk h10 hk => by
    simp only [sw_38, List.mem_cons, Prod.mk.injEq, true_and, List.not_mem_nil, or_false, not_or] at hk
    rw [nGh9, nGh9, gA_set (by decide), gA_set (by decide), gA_set (by decide), gA_set (by decide), gI_set (k := 39) (by decide), gI_set (k := 35) (by decide)]
    exact nG9_top (by omega)) (fun hV => by
    rcases hV with hV | hV <;> cases hV)
  refine ⟨_, (fun e => nomatch e), fun _ => p1 pc rst ini, p2, p3, p4, _, List.mem_singleton.mpr rfl, _, _, aX.rf, k.1, k.2.1, fun e he => ?_, (fun e he => nomatch he), (fun e he => nomatch he)⟩
  simp only [List.mem_cons, List.not_mem_nil, or_false] at he
  rcases he with rfl | rfl
  · exact ⟨q0, 9, _, _, rfl, p5, (nFd_lo (by decide)).trans p6, ⟨_, rfl, rfl⟩⟩
  · refine ⟨q0, 9, _, _, rfl, p5, nFd_hi (by decide), ?_⟩
    show _ = Value.int (Int32.ofInt 0)
    rw [nGh_obj hq]
    congr 1
    rw [nGh9, nG9_0, gI_at p6, hx, gA_set (by decide), gA_set (by decide), gI_set (k := 39) (by decide)]
    rw [nGh9, nG9_0, gI_at f41, a32 (by omega) (by omega)] at g1000
    obtain ⟨n, n1, n2⟩ := (g0_iff (g := 0) (by rw [j39]; omega) (by omega) (by decide)).mp g1000
    refine (g0_iff (g := 0) (by rw [j39]; omega) (by omega) (by decide)).mpr ⟨n, n1, ?_⟩
    have ez : z0.toNat = (z1 + 0).toNat + 1 := by omega
    rw [ez]
    simp only [gB, sk2]
    rw [if_neg (by omega)]
    omega
/-- top_push_high -/
theorem sw_39_ok {S : List Nat} : nSv nFT nAT S (nJJ S) sw_39 := by
  intro h nu mu ws vs rst pc ini hJ hT k hw hv
  obtain ⟨z0, zr0, rfl, ze0⟩ := lc (show 3 = nu.length from k.1.1)
  obtain ⟨z1, zr1, rfl, ze1⟩ := lc (ze0)
  obtain ⟨z2, zr2, rfl, ze2⟩ := lc (ze1)
  cases l0 ze2
  obtain ⟨q0, qr0, rfl, qe0⟩ := lc (show 2 = mu.length from k.2.1.1)
  obtain ⟨q1, qr1, rfl, qe1⟩ := lc (qe0)
  cases l0 qe1
  have b0 : 1 ≤ z0 ∧ z0 ≤ 44 := k.1.2 0 z0 _ rfl rfl
  have b1 : 0 ≤ z1 ∧ z1 ≤ 43 := k.1.2 1 z1 _ rfl rfl
  have b2 : 23 ≤ z2 ∧ z2 ≤ 2147483647 := k.1.2 2 z2 _ rfl rfl
  have t0 : S[q0]? = some 9 := k.2.1.2 0 q0 _ rfl rfl
  have t1 : S[q1]? = some 63 := k.2.1.2 1 q1 _ rfl rfl
  have d0 := (k.2.2.2.2 _ (show .inl ([(1, 0), ((-1), 1)], (-1)) ∈ sw_39.2.1.2.2.2.2 by simp [sw_39])).2
  simp only [lS, List.map_cons, List.map_nil, List.sum_cons, List.sum_nil, List.getD_cons_zero, List.getD_cons_succ] at d0
  have d1 := (k.2.2.2.2 _ (show .inl ([((-1), 0), (1, 1)], 1) ∈ sw_39.2.1.2.2.2.2 by simp [sw_39])).2
  simp only [lS, List.map_cons, List.map_nil, List.sum_cons, List.sum_nil, List.getD_cons_zero, List.getD_cons_succ] at d1
  obtain ⟨v0, vl0, rfl, vh0, hv0⟩ := hv.cons
  have vx0 := aRs vh0 (show _ = some z0 from rfl)
  subst vx0
  obtain ⟨v1, vl1, rfl, vh1, hv1⟩ := hv0.cons
  have vx1 := aRr vh1 (show _ = some q0 from rfl)
  subst vx1
  have vnil : vl1 = [] := by cases vl1 with
    | nil => rfl
    | cons a b => exact hv1.elim
  subst vnil
  obtain ⟨fs, hq, hfs⟩ := hT.obj t0 (show oT 9 = some 9 from rfl)
  obtain ⟨u41, f41, a41⟩ := fc_at k (show (0, 41, .inr (.inl (1, 0))) ∈ sw_39.2.1.2.2.1 by simp [sw_39]) rfl hq
  rw [nFd_lo (by decide)] at f41
  have y41 := aRs a41 (show _ = some z1 from rfl)
  subst y41
  obtain ⟨u38, f38, a38⟩ := fc_at k (show (0, 38, .inr (.inr (.inl 1))) ∈ sw_39.2.1.2.2.1 by simp [sw_39]) rfl hq
  rw [nFd_lo (by decide)] at f38
  have y38 := aRr a38 (show _ = some q1 from rfl)
  subst y38
  obtain ⟨u1000, f1000, a1000⟩ := fc_at k (show (0, 1000, .inl 0) ∈ sw_39.2.1.2.2.1 by simp [sw_39]) rfl hq
  rw [nFd_hi (by decide)] at f1000
  have y1000 : u1000 = .int (Int32.ofInt 0) := a1000
  subst y1000
  have g1000 := Value.int.inj (Option.some.inj f1000)
  have hx : (Int32.ofInt (z0 + 0)).toInt = z0 := by rw [a32 (by omega) (by omega)]; omega
  obtain ⟨x39, i39, j39, m39⟩ := int_at hfs (show nFT 9 39 = some (.inl (0, 44)) from rfl)
  obtain ⟨qq, kd, nn, ff, ii, r1, r2, r3, r4⟩ := k.2.2.2.1 _ (show (1, .inr (.inl (1, 0)), .inr (.inl (2, 0))) ∈ sw_39.2.1.2.2.2.1 by simp [sw_39])
  cases (show some q1 = some qq from r1)
  have r5 := Value.int.inj (aRs r3 (show _ = some z1 from rfl))
  have r6 := Value.int.inj (aRs r4 (show _ = some z2 from rfl))
  subst r5
  have sk2 : (gA h fs 38 (z1 + 0).toNat).toInt = z2 := by
    rw [gA_at f38 r2]
    have e : (Int32.ofInt (z1 + 0)).toNatClampNeg = (z1 + 0).toNat := by
      show (Int32.ofInt (z1 + 0)).toInt.toNat = _
      rw [a32 (by omega) (by omega)]
    rw [← e, r6, a32 (by omega) (by omega)]
    omega
  obtain ⟨p1, p2, p3, p4, p5, p6⟩ := put_ok (b := 41) (x := (Int32.ofInt (z0 + 0))) (mf := sw_39.2.2.2.1) hJ hT t0 (show oT 9 = some 9 from rfl) hq hfs (rg := (0, 44)) rfl (by rw [hx]; omega) rfl (by simp [sw_39]) (fun kk h10 hk => by
    simp only [sw_39, List.mem_cons, Prod.mk.injEq, true_and, List.not_mem_nil, or_false, not_or] at hk
    rw [nGh9, nGh9, gA_set (by decide), gA_set (by decide), gA_set (by decide), gA_set (by decide), gI_set (k := 39) (by decide), gI_set (k := 35) (by decide)]
    exact nG9_top (by omega)) (fun hV => by
    rcases hV with hV | hV <;> cases hV)
  refine ⟨_, (fun e => nomatch e), fun _ => p1 pc rst ini, p2, p3, p4, _, List.mem_singleton.mpr rfl, _, _, aX.rf, k.1, k.2.1, fun e he => ?_, (fun e he => nomatch he), (fun e he => nomatch he)⟩
  simp only [List.mem_cons, List.not_mem_nil, or_false] at he
  rcases he with rfl | rfl
  · exact ⟨q0, 9, _, _, rfl, p5, (nFd_lo (by decide)).trans p6, ⟨_, rfl, rfl⟩⟩
  · refine ⟨q0, 9, _, _, rfl, p5, nFd_hi (by decide), ?_⟩
    show _ = Value.int (Int32.ofInt 0)
    rw [nGh_obj hq]
    congr 1
    rw [nGh9, nG9_0, gI_at p6, hx, gA_set (by decide), gA_set (by decide), gI_set (k := 39) (by decide)]
    rw [nGh9, nG9_0, gI_at f41, a32 (by omega) (by omega)] at g1000
    obtain ⟨n, n1, n2⟩ := (g0_iff (g := 0) (by rw [j39]; omega) (by omega) (by decide)).mp g1000
    refine (g0_iff (g := 0) (by rw [j39]; omega) (by omega) (by decide)).mpr ⟨n, n1, ?_⟩
    have ez : z0.toNat = (z1 + 0).toNat + 1 := by omega
    rw [ez]
    simp only [gB, sk2]
    rw [if_neg (by omega)]
    omega
