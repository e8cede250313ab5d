def gp_0 : aS := ([(0, 39), (0, 40), (107, 107), (0, 9), (0, 3)], [6, 38, 39, 40], [(0, 1, .inr (.inr (.inl 2))), (0, 2, .inr (.inr (.inl 3)))], [(2, .inr (.inl (0, 0)), .inr (.inl (3, 0))), (3, .inr (.inl (0, 0)), .inr (.inl (4, 0)))], [])
theorem gp_0_mem : gp_0 ∈ gh_0.2.2.2.2.2 := List.mem_cons_self
theorem gh_0_ok {S : List Nat} : nGv nFT nAT S (nJJ S) gh_0 := by
  intro h nu mu vs hJ hT k hv
  obtain ⟨z0, zr0, rfl, ze0⟩ := lc (show 3 = nu.length from k.1.1)
  obtain ⟨z1, zr1, rfl, ze1⟩ := lc (ze0)
  obtain ⟨z2, zr2, rfl, ze2⟩ := lc (ze1)
  cases l0 ze2
  obtain ⟨q0, qr0, rfl, qe0⟩ := lc (show 2 = mu.length from k.2.1.1)
  obtain ⟨q1, qr1, rfl, qe1⟩ := lc (qe0)
  cases l0 qe1
  have b0 : 0 ≤ z0 ∧ z0 ≤ 39 := k.1.2 0 z0 _ rfl rfl
  have b1 : 0 ≤ z1 ∧ z1 ≤ 40 := k.1.2 1 z1 _ rfl rfl
  have b2 : 107 ≤ z2 ∧ z2 ≤ 107 := k.1.2 2 z2 _ rfl rfl
  have t0 : S[q0]? = some 6 := k.2.1.2 0 q0 _ rfl rfl
  have t1 : S[q1]? = some 38 := k.2.1.2 1 q1 _ rfl rfl
  have d0 := (k.2.2.2.2 _ (show .inl ([(1, 0), ((-1), 1)], 1) ∈ gh_0.2.2.2.1.2.2.2.2 by simp [gh_0])).2
  simp only [lS, List.map_cons, List.map_nil, List.sum_cons, List.sum_nil, List.getD_cons_zero, List.getD_cons_succ] at d0
  obtain ⟨fs, hq, hfs⟩ := hT.obj t0 (show oT 6 = some 6 from rfl)
  obtain ⟨u0, f0, a0⟩ := fc_at k (show (0, 0, .inr (.inr (.inl 1))) ∈ gh_0.2.2.2.1.2.2.1 by simp [gh_0]) rfl hq
  rw [nFd_lo (by decide)] at f0
  have y0 := aRr a0 (show _ = some q1 from rfl)
  subst y0
  obtain ⟨u3, f3, a3⟩ := fc_at k (show (0, 3, .inr (.inl (1, 0))) ∈ gh_0.2.2.2.1.2.2.1 by simp [gh_0]) rfl hq
  rw [nFd_lo (by decide)] at f3
  have y3 := aRs a3 (show _ = some z1 from rfl)
  subst y3
  obtain ⟨mq, mk, mn, mf, mi, m1, m2, m3, m4⟩ := k.2.2.2.1 _ (show (1, .inr (.inl (0, 0)), .inr (.inl (2, 0))) ∈ gh_0.2.2.2.1.2.2.2.1 by simp [gh_0])
  cases (show some q1 = some mq from m1)
  have m5 := Value.int.inj (aRs m3 (show _ = some z0 from rfl))
  have m6 := Value.int.inj (aRs m4 (show _ = some z2 from rfl))
  subst m5
  have mv : (gA h fs 0 (z0 + 0).toNat).toInt = z2 := by
    rw [gA_at f0 m2]
    have e : (Int32.ofInt (z0 + 0)).toNatClampNeg = (z0 + 0).toNat := by
      show (Int32.ofInt (z0 + 0)).toInt.toNat = _
      rw [a32 (by omega) (by omega)]
    rw [← e, m6, a32 (by omega) (by omega)]
    omega
  obtain ⟨r1, v1, i1, s1, hr1, hg1, -⟩ := row_at hT hfs (show nFT 6 1 = some (.inr (.inl 39)) from rfl) (show nAT 39 = some (0, 40, .inl [(40, (-2147483648), 2147483647, true)]) from rfl) rfl
  obtain ⟨r2, v2, i2, s2, hr2, hg2, -⟩ := row_at hT hfs (show nFT 6 2 = some (.inr (.inl 40)) from rfl) (show nAT 40 = some (0, 40, .inl [(40, (-2147483648), 2147483647, true)]) from rfl) rfl
  have hold := hJ.1 q0 6 6 fs t0 (.inr rfl) hq
  rw [nGh6, gI_at f3, a32 (by omega) (by omega)] at hold
  have w := gAll_one.mp hold (z0 + 0).toNat (by omega)
  rw [decide_eq_true_eq] at w
  rw [mv, hg1, hg2] at w
  have x1 : (-2147483648 : Int) ≤ (v1 (z0 + 0).toNat).toInt := Int32.le_toInt _
  have x2 : (v1 (z0 + 0).toNat).toInt < 2147483648 := Int32.toInt_lt _
  have x3 : (-2147483648 : Int) ≤ (v2 (z0 + 0).toNat).toInt := Int32.le_toInt _
  have x4 : (v2 (z0 + 0).toNat).toInt < 2147483648 := Int32.toInt_lt _
  have hX : aX [z0, z1, z2] [q0, q1] [z0, z1, z2, (v1 (z0 + 0).toNat).toInt, (v2 (z0 + 0).toNat).toInt] [q0, q1, r1, r2] := ⟨[(v1 (z0 + 0).toNat).toInt, (v2 (z0 + 0).toNat).toInt], [r1, r2], rfl, rfl⟩
  have ei : (Int32.ofInt (z0 + 0)).toNatClampNeg = (z0 + 0).toNat := by
    show (Int32.ofInt (z0 + 0)).toInt.toNat = _
    rw [a32 (by omega) (by omega)]
  refine ⟨gp_0, gp_0_mem, _, _, hX, aE5 b0 b1 b2 ⟨?_, ?_⟩ ⟨?_, ?_⟩, tau4 t0 t1 s1 s2, fun e he => ?_, fun e he => ?_, (fun e he => nomatch he)⟩
  · simp only; omega
  · simp only; omega
  · simp only; omega
  · simp only; omega
  · simp only [gp_0, List.mem_cons, List.not_mem_nil, or_false] at he
    rcases he with rfl | rfl
    · exact ⟨q0, 6, fs, _, rfl, hq, (nFd_lo (by decide)).trans i1, ⟨r1, rfl, rfl⟩⟩
    · exact ⟨q0, 6, fs, _, rfl, hq, (nFd_lo (by decide)).trans i2, ⟨r2, rfl, rfl⟩⟩
  · simp only [gp_0, List.mem_cons, List.not_mem_nil, or_false] at he
    rcases he with rfl | rfl
    · exact ⟨r1, 0, _, v1, Int32.ofInt (z0 + 0), rfl, hr1, ⟨z0, rfl, rfl⟩, aRi rfl (by rw [ei]; exact (Int.add_zero _).symm)⟩
    · exact ⟨r2, 0, _, v2, Int32.ofInt (z0 + 0), rfl, hr2, ⟨z0, rfl, rfl⟩, aRi rfl (by rw [ei]; exact (Int.add_zero _).symm)⟩
def gp_1 : aS := ([(0, 39), (0, 40), (108, 108), (0, 9), ((-2147483648), 2147483647)], [6, 38, 39, 40], [(0, 1, .inr (.inr (.inl 2))), (0, 2, .inr (.inr (.inl 3)))], [(2, .inr (.inl (0, 0)), .inr (.inl (3, 0))), (3, .inr (.inl (0, 0)), .inr (.inl (4, 0)))], [])
theorem gp_1_mem : gp_1 ∈ gh_1.2.2.2.2.2 := List.mem_cons_self
theorem gh_1_ok {S : List Nat} : nGv nFT nAT S (nJJ S) gh_1 := by
  intro h nu mu vs hJ hT k hv
  obtain ⟨z0, zr0, rfl, ze0⟩ := lc (show 3 = nu.length from k.1.1)
  obtain ⟨z1, zr1, rfl, ze1⟩ := lc (ze0)
  obtain ⟨z2, zr2, rfl, ze2⟩ := lc (ze1)
  cases l0 ze2
  obtain ⟨q0, qr0, rfl, qe0⟩ := lc (show 2 = mu.length from k.2.1.1)
  obtain ⟨q1, qr1, rfl, qe1⟩ := lc (qe0)
  cases l0 qe1
  have b0 : 0 ≤ z0 ∧ z0 ≤ 39 := k.1.2 0 z0 _ rfl rfl
  have b1 : 0 ≤ z1 ∧ z1 ≤ 40 := k.1.2 1 z1 _ rfl rfl
  have b2 : 108 ≤ z2 ∧ z2 ≤ 108 := k.1.2 2 z2 _ rfl rfl
  have t0 : S[q0]? = some 6 := k.2.1.2 0 q0 _ rfl rfl
  have t1 : S[q1]? = some 38 := k.2.1.2 1 q1 _ rfl rfl
  have d0 := (k.2.2.2.2 _ (show .inl ([(1, 0), ((-1), 1)], 1) ∈ gh_1.2.2.2.1.2.2.2.2 by simp [gh_1])).2
  simp only [lS, List.map_cons, List.map_nil, List.sum_cons, List.sum_nil, List.getD_cons_zero, List.getD_cons_succ] at d0
  obtain ⟨fs, hq, hfs⟩ := hT.obj t0 (show oT 6 = some 6 from rfl)
  obtain ⟨u0, f0, a0⟩ := fc_at k (show (0, 0, .inr (.inr (.inl 1))) ∈ gh_1.2.2.2.1.2.2.1 by simp [gh_1]) rfl hq
  rw [nFd_lo (by decide)] at f0
  have y0 := aRr a0 (show _ = some q1 from rfl)
  subst y0
  obtain ⟨u3, f3, a3⟩ := fc_at k (show (0, 3, .inr (.inl (1, 0))) ∈ gh_1.2.2.2.1.2.2.1 by simp [gh_1]) rfl hq
  rw [nFd_lo (by decide)] at f3
  have y3 := aRs a3 (show _ = some z1 from rfl)
  subst y3
  obtain ⟨mq, mk, mn, mf, mi, m1, m2, m3, m4⟩ := k.2.2.2.1 _ (show (1, .inr (.inl (0, 0)), .inr (.inl (2, 0))) ∈ gh_1.2.2.2.1.2.2.2.1 by simp [gh_1])
  cases (show some q1 = some mq from m1)
  have m5 := Value.int.inj (aRs m3 (show _ = some z0 from rfl))
  have m6 := Value.int.inj (aRs m4 (show _ = some z2 from rfl))
  subst m5
  have mv : (gA h fs 0 (z0 + 0).toNat).toInt = z2 := by
    rw [gA_at f0 m2]
    have e : (Int32.ofInt (z0 + 0)).toNatClampNeg = (z0 + 0).toNat := by
      show (Int32.ofInt (z0 + 0)).toInt.toNat = _
      rw [a32 (by omega) (by omega)]
    rw [← e, m6, a32 (by omega) (by omega)]
    omega
  obtain ⟨r1, v1, i1, s1, hr1, hg1, -⟩ := row_at hT hfs (show nFT 6 1 = some (.inr (.inl 39)) from rfl) (show nAT 39 = some (0, 40, .inl [(40, (-2147483648), 2147483647, true)]) from rfl) rfl
  obtain ⟨r2, v2, i2, s2, hr2, hg2, -⟩ := row_at hT hfs (show nFT 6 2 = some (.inr (.inl 40)) from rfl) (show nAT 40 = some (0, 40, .inl [(40, (-2147483648), 2147483647, true)]) from rfl) rfl
  have hold := hJ.1 q0 6 6 fs t0 (.inr rfl) hq
  rw [nGh6, gI_at f3, a32 (by omega) (by omega)] at hold
  have w := gAll_one.mp hold (z0 + 0).toNat (by omega)
  rw [decide_eq_true_eq] at w
  rw [mv, hg1, hg2] at w
  have x1 : (-2147483648 : Int) ≤ (v1 (z0 + 0).toNat).toInt := Int32.le_toInt _
  have x2 : (v1 (z0 + 0).toNat).toInt < 2147483648 := Int32.toInt_lt _
  have x3 : (-2147483648 : Int) ≤ (v2 (z0 + 0).toNat).toInt := Int32.le_toInt _
  have x4 : (v2 (z0 + 0).toNat).toInt < 2147483648 := Int32.toInt_lt _
  have hX : aX [z0, z1, z2] [q0, q1] [z0, z1, z2, (v1 (z0 + 0).toNat).toInt, (v2 (z0 + 0).toNat).toInt] [q0, q1, r1, r2] := ⟨[(v1 (z0 + 0).toNat).toInt, (v2 (z0 + 0).toNat).toInt], [r1, r2], rfl, rfl⟩
  have ei : (Int32.ofInt (z0 + 0)).toNatClampNeg = (z0 + 0).toNat := by
    show (Int32.ofInt (z0 + 0)).toInt.toNat = _
    rw [a32 (by omega) (by omega)]
  refine ⟨gp_1, gp_1_mem, _, _, hX, aE5 b0 b1 b2 ⟨?_, ?_⟩ ⟨?_, ?_⟩, tau4 t0 t1 s1 s2, fun e he => ?_, fun e he => ?_, (fun e he => nomatch he)⟩
  · simp only; omega
  · simp only; omega
  · simp only; omega
  · simp only; omega
  · simp only [gp_1, List.mem_cons, List.not_mem_nil, or_false] at he
    rcases he with rfl | rfl
    · exact ⟨q0, 6, fs, _, rfl, hq, (nFd_lo (by decide)).trans i1, ⟨r1, rfl, rfl⟩⟩
    · exact ⟨q0, 6, fs, _, rfl, hq, (nFd_lo (by decide)).trans i2, ⟨r2, rfl, rfl⟩⟩
  · simp only [gp_1, List.mem_cons, List.not_mem_nil, or_false] at he
    rcases he with rfl | rfl
    · exact ⟨r1, 0, _, v1, Int32.ofInt (z0 + 0), rfl, hr1, ⟨z0, rfl, rfl⟩, aRi rfl (by rw [ei]; exact (Int.add_zero _).symm)⟩
    · exact ⟨r2, 0, _, v2, Int32.ofInt (z0 + 0), rfl, hr2, ⟨z0, rfl, rfl⟩, aRi rfl (by rw [ei]; exact (Int.add_zero _).symm)⟩
def gp_2 : aS := ([(0, 39), (0, 40), (109, 109), (0, 5), (0, 9)], [6, 38, 39, 40], [(0, 1, .inr (.inr (.inl 2))), (0, 2, .inr (.inr (.inl 3)))], [(2, .inr (.inl (0, 0)), .inr (.inl (3, 0))), (3, .inr (.inl (0, 0)), .inr (.inl (4, 0)))], [])
theorem gp_2_mem : gp_2 ∈ gh_2.2.2.2.2.2 := List.mem_cons_self
theorem gh_2_ok {S : List Nat} : nGv nFT nAT S (nJJ S) gh_2 := by
  intro h nu mu vs hJ hT k hv
  obtain ⟨z0, zr0, rfl, ze0⟩ := lc (show 3 = nu.length from k.1.1)
  obtain ⟨z1, zr1, rfl, ze1⟩ := lc (ze0)
  obtain ⟨z2, zr2, rfl, ze2⟩ := lc (ze1)
  cases l0 ze2
  obtain ⟨q0, qr0, rfl, qe0⟩ := lc (show 2 = mu.length from k.2.1.1)
  obtain ⟨q1, qr1, rfl, qe1⟩ := lc (qe0)
  cases l0 qe1
  have b0 : 0 ≤ z0 ∧ z0 ≤ 39 := k.1.2 0 z0 _ rfl rfl
  have b1 : 0 ≤ z1 ∧ z1 ≤ 40 := k.1.2 1 z1 _ rfl rfl
  have b2 : 109 ≤ z2 ∧ z2 ≤ 109 := k.1.2 2 z2 _ rfl rfl
  have t0 : S[q0]? = some 6 := k.2.1.2 0 q0 _ rfl rfl
  have t1 : S[q1]? = some 38 := k.2.1.2 1 q1 _ rfl rfl
  have d0 := (k.2.2.2.2 _ (show .inl ([(1, 0), ((-1), 1)], 1) ∈ gh_2.2.2.2.1.2.2.2.2 by simp [gh_2])).2
  simp only [lS, List.map_cons, List.map_nil, List.sum_cons, List.sum_nil, List.getD_cons_zero, List.getD_cons_succ] at d0
  obtain ⟨fs, hq, hfs⟩ := hT.obj t0 (show oT 6 = some 6 from rfl)
  obtain ⟨u0, f0, a0⟩ := fc_at k (show (0, 0, .inr (.inr (.inl 1))) ∈ gh_2.2.2.2.1.2.2.1 by simp [gh_2]) rfl hq
  rw [nFd_lo (by decide)] at f0
  have y0 := aRr a0 (show _ = some q1 from rfl)
  subst y0
  obtain ⟨u3, f3, a3⟩ := fc_at k (show (0, 3, .inr (.inl (1, 0))) ∈ gh_2.2.2.2.1.2.2.1 by simp [gh_2]) rfl hq
  rw [nFd_lo (by decide)] at f3
  have y3 := aRs a3 (show _ = some z1 from rfl)
  subst y3
  obtain ⟨mq, mk, mn, mf, mi, m1, m2, m3, m4⟩ := k.2.2.2.1 _ (show (1, .inr (.inl (0, 0)), .inr (.inl (2, 0))) ∈ gh_2.2.2.2.1.2.2.2.1 by simp [gh_2])
  cases (show some q1 = some mq from m1)
  have m5 := Value.int.inj (aRs m3 (show _ = some z0 from rfl))
  have m6 := Value.int.inj (aRs m4 (show _ = some z2 from rfl))
  subst m5
  have mv : (gA h fs 0 (z0 + 0).toNat).toInt = z2 := by
    rw [gA_at f0 m2]
    have e : (Int32.ofInt (z0 + 0)).toNatClampNeg = (z0 + 0).toNat := by
      show (Int32.ofInt (z0 + 0)).toInt.toNat = _
      rw [a32 (by omega) (by omega)]
    rw [← e, m6, a32 (by omega) (by omega)]
    omega
  obtain ⟨r1, v1, i1, s1, hr1, hg1, -⟩ := row_at hT hfs (show nFT 6 1 = some (.inr (.inl 39)) from rfl) (show nAT 39 = some (0, 40, .inl [(40, (-2147483648), 2147483647, true)]) from rfl) rfl
  obtain ⟨r2, v2, i2, s2, hr2, hg2, -⟩ := row_at hT hfs (show nFT 6 2 = some (.inr (.inl 40)) from rfl) (show nAT 40 = some (0, 40, .inl [(40, (-2147483648), 2147483647, true)]) from rfl) rfl
  have hold := hJ.1 q0 6 6 fs t0 (.inr rfl) hq
  rw [nGh6, gI_at f3, a32 (by omega) (by omega)] at hold
  have w := gAll_one.mp hold (z0 + 0).toNat (by omega)
  rw [decide_eq_true_eq] at w
  rw [mv, hg1, hg2] at w
  have x1 : (-2147483648 : Int) ≤ (v1 (z0 + 0).toNat).toInt := Int32.le_toInt _
  have x2 : (v1 (z0 + 0).toNat).toInt < 2147483648 := Int32.toInt_lt _
  have x3 : (-2147483648 : Int) ≤ (v2 (z0 + 0).toNat).toInt := Int32.le_toInt _
  have x4 : (v2 (z0 + 0).toNat).toInt < 2147483648 := Int32.toInt_lt _
  have hX : aX [z0, z1, z2] [q0, q1] [z0, z1, z2, (v1 (z0 + 0).toNat).toInt, (v2 (z0 + 0).toNat).toInt] [q0, q1, r1, r2] := ⟨[(v1 (z0 + 0).toNat).toInt, (v2 (z0 + 0).toNat).toInt], [r1, r2], rfl, rfl⟩
  have ei : (Int32.ofInt (z0 + 0)).toNatClampNeg = (z0 + 0).toNat := by
    show (Int32.ofInt (z0 + 0)).toInt.toNat = _
    rw [a32 (by omega) (by omega)]
  refine ⟨gp_2, gp_2_mem, _, _, hX, aE5 b0 b1 b2 ⟨?_, ?_⟩ ⟨?_, ?_⟩, tau4 t0 t1 s1 s2, fun e he => ?_, fun e he => ?_, (fun e he => nomatch he)⟩
  · simp only; omega
  · simp only; omega
  · simp only; omega
  · simp only; omega
  · simp only [gp_2, List.mem_cons, List.not_mem_nil, or_false] at he
    rcases he with rfl | rfl
    · exact ⟨q0, 6, fs, _, rfl, hq, (nFd_lo (by decide)).trans i1, ⟨r1, rfl, rfl⟩⟩
    · exact ⟨q0, 6, fs, _, rfl, hq, (nFd_lo (by decide)).trans i2, ⟨r2, rfl, rfl⟩⟩
  · simp only [gp_2, List.mem_cons, List.not_mem_nil, or_false] at he
    rcases he with rfl | rfl
    · exact ⟨r1, 0, _, v1, Int32.ofInt (z0 + 0), rfl, hr1, ⟨z0, rfl, rfl⟩, aRi rfl (by rw [ei]; exact (Int.add_zero _).symm)⟩
    · exact ⟨r2, 0, _, v2, Int32.ofInt (z0 + 0), rfl, hr2, ⟨z0, rfl, rfl⟩, aRi rfl (by rw [ei]; exact (Int.add_zero _).symm)⟩
def gp_3 : aS := ([(0, 39), (0, 40), (117, 117), (0, 9)], [4, 30, 32], [(0, 2, .inr (.inr (.inl 2)))], [(2, .inr (.inl (0, 0)), .inr (.inl (3, 0)))], [])
theorem gp_3_mem : gp_3 ∈ gh_3.2.2.2.2.2 := List.mem_cons_self
theorem gh_3_ok {S : List Nat} : nGv nFT nAT S (nJJ S) gh_3 := by
  intro h nu mu vs hJ hT k hv
  obtain ⟨z0, zr0, rfl, ze0⟩ := lc (show 3 = nu.length from k.1.1)
  obtain ⟨z1, zr1, rfl, ze1⟩ := lc (ze0)
  obtain ⟨z2, zr2, rfl, ze2⟩ := lc (ze1)
  cases l0 ze2
  obtain ⟨q0, qr0, rfl, qe0⟩ := lc (show 2 = mu.length from k.2.1.1)
  obtain ⟨q1, qr1, rfl, qe1⟩ := lc (qe0)
  cases l0 qe1
  have b0 : 0 ≤ z0 ∧ z0 ≤ 39 := k.1.2 0 z0 _ rfl rfl
  have b1 : 0 ≤ z1 ∧ z1 ≤ 40 := k.1.2 1 z1 _ rfl rfl
  have b2 : 117 ≤ z2 ∧ z2 ≤ 117 := k.1.2 2 z2 _ rfl rfl
  have t0 : S[q0]? = some 4 := k.2.1.2 0 q0 _ rfl rfl
  have t1 : S[q1]? = some 30 := k.2.1.2 1 q1 _ rfl rfl
  have d0 := (k.2.2.2.2 _ (show .inl ([(1, 0), ((-1), 1)], 1) ∈ gh_3.2.2.2.1.2.2.2.2 by simp [gh_3])).2
  simp only [lS, List.map_cons, List.map_nil, List.sum_cons, List.sum_nil, List.getD_cons_zero, List.getD_cons_succ] at d0
  obtain ⟨fs, hq, hfs⟩ := hT.obj t0 (show oT 4 = some 4 from rfl)
  obtain ⟨u0, f0, a0⟩ := fc_at k (show (0, 0, .inr (.inr (.inl 1))) ∈ gh_3.2.2.2.1.2.2.1 by simp [gh_3]) rfl hq
  rw [nFd_lo (by decide)] at f0
  have y0 := aRr a0 (show _ = some q1 from rfl)
  subst y0
  obtain ⟨u4, f4, a4⟩ := fc_at k (show (0, 4, .inr (.inl (1, 0))) ∈ gh_3.2.2.2.1.2.2.1 by simp [gh_3]) rfl hq
  rw [nFd_lo (by decide)] at f4
  have y4 := aRs a4 (show _ = some z1 from rfl)
  subst y4
  obtain ⟨mq, mk, mn, mf, mi, m1, m2, m3, m4⟩ := k.2.2.2.1 _ (show (1, .inr (.inl (0, 0)), .inr (.inl (2, 0))) ∈ gh_3.2.2.2.1.2.2.2.1 by simp [gh_3])
  cases (show some q1 = some mq from m1)
  have m5 := Value.int.inj (aRs m3 (show _ = some z0 from rfl))
  have m6 := Value.int.inj (aRs m4 (show _ = some z2 from rfl))
  subst m5
  have mv : (gA h fs 0 (z0 + 0).toNat).toInt = z2 := by
    rw [gA_at f0 m2]
    have e : (Int32.ofInt (z0 + 0)).toNatClampNeg = (z0 + 0).toNat := by
      show (Int32.ofInt (z0 + 0)).toInt.toNat = _
      rw [a32 (by omega) (by omega)]
    rw [← e, m6, a32 (by omega) (by omega)]
    omega
  obtain ⟨r2, v2, i2, s2, hr2, hg2, -⟩ := row_at hT hfs (show nFT 4 2 = some (.inr (.inl 32)) from rfl) (show nAT 32 = some (0, 40, .inl [(40, (-2147483648), 2147483647, true)]) from rfl) rfl
  have hold := hJ.1 q0 4 4 fs t0 (.inl rfl) hq
  rw [nGh4, gI_at f4, a32 (by omega) (by omega)] at hold
  have w := gAll_one.mp hold (z0 + 0).toNat (by omega)
  rw [decide_eq_true_eq] at w
  rw [mv, hg2] at w
  have hX : aX [z0, z1, z2] [q0, q1] ([z0, z1, z2] ++ [(v2 (z0 + 0).toNat).toInt]) ([q0, q1] ++ [r2]) := ⟨_, _, rfl, rfl⟩
  have ei : (Int32.ofInt (z0 + 0)).toNatClampNeg = (z0 + 0).toNat := by
    show (Int32.ofInt (z0 + 0)).toInt.toNat = _
    rw [a32 (by omega) (by omega)]
  refine ⟨gp_3, gp_3_mem, _, _, hX, aE_push k.1 ⟨?_, ?_⟩, tau3 t0 t1 s2, fun e he => ?_, fun e he => ?_, (fun e he => nomatch he)⟩
  · simp only; omega
  · simp only; omega
  · simp only [gp_3, List.mem_cons, List.not_mem_nil, or_false] at he
    subst he
    exact ⟨q0, 4, fs, _, rfl, hq, (nFd_lo (by decide)).trans i2, ⟨r2, rfl, rfl⟩⟩
  · simp only [gp_3, List.mem_cons, List.not_mem_nil, or_false] at he
    subst he
    exact ⟨r2, 0, _, v2, Int32.ofInt (z0 + 0), rfl, hr2, ⟨z0, rfl, rfl⟩, aRi rfl (by rw [ei]; exact (Int.add_zero _).symm)⟩
def gp_4 : aS := ([(0, 39), (0, 40), (116, 116), (0, 5)], [4, 30, 32], [(0, 2, .inr (.inr (.inl 2)))], [(2, .inr (.inl (0, 0)), .inr (.inl (3, 0)))], [])
theorem gp_4_mem : gp_4 ∈ gh_4.2.2.2.2.2 := List.mem_cons_self
theorem gh_4_ok {S : List Nat} : nGv nFT nAT S (nJJ S) gh_4 := by
  intro h nu mu vs hJ hT k hv
  obtain ⟨z0, zr0, rfl, ze0⟩ := lc (show 3 = nu.length from k.1.1)
  obtain ⟨z1, zr1, rfl, ze1⟩ := lc (ze0)
  obtain ⟨z2, zr2, rfl, ze2⟩ := lc (ze1)
  cases l0 ze2
  obtain ⟨q0, qr0, rfl, qe0⟩ := lc (show 2 = mu.length from k.2.1.1)
  obtain ⟨q1, qr1, rfl, qe1⟩ := lc (qe0)
  cases l0 qe1
  have b0 : 0 ≤ z0 ∧ z0 ≤ 39 := k.1.2 0 z0 _ rfl rfl
  have b1 : 0 ≤ z1 ∧ z1 ≤ 40 := k.1.2 1 z1 _ rfl rfl
  have b2 : 116 ≤ z2 ∧ z2 ≤ 116 := k.1.2 2 z2 _ rfl rfl
  have t0 : S[q0]? = some 4 := k.2.1.2 0 q0 _ rfl rfl
  have t1 : S[q1]? = some 30 := k.2.1.2 1 q1 _ rfl rfl
  have d0 := (k.2.2.2.2 _ (show .inl ([(1, 0), ((-1), 1)], 1) ∈ gh_4.2.2.2.1.2.2.2.2 by simp [gh_4])).2
  simp only [lS, List.map_cons, List.map_nil, List.sum_cons, List.sum_nil, List.getD_cons_zero, List.getD_cons_succ] at d0
  obtain ⟨fs, hq, hfs⟩ := hT.obj t0 (show oT 4 = some 4 from rfl)
  obtain ⟨u0, f0, a0⟩ := fc_at k (show (0, 0, .inr (.inr (.inl 1))) ∈ gh_4.2.2.2.1.2.2.1 by simp [gh_4]) rfl hq
  rw [nFd_lo (by decide)] at f0
  have y0 := aRr a0 (show _ = some q1 from rfl)
  subst y0
  obtain ⟨u4, f4, a4⟩ := fc_at k (show (0, 4, .inr (.inl (1, 0))) ∈ gh_4.2.2.2.1.2.2.1 by simp [gh_4]) rfl hq
  rw [nFd_lo (by decide)] at f4
  have y4 := aRs a4 (show _ = some z1 from rfl)
  subst y4
  obtain ⟨mq, mk, mn, mf, mi, m1, m2, m3, m4⟩ := k.2.2.2.1 _ (show (1, .inr (.inl (0, 0)), .inr (.inl (2, 0))) ∈ gh_4.2.2.2.1.2.2.2.1 by simp [gh_4])
  cases (show some q1 = some mq from m1)
  have m5 := Value.int.inj (aRs m3 (show _ = some z0 from rfl))
  have m6 := Value.int.inj (aRs m4 (show _ = some z2 from rfl))
  subst m5
  have mv : (gA h fs 0 (z0 + 0).toNat).toInt = z2 := by
    rw [gA_at f0 m2]
    have e : (Int32.ofInt (z0 + 0)).toNatClampNeg = (z0 + 0).toNat := by
      show (Int32.ofInt (z0 + 0)).toInt.toNat = _
      rw [a32 (by omega) (by omega)]
    rw [← e, m6, a32 (by omega) (by omega)]
    omega
  obtain ⟨r2, v2, i2, s2, hr2, hg2, -⟩ := row_at hT hfs (show nFT 4 2 = some (.inr (.inl 32)) from rfl) (show nAT 32 = some (0, 40, .inl [(40, (-2147483648), 2147483647, true)]) from rfl) rfl
  have hold := hJ.1 q0 4 4 fs t0 (.inl rfl) hq
  rw [nGh4, gI_at f4, a32 (by omega) (by omega)] at hold
  have w := gAll_one.mp hold (z0 + 0).toNat (by omega)
  rw [decide_eq_true_eq] at w
  rw [mv, hg2] at w
  have hX : aX [z0, z1, z2] [q0, q1] ([z0, z1, z2] ++ [(v2 (z0 + 0).toNat).toInt]) ([q0, q1] ++ [r2]) := ⟨_, _, rfl, rfl⟩
  have ei : (Int32.ofInt (z0 + 0)).toNatClampNeg = (z0 + 0).toNat := by
    show (Int32.ofInt (z0 + 0)).toInt.toNat = _
    rw [a32 (by omega) (by omega)]
  refine ⟨gp_4, gp_4_mem, _, _, hX, aE_push k.1 ⟨?_, ?_⟩, tau3 t0 t1 s2, fun e he => ?_, fun e he => ?_, (fun e he => nomatch he)⟩
  · simp only; omega
  · simp only; omega
  · simp only [gp_4, List.mem_cons, List.not_mem_nil, or_false] at he
    subst he
    exact ⟨q0, 4, fs, _, rfl, hq, (nFd_lo (by decide)).trans i2, ⟨r2, rfl, rfl⟩⟩
  · simp only [gp_4, List.mem_cons, List.not_mem_nil, or_false] at he
    subst he
    exact ⟨r2, 0, _, v2, Int32.ofInt (z0 + 0), rfl, hr2, ⟨z0, rfl, rfl⟩, aRi rfl (by rw [ei]; exact (Int.add_zero _).symm)⟩
def gp_6_0 : aS := ([(0, 0), (0, 0)], [9, 51], [], [], [])
def gp_6_1 : aS := ([(1, 1), (1, 1)], [9, 51], [], [], [])
def gp_6_2 : aS := ([(2, 2), (2, 2)], [9, 51], [], [], [])
def gp_6_3 : aS := ([(3, 3), (3, 3)], [9, 51], [], [], [])
def gp_6_4 : aS := ([(4, 4), (4, 4)], [9, 51], [], [], [])
def gp_6_5 : aS := ([(5, 5), (5, 5)], [9, 51], [], [], [])
def gp_6_6 : aS := ([(6, 6), (6, 6)], [9, 51], [], [], [])
def gp_6_7 : aS := ([(7, 7), (7, 7)], [9, 51], [], [], [])
def gp_6_8 : aS := ([(8, 8), (8, 8)], [9, 51], [], [], [])
def gp_6_9 : aS := ([(9, 9), (9, 9)], [9, 51], [], [], [])
theorem gh_6_ok {S : List Nat} : nGv nFT nAT S (nJJ S) gh_6 := by
  intro h nu mu vs hJ hT k hv
  obtain ⟨z0, zr0, rfl, ze0⟩ := lc (show 2 = nu.length from k.1.1)
  obtain ⟨z1, zr1, rfl, ze1⟩ := lc (ze0)
  cases l0 ze1
  obtain ⟨q0, qr0, rfl, qe0⟩ := lc (show 2 = mu.length from k.2.1.1)
  obtain ⟨q1, qr1, rfl, qe1⟩ := lc (qe0)
  cases l0 qe1
  have b0 : 0 ≤ z0 ∧ z0 ≤ 9 := k.1.2 0 z0 _ rfl rfl
  have b1 : 0 ≤ z1 ∧ z1 ≤ 10 := k.1.2 1 z1 _ rfl rfl
  have t0 : S[q0]? = some 9 := k.2.1.2 0 q0 _ rfl rfl
  have t1 : S[q1]? = some 51 := k.2.1.2 1 q1 _ rfl rfl
  have d0 := (k.2.2.2.2 _ (show .inl ([(1, 0), ((-1), 1)], 0) ∈ gh_6.2.2.2.1.2.2.2.2 by simp [gh_6])).2
  simp only [lS, List.map_cons, List.map_nil, List.sum_cons, List.sum_nil, List.getD_cons_zero, List.getD_cons_succ] at d0
  have d1 := (k.2.2.2.2 _ (show .inl ([((-1), 0), (1, 1)], 0) ∈ gh_6.2.2.2.1.2.2.2.2 by simp [gh_6])).2
  simp only [lS, List.map_cons, List.map_nil, List.sum_cons, List.sum_nil, List.getD_cons_zero, List.getD_cons_succ] at d1
  obtain ⟨fs, hq, hfs⟩ := hT.obj t0 (show oT 9 = some 9 from rfl)
  obtain ⟨u7, f7, a7⟩ := fc_at k (show (0, 7, .inr (.inr (.inl 1))) ∈ gh_6.2.2.2.1.2.2.1 by simp [gh_6]) rfl hq
  rw [nFd_lo (by decide)] at f7
  have y7 := aRr a7 (show _ = some q1 from rfl)
  subst y7
  have e10 : z1 = z0 := by omega
  subst e10
  have hz : z1 = 0 ∨ z1 = 1 ∨ z1 = 2 ∨ z1 = 3 ∨ z1 = 4 ∨ z1 = 5 ∨ z1 = 6 ∨ z1 = 7 ∨ z1 = 8 ∨ z1 = 9 := by omega
  rcases hz with rfl | rfl | rfl | rfl | rfl | rfl | rfl | rfl | rfl | rfl
  · exact ⟨gp_6_0, by simp [gh_6, gp_6_0], _, _, aX.rf, aE2 (by decide) (by decide), k.2.1, (fun e he => nomatch he), (fun e he => nomatch he), (fun e he => nomatch he)⟩
  · exact ⟨gp_6_1, by simp [gh_6, gp_6_1], _, _, aX.rf, aE2 (by decide) (by decide), k.2.1, (fun e he => nomatch he), (fun e he => nomatch he), (fun e he => nomatch he)⟩
  · exact ⟨gp_6_2, by simp [gh_6, gp_6_2], _, _, aX.rf, aE2 (by decide) (by decide), k.2.1, (fun e he => nomatch he), (fun e he => nomatch he), (fun e he => nomatch he)⟩
  · exact ⟨gp_6_3, by simp [gh_6, gp_6_3], _, _, aX.rf, aE2 (by decide) (by decide), k.2.1, (fun e he => nomatch he), (fun e he => nomatch he), (fun e he => nomatch he)⟩
  · exact ⟨gp_6_4, by simp [gh_6, gp_6_4], _, _, aX.rf, aE2 (by decide) (by decide), k.2.1, (fun e he => nomatch he), (fun e he => nomatch he), (fun e he => nomatch he)⟩
  · exact ⟨gp_6_5, by simp [gh_6, gp_6_5], _, _, aX.rf, aE2 (by decide) (by decide), k.2.1, (fun e he => nomatch he), (fun e he => nomatch he), (fun e he => nomatch he)⟩
  · exact ⟨gp_6_6, by simp [gh_6, gp_6_6], _, _, aX.rf, aE2 (by decide) (by decide), k.2.1, (fun e he => nomatch he), (fun e he => nomatch he), (fun e he => nomatch he)⟩
  · exact ⟨gp_6_7, by simp [gh_6, gp_6_7], _, _, aX.rf, aE2 (by decide) (by decide), k.2.1, (fun e he => nomatch he), (fun e he => nomatch he), (fun e he => nomatch he)⟩
  · exact ⟨gp_6_8, by simp [gh_6, gp_6_8], _, _, aX.rf, aE2 (by decide) (by decide), k.2.1, (fun e he => nomatch he), (fun e he => nomatch he), (fun e he => nomatch he)⟩
  · exact ⟨gp_6_9, by simp [gh_6, gp_6_9], _, _, aX.rf, aE2 (by decide) (by decide), k.2.1, (fun e he => nomatch he), (fun e he => nomatch he), (fun e he => nomatch he)⟩
def gp_51 : aS := ([(0, 181)], [9], [(0, 1005, .inr (.inl (0, 0)))], [], [])
theorem gp_51_mem : gp_51 ∈ gh_51.2.2.2.2.2 := List.mem_cons_self
theorem gh_51_ok {S : List Nat} : nGv nFT nAT S (nJJ S) gh_51 := by
  intro h nu mu vs hJ hT k hv
  cases l0 (show 0 = nu.length from k.1.1)
  obtain ⟨q0, qr0, rfl, qe0⟩ := lc (show 1 = mu.length from k.2.1.1)
  cases l0 qe0
  have t0 : S[q0]? = some 9 := k.2.1.2 0 q0 _ rfl rfl
  obtain ⟨fs, hq, hfs⟩ := hT.obj t0 (show oT 9 = some 9 from rfl)
  have hle : gE (fun j => gCut true (gA h fs 6) (179 + j)) (fun j => gCut false (gA h fs 45) (179 + j)) 181 ≤ 181 := gE_le _ _ _
  refine ⟨gp_51, gp_51_mem, [((gE (fun j => gCut true (gA h fs 6) (179 + j)) (fun j => gCut false (gA h fs 45) (179 + j)) 181 : Nat) : Int)], [q0], ⟨[_], [], rfl, rfl⟩, aE1 ⟨Int.natCast_nonneg _, by simp only; omega⟩, k.2.1, fun e he => ?_, (fun e he => nomatch he), (fun e he => nomatch he)⟩
  simp only [gp_51, List.mem_cons, List.not_mem_nil, or_false] at he
  subst he
  refine ⟨q0, 9, fs, _, rfl, hq, nFd_hi (by decide), aRi rfl ?_⟩
  rw [nGh9, nG9_5, i32n (by omega), Int.add_zero]
def gp_52 : aS := ([(0, 181)], [9], [(0, 1005, .inr (.inl (0, 0)))], [], [])
theorem gp_52_mem : gp_52 ∈ gh_52.2.2.2.2.2 := List.mem_cons_self
theorem gh_52_ok {S : List Nat} : nGv nFT nAT S (nJJ S) gh_52 := by
  intro h nu mu vs hJ hT k hv
  cases l0 (show 0 = nu.length from k.1.1)
  obtain ⟨q0, qr0, rfl, qe0⟩ := lc (show 1 = mu.length from k.2.1.1)
  cases l0 qe0
  have t0 : S[q0]? = some 9 := k.2.1.2 0 q0 _ rfl rfl
  obtain ⟨fs, hq, hfs⟩ := hT.obj t0 (show oT 9 = some 9 from rfl)
  have hle : gE (fun j => gCut true (gA h fs 6) (179 + j)) (fun j => gCut false (gA h fs 45) (179 + j)) 181 ≤ 181 := gE_le _ _ _
  refine ⟨gp_52, gp_52_mem, [((gE (fun j => gCut true (gA h fs 6) (179 + j)) (fun j => gCut false (gA h fs 45) (179 + j)) 181 : Nat) : Int)], [q0], ⟨[_], [], rfl, rfl⟩, aE1 ⟨Int.natCast_nonneg _, by simp only; omega⟩, k.2.1, fun e he => ?_, (fun e he => nomatch he), (fun e he => nomatch he)⟩
  simp only [gp_52, List.mem_cons, List.not_mem_nil, or_false] at he
  subst he
  refine ⟨q0, 9, fs, _, rfl, hq, nFd_hi (by decide), aRi rfl ?_⟩
  rw [nGh9, nG9_5, i32n (by omega), Int.add_zero]
def gp_53 : aS := ([(360, 360), (0, 181)], [9], [(0, 1003, .inl 1)], [], [])
theorem gp_53_mem : gp_53 ∈ gh_53.2.2.2.2.2 := List.mem_cons_self
theorem gh_53_ok {S : List Nat} : nGv nFT nAT S (nJJ S) gh_53 := by
  intro h nu mu vs hJ hT k hv
  obtain ⟨z0, zr0, rfl, ze0⟩ := lc (show 2 = nu.length from k.1.1)
  obtain ⟨z1, zr1, rfl, ze1⟩ := lc (ze0)
  cases l0 ze1
  obtain ⟨q0, qr0, rfl, qe0⟩ := lc (show 1 = mu.length from k.2.1.1)
  cases l0 qe0
  have b0 : 360 ≤ z0 ∧ z0 ≤ 360 := k.1.2 0 z0 _ rfl rfl
  have b1 : 0 ≤ z1 ∧ z1 ≤ 181 := k.1.2 1 z1 _ rfl rfl
  have t0 : S[q0]? = some 9 := k.2.1.2 0 q0 _ rfl rfl
  have d0 := (k.2.2.2.2 _ (show .inl ([(1, 0), ((-1), 1)], (-179)) ∈ gh_53.2.2.2.1.2.2.2.2 by simp [gh_53])).2
  simp only [lS, List.map_cons, List.map_nil, List.sum_cons, List.sum_nil, List.getD_cons_zero, List.getD_cons_succ] at d0
  obtain ⟨fs, hq, hfs⟩ := hT.obj t0 (show oT 9 = some 9 from rfl)
  obtain ⟨u1005, f1005, a1005⟩ := fc_at k (show (0, 1005, .inr (.inl (1, 0))) ∈ gh_53.2.2.2.1.2.2.1 by simp [gh_53]) rfl hq
  rw [nFd_hi (by decide)] at f1005
  have y1005 := aRs a1005 (show _ = some z1 from rfl)
  subst y1005
  have g1005 := Value.int.inj (Option.some.inj f1005)
  obtain ⟨u1002, f1002, a1002⟩ := fc_at k (show (0, 1002, .inl 1) ∈ gh_53.2.2.2.1.2.2.1 by simp [gh_53]) rfl hq
  rw [nFd_hi (by decide)] at f1002
  have y1002 : u1002 = .int (Int32.ofInt 1) := a1002
  subst y1002
  have g1002 := Value.int.inj (Option.some.inj f1002)
  rw [nGh9, nG9_5] at g1005
  have g1 := congrArg Int32.toInt g1005
  rw [i32n (by have := gE_le (fun j => gCut true (gA h fs 6) (179 + j)) (fun j => gCut false (gA h fs 45) (179 + j)) 181; omega), a32 (by omega) (by omega)] at g1
  have g2 := ((gE_iff (m := 181)).mp (show _ ≤ gE (fun j => gCut true (gA h fs 6) (179 + j)) (fun j => gCut false (gA h fs 45) (179 + j)) 181 by omega)).2
  rw [nGh9, nG9_2] at g1002
  have g3 := gV_shift (f := gCut false (gA h fs 45)) (a := 179) (fun j hj => (g2 j hj).symm) g1002
  refine ⟨gp_53, gp_53_mem, [z0, z1], [q0], aX.rf, k.1, k.2.1, fun e he => ?_, (fun e he => nomatch he), (fun e he => nomatch he)⟩
  simp only [gp_53, List.mem_cons, List.not_mem_nil, or_false] at he
  subst he
  refine ⟨q0, 9, fs, _, rfl, hq, nFd_hi (by decide), ?_⟩
  rw [nGh9, nG9_3, g3]
  rfl
def gp_54 : aS := ([(360, 360), (0, 181)], [9], [(0, 1002, .inl 1)], [], [])
theorem gp_54_mem : gp_54 ∈ gh_54.2.2.2.2.2 := List.mem_cons_self
theorem gh_54_ok {S : List Nat} : nGv nFT nAT S (nJJ S) gh_54 := by
  intro h nu mu vs hJ hT k hv
  obtain ⟨z0, zr0, rfl, ze0⟩ := lc (show 2 = nu.length from k.1.1)
  obtain ⟨z1, zr1, rfl, ze1⟩ := lc (ze0)
  cases l0 ze1
  obtain ⟨q0, qr0, rfl, qe0⟩ := lc (show 1 = mu.length from k.2.1.1)
  cases l0 qe0
  have b0 : 360 ≤ z0 ∧ z0 ≤ 360 := k.1.2 0 z0 _ rfl rfl
  have b1 : 0 ≤ z1 ∧ z1 ≤ 181 := k.1.2 1 z1 _ rfl rfl
  have t0 : S[q0]? = some 9 := k.2.1.2 0 q0 _ rfl rfl
  have d0 := (k.2.2.2.2 _ (show .inl ([(1, 0), ((-1), 1)], (-179)) ∈ gh_54.2.2.2.1.2.2.2.2 by simp [gh_54])).2
  simp only [lS, List.map_cons, List.map_nil, List.sum_cons, List.sum_nil, List.getD_cons_zero, List.getD_cons_succ] at d0
  obtain ⟨fs, hq, hfs⟩ := hT.obj t0 (show oT 9 = some 9 from rfl)
  obtain ⟨u1005, f1005, a1005⟩ := fc_at k (show (0, 1005, .inr (.inl (1, 0))) ∈ gh_54.2.2.2.1.2.2.1 by simp [gh_54]) rfl hq
  rw [nFd_hi (by decide)] at f1005
  have y1005 := aRs a1005 (show _ = some z1 from rfl)
  subst y1005
  have g1005 := Value.int.inj (Option.some.inj f1005)
  obtain ⟨u1003, f1003, a1003⟩ := fc_at k (show (0, 1003, .inl 1) ∈ gh_54.2.2.2.1.2.2.1 by simp [gh_54]) rfl hq
  rw [nFd_hi (by decide)] at f1003
  have y1003 : u1003 = .int (Int32.ofInt 1) := a1003
  subst y1003
  have g1003 := Value.int.inj (Option.some.inj f1003)
  rw [nGh9, nG9_5] at g1005
  have g1 := congrArg Int32.toInt g1005
  rw [i32n (by have := gE_le (fun j => gCut true (gA h fs 6) (179 + j)) (fun j => gCut false (gA h fs 45) (179 + j)) 181; omega), a32 (by omega) (by omega)] at g1
  have g2 := ((gE_iff (m := 181)).mp (show _ ≤ gE (fun j => gCut true (gA h fs 6) (179 + j)) (fun j => gCut false (gA h fs 45) (179 + j)) 181 by omega)).2
  rw [nGh9, nG9_3] at g1003
  have g3 := gV_shift (f := gCut true (gA h fs 6)) (a := 179) (fun j hj => g2 j hj) g1003
  refine ⟨gp_54, gp_54_mem, [z0, z1], [q0], aX.rf, k.1, k.2.1, fun e he => ?_, (fun e he => nomatch he), (fun e he => nomatch he)⟩
  simp only [gp_54, List.mem_cons, List.not_mem_nil, or_false] at he
  subst he
  refine ⟨q0, 9, fs, _, rfl, hq, nFd_hi (by decide), ?_⟩
  rw [nGh9, nG9_2, g3]
  rfl
def gp_55 : aS := ([(0, 181)], [9], [(0, 1006, .inr (.inl (0, 0)))], [], [])
theorem gp_55_mem : gp_55 ∈ gh_55.2.2.2.2.2 := List.mem_cons_self
theorem gh_55_ok {S : List Nat} : nGv nFT nAT S (nJJ S) gh_55 := by
  intro h nu mu vs hJ hT k hv
  cases l0 (show 0 = nu.length from k.1.1)
  obtain ⟨q0, qr0, rfl, qe0⟩ := lc (show 1 = mu.length from k.2.1.1)
  cases l0 qe0
  have t0 : S[q0]? = some 9 := k.2.1.2 0 q0 _ rfl rfl
  obtain ⟨fs, hq, hfs⟩ := hT.obj t0 (show oT 9 = some 9 from rfl)
  have hle : gE (fun j => gCut true (gA h fs 6) (179 + j)) (fun j => gCut false (gA h fs 45) (539 + j)) 181 ≤ 181 := gE_le _ _ _
  refine ⟨gp_55, gp_55_mem, [((gE (fun j => gCut true (gA h fs 6) (179 + j)) (fun j => gCut false (gA h fs 45) (539 + j)) 181 : Nat) : Int)], [q0], ⟨[_], [], rfl, rfl⟩, aE1 ⟨Int.natCast_nonneg _, by simp only; omega⟩, k.2.1, fun e he => ?_, (fun e he => nomatch he), (fun e he => nomatch he)⟩
  simp only [gp_55, List.mem_cons, List.not_mem_nil, or_false] at he
  subst he
  refine ⟨q0, 9, fs, _, rfl, hq, nFd_hi (by decide), aRi rfl ?_⟩
  rw [nGh9, nG9_6, i32n (by omega), Int.add_zero]
def gp_56 : aS := ([(0, 181)], [9], [(0, 1006, .inr (.inl (0, 0)))], [], [])
theorem gp_56_mem : gp_56 ∈ gh_56.2.2.2.2.2 := List.mem_cons_self
theorem gh_56_ok {S : List Nat} : nGv nFT nAT S (nJJ S) gh_56 := by
  intro h nu mu vs hJ hT k hv
  cases l0 (show 0 = nu.length from k.1.1)
  obtain ⟨q0, qr0, rfl, qe0⟩ := lc (show 1 = mu.length from k.2.1.1)
  cases l0 qe0
  have t0 : S[q0]? = some 9 := k.2.1.2 0 q0 _ rfl rfl
  obtain ⟨fs, hq, hfs⟩ := hT.obj t0 (show oT 9 = some 9 from rfl)
  have hle : gE (fun j => gCut true (gA h fs 6) (179 + j)) (fun j => gCut false (gA h fs 45) (539 + j)) 181 ≤ 181 := gE_le _ _ _
  refine ⟨gp_56, gp_56_mem, [((gE (fun j => gCut true (gA h fs 6) (179 + j)) (fun j => gCut false (gA h fs 45) (539 + j)) 181 : Nat) : Int)], [q0], ⟨[_], [], rfl, rfl⟩, aE1 ⟨Int.natCast_nonneg _, by simp only; omega⟩, k.2.1, fun e he => ?_, (fun e he => nomatch he), (fun e he => nomatch he)⟩
  simp only [gp_56, List.mem_cons, List.not_mem_nil, or_false] at he
  subst he
  refine ⟨q0, 9, fs, _, rfl, hq, nFd_hi (by decide), aRi rfl ?_⟩
  rw [nGh9, nG9_6, i32n (by omega), Int.add_zero]
def gp_57 : aS := ([(360, 360), (0, 181)], [9], [(0, 1004, .inl 1)], [], [])
theorem gp_57_mem : gp_57 ∈ gh_57.2.2.2.2.2 := List.mem_cons_self
theorem gh_57_ok {S : List Nat} : nGv nFT nAT S (nJJ S) gh_57 := by
  intro h nu mu vs hJ hT k hv
  obtain ⟨z0, zr0, rfl, ze0⟩ := lc (show 2 = nu.length from k.1.1)
  obtain ⟨z1, zr1, rfl, ze1⟩ := lc (ze0)
  cases l0 ze1
  obtain ⟨q0, qr0, rfl, qe0⟩ := lc (show 1 = mu.length from k.2.1.1)
  cases l0 qe0
  have b0 : 360 ≤ z0 ∧ z0 ≤ 360 := k.1.2 0 z0 _ rfl rfl
  have b1 : 0 ≤ z1 ∧ z1 ≤ 181 := k.1.2 1 z1 _ rfl rfl
  have t0 : S[q0]? = some 9 := k.2.1.2 0 q0 _ rfl rfl
  have d0 := (k.2.2.2.2 _ (show .inl ([(1, 0), ((-1), 1)], (-179)) ∈ gh_57.2.2.2.1.2.2.2.2 by simp [gh_57])).2
  simp only [lS, List.map_cons, List.map_nil, List.sum_cons, List.sum_nil, List.getD_cons_zero, List.getD_cons_succ] at d0
  obtain ⟨fs, hq, hfs⟩ := hT.obj t0 (show oT 9 = some 9 from rfl)
  obtain ⟨u1006, f1006, a1006⟩ := fc_at k (show (0, 1006, .inr (.inl (1, 0))) ∈ gh_57.2.2.2.1.2.2.1 by simp [gh_57]) rfl hq
  rw [nFd_hi (by decide)] at f1006
  have y1006 := aRs a1006 (show _ = some z1 from rfl)
  subst y1006
  have g1006 := Value.int.inj (Option.some.inj f1006)
  obtain ⟨u1002, f1002, a1002⟩ := fc_at k (show (0, 1002, .inl 1) ∈ gh_57.2.2.2.1.2.2.1 by simp [gh_57]) rfl hq
  rw [nFd_hi (by decide)] at f1002
  have y1002 : u1002 = .int (Int32.ofInt 1) := a1002
  subst y1002
  have g1002 := Value.int.inj (Option.some.inj f1002)
  rw [nGh9, nG9_6] at g1006
  have g1 := congrArg Int32.toInt g1006
  rw [i32n (by have := gE_le (fun j => gCut true (gA h fs 6) (179 + j)) (fun j => gCut false (gA h fs 45) (539 + j)) 181; omega), a32 (by omega) (by omega)] at g1
  have g2 := ((gE_iff (m := 181)).mp (show _ ≤ gE (fun j => gCut true (gA h fs 6) (179 + j)) (fun j => gCut false (gA h fs 45) (539 + j)) 181 by omega)).2
  rw [nGh9, nG9_2] at g1002
  have g3 := gV_shift (f := gCut false (gA h fs 45)) (a := 539) (fun j hj => (g2 j hj).symm) g1002
  refine ⟨gp_57, gp_57_mem, [z0, z1], [q0], aX.rf, k.1, k.2.1, fun e he => ?_, (fun e he => nomatch he), (fun e he => nomatch he)⟩
  simp only [gp_57, List.mem_cons, List.not_mem_nil, or_false] at he
  subst he
  refine ⟨q0, 9, fs, _, rfl, hq, nFd_hi (by decide), ?_⟩
  rw [nGh9, nG9_4, g3]
  rfl
def gp_58 : aS := ([(360, 360), (0, 181)], [9], [(0, 1002, .inl 1)], [], [])
theorem gp_58_mem : gp_58 ∈ gh_58.2.2.2.2.2 := List.mem_cons_self
theorem gh_58_ok {S : List Nat} : nGv nFT nAT S (nJJ S) gh_58 := by
  intro h nu mu vs hJ hT k hv
  obtain ⟨z0, zr0, rfl, ze0⟩ := lc (show 2 = nu.length from k.1.1)
  obtain ⟨z1, zr1, rfl, ze1⟩ := lc (ze0)
  cases l0 ze1
  obtain ⟨q0, qr0, rfl, qe0⟩ := lc (show 1 = mu.length from k.2.1.1)
  cases l0 qe0
  have b0 : 360 ≤ z0 ∧ z0 ≤ 360 := k.1.2 0 z0 _ rfl rfl
  have b1 : 0 ≤ z1 ∧ z1 ≤ 181 := k.1.2 1 z1 _ rfl rfl
  have t0 : S[q0]? = some 9 := k.2.1.2 0 q0 _ rfl rfl
  have d0 := (k.2.2.2.2 _ (show .inl ([(1, 0), ((-1), 1)], (-179)) ∈ gh_58.2.2.2.1.2.2.2.2 by simp [gh_58])).2
  simp only [lS, List.map_cons, List.map_nil, List.sum_cons, List.sum_nil, List.getD_cons_zero, List.getD_cons_succ] at d0
  obtain ⟨fs, hq, hfs⟩ := hT.obj t0 (show oT 9 = some 9 from rfl)
  obtain ⟨u1006, f1006, a1006⟩ := fc_at k (show (0, 1006, .inr (.inl (1, 0))) ∈ gh_58.2.2.2.1.2.2.1 by simp [gh_58]) rfl hq
  rw [nFd_hi (by decide)] at f1006
  have y1006 := aRs a1006 (show _ = some z1 from rfl)
  subst y1006
  have g1006 := Value.int.inj (Option.some.inj f1006)
  obtain ⟨u1004, f1004, a1004⟩ := fc_at k (show (0, 1004, .inl 1) ∈ gh_58.2.2.2.1.2.2.1 by simp [gh_58]) rfl hq
  rw [nFd_hi (by decide)] at f1004
  have y1004 : u1004 = .int (Int32.ofInt 1) := a1004
  subst y1004
  have g1004 := Value.int.inj (Option.some.inj f1004)
  rw [nGh9, nG9_6] at g1006
  have g1 := congrArg Int32.toInt g1006
  rw [i32n (by have := gE_le (fun j => gCut true (gA h fs 6) (179 + j)) (fun j => gCut false (gA h fs 45) (539 + j)) 181; omega), a32 (by omega) (by omega)] at g1
  have g2 := ((gE_iff (m := 181)).mp (show _ ≤ gE (fun j => gCut true (gA h fs 6) (179 + j)) (fun j => gCut false (gA h fs 45) (539 + j)) 181 by omega)).2
  rw [nGh9, nG9_4] at g1004
  have g3 := gV_shift (f := gCut true (gA h fs 6)) (a := 179) (fun j hj => g2 j hj) g1004
  refine ⟨gp_58, gp_58_mem, [z0, z1], [q0], aX.rf, k.1, k.2.1, fun e he => ?_, (fun e he => nomatch he), (fun e he => nomatch he)⟩
  simp only [gp_58, List.mem_cons, List.not_mem_nil, or_false] at he
  subst he
  refine ⟨q0, 9, fs, _, rfl, hq, nFd_hi (by decide), ?_⟩
  rw [nGh9, nG9_2, g3]
  rfl
def gp_59 : aS := ([(0, 135)], [9], [(0, 1007, .inr (.inl (0, 0)))], [], [])
theorem gp_59_mem : gp_59 ∈ gh_59.2.2.2.2.2 := List.mem_cons_self
theorem gh_59_ok {S : List Nat} : nGv nFT nAT S (nJJ S) gh_59 := by
  intro h nu mu vs hJ hT k hv
  cases l0 (show 0 = nu.length from k.1.1)
  obtain ⟨q0, qr0, rfl, qe0⟩ := lc (show 1 = mu.length from k.2.1.1)
  cases l0 qe0
  have t0 : S[q0]? = some 9 := k.2.1.2 0 q0 _ rfl rfl
  obtain ⟨fs, hq, hfs⟩ := hT.obj t0 (show oT 9 = some 9 from rfl)
  have hle : gE (fun j => gCut true (gA h fs 6) (180 + j)) (gA h fs 8) 135 ≤ 135 := gE_le _ _ _
  refine ⟨gp_59, gp_59_mem, [((gE (fun j => gCut true (gA h fs 6) (180 + j)) (gA h fs 8) 135 : Nat) : Int)], [q0], ⟨[_], [], rfl, rfl⟩, aE1 ⟨Int.natCast_nonneg _, by simp only; omega⟩, k.2.1, fun e he => ?_, (fun e he => nomatch he), (fun e he => nomatch he)⟩
  simp only [gp_59, List.mem_cons, List.not_mem_nil, or_false] at he
  subst he
  refine ⟨q0, 9, fs, _, rfl, hq, nFd_hi (by decide), aRi rfl ?_⟩
  rw [nGh9, nG9_7, i32n (by omega), Int.add_zero]
def gp_60 : aS := ([(0, 134), (0, 44)], [9], [], [], [.inl ([(3, 1), ((-1), 0)], 0)])
theorem gp_60_mem : gp_60 ∈ gh_60.2.2.2.2.2 := List.mem_cons_self
theorem gh_60_ok {S : List Nat} : nGv nFT nAT S (nJJ S) gh_60 := by
  intro h nu mu vs hJ hT k hv
  obtain ⟨z0, zr0, rfl, ze0⟩ := lc (show 2 = nu.length from k.1.1)
  obtain ⟨z1, zr1, rfl, ze1⟩ := lc (ze0)
  cases l0 ze1
  obtain ⟨q0, qr0, rfl, qe0⟩ := lc (show 1 = mu.length from k.2.1.1)
  cases l0 qe0
  have b0 : 0 ≤ z0 ∧ z0 ≤ 134 := k.1.2 0 z0 _ rfl rfl
  have b1 : 0 ≤ z1 ∧ z1 ≤ 44 := k.1.2 1 z1 _ rfl rfl
  have t0 : S[q0]? = some 9 := k.2.1.2 0 q0 _ rfl rfl
  have d0 := (k.2.2.2.2 _ (show .inl ([(3, 1), ((-1), 0)], 0) ∈ gh_60.2.2.2.1.2.2.2.2 by simp [gh_60])).2
  simp only [lS, List.map_cons, List.map_nil, List.sum_cons, List.sum_nil, List.getD_cons_zero, List.getD_cons_succ] at d0
  obtain ⟨fs, hq, hfs⟩ := hT.obj t0 (show oT 9 = some 9 from rfl)
  obtain ⟨u39, f39, a39⟩ := fc_at k (show (0, 39, .inr (.inl (1, 0))) ∈ gh_60.2.2.2.1.2.2.1 by simp [gh_60]) rfl hq
  rw [nFd_lo (by decide)] at f39
  have y39 := aRs a39 (show _ = some z1 from rfl)
  subst y39
  exact ⟨gp_60, gp_60_mem, [z0, z1], [q0], aX.rf, k.1, k.2.1, (fun e he => nomatch he), (fun e he => nomatch he), fun e he => k.2.2.2.2 e he⟩
def gp_61 : aS := ([(0, 134), (0, 44), (0, 0), (0, 135)], [9, 50], [(0, 1002, .inl 1)], [], [])
theorem gp_61_mem : gp_61 ∈ gh_61.2.2.2.2.2 := List.mem_cons_self
theorem gh_61_ok {S : List Nat} : nGv nFT nAT S (nJJ S) gh_61 := by
  intro h nu mu vs hJ hT k hv
  obtain ⟨z0, zr0, rfl, ze0⟩ := lc (show 4 = nu.length from k.1.1)
  obtain ⟨z1, zr1, rfl, ze1⟩ := lc (ze0)
  obtain ⟨z2, zr2, rfl, ze2⟩ := lc (ze1)
  obtain ⟨z3, zr3, rfl, ze3⟩ := lc (ze2)
  cases l0 ze3
  obtain ⟨q0, qr0, rfl, qe0⟩ := lc (show 2 = mu.length from k.2.1.1)
  obtain ⟨q1, qr1, rfl, qe1⟩ := lc (qe0)
  cases l0 qe1
  have b0 : 0 ≤ z0 ∧ z0 ≤ 134 := k.1.2 0 z0 _ rfl rfl
  have b1 : 0 ≤ z1 ∧ z1 ≤ 44 := k.1.2 1 z1 _ rfl rfl
  have b2 : 0 ≤ z2 ∧ z2 ≤ 0 := k.1.2 2 z2 _ rfl rfl
  have b3 : 0 ≤ z3 ∧ z3 ≤ 135 := k.1.2 3 z3 _ rfl rfl
  have t0 : S[q0]? = some 9 := k.2.1.2 0 q0 _ rfl rfl
  have t1 : S[q1]? = some 50 := k.2.1.2 1 q1 _ rfl rfl
  have d0 := (k.2.2.2.2 _ (show .inl ([(3, 1), ((-1), 3)], 0) ∈ gh_61.2.2.2.1.2.2.2.2 by simp [gh_61])).2
  simp only [lS, List.map_cons, List.map_nil, List.sum_cons, List.sum_nil, List.getD_cons_zero, List.getD_cons_succ] at d0
  obtain ⟨fs, hq, hfs⟩ := hT.obj t0 (show oT 9 = some 9 from rfl)
  obtain ⟨u39, f39, a39⟩ := fc_at k (show (0, 39, .inr (.inl (1, 0))) ∈ gh_61.2.2.2.1.2.2.1 by simp [gh_61]) rfl hq
  rw [nFd_lo (by decide)] at f39
  have y39 := aRs a39 (show _ = some z1 from rfl)
  subst y39
  obtain ⟨u41, f41, a41⟩ := fc_at k (show (0, 41, .inr (.inl (2, 0))) ∈ gh_61.2.2.2.1.2.2.1 by simp [gh_61]) rfl hq
  rw [nFd_lo (by decide)] at f41
  have y41 := aRs a41 (show _ = some z2 from rfl)
  subst y41
  obtain ⟨u1007, f1007, a1007⟩ := fc_at k (show (0, 1007, .inr (.inl (3, 0))) ∈ gh_61.2.2.2.1.2.2.1 by simp [gh_61]) rfl hq
  rw [nFd_hi (by decide)] at f1007
  have y1007 := aRs a1007 (show _ = some z3 from rfl)
  subst y1007
  have g1007 := Value.int.inj (Option.some.inj f1007)
  obtain ⟨u1000, f1000, a1000⟩ := fc_at k (show (0, 1000, .inl 1) ∈ gh_61.2.2.2.1.2.2.1 by simp [gh_61]) rfl hq
  rw [nFd_hi (by decide)] at f1000
  have y1000 : u1000 = .int (Int32.ofInt 1) := a1000
  subst y1000
  have g1000 := Value.int.inj (Option.some.inj f1000)
  obtain ⟨u6, f6, a6⟩ := fc_at k (show (0, 6, .inr (.inr (.inl 1))) ∈ gh_61.2.2.2.1.2.2.1 by simp [gh_61]) rfl hq
  rw [nFd_lo (by decide)] at f6
  have y6 := aRr a6 (show _ = some q1 from rfl)
  subst y6
  obtain ⟨r1, f, i1, i2, hr, hg1, -⟩ := row_at hT hfs (show nFT 9 6 = some (.inr (.inl 50)) from rfl) (show nAT 50 = some (0, 360, .inl segS) from segS_ok) rfl
  cases Option.some.inj (f6.symm.trans i1)
  obtain ⟨i9, i8, i7⟩ := ac_at k (show (1, .inl 179, .inr (.inl (1, 0))) ∈ gh_61.2.2.2.1.2.2.2.1 by simp [gh_61]) rfl hr
  have i6 : i9 = Int32.ofInt 179 := Value.int.inj i8
  subst i6
  have i5 : (Int32.ofInt 179).toNatClampNeg = 179 := by decide
  rw [i5] at i7
  have i4 := Value.int.inj (aRs i7 (show _ = some z1 from rfl))
  rw [nGh9, nG9_7, hg1] at g1007
  have g1 := congrArg Int32.toInt g1007
  rw [i32n (by have := gE_le (fun j => gCut true f (180 + j)) (gA h fs 8) 135; omega), a32 (by omega) (by omega)] at g1
  have g2 := ((gE_iff (m := 3 * z1.toNat)).mp (show _ ≤ gE (fun j => gCut true f (180 + j)) (gA h fs 8) 135 by omega)).2
  rw [nGh9, nG9_0, gI_at f39, gI_at f41, a32 (by omega) (by omega), a32 (by omega) (by omega)] at g1000
  obtain ⟨n, n1, n2⟩ := (g0_iff (g := 1) (by omega) (by omega) (by decide)).mp g1000
  have e1 : (z1 + 0).toNat = z1.toNat := by omega
  rw [e1] at n1
  have g3 : gV (gCut true f) 179 = 1 := by
    refine gV_one.mpr ?_
    rw [gCutT (by decide), i4, a32 (by omega) (by omega)]
    refine ⟨by omega, by omega, ?_⟩
    rw [e1, gH_shift (g := gA h fs 8) (b := 0) (fun j hj => by
      have := g2 j hj
      rw [Nat.zero_add]
      exact this), n1]
    rfl
  refine ⟨gp_61, gp_61_mem, [z0, z1, z2, z3], [q0, q1], aX.rf, k.1, k.2.1, fun e he => ?_, (fun e he => nomatch he), (fun e he => nomatch he)⟩
  simp only [gp_61, List.mem_cons, List.not_mem_nil, or_false] at he
  subst he
  refine ⟨q0, 9, fs, _, rfl, hq, nFd_hi (by decide), ?_⟩
  rw [nGh9, nG9_2, hg1, g3]
  rfl
theorem gh_62_ok {S : List Nat} : nGv nFT nAT S (nJJ S) gh_62 := (show gh_62 = ghI 0 from rfl) ▸ ghI_ok S 0 (by decide)
theorem gh_63_ok {S : List Nat} : nGv nFT nAT S (nJJ S) gh_63 := (show gh_63 = ghI 1 from rfl) ▸ ghI_ok S 1 (by decide)
theorem gh_64_ok {S : List Nat} : nGv nFT nAT S (nJJ S) gh_64 := (show gh_64 = ghI 2 from rfl) ▸ ghI_ok S 2 (by decide)
theorem gh_65_ok {S : List Nat} : nGv nFT nAT S (nJJ S) gh_65 := (show gh_65 = ghI 3 from rfl) ▸ ghI_ok S 3 (by decide)
theorem gh_66_ok {S : List Nat} : nGv nFT nAT S (nJJ S) gh_66 := (show gh_66 = ghI 4 from rfl) ▸ ghI_ok S 4 (by decide)
theorem gh_67_ok {S : List Nat} : nGv nFT nAT S (nJJ S) gh_67 := (show gh_67 = ghI 5 from rfl) ▸ ghI_ok S 5 (by decide)
theorem gh_68_ok {S : List Nat} : nGv nFT nAT S (nJJ S) gh_68 := (show gh_68 = ghI 6 from rfl) ▸ ghI_ok S 6 (by decide)
theorem gh_69_ok {S : List Nat} : nGv nFT nAT S (nJJ S) gh_69 := (show gh_69 = ghI 7 from rfl) ▸ ghI_ok S 7 (by decide)
theorem gh_70_ok {S : List Nat} : nGv nFT nAT S (nJJ S) gh_70 := (show gh_70 = ghI 8 from rfl) ▸ ghI_ok S 8 (by decide)
theorem gh_71_ok {S : List Nat} : nGv nFT nAT S (nJJ S) gh_71 := (show gh_71 = ghI 9 from rfl) ▸ ghI_ok S 9 (by decide)
theorem gh_72_ok {S : List Nat} : nGv nFT nAT S (nJJ S) gh_72 := (show gh_72 = ghI 10 from rfl) ▸ ghI_ok S 10 (by decide)
theorem gh_73_ok {S : List Nat} : nGv nFT nAT S (nJJ S) gh_73 := (show gh_73 = ghI 11 from rfl) ▸ ghI_ok S 11 (by decide)
theorem gh_74_ok {S : List Nat} : nGv nFT nAT S (nJJ S) gh_74 := (show gh_74 = ghI 12 from rfl) ▸ ghI_ok S 12 (by decide)
theorem gh_75_ok {S : List Nat} : nGv nFT nAT S (nJJ S) gh_75 := (show gh_75 = ghI 13 from rfl) ▸ ghI_ok S 13 (by decide)
theorem gh_76_ok {S : List Nat} : nGv nFT nAT S (nJJ S) gh_76 := (show gh_76 = ghI 14 from rfl) ▸ ghI_ok S 14 (by decide)
theorem gh_77_ok {S : List Nat} : nGv nFT nAT S (nJJ S) gh_77 := (show gh_77 = ghI 15 from rfl) ▸ ghI_ok S 15 (by decide)
theorem gh_78_ok {S : List Nat} : nGv nFT nAT S (nJJ S) gh_78 := (show gh_78 = ghI 16 from rfl) ▸ ghI_ok S 16 (by decide)
theorem gh_79_ok {S : List Nat} : nGv nFT nAT S (nJJ S) gh_79 := (show gh_79 = ghI 17 from rfl) ▸ ghI_ok S 17 (by decide)
theorem gh_80_ok {S : List Nat} : nGv nFT nAT S (nJJ S) gh_80 := (show gh_80 = ghI 18 from rfl) ▸ ghI_ok S 18 (by decide)
theorem gh_81_ok {S : List Nat} : nGv nFT nAT S (nJJ S) gh_81 := (show gh_81 = ghI 19 from rfl) ▸ ghI_ok S 19 (by decide)
theorem gh_82_ok {S : List Nat} : nGv nFT nAT S (nJJ S) gh_82 := (show gh_82 = ghI 20 from rfl) ▸ ghI_ok S 20 (by decide)
theorem gh_83_ok {S : List Nat} : nGv nFT nAT S (nJJ S) gh_83 := (show gh_83 = ghI 21 from rfl) ▸ ghI_ok S 21 (by decide)
theorem gh_84_ok {S : List Nat} : nGv nFT nAT S (nJJ S) gh_84 := (show gh_84 = ghI 22 from rfl) ▸ ghI_ok S 22 (by decide)
theorem gh_85_ok {S : List Nat} : nGv nFT nAT S (nJJ S) gh_85 := (show gh_85 = ghI 23 from rfl) ▸ ghI_ok S 23 (by decide)
theorem gh_86_ok {S : List Nat} : nGv nFT nAT S (nJJ S) gh_86 := (show gh_86 = ghI 24 from rfl) ▸ ghI_ok S 24 (by decide)
theorem gh_87_ok {S : List Nat} : nGv nFT nAT S (nJJ S) gh_87 := (show gh_87 = ghI 25 from rfl) ▸ ghI_ok S 25 (by decide)
theorem gh_88_ok {S : List Nat} : nGv nFT nAT S (nJJ S) gh_88 := (show gh_88 = ghI 26 from rfl) ▸ ghI_ok S 26 (by decide)
theorem gh_89_ok {S : List Nat} : nGv nFT nAT S (nJJ S) gh_89 := (show gh_89 = ghI 27 from rfl) ▸ ghI_ok S 27 (by decide)
theorem gh_90_ok {S : List Nat} : nGv nFT nAT S (nJJ S) gh_90 := (show gh_90 = ghI 28 from rfl) ▸ ghI_ok S 28 (by decide)
theorem gh_91_ok {S : List Nat} : nGv nFT nAT S (nJJ S) gh_91 := (show gh_91 = ghI 29 from rfl) ▸ ghI_ok S 29 (by decide)
theorem gh_92_ok {S : List Nat} : nGv nFT nAT S (nJJ S) gh_92 := (show gh_92 = ghI 30 from rfl) ▸ ghI_ok S 30 (by decide)
theorem gh_93_ok {S : List Nat} : nGv nFT nAT S (nJJ S) gh_93 := (show gh_93 = ghI 31 from rfl) ▸ ghI_ok S 31 (by decide)
theorem gh_94_ok {S : List Nat} : nGv nFT nAT S (nJJ S) gh_94 := (show gh_94 = ghI 32 from rfl) ▸ ghI_ok S 32 (by decide)
theorem gh_95_ok {S : List Nat} : nGv nFT nAT S (nJJ S) gh_95 := (show gh_95 = ghI 33 from rfl) ▸ ghI_ok S 33 (by decide)
theorem gh_96_ok {S : List Nat} : nGv nFT nAT S (nJJ S) gh_96 := (show gh_96 = ghI 34 from rfl) ▸ ghI_ok S 34 (by decide)
theorem gh_97_ok {S : List Nat} : nGv nFT nAT S (nJJ S) gh_97 := (show gh_97 = ghI 35 from rfl) ▸ ghI_ok S 35 (by decide)
theorem gh_98_ok {S : List Nat} : nGv nFT nAT S (nJJ S) gh_98 := (show gh_98 = ghI 36 from rfl) ▸ ghI_ok S 36 (by decide)
theorem gh_99_ok {S : List Nat} : nGv nFT nAT S (nJJ S) gh_99 := (show gh_99 = ghI 37 from rfl) ▸ ghI_ok S 37 (by decide)
theorem gh_100_ok {S : List Nat} : nGv nFT nAT S (nJJ S) gh_100 := (show gh_100 = ghI 38 from rfl) ▸ ghI_ok S 38 (by decide)
theorem gh_101_ok {S : List Nat} : nGv nFT nAT S (nJJ S) gh_101 := (show gh_101 = ghI 39 from rfl) ▸ ghI_ok S 39 (by decide)
theorem gh_102_ok {S : List Nat} : nGv nFT nAT S (nJJ S) gh_102 := (show gh_102 = ghI 40 from rfl) ▸ ghI_ok S 40 (by decide)
theorem gh_103_ok {S : List Nat} : nGv nFT nAT S (nJJ S) gh_103 := (show gh_103 = ghI 41 from rfl) ▸ ghI_ok S 41 (by decide)
theorem gh_104_ok {S : List Nat} : nGv nFT nAT S (nJJ S) gh_104 := (show gh_104 = ghI 42 from rfl) ▸ ghI_ok S 42 (by decide)
theorem gh_105_ok {S : List Nat} : nGv nFT nAT S (nJJ S) gh_105 := (show gh_105 = ghI 43 from rfl) ▸ ghI_ok S 43 (by decide)
theorem gh_106_ok {S : List Nat} : nGv nFT nAT S (nJJ S) gh_106 := by
  intro h nu mu vs hJ hT k hv
  obtain ⟨z0, zr0, rfl, ze0⟩ := lc (show 1 = nu.length from k.1.1)
  cases l0 ze0
  obtain ⟨q0, qr0, rfl, qe0⟩ := lc (show 2 = mu.length from k.2.1.1)
  obtain ⟨q1, qr1, rfl, qe1⟩ := lc (qe0)
  cases l0 qe1
  have b0 : 45 ≤ z0 ∧ z0 ≤ 2147483647 := k.1.2 0 z0 _ rfl rfl
  have t0 : S[q0]? = some 9 := k.2.1.2 0 q0 _ rfl rfl
  have t1 : S[q1]? = some 50 := k.2.1.2 1 q1 _ rfl rfl
  obtain ⟨fs, hq, hfs⟩ := hT.obj t0 (show oT 9 = some 9 from rfl)
  obtain ⟨u6, f6, a6⟩ := fc_at k (show (0, 6, .inr (.inr (.inl 1))) ∈ gh_106.2.2.2.1.2.2.1 by simp [gh_106]) rfl hq
  rw [nFd_lo (by decide)] at f6
  have y6 := aRr a6 (show _ = some q1 from rfl)
  subst y6
  obtain ⟨u1002, f1002, a1002⟩ := fc_at k (show (0, 1002, .inl 1) ∈ gh_106.2.2.2.1.2.2.1 by simp [gh_106]) rfl hq
  rw [nFd_hi (by decide)] at f1002
  have y1002 : u1002 = .int (Int32.ofInt 1) := a1002
  subst y1002
  have g1002 := Value.int.inj (Option.some.inj f1002)
  obtain ⟨r1, f, i1, i2, hr, hg1, -⟩ := row_at hT hfs (show nFT 9 6 = some (.inr (.inl 50)) from rfl) (show nAT 50 = some (0, 360, .inl segS) from segS_ok) rfl
  cases Option.some.inj (f6.symm.trans i1)
  obtain ⟨i9, i8, i7⟩ := ac_at k (show (1, .inl 179, .inr (.inl (0, 0))) ∈ gh_106.2.2.2.1.2.2.2.1 by simp [gh_106]) rfl hr
  have i6 : i9 = Int32.ofInt 179 := Value.int.inj i8
  subst i6
  have i5 : (Int32.ofInt 179).toNatClampNeg = 179 := by decide
  rw [i5] at i7
  have i4 := Value.int.inj (aRs i7 (show _ = some z0 from rfl))
  rw [nGh9, nG9_2, hg1] at g1002
  obtain ⟨v1, v2, v3⟩ := gV_one.mp g1002
  rw [gCutT (by decide), i4, a32 (by omega) (by omega)] at v2
  omega
def gp_107 : aS := ([], [9], [(0, 1020, .inl 0)], [], [])
theorem gp_107_mem : gp_107 ∈ gh_107.2.2.2.2.2 := List.mem_cons_self
theorem gh_107_ok {S : List Nat} : nGv nFT nAT S (nJJ S) gh_107 := by
  intro h nu mu vs hJ hT k hv
  cases l0 (show 0 = nu.length from k.1.1)
  obtain ⟨q0, qr0, rfl, qe0⟩ := lc (show 1 = mu.length from k.2.1.1)
  cases l0 qe0
  have t0 : S[q0]? = some 9 := k.2.1.2 0 q0 _ rfl rfl
  obtain ⟨fs, hq, hfs⟩ := hT.obj t0 (show oT 9 = some 9 from rfl)
  refine ⟨gp_107, gp_107_mem, [], [q0], aX.rf, k.1, k.2.1, fun e he => ?_, (fun e he => nomatch he), (fun e he => nomatch he)⟩
  simp only [gp_107, List.mem_cons, List.not_mem_nil, or_false] at he
  subst he
  exact ⟨q0, 9, fs, _, rfl, hq, nFd_hi (by decide), rfl⟩
theorem gh_109_ok {S : List Nat} : nGv nFT nAT S (nJJ S) gh_109 := (show gh_109 = ghL 0 from rfl) ▸ ghL_ok S 0 (by decide)
theorem gh_110_ok {S : List Nat} : nGv nFT nAT S (nJJ S) gh_110 := (show gh_110 = ghL 1 from rfl) ▸ ghL_ok S 1 (by decide)
theorem gh_111_ok {S : List Nat} : nGv nFT nAT S (nJJ S) gh_111 := (show gh_111 = ghL 2 from rfl) ▸ ghL_ok S 2 (by decide)
theorem gh_112_ok {S : List Nat} : nGv nFT nAT S (nJJ S) gh_112 := (show gh_112 = ghL 3 from rfl) ▸ ghL_ok S 3 (by decide)
theorem gh_113_ok {S : List Nat} : nGv nFT nAT S (nJJ S) gh_113 := (show gh_113 = ghL 4 from rfl) ▸ ghL_ok S 4 (by decide)
theorem gh_114_ok {S : List Nat} : nGv nFT nAT S (nJJ S) gh_114 := (show gh_114 = ghL 5 from rfl) ▸ ghL_ok S 5 (by decide)
theorem gh_115_ok {S : List Nat} : nGv nFT nAT S (nJJ S) gh_115 := (show gh_115 = ghL 6 from rfl) ▸ ghL_ok S 6 (by decide)
theorem gh_116_ok {S : List Nat} : nGv nFT nAT S (nJJ S) gh_116 := (show gh_116 = ghL 7 from rfl) ▸ ghL_ok S 7 (by decide)
theorem gh_117_ok {S : List Nat} : nGv nFT nAT S (nJJ S) gh_117 := (show gh_117 = ghL 8 from rfl) ▸ ghL_ok S 8 (by decide)
theorem gh_118_ok {S : List Nat} : nGv nFT nAT S (nJJ S) gh_118 := (show gh_118 = ghL 9 from rfl) ▸ ghL_ok S 9 (by decide)
theorem gh_119_ok {S : List Nat} : nGv nFT nAT S (nJJ S) gh_119 := (show gh_119 = ghL 10 from rfl) ▸ ghL_ok S 10 (by decide)
theorem gh_120_ok {S : List Nat} : nGv nFT nAT S (nJJ S) gh_120 := (show gh_120 = ghL 11 from rfl) ▸ ghL_ok S 11 (by decide)
theorem gh_121_ok {S : List Nat} : nGv nFT nAT S (nJJ S) gh_121 := (show gh_121 = ghL 12 from rfl) ▸ ghL_ok S 12 (by decide)
theorem gh_122_ok {S : List Nat} : nGv nFT nAT S (nJJ S) gh_122 := (show gh_122 = ghL 13 from rfl) ▸ ghL_ok S 13 (by decide)
theorem gh_123_ok {S : List Nat} : nGv nFT nAT S (nJJ S) gh_123 := (show gh_123 = ghL 14 from rfl) ▸ ghL_ok S 14 (by decide)
theorem gh_124_ok {S : List Nat} : nGv nFT nAT S (nJJ S) gh_124 := (show gh_124 = ghL 15 from rfl) ▸ ghL_ok S 15 (by decide)
theorem gh_125_ok {S : List Nat} : nGv nFT nAT S (nJJ S) gh_125 := (show gh_125 = ghL 16 from rfl) ▸ ghL_ok S 16 (by decide)
theorem gh_126_ok {S : List Nat} : nGv nFT nAT S (nJJ S) gh_126 := (show gh_126 = ghL 17 from rfl) ▸ ghL_ok S 17 (by decide)
theorem gh_127_ok {S : List Nat} : nGv nFT nAT S (nJJ S) gh_127 := (show gh_127 = ghL 18 from rfl) ▸ ghL_ok S 18 (by decide)
theorem gh_128_ok {S : List Nat} : nGv nFT nAT S (nJJ S) gh_128 := (show gh_128 = ghL 19 from rfl) ▸ ghL_ok S 19 (by decide)
theorem gh_129_ok {S : List Nat} : nGv nFT nAT S (nJJ S) gh_129 := (show gh_129 = ghL 20 from rfl) ▸ ghL_ok S 20 (by decide)
theorem gh_130_ok {S : List Nat} : nGv nFT nAT S (nJJ S) gh_130 := (show gh_130 = ghL 21 from rfl) ▸ ghL_ok S 21 (by decide)
theorem gh_131_ok {S : List Nat} : nGv nFT nAT S (nJJ S) gh_131 := (show gh_131 = ghL 22 from rfl) ▸ ghL_ok S 22 (by decide)
theorem gh_132_ok {S : List Nat} : nGv nFT nAT S (nJJ S) gh_132 := (show gh_132 = ghL 23 from rfl) ▸ ghL_ok S 23 (by decide)
theorem gh_133_ok {S : List Nat} : nGv nFT nAT S (nJJ S) gh_133 := (show gh_133 = ghL 24 from rfl) ▸ ghL_ok S 24 (by decide)
theorem gh_134_ok {S : List Nat} : nGv nFT nAT S (nJJ S) gh_134 := (show gh_134 = ghL 25 from rfl) ▸ ghL_ok S 25 (by decide)
theorem gh_135_ok {S : List Nat} : nGv nFT nAT S (nJJ S) gh_135 := (show gh_135 = ghL 26 from rfl) ▸ ghL_ok S 26 (by decide)
theorem gh_136_ok {S : List Nat} : nGv nFT nAT S (nJJ S) gh_136 := (show gh_136 = ghL 27 from rfl) ▸ ghL_ok S 27 (by decide)
theorem gh_137_ok {S : List Nat} : nGv nFT nAT S (nJJ S) gh_137 := (show gh_137 = ghL 28 from rfl) ▸ ghL_ok S 28 (by decide)
theorem gh_138_ok {S : List Nat} : nGv nFT nAT S (nJJ S) gh_138 := (show gh_138 = ghL 29 from rfl) ▸ ghL_ok S 29 (by decide)
theorem gh_139_ok {S : List Nat} : nGv nFT nAT S (nJJ S) gh_139 := (show gh_139 = ghL 30 from rfl) ▸ ghL_ok S 30 (by decide)
theorem gh_140_ok {S : List Nat} : nGv nFT nAT S (nJJ S) gh_140 := (show gh_140 = ghL 31 from rfl) ▸ ghL_ok S 31 (by decide)
theorem gh_141_ok {S : List Nat} : nGv nFT nAT S (nJJ S) gh_141 := (show gh_141 = ghL 32 from rfl) ▸ ghL_ok S 32 (by decide)
theorem gh_142_ok {S : List Nat} : nGv nFT nAT S (nJJ S) gh_142 := (show gh_142 = ghL 33 from rfl) ▸ ghL_ok S 33 (by decide)
theorem gh_143_ok {S : List Nat} : nGv nFT nAT S (nJJ S) gh_143 := (show gh_143 = ghL 34 from rfl) ▸ ghL_ok S 34 (by decide)
theorem gh_144_ok {S : List Nat} : nGv nFT nAT S (nJJ S) gh_144 := (show gh_144 = ghL 35 from rfl) ▸ ghL_ok S 35 (by decide)
theorem gh_145_ok {S : List Nat} : nGv nFT nAT S (nJJ S) gh_145 := (show gh_145 = ghL 36 from rfl) ▸ ghL_ok S 36 (by decide)
theorem gh_146_ok {S : List Nat} : nGv nFT nAT S (nJJ S) gh_146 := (show gh_146 = ghL 37 from rfl) ▸ ghL_ok S 37 (by decide)
theorem gh_147_ok {S : List Nat} : nGv nFT nAT S (nJJ S) gh_147 := (show gh_147 = ghL 38 from rfl) ▸ ghL_ok S 38 (by decide)
theorem gh_148_ok {S : List Nat} : nGv nFT nAT S (nJJ S) gh_148 := (show gh_148 = ghL 39 from rfl) ▸ ghL_ok S 39 (by decide)
