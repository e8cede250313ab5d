/-- phrase_kinds -/
theorem sw_1_ok {S : List Nat} : nSv nFT nAT S (nJJ S) sw_1 := by
  intro h nu mu ws vs rst pc ini hJ hT k hw hv
  obtain ⟨z0, zr0, rfl, ze0⟩ := lc (show 2 = nu.length from k.1.1)
  obtain ⟨z1, zr1, rfl, ze1⟩ := lc (ze0)
  cases l0 ze1
  obtain ⟨q0, qr0, rfl, qe0⟩ := lc (show 2 = mu.length from k.2.1.1)
  obtain ⟨q1, qr1, rfl, qe1⟩ := lc (qe0)
  cases l0 qe1
  have b0 : (-2147483648) ≤ z0 ∧ z0 ≤ 2147483647 := k.1.2 0 z0 _ rfl rfl
  have b1 : 0 ≤ z1 ∧ z1 ≤ 39 := k.1.2 1 z1 _ rfl rfl
  have t0 : S[q0]? = some 4 := k.2.1.2 0 q0 _ rfl rfl
  have t1 : S[q1]? = some 30 := k.2.1.2 1 q1 _ rfl rfl
  obtain ⟨w0, wl0, rfl, wh0, hw0⟩ := hw.cons
  have wx0 := aRr wh0 (show _ = some q0 from rfl)
  subst wx0
  have wnil : wl0 = [] := by cases wl0 with
    | nil => rfl
    | cons a b => exact hw0.elim
  subst wnil
  obtain ⟨v0, vl0, rfl, vh0, hv0⟩ := hv.cons
  have vx0 := aRs vh0 (show _ = some z0 from rfl)
  subst vx0
  obtain ⟨v1, vl1, rfl, vh1, hv1⟩ := hv0.cons
  have vx1 := aRs vh1 (show _ = some z1 from rfl)
  subst vx1
  obtain ⟨v2, vl2, rfl, vh2, hv2⟩ := hv1.cons
  have vx2 := aRr vh2 (show _ = some q1 from rfl)
  subst vx2
  have vnil : vl2 = [] := by cases vl2 with
    | nil => rfl
    | cons a b => exact hv2.elim
  subst vnil
  obtain ⟨fs, hq, hfs⟩ := hT.obj t0 (show oT 4 = some 4 from rfl)
  obtain ⟨u0, f0, a0⟩ := fc_at k (show (0, 0, .inr (.inr (.inl 1))) ∈ sw_1.2.1.2.2.1 by simp [sw_1]) rfl hq
  rw [nFd_lo (by decide)] at f0
  have y0 := aRr a0 (show _ = some q1 from rfl)
  subst y0
  obtain ⟨u4, f4, a4⟩ := fc_at k (show (0, 4, .inr (.inl (1, 0))) ∈ sw_1.2.1.2.2.1 by simp [sw_1]) rfl hq
  rw [nFd_lo (by decide)] at f4
  have y4 := aRs a4 (show _ = some z1 from rfl)
  subst y4
  obtain ⟨r1, f, i1, i2, hr, hg1, he⟩ := row_at hT hfs (show nFT 4 0 = some (.inr (.inl 30)) from rfl) (show nAT 30 = some (0, 40, .inl [(40, (-2147483648), 2147483647, true)]) from rfl) rfl
  cases (Option.some.inj (f0.symm.trans i1))
  obtain ⟨hix, hit⟩ := nj_ix_of (z := (z1 + 0)) (n := 40) (by omega) (by omega) (by omega)
  have o0 : gA (h.set q1 (.inl (0, 40, .inl (upd f (Int32.ofInt (z1 + 0)).toNatClampNeg (Int32.ofInt (z0 + 0)))))) fs 0 = upd f (Int32.ofInt (z1 + 0)).toNatClampNeg (Int32.ofInt (z0 + 0)) := gA_at f0 (List.getElem?_set_self (List.getElem?_eq_some_iff.mp hr).1)
  have o2 : gA (h.set q1 (.inl (0, 40, .inl (upd f (Int32.ofInt (z1 + 0)).toNatClampNeg (Int32.ofInt (z0 + 0)))))) fs 2 = gA h fs 2 := gA_oth hJ.2.1 hT t1 hr t0 hq f0 (by decide) t0 hq (show (4, 2, 32) ∈ nRw by decide) (.inr (by decide))
  have hne : ∀ n, ¬ n = (z1 + 0).toNat → upd f (Int32.ofInt (z1 + 0)).toNatClampNeg (Int32.ofInt (z0 + 0)) n = gA h fs 0 n := fun n hn => by rw [hg1]; exact upd_ne (by rw [hit]; omega)
  have heq : upd f (Int32.ofInt (z1 + 0)).toNatClampNeg (Int32.ofInt (z0 + 0)) ((z1 + 0).toNat) = (Int32.ofInt (z0 + 0)) := by rw [hit]; exact upd_eq
  obtain ⟨p1, p2, p3, p4, p5, p6⟩ := ast_ok (x := (Int32.ofInt (z0 + 0))) (mf := sw_1.2.2.2.1) hJ hT t1 (show nAT 30 = some (0, 40, .inl [(40, (-2147483648), 2147483647, true)]) from rfl) rfl hr t0 hq f0 (by decide) hix (sFull1) (fun kk h10 hk => by
    rw [nGh4, nGh4, o0, o2, gI_at f4, a32 (by omega) (by omega)]
    refine gAll_congr (fun n hn => ?_)
    rw [hne n (by omega)]) (fun hV => by
    clear hV
    have := hJ.1 q0 4 4 fs t0 (.inl rfl) hq
    rw [← this]
    rw [nGh4, nGh4, o0, o2, gI_at f4, a32 (by omega) (by omega)]
    refine gAll_congr (fun n hn => ?_)
    rw [hne n (by omega)])
  refine ⟨_, fun _ => p1 pc rst, (fun e => nomatch e), p2, p3, p4, _, List.mem_singleton.mpr rfl, _, _, aX.rf, k.1, k.2.1, fun e he => ?_, fun e he => ?_, fun e he => ?_⟩
  · exact nomatch he
  · simp only [List.mem_cons, List.not_mem_nil, or_false] at he
    subst he
    exact ⟨q1, 0, _, _, _, rfl, p5, ⟨_, rfl, rfl⟩, by rw [upd_eq]; exact ⟨_, rfl, rfl⟩⟩
  · exact nomatch he
/-- phrase_values -/
theorem sw_2_ok {S : List Nat} : nSv nFT nAT S (nJJ S) sw_2 := by
  intro h nu mu ws vs rst pc ini hJ hT k hw hv
  obtain ⟨z0, zr0, rfl, ze0⟩ := lc (show 2 = nu.length from k.1.1)
  obtain ⟨z1, zr1, rfl, ze1⟩ := lc (ze0)
  cases l0 ze1
  obtain ⟨q0, qr0, rfl, qe0⟩ := lc (show 2 = mu.length from k.2.1.1)
  obtain ⟨q1, qr1, rfl, qe1⟩ := lc (qe0)
  cases l0 qe1
  have b0 : (-2147483648) ≤ z0 ∧ z0 ≤ 2147483647 := k.1.2 0 z0 _ rfl rfl
  have b1 : 0 ≤ z1 ∧ z1 ≤ 39 := k.1.2 1 z1 _ rfl rfl
  have t0 : S[q0]? = some 4 := k.2.1.2 0 q0 _ rfl rfl
  have t1 : S[q1]? = some 32 := k.2.1.2 1 q1 _ rfl rfl
  obtain ⟨w0, wl0, rfl, wh0, hw0⟩ := hw.cons
  have wx0 := aRr wh0 (show _ = some q0 from rfl)
  subst wx0
  have wnil : wl0 = [] := by cases wl0 with
    | nil => rfl
    | cons a b => exact hw0.elim
  subst wnil
  obtain ⟨v0, vl0, rfl, vh0, hv0⟩ := hv.cons
  have vx0 := aRs vh0 (show _ = some z0 from rfl)
  subst vx0
  obtain ⟨v1, vl1, rfl, vh1, hv1⟩ := hv0.cons
  have vx1 := aRs vh1 (show _ = some z1 from rfl)
  subst vx1
  obtain ⟨v2, vl2, rfl, vh2, hv2⟩ := hv1.cons
  have vx2 := aRr vh2 (show _ = some q1 from rfl)
  subst vx2
  have vnil : vl2 = [] := by cases vl2 with
    | nil => rfl
    | cons a b => exact hv2.elim
  subst vnil
  obtain ⟨fs, hq, hfs⟩ := hT.obj t0 (show oT 4 = some 4 from rfl)
  obtain ⟨u2, f2, a2⟩ := fc_at k (show (0, 2, .inr (.inr (.inl 1))) ∈ sw_2.2.1.2.2.1 by simp [sw_2]) rfl hq
  rw [nFd_lo (by decide)] at f2
  have y2 := aRr a2 (show _ = some q1 from rfl)
  subst y2
  obtain ⟨u4, f4, a4⟩ := fc_at k (show (0, 4, .inr (.inl (1, 0))) ∈ sw_2.2.1.2.2.1 by simp [sw_2]) rfl hq
  rw [nFd_lo (by decide)] at f4
  have y4 := aRs a4 (show _ = some z1 from rfl)
  subst y4
  obtain ⟨r1, f, i1, i2, hr, hg1, he⟩ := row_at hT hfs (show nFT 4 2 = some (.inr (.inl 32)) from rfl) (show nAT 32 = some (0, 40, .inl [(40, (-2147483648), 2147483647, true)]) from rfl) rfl
  cases (Option.some.inj (f2.symm.trans i1))
  obtain ⟨hix, hit⟩ := nj_ix_of (z := (z1 + 0)) (n := 40) (by omega) (by omega) (by omega)
  have o0 : gA (h.set q1 (.inl (0, 40, .inl (upd f (Int32.ofInt (z1 + 0)).toNatClampNeg (Int32.ofInt (z0 + 0)))))) fs 0 = gA h fs 0 := gA_oth hJ.2.1 hT t1 hr t0 hq f2 (by decide) t0 hq (show (4, 0, 30) ∈ nRw by decide) (.inr (by decide))
  have o2 : gA (h.set q1 (.inl (0, 40, .inl (upd f (Int32.ofInt (z1 + 0)).toNatClampNeg (Int32.ofInt (z0 + 0)))))) fs 2 = upd f (Int32.ofInt (z1 + 0)).toNatClampNeg (Int32.ofInt (z0 + 0)) := gA_at f2 (List.getElem?_set_self (List.getElem?_eq_some_iff.mp hr).1)
  have hne : ∀ n, ¬ n = (z1 + 0).toNat → upd f (Int32.ofInt (z1 + 0)).toNatClampNeg (Int32.ofInt (z0 + 0)) n = gA h fs 2 n := fun n hn => by rw [hg1]; exact upd_ne (by rw [hit]; omega)
  have heq : upd f (Int32.ofInt (z1 + 0)).toNatClampNeg (Int32.ofInt (z0 + 0)) ((z1 + 0).toNat) = (Int32.ofInt (z0 + 0)) := by rw [hit]; exact upd_eq
  obtain ⟨p1, p2, p3, p4, p5, p6⟩ := ast_ok (x := (Int32.ofInt (z0 + 0))) (mf := sw_2.2.2.2.1) hJ hT t1 (show nAT 32 = some (0, 40, .inl [(40, (-2147483648), 2147483647, true)]) from rfl) rfl hr t0 hq f2 (by decide) hix (sFull1) (fun kk h10 hk => by
    rw [nGh4, nGh4, o0, o2, gI_at f4, a32 (by omega) (by omega)]
    refine gAll_congr (fun n hn => ?_)
    rw [hne n (by omega)]) (fun hV => by
    clear hV
    have := hJ.1 q0 4 4 fs t0 (.inl rfl) hq
    rw [← this]
    rw [nGh4, nGh4, o0, o2, gI_at f4, a32 (by omega) (by omega)]
    refine gAll_congr (fun n hn => ?_)
    rw [hne n (by omega)])
  refine ⟨_, fun _ => p1 pc rst, (fun e => nomatch e), p2, p3, p4, _, List.mem_singleton.mpr rfl, _, _, aX.rf, k.1, k.2.1, fun e he => ?_, fun e he => ?_, fun e he => ?_⟩
  · exact nomatch he
  · simp only [List.mem_cons, List.not_mem_nil, or_false] at he
    subst he
    exact ⟨q1, 0, _, _, _, rfl, p5, ⟨_, rfl, rfl⟩, by rw [upd_eq]; exact ⟨_, rfl, rfl⟩⟩
  · exact nomatch he
/-- script_kinds -/
theorem sw_8_ok {S : List Nat} : nSv nFT nAT S (nJJ S) sw_8 := by
  intro h nu mu ws vs rst pc ini hJ hT k hw hv
  obtain ⟨z0, zr0, rfl, ze0⟩ := lc (show 2 = nu.length from k.1.1)
  obtain ⟨z1, zr1, rfl, ze1⟩ := lc (ze0)
  cases l0 ze1
  obtain ⟨q0, qr0, rfl, qe0⟩ := lc (show 2 = mu.length from k.2.1.1)
  obtain ⟨q1, qr1, rfl, qe1⟩ := lc (qe0)
  cases l0 qe1
  have b0 : (-2147483648) ≤ z0 ∧ z0 ≤ 2147483647 := k.1.2 0 z0 _ rfl rfl
  have b1 : 0 ≤ z1 ∧ z1 ≤ 39 := k.1.2 1 z1 _ rfl rfl
  have t0 : S[q0]? = some 6 := k.2.1.2 0 q0 _ rfl rfl
  have t1 : S[q1]? = some 38 := k.2.1.2 1 q1 _ rfl rfl
  obtain ⟨w0, wl0, rfl, wh0, hw0⟩ := hw.cons
  have wx0 := aRr wh0 (show _ = some q0 from rfl)
  subst wx0
  have wnil : wl0 = [] := by cases wl0 with
    | nil => rfl
    | cons a b => exact hw0.elim
  subst wnil
  obtain ⟨v0, vl0, rfl, vh0, hv0⟩ := hv.cons
  have vx0 := aRs vh0 (show _ = some z0 from rfl)
  subst vx0
  obtain ⟨v1, vl1, rfl, vh1, hv1⟩ := hv0.cons
  have vx1 := aRs vh1 (show _ = some z1 from rfl)
  subst vx1
  obtain ⟨v2, vl2, rfl, vh2, hv2⟩ := hv1.cons
  have vx2 := aRr vh2 (show _ = some q1 from rfl)
  subst vx2
  have vnil : vl2 = [] := by cases vl2 with
    | nil => rfl
    | cons a b => exact hv2.elim
  subst vnil
  obtain ⟨fs, hq, hfs⟩ := hT.obj t0 (show oT 6 = some 6 from rfl)
  obtain ⟨u0, f0, a0⟩ := fc_at k (show (0, 0, .inr (.inr (.inl 1))) ∈ sw_8.2.1.2.2.1 by simp [sw_8]) rfl hq
  rw [nFd_lo (by decide)] at f0
  have y0 := aRr a0 (show _ = some q1 from rfl)
  subst y0
  obtain ⟨u3, f3, a3⟩ := fc_at k (show (0, 3, .inr (.inl (1, 0))) ∈ sw_8.2.1.2.2.1 by simp [sw_8]) rfl hq
  rw [nFd_lo (by decide)] at f3
  have y3 := aRs a3 (show _ = some z1 from rfl)
  subst y3
  obtain ⟨r1, f, i1, i2, hr, hg1, he⟩ := row_at hT hfs (show nFT 6 0 = some (.inr (.inl 38)) from rfl) (show nAT 38 = some (0, 40, .inl [(40, (-2147483648), 2147483647, true)]) from rfl) rfl
  cases (Option.some.inj (f0.symm.trans i1))
  obtain ⟨hix, hit⟩ := nj_ix_of (z := (z1 + 0)) (n := 40) (by omega) (by omega) (by omega)
  have o0 : gA (h.set q1 (.inl (0, 40, .inl (upd f (Int32.ofInt (z1 + 0)).toNatClampNeg (Int32.ofInt (z0 + 0)))))) fs 0 = upd f (Int32.ofInt (z1 + 0)).toNatClampNeg (Int32.ofInt (z0 + 0)) := gA_at f0 (List.getElem?_set_self (List.getElem?_eq_some_iff.mp hr).1)
  have o1 : gA (h.set q1 (.inl (0, 40, .inl (upd f (Int32.ofInt (z1 + 0)).toNatClampNeg (Int32.ofInt (z0 + 0)))))) fs 1 = gA h fs 1 := gA_oth hJ.2.1 hT t1 hr t0 hq f0 (by decide) t0 hq (show (6, 1, 39) ∈ nRw by decide) (.inr (by decide))
  have o2 : gA (h.set q1 (.inl (0, 40, .inl (upd f (Int32.ofInt (z1 + 0)).toNatClampNeg (Int32.ofInt (z0 + 0)))))) fs 2 = gA h fs 2 := gA_oth hJ.2.1 hT t1 hr t0 hq f0 (by decide) t0 hq (show (6, 2, 40) ∈ nRw by decide) (.inr (by decide))
  have hne : ∀ n, ¬ n = (z1 + 0).toNat → upd f (Int32.ofInt (z1 + 0)).toNatClampNeg (Int32.ofInt (z0 + 0)) n = gA h fs 0 n := fun n hn => by rw [hg1]; exact upd_ne (by rw [hit]; omega)
  have heq : upd f (Int32.ofInt (z1 + 0)).toNatClampNeg (Int32.ofInt (z0 + 0)) ((z1 + 0).toNat) = (Int32.ofInt (z0 + 0)) := by rw [hit]; exact upd_eq
  obtain ⟨p1, p2, p3, p4, p5, p6⟩ := ast_ok (x := (Int32.ofInt (z0 + 0))) (mf := sw_8.2.2.2.1) hJ hT t1 (show nAT 38 = some (0, 40, .inl [(40, (-2147483648), 2147483647, true)]) from rfl) rfl hr t0 hq f0 (by decide) hix (sFull1) (fun kk h10 hk => by
    rw [nGh6, nGh6, o0, o1, o2, gI_at f3, a32 (by omega) (by omega)]
    refine gAll_congr (fun n hn => ?_)
    rw [hne n (by omega)]) (fun hV => by
    clear hV
    have := hJ.1 q0 6 6 fs t0 (.inr rfl) hq
    rw [← this]
    rw [nGh6, nGh6, o0, o1, o2, gI_at f3, a32 (by omega) (by omega)]
    refine gAll_congr (fun n hn => ?_)
    rw [hne n (by omega)])
  refine ⟨_, fun _ => p1 pc rst, (fun e => nomatch e), p2, p3, p4, _, List.mem_singleton.mpr rfl, _, _, aX.rf, k.1, k.2.1, fun e he => ?_, fun e he => ?_, fun e he => ?_⟩
  · exact nomatch he
  · simp only [List.mem_cons, List.not_mem_nil, or_false] at he
    subst he
    exact ⟨q1, 0, _, _, _, rfl, p5, ⟨_, rfl, rfl⟩, by rw [upd_eq]; exact ⟨_, rfl, rfl⟩⟩
  · exact nomatch he
/-- script_firsts -/
theorem sw_9_ok {S : List Nat} : nSv nFT nAT S (nJJ S) sw_9 := by
  intro h nu mu ws vs rst pc ini hJ hT k hw hv
  obtain ⟨z0, zr0, rfl, ze0⟩ := lc (show 2 = nu.length from k.1.1)
  obtain ⟨z1, zr1, rfl, ze1⟩ := lc (ze0)
  cases l0 ze1
  obtain ⟨q0, qr0, rfl, qe0⟩ := lc (show 2 = mu.length from k.2.1.1)
  obtain ⟨q1, qr1, rfl, qe1⟩ := lc (qe0)
  cases l0 qe1
  have b0 : (-2147483648) ≤ z0 ∧ z0 ≤ 2147483647 := k.1.2 0 z0 _ rfl rfl
  have b1 : 0 ≤ z1 ∧ z1 ≤ 39 := k.1.2 1 z1 _ rfl rfl
  have t0 : S[q0]? = some 6 := k.2.1.2 0 q0 _ rfl rfl
  have t1 : S[q1]? = some 39 := k.2.1.2 1 q1 _ rfl rfl
  obtain ⟨w0, wl0, rfl, wh0, hw0⟩ := hw.cons
  have wx0 := aRr wh0 (show _ = some q0 from rfl)
  subst wx0
  have wnil : wl0 = [] := by cases wl0 with
    | nil => rfl
    | cons a b => exact hw0.elim
  subst wnil
  obtain ⟨v0, vl0, rfl, vh0, hv0⟩ := hv.cons
  have vx0 := aRs vh0 (show _ = some z0 from rfl)
  subst vx0
  obtain ⟨v1, vl1, rfl, vh1, hv1⟩ := hv0.cons
  have vx1 := aRs vh1 (show _ = some z1 from rfl)
  subst vx1
  obtain ⟨v2, vl2, rfl, vh2, hv2⟩ := hv1.cons
  have vx2 := aRr vh2 (show _ = some q1 from rfl)
  subst vx2
  have vnil : vl2 = [] := by cases vl2 with
    | nil => rfl
    | cons a b => exact hv2.elim
  subst vnil
  obtain ⟨fs, hq, hfs⟩ := hT.obj t0 (show oT 6 = some 6 from rfl)
  obtain ⟨u1, f1, a1⟩ := fc_at k (show (0, 1, .inr (.inr (.inl 1))) ∈ sw_9.2.1.2.2.1 by simp [sw_9]) rfl hq
  rw [nFd_lo (by decide)] at f1
  have y1 := aRr a1 (show _ = some q1 from rfl)
  subst y1
  obtain ⟨u3, f3, a3⟩ := fc_at k (show (0, 3, .inr (.inl (1, 0))) ∈ sw_9.2.1.2.2.1 by simp [sw_9]) rfl hq
  rw [nFd_lo (by decide)] at f3
  have y3 := aRs a3 (show _ = some z1 from rfl)
  subst y3
  obtain ⟨r1, f, i1, i2, hr, hg1, he⟩ := row_at hT hfs (show nFT 6 1 = some (.inr (.inl 39)) from rfl) (show nAT 39 = some (0, 40, .inl [(40, (-2147483648), 2147483647, true)]) from rfl) rfl
  cases (Option.some.inj (f1.symm.trans i1))
  obtain ⟨hix, hit⟩ := nj_ix_of (z := (z1 + 0)) (n := 40) (by omega) (by omega) (by omega)
  have o0 : gA (h.set q1 (.inl (0, 40, .inl (upd f (Int32.ofInt (z1 + 0)).toNatClampNeg (Int32.ofInt (z0 + 0)))))) fs 0 = gA h fs 0 := gA_oth hJ.2.1 hT t1 hr t0 hq f1 (by decide) t0 hq (show (6, 0, 38) ∈ nRw by decide) (.inr (by decide))
  have o1 : gA (h.set q1 (.inl (0, 40, .inl (upd f (Int32.ofInt (z1 + 0)).toNatClampNeg (Int32.ofInt (z0 + 0)))))) fs 1 = upd f (Int32.ofInt (z1 + 0)).toNatClampNeg (Int32.ofInt (z0 + 0)) := gA_at f1 (List.getElem?_set_self (List.getElem?_eq_some_iff.mp hr).1)
  have o2 : gA (h.set q1 (.inl (0, 40, .inl (upd f (Int32.ofInt (z1 + 0)).toNatClampNeg (Int32.ofInt (z0 + 0)))))) fs 2 = gA h fs 2 := gA_oth hJ.2.1 hT t1 hr t0 hq f1 (by decide) t0 hq (show (6, 2, 40) ∈ nRw by decide) (.inr (by decide))
  have hne : ∀ n, ¬ n = (z1 + 0).toNat → upd f (Int32.ofInt (z1 + 0)).toNatClampNeg (Int32.ofInt (z0 + 0)) n = gA h fs 1 n := fun n hn => by rw [hg1]; exact upd_ne (by rw [hit]; omega)
  have heq : upd f (Int32.ofInt (z1 + 0)).toNatClampNeg (Int32.ofInt (z0 + 0)) ((z1 + 0).toNat) = (Int32.ofInt (z0 + 0)) := by rw [hit]; exact upd_eq
  obtain ⟨p1, p2, p3, p4, p5, p6⟩ := ast_ok (x := (Int32.ofInt (z0 + 0))) (mf := sw_9.2.2.2.1) hJ hT t1 (show nAT 39 = some (0, 40, .inl [(40, (-2147483648), 2147483647, true)]) from rfl) rfl hr t0 hq f1 (by decide) hix (sFull1) (fun kk h10 hk => by
    rw [nGh6, nGh6, o0, o1, o2, gI_at f3, a32 (by omega) (by omega)]
    refine gAll_congr (fun n hn => ?_)
    rw [hne n (by omega)]) (fun hV => by
    clear hV
    have := hJ.1 q0 6 6 fs t0 (.inr rfl) hq
    rw [← this]
    rw [nGh6, nGh6, o0, o1, o2, gI_at f3, a32 (by omega) (by omega)]
    refine gAll_congr (fun n hn => ?_)
    rw [hne n (by omega)])
  refine ⟨_, fun _ => p1 pc rst, (fun e => nomatch e), p2, p3, p4, _, List.mem_singleton.mpr rfl, _, _, aX.rf, k.1, k.2.1, fun e he => ?_, fun e he => ?_, fun e he => ?_⟩
  · exact nomatch he
  · simp only [List.mem_cons, List.not_mem_nil, or_false] at he
    subst he
    exact ⟨q1, 0, _, _, _, rfl, p5, ⟨_, rfl, rfl⟩, by rw [upd_eq]; exact ⟨_, rfl, rfl⟩⟩
  · exact nomatch he
/-- script_seconds -/
theorem sw_10_ok {S : List Nat} : nSv nFT nAT S (nJJ S) sw_10 := by
  intro h nu mu ws vs rst pc ini hJ hT k hw hv
  obtain ⟨z0, zr0, rfl, ze0⟩ := lc (show 2 = nu.length from k.1.1)
  obtain ⟨z1, zr1, rfl, ze1⟩ := lc (ze0)
  cases l0 ze1
  obtain ⟨q0, qr0, rfl, qe0⟩ := lc (show 2 = mu.length from k.2.1.1)
  obtain ⟨q1, qr1, rfl, qe1⟩ := lc (qe0)
  cases l0 qe1
  have b0 : (-2147483648) ≤ z0 ∧ z0 ≤ 2147483647 := k.1.2 0 z0 _ rfl rfl
  have b1 : 0 ≤ z1 ∧ z1 ≤ 39 := k.1.2 1 z1 _ rfl rfl
  have t0 : S[q0]? = some 6 := k.2.1.2 0 q0 _ rfl rfl
  have t1 : S[q1]? = some 40 := k.2.1.2 1 q1 _ rfl rfl
  obtain ⟨w0, wl0, rfl, wh0, hw0⟩ := hw.cons
  have wx0 := aRr wh0 (show _ = some q0 from rfl)
  subst wx0
  have wnil : wl0 = [] := by cases wl0 with
    | nil => rfl
    | cons a b => exact hw0.elim
  subst wnil
  obtain ⟨v0, vl0, rfl, vh0, hv0⟩ := hv.cons
  have vx0 := aRs vh0 (show _ = some z0 from rfl)
  subst vx0
  obtain ⟨v1, vl1, rfl, vh1, hv1⟩ := hv0.cons
  have vx1 := aRs vh1 (show _ = some z1 from rfl)
  subst vx1
  obtain ⟨v2, vl2, rfl, vh2, hv2⟩ := hv1.cons
  have vx2 := aRr vh2 (show _ = some q1 from rfl)
  subst vx2
  have vnil : vl2 = [] := by cases vl2 with
    | nil => rfl
    | cons a b => exact hv2.elim
  subst vnil
  obtain ⟨fs, hq, hfs⟩ := hT.obj t0 (show oT 6 = some 6 from rfl)
  obtain ⟨u2, f2, a2⟩ := fc_at k (show (0, 2, .inr (.inr (.inl 1))) ∈ sw_10.2.1.2.2.1 by simp [sw_10]) rfl hq
  rw [nFd_lo (by decide)] at f2
  have y2 := aRr a2 (show _ = some q1 from rfl)
  subst y2
  obtain ⟨u3, f3, a3⟩ := fc_at k (show (0, 3, .inr (.inl (1, 0))) ∈ sw_10.2.1.2.2.1 by simp [sw_10]) rfl hq
  rw [nFd_lo (by decide)] at f3
  have y3 := aRs a3 (show _ = some z1 from rfl)
  subst y3
  obtain ⟨r1, f, i1, i2, hr, hg1, he⟩ := row_at hT hfs (show nFT 6 2 = some (.inr (.inl 40)) from rfl) (show nAT 40 = some (0, 40, .inl [(40, (-2147483648), 2147483647, true)]) from rfl) rfl
  cases (Option.some.inj (f2.symm.trans i1))
  obtain ⟨hix, hit⟩ := nj_ix_of (z := (z1 + 0)) (n := 40) (by omega) (by omega) (by omega)
  have o0 : gA (h.set q1 (.inl (0, 40, .inl (upd f (Int32.ofInt (z1 + 0)).toNatClampNeg (Int32.ofInt (z0 + 0)))))) fs 0 = gA h fs 0 := gA_oth hJ.2.1 hT t1 hr t0 hq f2 (by decide) t0 hq (show (6, 0, 38) ∈ nRw by decide) (.inr (by decide))
  have o1 : gA (h.set q1 (.inl (0, 40, .inl (upd f (Int32.ofInt (z1 + 0)).toNatClampNeg (Int32.ofInt (z0 + 0)))))) fs 1 = gA h fs 1 := gA_oth hJ.2.1 hT t1 hr t0 hq f2 (by decide) t0 hq (show (6, 1, 39) ∈ nRw by decide) (.inr (by decide))
  have o2 : gA (h.set q1 (.inl (0, 40, .inl (upd f (Int32.ofInt (z1 + 0)).toNatClampNeg (Int32.ofInt (z0 + 0)))))) fs 2 = upd f (Int32.ofInt (z1 + 0)).toNatClampNeg (Int32.ofInt (z0 + 0)) := gA_at f2 (List.getElem?_set_self (List.getElem?_eq_some_iff.mp hr).1)
  have hne : ∀ n, ¬ n = (z1 + 0).toNat → upd f (Int32.ofInt (z1 + 0)).toNatClampNeg (Int32.ofInt (z0 + 0)) n = gA h fs 2 n := fun n hn => by rw [hg1]; exact upd_ne (by rw [hit]; omega)
  have heq : upd f (Int32.ofInt (z1 + 0)).toNatClampNeg (Int32.ofInt (z0 + 0)) ((z1 + 0).toNat) = (Int32.ofInt (z0 + 0)) := by rw [hit]; exact upd_eq
  obtain ⟨p1, p2, p3, p4, p5, p6⟩ := ast_ok (x := (Int32.ofInt (z0 + 0))) (mf := sw_10.2.2.2.1) hJ hT t1 (show nAT 40 = some (0, 40, .inl [(40, (-2147483648), 2147483647, true)]) from rfl) rfl hr t0 hq f2 (by decide) hix (sFull1) (fun kk h10 hk => by
    rw [nGh6, nGh6, o0, o1, o2, gI_at f3, a32 (by omega) (by omega)]
    refine gAll_congr (fun n hn => ?_)
    rw [hne n (by omega)]) (fun hV => by
    clear hV
    have := hJ.1 q0 6 6 fs t0 (.inr rfl) hq
    rw [← this]
    rw [nGh6, nGh6, o0, o1, o2, gI_at f3, a32 (by omega) (by omega)]
    refine gAll_congr (fun n hn => ?_)
    rw [hne n (by omega)])
  refine ⟨_, fun _ => p1 pc rst, (fun e => nomatch e), p2, p3, p4, _, List.mem_singleton.mpr rfl, _, _, aX.rf, k.1, k.2.1, fun e he => ?_, fun e he => ?_, fun e he => ?_⟩
  · exact nomatch he
  · simp only [List.mem_cons, List.not_mem_nil, or_false] at he
    subst he
    exact ⟨q1, 0, _, _, _, rfl, p5, ⟨_, rfl, rfl⟩, by rw [upd_eq]; exact ⟨_, rfl, rfl⟩⟩
  · exact nomatch he
/-- read_told0 -/
theorem sw_15_ok {S : List Nat} : nSv nFT nAT S (nJJ S) sw_15 := by
  intro h nu mu ws vs rst pc ini hJ hT k hw hv
  obtain ⟨z0, zr0, rfl, ze0⟩ := lc (show 3 = nu.length from k.1.1)
  obtain ⟨z1, zr1, rfl, ze1⟩ := lc (ze0)
  obtain ⟨z2, zr2, rfl, ze2⟩ := lc (ze1)
  cases l0 ze2
  obtain ⟨q0, qr0, rfl, qe0⟩ := lc (show 2 = mu.length from k.2.1.1)
  obtain ⟨q1, qr1, rfl, qe1⟩ := lc (qe0)
  cases l0 qe1
  have b0 : (-2147483648) ≤ z0 ∧ z0 ≤ 2147483647 := k.1.2 0 z0 _ rfl rfl
  have b1 : 0 ≤ z1 ∧ z1 ≤ 134 := k.1.2 1 z1 _ rfl rfl
  have b2 : 0 ≤ z2 ∧ z2 ≤ 40 := k.1.2 2 z2 _ rfl rfl
  have t0 : S[q0]? = some 9 := k.2.1.2 0 q0 _ rfl rfl
  have t1 : S[q1]? = some 52 := k.2.1.2 1 q1 _ rfl rfl
  have d0 := (k.2.2.2.2 _ (show .inl ([(1, 1), ((-3), 2)], 0) ∈ sw_15.2.1.2.2.2.2 by simp [sw_15])).2
  simp only [lS, List.map_cons, List.map_nil, List.sum_cons, List.sum_nil, List.getD_cons_zero, List.getD_cons_succ] at d0
  have d1 := (k.2.2.2.2 _ (show .inl ([((-1), 1), (3, 2)], 0) ∈ sw_15.2.1.2.2.2.2 by simp [sw_15])).2
  simp only [lS, List.map_cons, List.map_nil, List.sum_cons, List.sum_nil, List.getD_cons_zero, List.getD_cons_succ] at d1
  obtain ⟨w0, wl0, rfl, wh0, hw0⟩ := hw.cons
  have wx0 := aRr wh0 (show _ = some q0 from rfl)
  subst wx0
  have wnil : wl0 = [] := by cases wl0 with
    | nil => rfl
    | cons a b => exact hw0.elim
  subst wnil
  obtain ⟨v0, vl0, rfl, vh0, hv0⟩ := hv.cons
  have vx0 := aRs vh0 (show _ = some z0 from rfl)
  subst vx0
  obtain ⟨v1, vl1, rfl, vh1, hv1⟩ := hv0.cons
  have vx1 := aRs vh1 (show _ = some z1 from rfl)
  subst vx1
  obtain ⟨v2, vl2, rfl, vh2, hv2⟩ := hv1.cons
  have vx2 := aRr vh2 (show _ = some q1 from rfl)
  subst vx2
  have vnil : vl2 = [] := by cases vl2 with
    | nil => rfl
    | cons a b => exact hv2.elim
  subst vnil
  obtain ⟨fs, hq, hfs⟩ := hT.obj t0 (show oT 9 = some 9 from rfl)
  obtain ⟨u8, f8, a8⟩ := fc_at k (show (0, 8, .inr (.inr (.inl 1))) ∈ sw_15.2.1.2.2.1 by simp [sw_15]) rfl hq
  rw [nFd_lo (by decide)] at f8
  have y8 := aRr a8 (show _ = some q1 from rfl)
  subst y8
  obtain ⟨u35, f35, a35⟩ := fc_at k (show (0, 35, .inr (.inl (2, 0))) ∈ sw_15.2.1.2.2.1 by simp [sw_15]) rfl hq
  rw [nFd_lo (by decide)] at f35
  have y35 := aRs a35 (show _ = some z2 from rfl)
  subst y35
  obtain ⟨r1, f, i1, i2, hr, hg1, he⟩ := row_at hT hfs (show nFT 9 8 = some (.inr (.inl 52)) from rfl) (show nAT 52 = some (0, 135, .inl [(135, (-2147483648), 2147483647, true)]) from rfl) rfl
  cases (Option.some.inj (f8.symm.trans i1))
  obtain ⟨hix, hit⟩ := nj_ix_of (z := (z1 + 0)) (n := 135) (by omega) (by omega) (by omega)
  have e1 : ((z1 + 0) : Int).toNat = 3 * z2.toNat + 0 := by omega
  have o6 : gA (h.set q1 (.inl (0, 135, .inl (upd f (Int32.ofInt (z1 + 0)).toNatClampNeg (Int32.ofInt (z0 + 0)))))) fs 6 = gA h fs 6 := gA_oth hJ.2.1 hT t1 hr t0 hq f8 (by decide) t0 hq (show (9, 6, 50) ∈ nRw by decide) (.inr (by decide))
  have o45 : gA (h.set q1 (.inl (0, 135, .inl (upd f (Int32.ofInt (z1 + 0)).toNatClampNeg (Int32.ofInt (z0 + 0)))))) fs 45 = gA h fs 45 := gA_oth hJ.2.1 hT t1 hr t0 hq f8 (by decide) t0 hq (show (9, 45, 65) ∈ nRw by decide) (.inr (by decide))
  have o8 : gA (h.set q1 (.inl (0, 135, .inl (upd f (Int32.ofInt (z1 + 0)).toNatClampNeg (Int32.ofInt (z0 + 0)))))) fs 8 = upd f (Int32.ofInt (z1 + 0)).toNatClampNeg (Int32.ofInt (z0 + 0)) := gA_at f8 (List.getElem?_set_self (List.getElem?_eq_some_iff.mp hr).1)
  have o38 : gA (h.set q1 (.inl (0, 135, .inl (upd f (Int32.ofInt (z1 + 0)).toNatClampNeg (Int32.ofInt (z0 + 0)))))) fs 38 = gA h fs 38 := gA_oth hJ.2.1 hT t1 hr t0 hq f8 (by decide) t0 hq (show (9, 38, 63) ∈ nRw by decide) (.inr (by decide))
  have hne : ∀ n, ¬ n = 3 * z2.toNat + 0 → upd f (Int32.ofInt (z1 + 0)).toNatClampNeg (Int32.ofInt (z0 + 0)) n = gA h fs 8 n := fun n hn => by rw [hg1]; exact upd_ne (by rw [hit]; omega)
  have heq : upd f (Int32.ofInt (z1 + 0)).toNatClampNeg (Int32.ofInt (z0 + 0)) (3 * z2.toNat + 0) = (Int32.ofInt (z0 + 0)) := by rw [hit, e1]; exact upd_eq
  obtain ⟨p1, p2, p3, p4, p5, p6⟩ := ast_ok (x := (Int32.ofInt (z0 + 0))) (mf := sw_15.2.2.2.1) hJ hT t1 (show nAT 52 = some (0, 135, .inl [(135, (-2147483648), 2147483647, true)]) from rfl) rfl hr t0 hq f8 (by decide) hix (sFull1) (fun kk h10 hk => by
    simp only [sw_15, List.mem_cons, Prod.mk.injEq, true_and, List.not_mem_nil, or_false, not_or] at hk
    rw [nGh9, nGh9, o6, o45, o8, o38]
    exact nG9_rdT (j := 0) (i := 3 * z2.toNat + 0) (by rw [gI_at f35, a32 (by omega) (by omega)]; omega) hne (by omega) (by omega) (by omega) (by omega) (by omega)) (fun hV => by
    rcases hV with hV | hV <;> cases hV)
  refine ⟨_, fun _ => p1 pc rst, (fun e => nomatch e), p2, p3, p4, _, List.mem_singleton.mpr rfl, _, _, aX.rf, k.1, k.2.1, fun e he => ?_, fun e he => ?_, fun e he => ?_⟩
  · simp only [List.mem_cons, List.not_mem_nil, or_false] at he
    subst he
    refine ⟨q0, 9, _, _, rfl, p6, nFd_hi (by decide), ?_⟩
    rw [nGh9, o6, o45, o8, o38, nG9_a]
    rw [gI_at f35, a32 (by omega) (by omega), show 3 * (z2 + 0).toNat = 3 * z2.toNat + 0 by omega, heq]
    exact ⟨_, rfl, rfl⟩
  · simp only [List.mem_cons, List.not_mem_nil, or_false] at he
    subst he
    exact ⟨q1, 0, _, _, _, rfl, p5, ⟨_, rfl, rfl⟩, by rw [upd_eq]; exact ⟨_, rfl, rfl⟩⟩
  · exact nomatch he
/-- read_code0 -/
theorem sw_23_ok {S : List Nat} : nSv nFT nAT S (nJJ S) sw_23 := by
  intro h nu mu ws vs rst pc ini hJ hT k hw hv
  obtain ⟨z0, zr0, rfl, ze0⟩ := lc (show 3 = nu.length from k.1.1)
  obtain ⟨z1, zr1, rfl, ze1⟩ := lc (ze0)
  obtain ⟨z2, zr2, rfl, ze2⟩ := lc (ze1)
  cases l0 ze2
  obtain ⟨q0, qr0, rfl, qe0⟩ := lc (show 2 = mu.length from k.2.1.1)
  obtain ⟨q1, qr1, rfl, qe1⟩ := lc (qe0)
  cases l0 qe1
  have b0 : (-2147483648) ≤ z0 ∧ z0 ≤ 2147483647 := k.1.2 0 z0 _ rfl rfl
  have b1 : 0 ≤ z1 ∧ z1 ≤ 134 := k.1.2 1 z1 _ rfl rfl
  have b2 : 0 ≤ z2 ∧ z2 ≤ 44 := k.1.2 2 z2 _ rfl rfl
  have t0 : S[q0]? = some 9 := k.2.1.2 0 q0 _ rfl rfl
  have t1 : S[q1]? = some 52 := k.2.1.2 1 q1 _ rfl rfl
  have d0 := (k.2.2.2.2 _ (show .inl ([(1, 1), ((-3), 2)], 0) ∈ sw_23.2.1.2.2.2.2 by simp [sw_23])).2
  simp only [lS, List.map_cons, List.map_nil, List.sum_cons, List.sum_nil, List.getD_cons_zero, List.getD_cons_succ] at d0
  have d1 := (k.2.2.2.2 _ (show .inl ([((-1), 1), (3, 2)], 0) ∈ sw_23.2.1.2.2.2.2 by simp [sw_23])).2
  simp only [lS, List.map_cons, List.map_nil, List.sum_cons, List.sum_nil, List.getD_cons_zero, List.getD_cons_succ] at d1
  obtain ⟨w0, wl0, rfl, wh0, hw0⟩ := hw.cons
  have wx0 := aRr wh0 (show _ = some q0 from rfl)
  subst wx0
  have wnil : wl0 = [] := by cases wl0 with
    | nil => rfl
    | cons a b => exact hw0.elim
  subst wnil
  obtain ⟨v0, vl0, rfl, vh0, hv0⟩ := hv.cons
  have vx0 := aRs vh0 (show _ = some z0 from rfl)
  subst vx0
  obtain ⟨v1, vl1, rfl, vh1, hv1⟩ := hv0.cons
  have vx1 := aRs vh1 (show _ = some z1 from rfl)
  subst vx1
  obtain ⟨v2, vl2, rfl, vh2, hv2⟩ := hv1.cons
  have vx2 := aRr vh2 (show _ = some q1 from rfl)
  subst vx2
  have vnil : vl2 = [] := by cases vl2 with
    | nil => rfl
    | cons a b => exact hv2.elim
  subst vnil
  obtain ⟨fs, hq, hfs⟩ := hT.obj t0 (show oT 9 = some 9 from rfl)
  obtain ⟨u8, f8, a8⟩ := fc_at k (show (0, 8, .inr (.inr (.inl 1))) ∈ sw_23.2.1.2.2.1 by simp [sw_23]) rfl hq
  rw [nFd_lo (by decide)] at f8
  have y8 := aRr a8 (show _ = some q1 from rfl)
  subst y8
  obtain ⟨u39, f39, a39⟩ := fc_at k (show (0, 39, .inr (.inl (2, 0))) ∈ sw_23.2.1.2.2.1 by simp [sw_23]) rfl hq
  rw [nFd_lo (by decide)] at f39
  have y39 := aRs a39 (show _ = some z2 from rfl)
  subst y39
  obtain ⟨r1, f, i1, i2, hr, hg1, he⟩ := row_at hT hfs (show nFT 9 8 = some (.inr (.inl 52)) from rfl) (show nAT 52 = some (0, 135, .inl [(135, (-2147483648), 2147483647, true)]) from rfl) rfl
  cases (Option.some.inj (f8.symm.trans i1))
  obtain ⟨hix, hit⟩ := nj_ix_of (z := (z1 + 0)) (n := 135) (by omega) (by omega) (by omega)
  have e1 : ((z1 + 0) : Int).toNat = 3 * z2.toNat + 0 := by omega
  have o6 : gA (h.set q1 (.inl (0, 135, .inl (upd f (Int32.ofInt (z1 + 0)).toNatClampNeg (Int32.ofInt (z0 + 0)))))) fs 6 = gA h fs 6 := gA_oth hJ.2.1 hT t1 hr t0 hq f8 (by decide) t0 hq (show (9, 6, 50) ∈ nRw by decide) (.inr (by decide))
  have o45 : gA (h.set q1 (.inl (0, 135, .inl (upd f (Int32.ofInt (z1 + 0)).toNatClampNeg (Int32.ofInt (z0 + 0)))))) fs 45 = gA h fs 45 := gA_oth hJ.2.1 hT t1 hr t0 hq f8 (by decide) t0 hq (show (9, 45, 65) ∈ nRw by decide) (.inr (by decide))
  have o8 : gA (h.set q1 (.inl (0, 135, .inl (upd f (Int32.ofInt (z1 + 0)).toNatClampNeg (Int32.ofInt (z0 + 0)))))) fs 8 = upd f (Int32.ofInt (z1 + 0)).toNatClampNeg (Int32.ofInt (z0 + 0)) := gA_at f8 (List.getElem?_set_self (List.getElem?_eq_some_iff.mp hr).1)
  have o38 : gA (h.set q1 (.inl (0, 135, .inl (upd f (Int32.ofInt (z1 + 0)).toNatClampNeg (Int32.ofInt (z0 + 0)))))) fs 38 = gA h fs 38 := gA_oth hJ.2.1 hT t1 hr t0 hq f8 (by decide) t0 hq (show (9, 38, 63) ∈ nRw by decide) (.inr (by decide))
  have hne : ∀ n, ¬ n = 3 * z2.toNat + 0 → upd f (Int32.ofInt (z1 + 0)).toNatClampNeg (Int32.ofInt (z0 + 0)) n = gA h fs 8 n := fun n hn => by rw [hg1]; exact upd_ne (by rw [hit]; omega)
  have heq : upd f (Int32.ofInt (z1 + 0)).toNatClampNeg (Int32.ofInt (z0 + 0)) (3 * z2.toNat + 0) = (Int32.ofInt (z0 + 0)) := by rw [hit, e1]; exact upd_eq
  obtain ⟨p1, p2, p3, p4, p5, p6⟩ := ast_ok (x := (Int32.ofInt (z0 + 0))) (mf := sw_23.2.2.2.1) hJ hT t1 (show nAT 52 = some (0, 135, .inl [(135, (-2147483648), 2147483647, true)]) from rfl) rfl hr t0 hq f8 (by decide) hix (sFull1) (fun kk h10 hk => by
    simp only [sw_23, List.mem_cons, Prod.mk.injEq, true_and, List.not_mem_nil, or_false, not_or] at hk
    rw [nGh9, nGh9, o6, o45, o8, o38]
    exact nG9_rdC (j := 0) (i := 3 * z2.toNat + 0) (by rw [gI_at f39, a32 (by omega) (by omega)]; omega) hne (by omega) (by omega) (by omega) (by omega) (by omega) (by omega) (by omega)) (fun hV => by
    rcases hV with hV | hV <;> cases hV)
  refine ⟨_, fun _ => p1 pc rst, (fun e => nomatch e), p2, p3, p4, _, List.mem_singleton.mpr rfl, _, _, aX.rf, k.1, k.2.1, fun e he => ?_, fun e he => ?_, fun e he => ?_⟩
  · simp only [List.mem_cons, List.not_mem_nil, or_false] at he
    subst he
    refine ⟨q0, 9, _, _, rfl, p6, nFd_hi (by decide), ?_⟩
    rw [nGh9, o6, o45, o8, o38, nG9_8]
    rw [gI_at f39, a32 (by omega) (by omega), show 3 * (z2 + 0).toNat = 3 * z2.toNat + 0 by omega, heq]
    exact ⟨_, rfl, rfl⟩
  · simp only [List.mem_cons, List.not_mem_nil, or_false] at he
    subst he
    exact ⟨q1, 0, _, _, _, rfl, p5, ⟨_, rfl, rfl⟩, by rw [upd_eq]; exact ⟨_, rfl, rfl⟩⟩
  · exact nomatch he
/-- read_told1 -/
theorem sw_16_ok {S : List Nat} : nSv nFT nAT S (nJJ S) sw_16 := by
  intro h nu mu ws vs rst pc ini hJ hT k hw hv
  obtain ⟨z0, zr0, rfl, ze0⟩ := lc (show 3 = nu.length from k.1.1)
  obtain ⟨z1, zr1, rfl, ze1⟩ := lc (ze0)
  obtain ⟨z2, zr2, rfl, ze2⟩ := lc (ze1)
  cases l0 ze2
  obtain ⟨q0, qr0, rfl, qe0⟩ := lc (show 2 = mu.length from k.2.1.1)
  obtain ⟨q1, qr1, rfl, qe1⟩ := lc (qe0)
  cases l0 qe1
  have b0 : (-2147483648) ≤ z0 ∧ z0 ≤ 2147483647 := k.1.2 0 z0 _ rfl rfl
  have b1 : 0 ≤ z1 ∧ z1 ≤ 134 := k.1.2 1 z1 _ rfl rfl
  have b2 : 0 ≤ z2 ∧ z2 ≤ 40 := k.1.2 2 z2 _ rfl rfl
  have t0 : S[q0]? = some 9 := k.2.1.2 0 q0 _ rfl rfl
  have t1 : S[q1]? = some 52 := k.2.1.2 1 q1 _ rfl rfl
  have d0 := (k.2.2.2.2 _ (show .inl ([(1, 1), ((-3), 2)], (-1)) ∈ sw_16.2.1.2.2.2.2 by simp [sw_16])).2
  simp only [lS, List.map_cons, List.map_nil, List.sum_cons, List.sum_nil, List.getD_cons_zero, List.getD_cons_succ] at d0
  have d1 := (k.2.2.2.2 _ (show .inl ([((-1), 1), (3, 2)], 1) ∈ sw_16.2.1.2.2.2.2 by simp [sw_16])).2
  simp only [lS, List.map_cons, List.map_nil, List.sum_cons, List.sum_nil, List.getD_cons_zero, List.getD_cons_succ] at d1
  obtain ⟨w0, wl0, rfl, wh0, hw0⟩ := hw.cons
  have wx0 := aRr wh0 (show _ = some q0 from rfl)
  subst wx0
  have wnil : wl0 = [] := by cases wl0 with
    | nil => rfl
    | cons a b => exact hw0.elim
  subst wnil
  obtain ⟨v0, vl0, rfl, vh0, hv0⟩ := hv.cons
  have vx0 := aRs vh0 (show _ = some z0 from rfl)
  subst vx0
  obtain ⟨v1, vl1, rfl, vh1, hv1⟩ := hv0.cons
  have vx1 := aRs vh1 (show _ = some z1 from rfl)
  subst vx1
  obtain ⟨v2, vl2, rfl, vh2, hv2⟩ := hv1.cons
  have vx2 := aRr vh2 (show _ = some q1 from rfl)
  subst vx2
  have vnil : vl2 = [] := by cases vl2 with
    | nil => rfl
    | cons a b => exact hv2.elim
  subst vnil
  obtain ⟨fs, hq, hfs⟩ := hT.obj t0 (show oT 9 = some 9 from rfl)
  obtain ⟨u8, f8, a8⟩ := fc_at k (show (0, 8, .inr (.inr (.inl 1))) ∈ sw_16.2.1.2.2.1 by simp [sw_16]) rfl hq
  rw [nFd_lo (by decide)] at f8
  have y8 := aRr a8 (show _ = some q1 from rfl)
  subst y8
  obtain ⟨u35, f35, a35⟩ := fc_at k (show (0, 35, .inr (.inl (2, 0))) ∈ sw_16.2.1.2.2.1 by simp [sw_16]) rfl hq
  rw [nFd_lo (by decide)] at f35
  have y35 := aRs a35 (show _ = some z2 from rfl)
  subst y35
  obtain ⟨r1, f, i1, i2, hr, hg1, he⟩ := row_at hT hfs (show nFT 9 8 = some (.inr (.inl 52)) from rfl) (show nAT 52 = some (0, 135, .inl [(135, (-2147483648), 2147483647, true)]) from rfl) rfl
  cases (Option.some.inj (f8.symm.trans i1))
  obtain ⟨hix, hit⟩ := nj_ix_of (z := (z1 + 0)) (n := 135) (by omega) (by omega) (by omega)
  have e1 : ((z1 + 0) : Int).toNat = 3 * z2.toNat + 1 := by omega
  have o6 : gA (h.set q1 (.inl (0, 135, .inl (upd f (Int32.ofInt (z1 + 0)).toNatClampNeg (Int32.ofInt (z0 + 0)))))) fs 6 = gA h fs 6 := gA_oth hJ.2.1 hT t1 hr t0 hq f8 (by decide) t0 hq (show (9, 6, 50) ∈ nRw by decide) (.inr (by decide))
  have o45 : gA (h.set q1 (.inl (0, 135, .inl (upd f (Int32.ofInt (z1 + 0)).toNatClampNeg (Int32.ofInt (z0 + 0)))))) fs 45 = gA h fs 45 := gA_oth hJ.2.1 hT t1 hr t0 hq f8 (by decide) t0 hq (show (9, 45, 65) ∈ nRw by decide) (.inr (by decide))
  have o8 : gA (h.set q1 (.inl (0, 135, .inl (upd f (Int32.ofInt (z1 + 0)).toNatClampNeg (Int32.ofInt (z0 + 0)))))) fs 8 = upd f (Int32.ofInt (z1 + 0)).toNatClampNeg (Int32.ofInt (z0 + 0)) := gA_at f8 (List.getElem?_set_self (List.getElem?_eq_some_iff.mp hr).1)
  have o38 : gA (h.set q1 (.inl (0, 135, .inl (upd f (Int32.ofInt (z1 + 0)).toNatClampNeg (Int32.ofInt (z0 + 0)))))) fs 38 = gA h fs 38 := gA_oth hJ.2.1 hT t1 hr t0 hq f8 (by decide) t0 hq (show (9, 38, 63) ∈ nRw by decide) (.inr (by decide))
  have hne : ∀ n, ¬ n = 3 * z2.toNat + 1 → upd f (Int32.ofInt (z1 + 0)).toNatClampNeg (Int32.ofInt (z0 + 0)) n = gA h fs 8 n := fun n hn => by rw [hg1]; exact upd_ne (by rw [hit]; omega)
  have heq : upd f (Int32.ofInt (z1 + 0)).toNatClampNeg (Int32.ofInt (z0 + 0)) (3 * z2.toNat + 1) = (Int32.ofInt (z0 + 0)) := by rw [hit, e1]; exact upd_eq
  obtain ⟨p1, p2, p3, p4, p5, p6⟩ := ast_ok (x := (Int32.ofInt (z0 + 0))) (mf := sw_16.2.2.2.1) hJ hT t1 (show nAT 52 = some (0, 135, .inl [(135, (-2147483648), 2147483647, true)]) from rfl) rfl hr t0 hq f8 (by decide) hix (sFull1) (fun kk h10 hk => by
    simp only [sw_16, List.mem_cons, Prod.mk.injEq, true_and, List.not_mem_nil, or_false, not_or] at hk
    rw [nGh9, nGh9, o6, o45, o8, o38]
    exact nG9_rdT (j := 1) (i := 3 * z2.toNat + 1) (by rw [gI_at f35, a32 (by omega) (by omega)]; omega) hne (by omega) (by omega) (by omega) (by omega) (by omega)) (fun hV => by
    rcases hV with hV | hV <;> cases hV)
  refine ⟨_, fun _ => p1 pc rst, (fun e => nomatch e), p2, p3, p4, _, List.mem_singleton.mpr rfl, _, _, aX.rf, k.1, k.2.1, fun e he => ?_, fun e he => ?_, fun e he => ?_⟩
  · simp only [List.mem_cons, List.not_mem_nil, or_false] at he
    subst he
    refine ⟨q0, 9, _, _, rfl, p6, nFd_hi (by decide), ?_⟩
    rw [nGh9, o6, o45, o8, o38, nG9_b]
    rw [gI_at f35, a32 (by omega) (by omega), show 3 * (z2 + 0).toNat + 1 = 3 * z2.toNat + 1 by omega, heq]
    exact ⟨_, rfl, rfl⟩
  · simp only [List.mem_cons, List.not_mem_nil, or_false] at he
    subst he
    exact ⟨q1, 0, _, _, _, rfl, p5, ⟨_, rfl, rfl⟩, by rw [upd_eq]; exact ⟨_, rfl, rfl⟩⟩
  · exact nomatch he
/-- read_code1 -/
theorem sw_24_ok {S : List Nat} : nSv nFT nAT S (nJJ S) sw_24 := by
  intro h nu mu ws vs rst pc ini hJ hT k hw hv
  obtain ⟨z0, zr0, rfl, ze0⟩ := lc (show 3 = nu.length from k.1.1)
  obtain ⟨z1, zr1, rfl, ze1⟩ := lc (ze0)
  obtain ⟨z2, zr2, rfl, ze2⟩ := lc (ze1)
  cases l0 ze2
  obtain ⟨q0, qr0, rfl, qe0⟩ := lc (show 2 = mu.length from k.2.1.1)
  obtain ⟨q1, qr1, rfl, qe1⟩ := lc (qe0)
  cases l0 qe1
  have b0 : (-2147483648) ≤ z0 ∧ z0 ≤ 2147483647 := k.1.2 0 z0 _ rfl rfl
  have b1 : 0 ≤ z1 ∧ z1 ≤ 134 := k.1.2 1 z1 _ rfl rfl
  have b2 : 0 ≤ z2 ∧ z2 ≤ 44 := k.1.2 2 z2 _ rfl rfl
  have t0 : S[q0]? = some 9 := k.2.1.2 0 q0 _ rfl rfl
  have t1 : S[q1]? = some 52 := k.2.1.2 1 q1 _ rfl rfl
  have d0 := (k.2.2.2.2 _ (show .inl ([(1, 1), ((-3), 2)], (-1)) ∈ sw_24.2.1.2.2.2.2 by simp [sw_24])).2
  simp only [lS, List.map_cons, List.map_nil, List.sum_cons, List.sum_nil, List.getD_cons_zero, List.getD_cons_succ] at d0
  have d1 := (k.2.2.2.2 _ (show .inl ([((-1), 1), (3, 2)], 1) ∈ sw_24.2.1.2.2.2.2 by simp [sw_24])).2
  simp only [lS, List.map_cons, List.map_nil, List.sum_cons, List.sum_nil, List.getD_cons_zero, List.getD_cons_succ] at d1
  obtain ⟨w0, wl0, rfl, wh0, hw0⟩ := hw.cons
  have wx0 := aRr wh0 (show _ = some q0 from rfl)
  subst wx0
  have wnil : wl0 = [] := by cases wl0 with
    | nil => rfl
    | cons a b => exact hw0.elim
  subst wnil
  obtain ⟨v0, vl0, rfl, vh0, hv0⟩ := hv.cons
  have vx0 := aRs vh0 (show _ = some z0 from rfl)
  subst vx0
  obtain ⟨v1, vl1, rfl, vh1, hv1⟩ := hv0.cons
  have vx1 := aRs vh1 (show _ = some z1 from rfl)
  subst vx1
  obtain ⟨v2, vl2, rfl, vh2, hv2⟩ := hv1.cons
  have vx2 := aRr vh2 (show _ = some q1 from rfl)
  subst vx2
  have vnil : vl2 = [] := by cases vl2 with
    | nil => rfl
    | cons a b => exact hv2.elim
  subst vnil
  obtain ⟨fs, hq, hfs⟩ := hT.obj t0 (show oT 9 = some 9 from rfl)
  obtain ⟨u8, f8, a8⟩ := fc_at k (show (0, 8, .inr (.inr (.inl 1))) ∈ sw_24.2.1.2.2.1 by simp [sw_24]) rfl hq
  rw [nFd_lo (by decide)] at f8
  have y8 := aRr a8 (show _ = some q1 from rfl)
  subst y8
  obtain ⟨u39, f39, a39⟩ := fc_at k (show (0, 39, .inr (.inl (2, 0))) ∈ sw_24.2.1.2.2.1 by simp [sw_24]) rfl hq
  rw [nFd_lo (by decide)] at f39
  have y39 := aRs a39 (show _ = some z2 from rfl)
  subst y39
  obtain ⟨r1, f, i1, i2, hr, hg1, he⟩ := row_at hT hfs (show nFT 9 8 = some (.inr (.inl 52)) from rfl) (show nAT 52 = some (0, 135, .inl [(135, (-2147483648), 2147483647, true)]) from rfl) rfl
  cases (Option.some.inj (f8.symm.trans i1))
  obtain ⟨hix, hit⟩ := nj_ix_of (z := (z1 + 0)) (n := 135) (by omega) (by omega) (by omega)
  have e1 : ((z1 + 0) : Int).toNat = 3 * z2.toNat + 1 := by omega
  have o6 : gA (h.set q1 (.inl (0, 135, .inl (upd f (Int32.ofInt (z1 + 0)).toNatClampNeg (Int32.ofInt (z0 + 0)))))) fs 6 = gA h fs 6 := gA_oth hJ.2.1 hT t1 hr t0 hq f8 (by decide) t0 hq (show (9, 6, 50) ∈ nRw by decide) (.inr (by decide))
  have o45 : gA (h.set q1 (.inl (0, 135, .inl (upd f (Int32.ofInt (z1 + 0)).toNatClampNeg (Int32.ofInt (z0 + 0)))))) fs 45 = gA h fs 45 := gA_oth hJ.2.1 hT t1 hr t0 hq f8 (by decide) t0 hq (show (9, 45, 65) ∈ nRw by decide) (.inr (by decide))
  have o8 : gA (h.set q1 (.inl (0, 135, .inl (upd f (Int32.ofInt (z1 + 0)).toNatClampNeg (Int32.ofInt (z0 + 0)))))) fs 8 = upd f (Int32.ofInt (z1 + 0)).toNatClampNeg (Int32.ofInt (z0 + 0)) := gA_at f8 (List.getElem?_set_self (List.getElem?_eq_some_iff.mp hr).1)
  have o38 : gA (h.set q1 (.inl (0, 135, .inl (upd f (Int32.ofInt (z1 + 0)).toNatClampNeg (Int32.ofInt (z0 + 0)))))) fs 38 = gA h fs 38 := gA_oth hJ.2.1 hT t1 hr t0 hq f8 (by decide) t0 hq (show (9, 38, 63) ∈ nRw by decide) (.inr (by decide))
  have hne : ∀ n, ¬ n = 3 * z2.toNat + 1 → upd f (Int32.ofInt (z1 + 0)).toNatClampNeg (Int32.ofInt (z0 + 0)) n = gA h fs 8 n := fun n hn => by rw [hg1]; exact upd_ne (by rw [hit]; omega)
  have heq : upd f (Int32.ofInt (z1 + 0)).toNatClampNeg (Int32.ofInt (z0 + 0)) (3 * z2.toNat + 1) = (Int32.ofInt (z0 + 0)) := by rw [hit, e1]; exact upd_eq
  obtain ⟨p1, p2, p3, p4, p5, p6⟩ := ast_ok (x := (Int32.ofInt (z0 + 0))) (mf := sw_24.2.2.2.1) hJ hT t1 (show nAT 52 = some (0, 135, .inl [(135, (-2147483648), 2147483647, true)]) from rfl) rfl hr t0 hq f8 (by decide) hix (sFull1) (fun kk h10 hk => by
    simp only [sw_24, List.mem_cons, Prod.mk.injEq, true_and, List.not_mem_nil, or_false, not_or] at hk
    rw [nGh9, nGh9, o6, o45, o8, o38]
    exact nG9_rdC (j := 1) (i := 3 * z2.toNat + 1) (by rw [gI_at f39, a32 (by omega) (by omega)]; omega) hne (by omega) (by omega) (by omega) (by omega) (by omega) (by omega) (by omega)) (fun hV => by
    rcases hV with hV | hV <;> cases hV)
  refine ⟨_, fun _ => p1 pc rst, (fun e => nomatch e), p2, p3, p4, _, List.mem_singleton.mpr rfl, _, _, aX.rf, k.1, k.2.1, fun e he => ?_, fun e he => ?_, fun e he => ?_⟩
  · exact nomatch he
  · simp only [List.mem_cons, List.not_mem_nil, or_false] at he
    subst he
    exact ⟨q1, 0, _, _, _, rfl, p5, ⟨_, rfl, rfl⟩, by rw [upd_eq]; exact ⟨_, rfl, rfl⟩⟩
  · exact nomatch he
/-- read_told2 -/
theorem sw_17_ok {S : List Nat} : nSv nFT nAT S (nJJ S) sw_17 := by
  intro h nu mu ws vs rst pc ini hJ hT k hw hv
  obtain ⟨z0, zr0, rfl, ze0⟩ := lc (show 3 = nu.length from k.1.1)
  obtain ⟨z1, zr1, rfl, ze1⟩ := lc (ze0)
  obtain ⟨z2, zr2, rfl, ze2⟩ := lc (ze1)
  cases l0 ze2
  obtain ⟨q0, qr0, rfl, qe0⟩ := lc (show 2 = mu.length from k.2.1.1)
  obtain ⟨q1, qr1, rfl, qe1⟩ := lc (qe0)
  cases l0 qe1
  have b0 : (-2147483648) ≤ z0 ∧ z0 ≤ 2147483647 := k.1.2 0 z0 _ rfl rfl
  have b1 : 0 ≤ z1 ∧ z1 ≤ 134 := k.1.2 1 z1 _ rfl rfl
  have b2 : 0 ≤ z2 ∧ z2 ≤ 40 := k.1.2 2 z2 _ rfl rfl
  have t0 : S[q0]? = some 9 := k.2.1.2 0 q0 _ rfl rfl
  have t1 : S[q1]? = some 52 := k.2.1.2 1 q1 _ rfl rfl
  have d0 := (k.2.2.2.2 _ (show .inl ([(1, 1), ((-3), 2)], (-2)) ∈ sw_17.2.1.2.2.2.2 by simp [sw_17])).2
  simp only [lS, List.map_cons, List.map_nil, List.sum_cons, List.sum_nil, List.getD_cons_zero, List.getD_cons_succ] at d0
  have d1 := (k.2.2.2.2 _ (show .inl ([((-1), 1), (3, 2)], 2) ∈ sw_17.2.1.2.2.2.2 by simp [sw_17])).2
  simp only [lS, List.map_cons, List.map_nil, List.sum_cons, List.sum_nil, List.getD_cons_zero, List.getD_cons_succ] at d1
  obtain ⟨w0, wl0, rfl, wh0, hw0⟩ := hw.cons
  have wx0 := aRr wh0 (show _ = some q0 from rfl)
  subst wx0
  have wnil : wl0 = [] := by cases wl0 with
    | nil => rfl
    | cons a b => exact hw0.elim
  subst wnil
  obtain ⟨v0, vl0, rfl, vh0, hv0⟩ := hv.cons
  have vx0 := aRs vh0 (show _ = some z0 from rfl)
  subst vx0
  obtain ⟨v1, vl1, rfl, vh1, hv1⟩ := hv0.cons
  have vx1 := aRs vh1 (show _ = some z1 from rfl)
  subst vx1
  obtain ⟨v2, vl2, rfl, vh2, hv2⟩ := hv1.cons
  have vx2 := aRr vh2 (show _ = some q1 from rfl)
  subst vx2
  have vnil : vl2 = [] := by cases vl2 with
    | nil => rfl
    | cons a b => exact hv2.elim
  subst vnil
  obtain ⟨fs, hq, hfs⟩ := hT.obj t0 (show oT 9 = some 9 from rfl)
  obtain ⟨u8, f8, a8⟩ := fc_at k (show (0, 8, .inr (.inr (.inl 1))) ∈ sw_17.2.1.2.2.1 by simp [sw_17]) rfl hq
  rw [nFd_lo (by decide)] at f8
  have y8 := aRr a8 (show _ = some q1 from rfl)
  subst y8
  obtain ⟨u35, f35, a35⟩ := fc_at k (show (0, 35, .inr (.inl (2, 0))) ∈ sw_17.2.1.2.2.1 by simp [sw_17]) rfl hq
  rw [nFd_lo (by decide)] at f35
  have y35 := aRs a35 (show _ = some z2 from rfl)
  subst y35
  obtain ⟨r1, f, i1, i2, hr, hg1, he⟩ := row_at hT hfs (show nFT 9 8 = some (.inr (.inl 52)) from rfl) (show nAT 52 = some (0, 135, .inl [(135, (-2147483648), 2147483647, true)]) from rfl) rfl
  cases (Option.some.inj (f8.symm.trans i1))
  obtain ⟨hix, hit⟩ := nj_ix_of (z := (z1 + 0)) (n := 135) (by omega) (by omega) (by omega)
  have e1 : ((z1 + 0) : Int).toNat = 3 * z2.toNat + 2 := by omega
  have o6 : gA (h.set q1 (.inl (0, 135, .inl (upd f (Int32.ofInt (z1 + 0)).toNatClampNeg (Int32.ofInt (z0 + 0)))))) fs 6 = gA h fs 6 := gA_oth hJ.2.1 hT t1 hr t0 hq f8 (by decide) t0 hq (show (9, 6, 50) ∈ nRw by decide) (.inr (by decide))
  have o45 : gA (h.set q1 (.inl (0, 135, .inl (upd f (Int32.ofInt (z1 + 0)).toNatClampNeg (Int32.ofInt (z0 + 0)))))) fs 45 = gA h fs 45 := gA_oth hJ.2.1 hT t1 hr t0 hq f8 (by decide) t0 hq (show (9, 45, 65) ∈ nRw by decide) (.inr (by decide))
  have o8 : gA (h.set q1 (.inl (0, 135, .inl (upd f (Int32.ofInt (z1 + 0)).toNatClampNeg (Int32.ofInt (z0 + 0)))))) fs 8 = upd f (Int32.ofInt (z1 + 0)).toNatClampNeg (Int32.ofInt (z0 + 0)) := gA_at f8 (List.getElem?_set_self (List.getElem?_eq_some_iff.mp hr).1)
  have o38 : gA (h.set q1 (.inl (0, 135, .inl (upd f (Int32.ofInt (z1 + 0)).toNatClampNeg (Int32.ofInt (z0 + 0)))))) fs 38 = gA h fs 38 := gA_oth hJ.2.1 hT t1 hr t0 hq f8 (by decide) t0 hq (show (9, 38, 63) ∈ nRw by decide) (.inr (by decide))
  have hne : ∀ n, ¬ n = 3 * z2.toNat + 2 → upd f (Int32.ofInt (z1 + 0)).toNatClampNeg (Int32.ofInt (z0 + 0)) n = gA h fs 8 n := fun n hn => by rw [hg1]; exact upd_ne (by rw [hit]; omega)
  have heq : upd f (Int32.ofInt (z1 + 0)).toNatClampNeg (Int32.ofInt (z0 + 0)) (3 * z2.toNat + 2) = (Int32.ofInt (z0 + 0)) := by rw [hit, e1]; exact upd_eq
  obtain ⟨p1, p2, p3, p4, p5, p6⟩ := ast_ok (x := (Int32.ofInt (z0 + 0))) (mf := sw_17.2.2.2.1) hJ hT t1 (show nAT 52 = some (0, 135, .inl [(135, (-2147483648), 2147483647, true)]) from rfl) rfl hr t0 hq f8 (by decide) hix (sFull1) (fun kk h10 hk => by
    simp only [sw_17, List.mem_cons, Prod.mk.injEq, true_and, List.not_mem_nil, or_false, not_or] at hk
    rw [nGh9, nGh9, o6, o45, o8, o38]
    exact nG9_rdT (j := 2) (i := 3 * z2.toNat + 2) (by rw [gI_at f35, a32 (by omega) (by omega)]; omega) hne (by omega) (by omega) (by omega) (by omega) (by omega)) (fun hV => by
    rcases hV with hV | hV <;> cases hV)
  refine ⟨_, fun _ => p1 pc rst, (fun e => nomatch e), p2, p3, p4, _, List.mem_singleton.mpr rfl, _, _, aX.rf, k.1, k.2.1, fun e he => ?_, fun e he => ?_, fun e he => ?_⟩
  · simp only [List.mem_cons, List.not_mem_nil, or_false] at he
    subst he
    refine ⟨q0, 9, _, _, rfl, p6, nFd_hi (by decide), ?_⟩
    rw [nGh9, o6, o45, o8, o38, nG9_c]
    rw [gI_at f35, a32 (by omega) (by omega), show 3 * (z2 + 0).toNat + 2 = 3 * z2.toNat + 2 by omega, heq]
    exact ⟨_, rfl, rfl⟩
  · simp only [List.mem_cons, List.not_mem_nil, or_false] at he
    subst he
    exact ⟨q1, 0, _, _, _, rfl, p5, ⟨_, rfl, rfl⟩, by rw [upd_eq]; exact ⟨_, rfl, rfl⟩⟩
  · exact nomatch he
/-- read_code2 -/
theorem sw_25_ok {S : List Nat} : nSv nFT nAT S (nJJ S) sw_25 := by
  intro h nu mu ws vs rst pc ini hJ hT k hw hv
  obtain ⟨z0, zr0, rfl, ze0⟩ := lc (show 3 = nu.length from k.1.1)
  obtain ⟨z1, zr1, rfl, ze1⟩ := lc (ze0)
  obtain ⟨z2, zr2, rfl, ze2⟩ := lc (ze1)
  cases l0 ze2
  obtain ⟨q0, qr0, rfl, qe0⟩ := lc (show 2 = mu.length from k.2.1.1)
  obtain ⟨q1, qr1, rfl, qe1⟩ := lc (qe0)
  cases l0 qe1
  have b0 : (-2147483648) ≤ z0 ∧ z0 ≤ 2147483647 := k.1.2 0 z0 _ rfl rfl
  have b1 : 0 ≤ z1 ∧ z1 ≤ 134 := k.1.2 1 z1 _ rfl rfl
  have b2 : 0 ≤ z2 ∧ z2 ≤ 44 := k.1.2 2 z2 _ rfl rfl
  have t0 : S[q0]? = some 9 := k.2.1.2 0 q0 _ rfl rfl
  have t1 : S[q1]? = some 52 := k.2.1.2 1 q1 _ rfl rfl
  have d0 := (k.2.2.2.2 _ (show .inl ([(1, 1), ((-3), 2)], (-2)) ∈ sw_25.2.1.2.2.2.2 by simp [sw_25])).2
  simp only [lS, List.map_cons, List.map_nil, List.sum_cons, List.sum_nil, List.getD_cons_zero, List.getD_cons_succ] at d0
  have d1 := (k.2.2.2.2 _ (show .inl ([((-1), 1), (3, 2)], 2) ∈ sw_25.2.1.2.2.2.2 by simp [sw_25])).2
  simp only [lS, List.map_cons, List.map_nil, List.sum_cons, List.sum_nil, List.getD_cons_zero, List.getD_cons_succ] at d1
  obtain ⟨w0, wl0, rfl, wh0, hw0⟩ := hw.cons
  have wx0 := aRr wh0 (show _ = some q0 from rfl)
  subst wx0
  have wnil : wl0 = [] := by cases wl0 with
    | nil => rfl
    | cons a b => exact hw0.elim
  subst wnil
  obtain ⟨v0, vl0, rfl, vh0, hv0⟩ := hv.cons
  have vx0 := aRs vh0 (show _ = some z0 from rfl)
  subst vx0
  obtain ⟨v1, vl1, rfl, vh1, hv1⟩ := hv0.cons
  have vx1 := aRs vh1 (show _ = some z1 from rfl)
  subst vx1
  obtain ⟨v2, vl2, rfl, vh2, hv2⟩ := hv1.cons
  have vx2 := aRr vh2 (show _ = some q1 from rfl)
  subst vx2
  have vnil : vl2 = [] := by cases vl2 with
    | nil => rfl
    | cons a b => exact hv2.elim
  subst vnil
  obtain ⟨fs, hq, hfs⟩ := hT.obj t0 (show oT 9 = some 9 from rfl)
  obtain ⟨u8, f8, a8⟩ := fc_at k (show (0, 8, .inr (.inr (.inl 1))) ∈ sw_25.2.1.2.2.1 by simp [sw_25]) rfl hq
  rw [nFd_lo (by decide)] at f8
  have y8 := aRr a8 (show _ = some q1 from rfl)
  subst y8
  obtain ⟨u39, f39, a39⟩ := fc_at k (show (0, 39, .inr (.inl (2, 0))) ∈ sw_25.2.1.2.2.1 by simp [sw_25]) rfl hq
  rw [nFd_lo (by decide)] at f39
  have y39 := aRs a39 (show _ = some z2 from rfl)
  subst y39
  obtain ⟨r1, f, i1, i2, hr, hg1, he⟩ := row_at hT hfs (show nFT 9 8 = some (.inr (.inl 52)) from rfl) (show nAT 52 = some (0, 135, .inl [(135, (-2147483648), 2147483647, true)]) from rfl) rfl
  cases (Option.some.inj (f8.symm.trans i1))
  obtain ⟨hix, hit⟩ := nj_ix_of (z := (z1 + 0)) (n := 135) (by omega) (by omega) (by omega)
  have e1 : ((z1 + 0) : Int).toNat = 3 * z2.toNat + 2 := by omega
  have o6 : gA (h.set q1 (.inl (0, 135, .inl (upd f (Int32.ofInt (z1 + 0)).toNatClampNeg (Int32.ofInt (z0 + 0)))))) fs 6 = gA h fs 6 := gA_oth hJ.2.1 hT t1 hr t0 hq f8 (by decide) t0 hq (show (9, 6, 50) ∈ nRw by decide) (.inr (by decide))
  have o45 : gA (h.set q1 (.inl (0, 135, .inl (upd f (Int32.ofInt (z1 + 0)).toNatClampNeg (Int32.ofInt (z0 + 0)))))) fs 45 = gA h fs 45 := gA_oth hJ.2.1 hT t1 hr t0 hq f8 (by decide) t0 hq (show (9, 45, 65) ∈ nRw by decide) (.inr (by decide))
  have o8 : gA (h.set q1 (.inl (0, 135, .inl (upd f (Int32.ofInt (z1 + 0)).toNatClampNeg (Int32.ofInt (z0 + 0)))))) fs 8 = upd f (Int32.ofInt (z1 + 0)).toNatClampNeg (Int32.ofInt (z0 + 0)) := gA_at f8 (List.getElem?_set_self (List.getElem?_eq_some_iff.mp hr).1)
  have o38 : gA (h.set q1 (.inl (0, 135, .inl (upd f (Int32.ofInt (z1 + 0)).toNatClampNeg (Int32.ofInt (z0 + 0)))))) fs 38 = gA h fs 38 := gA_oth hJ.2.1 hT t1 hr t0 hq f8 (by decide) t0 hq (show (9, 38, 63) ∈ nRw by decide) (.inr (by decide))
  have hne : ∀ n, ¬ n = 3 * z2.toNat + 2 → upd f (Int32.ofInt (z1 + 0)).toNatClampNeg (Int32.ofInt (z0 + 0)) n = gA h fs 8 n := fun n hn => by rw [hg1]; exact upd_ne (by rw [hit]; omega)
  have heq : upd f (Int32.ofInt (z1 + 0)).toNatClampNeg (Int32.ofInt (z0 + 0)) (3 * z2.toNat + 2) = (Int32.ofInt (z0 + 0)) := by rw [hit, e1]; exact upd_eq
  obtain ⟨p1, p2, p3, p4, p5, p6⟩ := ast_ok (x := (Int32.ofInt (z0 + 0))) (mf := sw_25.2.2.2.1) hJ hT t1 (show nAT 52 = some (0, 135, .inl [(135, (-2147483648), 2147483647, true)]) from rfl) rfl hr t0 hq f8 (by decide) hix (sFull1) (fun kk h10 hk => by
    simp only [sw_25, List.mem_cons, Prod.mk.injEq, true_and, List.not_mem_nil, or_false, not_or] at hk
    rw [nGh9, nGh9, o6, o45, o8, o38]
    exact nG9_rdC (j := 2) (i := 3 * z2.toNat + 2) (by rw [gI_at f39, a32 (by omega) (by omega)]; omega) hne (by omega) (by omega) (by omega) (by omega) (by omega) (by omega) (by omega)) (fun hV => by
    rcases hV with hV | hV <;> cases hV)
  refine ⟨_, fun _ => p1 pc rst, (fun e => nomatch e), p2, p3, p4, _, List.mem_singleton.mpr rfl, _, _, aX.rf, k.1, k.2.1, fun e he => ?_, fun e he => ?_, fun e he => ?_⟩
  · simp only [List.mem_cons, List.not_mem_nil, or_false] at he
    subst he
    refine ⟨q0, 9, _, _, rfl, p6, nFd_hi (by decide), ?_⟩
    rw [nGh9, o6, o45, o8, o38, nG9_9]
    rw [gI_at f39, a32 (by omega) (by omega), show 3 * (z2 + 0).toNat + 2 = 3 * z2.toNat + 2 by omega, heq]
    exact ⟨_, rfl, rfl⟩
  · simp only [List.mem_cons, List.not_mem_nil, or_false] at he
    subst he
    exact ⟨q1, 0, _, _, _, rfl, p5, ⟨_, rfl, rfl⟩, by rw [upd_eq]; exact ⟨_, rfl, rfl⟩⟩
  · exact nomatch he
/-- stack_put -/
theorem sw_40_ok {S : List Nat} : nSv nFT nAT S (nJJ S) sw_40 := by
  intro h nu mu ws vs rst pc ini hJ hT k hw hv
  obtain ⟨z0, zr0, rfl, ze0⟩ := lc (show 2 = nu.length from k.1.1)
  obtain ⟨z1, zr1, rfl, ze1⟩ := lc (ze0)
  cases l0 ze1
  obtain ⟨q0, qr0, rfl, qe0⟩ := lc (show 2 = mu.length from k.2.1.1)
  obtain ⟨q1, qr1, rfl, qe1⟩ := lc (qe0)
  cases l0 qe1
  have b0 : (-2147483648) ≤ z0 ∧ z0 ≤ 2147483647 := k.1.2 0 z0 _ rfl rfl
  have b1 : 0 ≤ z1 ∧ z1 ≤ 44 := k.1.2 1 z1 _ rfl rfl
  have t0 : S[q0]? = some 9 := k.2.1.2 0 q0 _ rfl rfl
  have t1 : S[q1]? = some 63 := k.2.1.2 1 q1 _ rfl rfl
  obtain ⟨w0, wl0, rfl, wh0, hw0⟩ := hw.cons
  have wx0 := aRr wh0 (show _ = some q0 from rfl)
  subst wx0
  have wnil : wl0 = [] := by cases wl0 with
    | nil => rfl
    | cons a b => exact hw0.elim
  subst wnil
  obtain ⟨v0, vl0, rfl, vh0, hv0⟩ := hv.cons
  have vx0 := aRs vh0 (show _ = some z0 from rfl)
  subst vx0
  obtain ⟨v1, vl1, rfl, vh1, hv1⟩ := hv0.cons
  have vx1 := aRs vh1 (show _ = some z1 from rfl)
  subst vx1
  obtain ⟨v2, vl2, rfl, vh2, hv2⟩ := hv1.cons
  have vx2 := aRr vh2 (show _ = some q1 from rfl)
  subst vx2
  have vnil : vl2 = [] := by cases vl2 with
    | nil => rfl
    | cons a b => exact hv2.elim
  subst vnil
  obtain ⟨fs, hq, hfs⟩ := hT.obj t0 (show oT 9 = some 9 from rfl)
  obtain ⟨u38, f38, a38⟩ := fc_at k (show (0, 38, .inr (.inr (.inl 1))) ∈ sw_40.2.1.2.2.1 by simp [sw_40]) rfl hq
  rw [nFd_lo (by decide)] at f38
  have y38 := aRr a38 (show _ = some q1 from rfl)
  subst y38
  obtain ⟨u41, f41, a41⟩ := fc_at k (show (0, 41, .inr (.inl (1, 0))) ∈ sw_40.2.1.2.2.1 by simp [sw_40]) rfl hq
  rw [nFd_lo (by decide)] at f41
  have y41 := aRs a41 (show _ = some z1 from rfl)
  subst y41
  obtain ⟨r1, f, i1, i2, hr, hg1, he⟩ := row_at hT hfs (show nFT 9 38 = some (.inr (.inl 63)) from rfl) (show nAT 63 = some (0, 45, .inl [(45, (-2147483648), 2147483647, true)]) from rfl) rfl
  cases (Option.some.inj (f38.symm.trans i1))
  obtain ⟨hix, hit⟩ := nj_ix_of (z := (z1 + 0)) (n := 45) (by omega) (by omega) (by omega)
  have o6 : gA (h.set q1 (.inl (0, 45, .inl (upd f (Int32.ofInt (z1 + 0)).toNatClampNeg (Int32.ofInt (z0 + 0)))))) fs 6 = gA h fs 6 := gA_oth hJ.2.1 hT t1 hr t0 hq f38 (by decide) t0 hq (show (9, 6, 50) ∈ nRw by decide) (.inr (by decide))
  have o45 : gA (h.set q1 (.inl (0, 45, .inl (upd f (Int32.ofInt (z1 + 0)).toNatClampNeg (Int32.ofInt (z0 + 0)))))) fs 45 = gA h fs 45 := gA_oth hJ.2.1 hT t1 hr t0 hq f38 (by decide) t0 hq (show (9, 45, 65) ∈ nRw by decide) (.inr (by decide))
  have o8 : gA (h.set q1 (.inl (0, 45, .inl (upd f (Int32.ofInt (z1 + 0)).toNatClampNeg (Int32.ofInt (z0 + 0)))))) fs 8 = gA h fs 8 := gA_oth hJ.2.1 hT t1 hr t0 hq f38 (by decide) t0 hq (show (9, 8, 52) ∈ nRw by decide) (.inr (by decide))
  have o38 : gA (h.set q1 (.inl (0, 45, .inl (upd f (Int32.ofInt (z1 + 0)).toNatClampNeg (Int32.ofInt (z0 + 0)))))) fs 38 = upd f (Int32.ofInt (z1 + 0)).toNatClampNeg (Int32.ofInt (z0 + 0)) := gA_at f38 (List.getElem?_set_self (List.getElem?_eq_some_iff.mp hr).1)
  have hne : ∀ n, ¬ n = (z1 + 0).toNat → upd f (Int32.ofInt (z1 + 0)).toNatClampNeg (Int32.ofInt (z0 + 0)) n = gA h fs 38 n := fun n hn => by rw [hg1]; exact upd_ne (by rw [hit]; omega)
  have heq : upd f (Int32.ofInt (z1 + 0)).toNatClampNeg (Int32.ofInt (z0 + 0)) ((z1 + 0).toNat) = (Int32.ofInt (z0 + 0)) := by rw [hit]; exact upd_eq
  obtain ⟨p1, p2, p3, p4, p5, p6⟩ := ast_ok (x := (Int32.ofInt (z0 + 0))) (mf := sw_40.2.2.2.1) hJ hT t1 (show nAT 63 = some (0, 45, .inl [(45, (-2147483648), 2147483647, true)]) from rfl) rfl hr t0 hq f38 (by decide) hix (sFull1) (fun kk h10 hk => by
    rw [nGh9, nGh9, o6, o45, o8, o38]
    exact nG9_sk (fun n hn => by rw [gI_at f41, a32 (by omega) (by omega)] at hn; exact hne n (by omega))) (fun hV => by
    rcases hV with hV | hV <;> cases hV)
  refine ⟨_, fun _ => p1 pc rst, (fun e => nomatch e), p2, p3, p4, _, List.mem_singleton.mpr rfl, _, _, aX.rf, k.1, k.2.1, fun e he => ?_, fun e he => ?_, fun e he => ?_⟩
  · exact nomatch he
  · simp only [List.mem_cons, List.not_mem_nil, or_false] at he
    subst he
    exact ⟨q1, 0, _, _, _, rfl, p5, ⟨_, rfl, rfl⟩, by rw [upd_eq]; exact ⟨_, rfl, rfl⟩⟩
  · exact nomatch he
/-- stack_put0 -/
theorem sw_41_ok {S : List Nat} : nSv nFT nAT S (nJJ S) sw_41 := by
  intro h nu mu ws vs rst pc ini hJ hT k hw hv
  obtain ⟨z0, zr0, rfl, ze0⟩ := lc (show 2 = nu.length from k.1.1)
  obtain ⟨z1, zr1, rfl, ze1⟩ := lc (ze0)
  cases l0 ze1
  obtain ⟨q0, qr0, rfl, qe0⟩ := lc (show 2 = mu.length from k.2.1.1)
  obtain ⟨q1, qr1, rfl, qe1⟩ := lc (qe0)
  cases l0 qe1
  have b0 : (-2147483648) ≤ z0 ∧ z0 ≤ 2147483647 := k.1.2 0 z0 _ rfl rfl
  have b1 : 0 ≤ z1 ∧ z1 ≤ 0 := k.1.2 1 z1 _ rfl rfl
  have t0 : S[q0]? = some 9 := k.2.1.2 0 q0 _ rfl rfl
  have t1 : S[q1]? = some 63 := k.2.1.2 1 q1 _ rfl rfl
  obtain ⟨w0, wl0, rfl, wh0, hw0⟩ := hw.cons
  have wx0 := aRr wh0 (show _ = some q0 from rfl)
  subst wx0
  have wnil : wl0 = [] := by cases wl0 with
    | nil => rfl
    | cons a b => exact hw0.elim
  subst wnil
  obtain ⟨v0, vl0, rfl, vh0, hv0⟩ := hv.cons
  have vx0 := aRs vh0 (show _ = some z0 from rfl)
  subst vx0
  obtain ⟨v1, vl1, rfl, vh1, hv1⟩ := hv0.cons
  have vx1 : v1 = .int (Int32.ofInt 0) := vh1
  subst vx1
  obtain ⟨v2, vl2, rfl, vh2, hv2⟩ := hv1.cons
  have vx2 := aRr vh2 (show _ = some q1 from rfl)
  subst vx2
  have vnil : vl2 = [] := by cases vl2 with
    | nil => rfl
    | cons a b => exact hv2.elim
  subst vnil
  obtain ⟨fs, hq, hfs⟩ := hT.obj t0 (show oT 9 = some 9 from rfl)
  obtain ⟨u38, f38, a38⟩ := fc_at k (show (0, 38, .inr (.inr (.inl 1))) ∈ sw_41.2.1.2.2.1 by simp [sw_41]) rfl hq
  rw [nFd_lo (by decide)] at f38
  have y38 := aRr a38 (show _ = some q1 from rfl)
  subst y38
  obtain ⟨u41, f41, a41⟩ := fc_at k (show (0, 41, .inr (.inl (1, 0))) ∈ sw_41.2.1.2.2.1 by simp [sw_41]) rfl hq
  rw [nFd_lo (by decide)] at f41
  have y41 := aRs a41 (show _ = some z1 from rfl)
  subst y41
  obtain ⟨r1, f, i1, i2, hr, hg1, he⟩ := row_at hT hfs (show nFT 9 38 = some (.inr (.inl 63)) from rfl) (show nAT 63 = some (0, 45, .inl [(45, (-2147483648), 2147483647, true)]) from rfl) rfl
  cases (Option.some.inj (f38.symm.trans i1))
  obtain ⟨hix, hit⟩ := nj_ix_of (z := 0) (n := 45) (by omega) (by omega) (by omega)
  have e1 : (0 : Int).toNat = 0 := by omega
  have o6 : gA (h.set q1 (.inl (0, 45, .inl (upd f (Int32.ofInt 0).toNatClampNeg (Int32.ofInt (z0 + 0)))))) fs 6 = gA h fs 6 := gA_oth hJ.2.1 hT t1 hr t0 hq f38 (by decide) t0 hq (show (9, 6, 50) ∈ nRw by decide) (.inr (by decide))
  have o45 : gA (h.set q1 (.inl (0, 45, .inl (upd f (Int32.ofInt 0).toNatClampNeg (Int32.ofInt (z0 + 0)))))) fs 45 = gA h fs 45 := gA_oth hJ.2.1 hT t1 hr t0 hq f38 (by decide) t0 hq (show (9, 45, 65) ∈ nRw by decide) (.inr (by decide))
  have o8 : gA (h.set q1 (.inl (0, 45, .inl (upd f (Int32.ofInt 0).toNatClampNeg (Int32.ofInt (z0 + 0)))))) fs 8 = gA h fs 8 := gA_oth hJ.2.1 hT t1 hr t0 hq f38 (by decide) t0 hq (show (9, 8, 52) ∈ nRw by decide) (.inr (by decide))
  have o38 : gA (h.set q1 (.inl (0, 45, .inl (upd f (Int32.ofInt 0).toNatClampNeg (Int32.ofInt (z0 + 0)))))) fs 38 = upd f (Int32.ofInt 0).toNatClampNeg (Int32.ofInt (z0 + 0)) := gA_at f38 (List.getElem?_set_self (List.getElem?_eq_some_iff.mp hr).1)
  have hne : ∀ n, ¬ n = 0 → upd f (Int32.ofInt 0).toNatClampNeg (Int32.ofInt (z0 + 0)) n = gA h fs 38 n := fun n hn => by rw [hg1]; exact upd_ne (by rw [hit]; omega)
  have heq : upd f (Int32.ofInt 0).toNatClampNeg (Int32.ofInt (z0 + 0)) (0) = (Int32.ofInt (z0 + 0)) := by rw [hit, e1]; exact upd_eq
  obtain ⟨p1, p2, p3, p4, p5, p6⟩ := ast_ok (x := (Int32.ofInt (z0 + 0))) (mf := sw_41.2.2.2.1) hJ hT t1 (show nAT 63 = some (0, 45, .inl [(45, (-2147483648), 2147483647, true)]) from rfl) rfl hr t0 hq f38 (by decide) hix (sFull1) (fun kk h10 hk => by
    rw [nGh9, nGh9, o6, o45, o8, o38]
    exact nG9_sk (fun n hn => by rw [gI_at f41, a32 (by omega) (by omega)] at hn; omega)) (fun hV => by
    rcases hV with hV | hV <;> cases hV)
  refine ⟨_, fun _ => p1 pc rst, (fun e => nomatch e), p2, p3, p4, _, List.mem_singleton.mpr rfl, _, _, aX.rf, k.1, k.2.1, fun e he => ?_, fun e he => ?_, fun e he => ?_⟩
  · exact nomatch he
  · simp only [List.mem_cons, List.not_mem_nil, or_false] at he
    subst he
    have ez : z1 = 0 := by omega
    subst ez
    exact ⟨q1, 0, _, _, Int32.ofInt 0, rfl, p5, ⟨0, rfl, rfl⟩, by rw [upd_eq]; exact ⟨_, rfl, rfl⟩⟩
  · exact nomatch he
/-- s_zero179 -/
theorem sw_42_ok {S : List Nat} : nSv nFT nAT S (nJJ S) sw_42 := by
  intro h nu mu ws vs rst pc ini hJ hT k hw hv
  cases l0 (show 0 = nu.length from k.1.1)
  obtain ⟨q0, qr0, rfl, qe0⟩ := lc (show 2 = mu.length from k.2.1.1)
  obtain ⟨q1, qr1, rfl, qe1⟩ := lc (qe0)
  cases l0 qe1
  have t0 : S[q0]? = some 9 := k.2.1.2 0 q0 _ rfl rfl
  have t1 : S[q1]? = some 50 := k.2.1.2 1 q1 _ rfl rfl
  obtain ⟨w0, wl0, rfl, wh0, hw0⟩ := hw.cons
  have wx0 := aRr wh0 (show _ = some q0 from rfl)
  subst wx0
  have wnil : wl0 = [] := by cases wl0 with
    | nil => rfl
    | cons a b => exact hw0.elim
  subst wnil
  obtain ⟨v0, vl0, rfl, vh0, hv0⟩ := hv.cons
  have vx0 : v0 = .int (Int32.ofInt 0) := vh0
  subst vx0
  obtain ⟨v1, vl1, rfl, vh1, hv1⟩ := hv0.cons
  have vx1 : v1 = .int (Int32.ofInt 179) := vh1
  subst vx1
  obtain ⟨v2, vl2, rfl, vh2, hv2⟩ := hv1.cons
  have vx2 := aRr vh2 (show _ = some q1 from rfl)
  subst vx2
  have vnil : vl2 = [] := by cases vl2 with
    | nil => rfl
    | cons a b => exact hv2.elim
  subst vnil
  obtain ⟨fs, hq, hfs⟩ := hT.obj t0 (show oT 9 = some 9 from rfl)
  obtain ⟨u6, f6, a6⟩ := fc_at k (show (0, 6, .inr (.inr (.inl 1))) ∈ sw_42.2.1.2.2.1 by simp [sw_42]) rfl hq
  rw [nFd_lo (by decide)] at f6
  have y6 := aRr a6 (show _ = some q1 from rfl)
  subst y6
  obtain ⟨r1, f, i1, i2, hr, hg1, he⟩ := row_at hT hfs (show nFT 9 6 = some (.inr (.inl 50)) from rfl) (show nAT 50 = some (0, 360, .inl segS) from segS_ok) rfl
  cases (Option.some.inj (f6.symm.trans i1))
  obtain ⟨hix, hit⟩ := nj_ix_of (z := 179) (n := 360) (by omega) (by omega) (by omega)
  have e1 : (179 : Int).toNat = 179 := by omega
  have o6 : gA (h.set q1 (.inl (0, 360, .inl (upd f (Int32.ofInt 179).toNatClampNeg (Int32.ofInt 0))))) fs 6 = upd f (Int32.ofInt 179).toNatClampNeg (Int32.ofInt 0) := gA_at f6 (List.getElem?_set_self (List.getElem?_eq_some_iff.mp hr).1)
  have o45 : gA (h.set q1 (.inl (0, 360, .inl (upd f (Int32.ofInt 179).toNatClampNeg (Int32.ofInt 0))))) fs 45 = gA h fs 45 := gA_oth hJ.2.1 hT t1 hr t0 hq f6 (by decide) t0 hq (show (9, 45, 65) ∈ nRw by decide) (.inr (by decide))
  have o8 : gA (h.set q1 (.inl (0, 360, .inl (upd f (Int32.ofInt 179).toNatClampNeg (Int32.ofInt 0))))) fs 8 = gA h fs 8 := gA_oth hJ.2.1 hT t1 hr t0 hq f6 (by decide) t0 hq (show (9, 8, 52) ∈ nRw by decide) (.inr (by decide))
  have o38 : gA (h.set q1 (.inl (0, 360, .inl (upd f (Int32.ofInt 179).toNatClampNeg (Int32.ofInt 0))))) fs 38 = gA h fs 38 := gA_oth hJ.2.1 hT t1 hr t0 hq f6 (by decide) t0 hq (show (9, 38, 63) ∈ nRw by decide) (.inr (by decide))
  have hne : ∀ n, ¬ n = 179 → upd f (Int32.ofInt 179).toNatClampNeg (Int32.ofInt 0) n = gA h fs 6 n := fun n hn => by rw [hg1]; exact upd_ne (by rw [hit]; omega)
  have heq : upd f (Int32.ofInt 179).toNatClampNeg (Int32.ofInt 0) (179) = (Int32.ofInt 0) := by rw [hit, e1]; exact upd_eq
  obtain ⟨p1, p2, p3, p4, p5, p6⟩ := ast_ok (x := (Int32.ofInt 0)) (mf := sw_42.2.2.2.1) hJ hT t1 (show nAT 50 = some (0, 360, .inl segS) from segS_ok) rfl hr t0 hq f6 (by decide) hix (sFullS (by rw [hit]; decide) (by rw [hit]; decide)) (fun kk h10 hk => by
    have hk2 : ¬ (1020 ≤ kk ∧ kk < 1066) := fun hc => hk ((show ∀ k, k < 1066 → 1020 ≤ k → (9, k) ∈ sw_42.2.2.2.1 by decide +kernel) kk hc.2 hc.1)
    have hk3 : ∀ x ∈ [1002, 1005, 1006, 1007], ¬ kk = x := fun x hx e => hk (e ▸ (show ∀ x ∈ [1002, 1005, 1006, 1007], (9, x) ∈ sw_42.2.2.2.1 by decide +kernel) x hx)
    rw [nGh9, nGh9, o6, o45, o8, o38]
    exact nG9_s (hk3 _ (by decide)) (hk3 _ (by decide)) (hk3 _ (by decide)) (hk3 _ (by decide)) hk2) (fun hV => by
    rcases hV with hV | hV <;> cases hV)
  refine ⟨_, fun _ => p1 pc rst, (fun e => nomatch e), p2, p3, p4, _, List.mem_singleton.mpr rfl, _, _, aX.rf, k.1, k.2.1, fun e he => ?_, fun e he => ?_, fun e he => ?_⟩
  · simp only [List.mem_cons, List.not_mem_nil, or_false] at he
    subst he
    refine ⟨q0, 9, _, _, rfl, p6, nFd_hi (by decide), ?_⟩
    rw [nGh9, o6, o45, o8, o38, nG9_2]
    refine congrArg Value.int ((show gV (gCut true _) 179 = Int32.ofInt 1 from gV_one.mpr ?_))
    rw [gCutT (by decide), heq]
    exact ⟨by decide, by decide, rfl⟩
  · simp only [List.mem_cons, List.not_mem_nil, or_false] at he
    subst he
    exact ⟨q1, 0, _, _, _, rfl, p5, rfl, by rw [upd_eq]; rfl⟩
  · exact nomatch he
/-- s_zero -/
theorem sw_43_ok {S : List Nat} : nSv nFT nAT S (nJJ S) sw_43 := by
  intro h nu mu ws vs rst pc ini hJ hT k hw hv
  obtain ⟨z0, zr0, rfl, ze0⟩ := lc (show 1 = nu.length from k.1.1)
  cases l0 ze0
  obtain ⟨q0, qr0, rfl, qe0⟩ := lc (show 2 = mu.length from k.2.1.1)
  obtain ⟨q1, qr1, rfl, qe1⟩ := lc (qe0)
  cases l0 qe1
  have b0 : 180 ≤ z0 ∧ z0 ≤ 359 := k.1.2 0 z0 _ rfl rfl
  have t0 : S[q0]? = some 9 := k.2.1.2 0 q0 _ rfl rfl
  have t1 : S[q1]? = some 50 := k.2.1.2 1 q1 _ rfl rfl
  obtain ⟨w0, wl0, rfl, wh0, hw0⟩ := hw.cons
  have wx0 := aRr wh0 (show _ = some q0 from rfl)
  subst wx0
  have wnil : wl0 = [] := by cases wl0 with
    | nil => rfl
    | cons a b => exact hw0.elim
  subst wnil
  obtain ⟨v0, vl0, rfl, vh0, hv0⟩ := hv.cons
  have vx0 : v0 = .int (Int32.ofInt 0) := vh0
  subst vx0
  obtain ⟨v1, vl1, rfl, vh1, hv1⟩ := hv0.cons
  have vx1 := aRs vh1 (show _ = some z0 from rfl)
  subst vx1
  obtain ⟨v2, vl2, rfl, vh2, hv2⟩ := hv1.cons
  have vx2 := aRr vh2 (show _ = some q1 from rfl)
  subst vx2
  have vnil : vl2 = [] := by cases vl2 with
    | nil => rfl
    | cons a b => exact hv2.elim
  subst vnil
  obtain ⟨fs, hq, hfs⟩ := hT.obj t0 (show oT 9 = some 9 from rfl)
  obtain ⟨u6, f6, a6⟩ := fc_at k (show (0, 6, .inr (.inr (.inl 1))) ∈ sw_43.2.1.2.2.1 by simp [sw_43]) rfl hq
  rw [nFd_lo (by decide)] at f6
  have y6 := aRr a6 (show _ = some q1 from rfl)
  subst y6
  obtain ⟨r1, f, i1, i2, hr, hg1, he⟩ := row_at hT hfs (show nFT 9 6 = some (.inr (.inl 50)) from rfl) (show nAT 50 = some (0, 360, .inl segS) from segS_ok) rfl
  cases (Option.some.inj (f6.symm.trans i1))
  obtain ⟨hix, hit⟩ := nj_ix_of (z := (z0 + 0)) (n := 360) (by omega) (by omega) (by omega)
  obtain ⟨i9, i8, i7⟩ := ac_at k (show (1, .inl 179, .inl 0) ∈ sw_43.2.1.2.2.2.1 by simp [sw_43]) rfl hr
  have i6 : i9 = Int32.ofInt 179 := Value.int.inj i8
  subst i6
  have i5 : (Int32.ofInt 179).toNatClampNeg = 179 := by decide
  rw [i5] at i7
  have i4 := Value.int.inj (show Value.int (f 179) = .int (Int32.ofInt 0) from i7)
  have o6 : gA (h.set q1 (.inl (0, 360, .inl (upd f (Int32.ofInt (z0 + 0)).toNatClampNeg (Int32.ofInt 0))))) fs 6 = upd f (Int32.ofInt (z0 + 0)).toNatClampNeg (Int32.ofInt 0) := gA_at f6 (List.getElem?_set_self (List.getElem?_eq_some_iff.mp hr).1)
  have o45 : gA (h.set q1 (.inl (0, 360, .inl (upd f (Int32.ofInt (z0 + 0)).toNatClampNeg (Int32.ofInt 0))))) fs 45 = gA h fs 45 := gA_oth hJ.2.1 hT t1 hr t0 hq f6 (by decide) t0 hq (show (9, 45, 65) ∈ nRw by decide) (.inr (by decide))
  have o8 : gA (h.set q1 (.inl (0, 360, .inl (upd f (Int32.ofInt (z0 + 0)).toNatClampNeg (Int32.ofInt 0))))) fs 8 = gA h fs 8 := gA_oth hJ.2.1 hT t1 hr t0 hq f6 (by decide) t0 hq (show (9, 8, 52) ∈ nRw by decide) (.inr (by decide))
  have o38 : gA (h.set q1 (.inl (0, 360, .inl (upd f (Int32.ofInt (z0 + 0)).toNatClampNeg (Int32.ofInt 0))))) fs 38 = gA h fs 38 := gA_oth hJ.2.1 hT t1 hr t0 hq f6 (by decide) t0 hq (show (9, 38, 63) ∈ nRw by decide) (.inr (by decide))
  have hne : ∀ n, ¬ n = (z0 + 0).toNat → upd f (Int32.ofInt (z0 + 0)).toNatClampNeg (Int32.ofInt 0) n = gA h fs 6 n := fun n hn => by rw [hg1]; exact upd_ne (by rw [hit]; omega)
  have heq : upd f (Int32.ofInt (z0 + 0)).toNatClampNeg (Int32.ofInt 0) ((z0 + 0).toNat) = (Int32.ofInt 0) := by rw [hit]; exact upd_eq
  obtain ⟨p1, p2, p3, p4, p5, p6⟩ := ast_ok (x := (Int32.ofInt 0)) (mf := sw_43.2.2.2.1) hJ hT t1 (show nAT 50 = some (0, 360, .inl segS) from segS_ok) rfl hr t0 hq f6 (by decide) hix (sFullS (by rw [hit]; omega) (by rw [hit]; omega)) (fun kk h10 hk => by
    have hk2 : ¬ (1020 ≤ kk ∧ kk < 1066) := fun hc => hk ((show ∀ k, k < 1066 → 1020 ≤ k → (9, k) ∈ sw_43.2.2.2.1 by decide +kernel) kk hc.2 hc.1)
    have hk3 : ∀ x ∈ [1002, 1005, 1006, 1007], ¬ kk = x := fun x hx e => hk (e ▸ (show ∀ x ∈ [1002, 1005, 1006, 1007], (9, x) ∈ sw_43.2.2.2.1 by decide +kernel) x hx)
    rw [nGh9, nGh9, o6, o45, o8, o38]
    exact nG9_s (hk3 _ (by decide)) (hk3 _ (by decide)) (hk3 _ (by decide)) (hk3 _ (by decide)) hk2) (fun hV => by
    rcases hV with hV | hV <;> cases hV)
  refine ⟨_, fun _ => p1 pc rst, (fun e => nomatch e), p2, p3, p4, _, List.mem_singleton.mpr rfl, _, _, aX.rf, k.1, k.2.1, fun e he => ?_, fun e he => ?_, fun e he => ?_⟩
  · simp only [List.mem_cons, List.not_mem_nil, or_false] at he
    subst he
    refine ⟨q0, 9, _, _, rfl, p6, nFd_hi (by decide), ?_⟩
    rw [nGh9, o6, o45, o8, o38, nG9_2]
    refine congrArg Value.int ((show gV (gCut true _) 179 = Int32.ofInt 1 from gV_one.mpr ?_))
    rw [gCutT (by decide), hne 179 (by omega), hg1, i4]
    exact ⟨by decide, by decide, rfl⟩
  · simp only [List.mem_cons, List.not_mem_nil, or_false] at he
    subst he
    refine ⟨q1, 0, _, _, _, rfl, p5, rfl, ?_⟩
    rw [i5, hne 179 (by omega), hg1, i4]
    rfl
  · exact nomatch he
/-- s_codes -/
theorem sw_44_ok {S : List Nat} : nSv nFT nAT S (nJJ S) sw_44 := by
  intro h nu mu ws vs rst pc ini hJ hT k hw hv
  obtain ⟨z0, zr0, rfl, ze0⟩ := lc (show 1 = nu.length from k.1.1)
  cases l0 ze0
  obtain ⟨q0, qr0, rfl, qe0⟩ := lc (show 2 = mu.length from k.2.1.1)
  obtain ⟨q1, qr1, rfl, qe1⟩ := lc (qe0)
  cases l0 qe1
  have b0 : 0 ≤ z0 ∧ z0 ≤ 44 := k.1.2 0 z0 _ rfl rfl
  have t0 : S[q0]? = some 9 := k.2.1.2 0 q0 _ rfl rfl
  have t1 : S[q1]? = some 50 := k.2.1.2 1 q1 _ rfl rfl
  obtain ⟨w0, wl0, rfl, wh0, hw0⟩ := hw.cons
  have wx0 := aRr wh0 (show _ = some q0 from rfl)
  subst wx0
  have wnil : wl0 = [] := by cases wl0 with
    | nil => rfl
    | cons a b => exact hw0.elim
  subst wnil
  obtain ⟨v0, vl0, rfl, vh0, hv0⟩ := hv.cons
  have vx0 := aRs vh0 (show _ = some z0 from rfl)
  subst vx0
  obtain ⟨v1, vl1, rfl, vh1, hv1⟩ := hv0.cons
  have vx1 : v1 = .int (Int32.ofInt 179) := vh1
  subst vx1
  obtain ⟨v2, vl2, rfl, vh2, hv2⟩ := hv1.cons
  have vx2 := aRr vh2 (show _ = some q1 from rfl)
  subst vx2
  have vnil : vl2 = [] := by cases vl2 with
    | nil => rfl
    | cons a b => exact hv2.elim
  subst vnil
  obtain ⟨fs, hq, hfs⟩ := hT.obj t0 (show oT 9 = some 9 from rfl)
  obtain ⟨u6, f6, a6⟩ := fc_at k (show (0, 6, .inr (.inr (.inl 1))) ∈ sw_44.2.1.2.2.1 by simp [sw_44]) rfl hq
  rw [nFd_lo (by decide)] at f6
  have y6 := aRr a6 (show _ = some q1 from rfl)
  subst y6
  obtain ⟨r1, f, i1, i2, hr, hg1, he⟩ := row_at hT hfs (show nFT 9 6 = some (.inr (.inl 50)) from rfl) (show nAT 50 = some (0, 360, .inl segS) from segS_ok) rfl
  cases (Option.some.inj (f6.symm.trans i1))
  obtain ⟨hix, hit⟩ := nj_ix_of (z := 179) (n := 360) (by omega) (by omega) (by omega)
  have e1 : (179 : Int).toNat = 179 := by omega
  have o6 : gA (h.set q1 (.inl (0, 360, .inl (upd f (Int32.ofInt 179).toNatClampNeg (Int32.ofInt (z0 + 0)))))) fs 6 = upd f (Int32.ofInt 179).toNatClampNeg (Int32.ofInt (z0 + 0)) := gA_at f6 (List.getElem?_set_self (List.getElem?_eq_some_iff.mp hr).1)
  have o45 : gA (h.set q1 (.inl (0, 360, .inl (upd f (Int32.ofInt 179).toNatClampNeg (Int32.ofInt (z0 + 0)))))) fs 45 = gA h fs 45 := gA_oth hJ.2.1 hT t1 hr t0 hq f6 (by decide) t0 hq (show (9, 45, 65) ∈ nRw by decide) (.inr (by decide))
  have o8 : gA (h.set q1 (.inl (0, 360, .inl (upd f (Int32.ofInt 179).toNatClampNeg (Int32.ofInt (z0 + 0)))))) fs 8 = gA h fs 8 := gA_oth hJ.2.1 hT t1 hr t0 hq f6 (by decide) t0 hq (show (9, 8, 52) ∈ nRw by decide) (.inr (by decide))
  have o38 : gA (h.set q1 (.inl (0, 360, .inl (upd f (Int32.ofInt 179).toNatClampNeg (Int32.ofInt (z0 + 0)))))) fs 38 = gA h fs 38 := gA_oth hJ.2.1 hT t1 hr t0 hq f6 (by decide) t0 hq (show (9, 38, 63) ∈ nRw by decide) (.inr (by decide))
  have hne : ∀ n, ¬ n = 179 → upd f (Int32.ofInt 179).toNatClampNeg (Int32.ofInt (z0 + 0)) n = gA h fs 6 n := fun n hn => by rw [hg1]; exact upd_ne (by rw [hit]; omega)
  have heq : upd f (Int32.ofInt 179).toNatClampNeg (Int32.ofInt (z0 + 0)) (179) = (Int32.ofInt (z0 + 0)) := by rw [hit, e1]; exact upd_eq
  obtain ⟨p1, p2, p3, p4, p5, p6⟩ := ast_ok (x := (Int32.ofInt (z0 + 0))) (mf := sw_44.2.2.2.1) hJ hT t1 (show nAT 50 = some (0, 360, .inl segS) from segS_ok) rfl hr t0 hq f6 (by decide) hix (sFullS (by rw [hit]; decide) (by rw [hit]; decide)) (fun kk h10 hk => by
    simp only [sw_44, List.mem_cons, Prod.mk.injEq, true_and, List.not_mem_nil, or_false, not_or] at hk
    rw [nGh9, nGh9, o6, o45, o8, o38]
    exact nG9_s179 (by omega) (by omega) (by omega) (fun n hn => by rw [gCutT (by omega), gCutT (by omega)]; exact hne n (by omega))) (fun hV => by
    rcases hV with hV | hV <;> cases hV)
  refine ⟨_, fun _ => p1 pc rst, (fun e => nomatch e), p2, p3, p4, _, List.mem_singleton.mpr rfl, _, _, aX.rf, k.1, k.2.1, fun e he => ?_, fun e he => ?_, fun e he => ?_⟩
  · exact nomatch he
  · simp only [List.mem_cons, List.not_mem_nil, or_false] at he
    subst he
    exact ⟨q1, 0, _, _, _, rfl, p5, rfl, by rw [upd_eq]; exact ⟨_, rfl, rfl⟩⟩
  · exact nomatch he
/-- s_copy -/
theorem sw_45_ok {S : List Nat} : nSv nFT nAT S (nJJ S) sw_45 := by
  intro h nu mu ws vs rst pc ini hJ hT k hw hv
  obtain ⟨z0, zr0, rfl, ze0⟩ := lc (show 5 = nu.length from k.1.1)
  obtain ⟨z1, zr1, rfl, ze1⟩ := lc (ze0)
  obtain ⟨z2, zr2, rfl, ze2⟩ := lc (ze1)
  obtain ⟨z3, zr3, rfl, ze3⟩ := lc (ze2)
  obtain ⟨z4, zr4, rfl, ze4⟩ := lc (ze3)
  cases l0 ze4
  obtain ⟨q0, qr0, rfl, qe0⟩ := lc (show 3 = mu.length from k.2.1.1)
  obtain ⟨q1, qr1, rfl, qe1⟩ := lc (qe0)
  obtain ⟨q2, qr2, rfl, qe2⟩ := lc (qe1)
  cases l0 qe2
  have b0 : 0 ≤ z0 ∧ z0 ≤ 134 := k.1.2 0 z0 _ rfl rfl
  have b1 : (-2147483648) ≤ z1 ∧ z1 ≤ 2147483647 := k.1.2 1 z1 _ rfl rfl
  have b2 : 180 ≤ z2 ∧ z2 ≤ 314 := k.1.2 2 z2 _ rfl rfl
  have b3 : 0 ≤ z3 ∧ z3 ≤ 135 := k.1.2 3 z3 _ rfl rfl
  have b4 : 0 ≤ z4 ∧ z4 ≤ 44 := k.1.2 4 z4 _ rfl rfl
  have t0 : S[q0]? = some 9 := k.2.1.2 0 q0 _ rfl rfl
  have t1 : S[q1]? = some 50 := k.2.1.2 1 q1 _ rfl rfl
  have t2 : S[q2]? = some 52 := k.2.1.2 2 q2 _ rfl rfl
  have d0 := (k.2.2.2.2 _ (show .inl ([(1, 2), ((-1), 0)], (-180)) ∈ sw_45.2.1.2.2.2.2 by simp [sw_45])).2
  simp only [lS, List.map_cons, List.map_nil, List.sum_cons, List.sum_nil, List.getD_cons_zero, List.getD_cons_succ] at d0
  have d1 := (k.2.2.2.2 _ (show .inl ([((-1), 2), (1, 0)], 180) ∈ sw_45.2.1.2.2.2.2 by simp [sw_45])).2
  simp only [lS, List.map_cons, List.map_nil, List.sum_cons, List.sum_nil, List.getD_cons_zero, List.getD_cons_succ] at d1
  have d2 := (k.2.2.2.2 _ (show .inl ([(1, 0), ((-1), 3)], 0) ∈ sw_45.2.1.2.2.2.2 by simp [sw_45])).2
  simp only [lS, List.map_cons, List.map_nil, List.sum_cons, List.sum_nil, List.getD_cons_zero, List.getD_cons_succ] at d2
  obtain ⟨w0, wl0, rfl, wh0, hw0⟩ := hw.cons
  have wx0 := aRr wh0 (show _ = some q0 from rfl)
  subst wx0
  obtain ⟨w1, wl1, rfl, wh1, hw1⟩ := hw0.cons
  have wx1 := aRs wh1 (show _ = some z0 from rfl)
  subst wx1
  have wnil : wl1 = [] := by cases wl1 with
    | nil => rfl
    | cons a b => exact hw1.elim
  subst wnil
  obtain ⟨v0, vl0, rfl, vh0, hv0⟩ := hv.cons
  have vx0 := aRs vh0 (show _ = some z1 from rfl)
  subst vx0
  obtain ⟨v1, vl1, rfl, vh1, hv1⟩ := hv0.cons
  have vx1 := aRs vh1 (show _ = some z2 from rfl)
  subst vx1
  obtain ⟨v2, vl2, rfl, vh2, hv2⟩ := hv1.cons
  have vx2 := aRr vh2 (show _ = some q1 from rfl)
  subst vx2
  have vnil : vl2 = [] := by cases vl2 with
    | nil => rfl
    | cons a b => exact hv2.elim
  subst vnil
  obtain ⟨fs, hq, hfs⟩ := hT.obj t0 (show oT 9 = some 9 from rfl)
  obtain ⟨u6, f6, a6⟩ := fc_at k (show (0, 6, .inr (.inr (.inl 1))) ∈ sw_45.2.1.2.2.1 by simp [sw_45]) rfl hq
  rw [nFd_lo (by decide)] at f6
  have y6 := aRr a6 (show _ = some q1 from rfl)
  subst y6
  obtain ⟨u8, f8, a8⟩ := fc_at k (show (0, 8, .inr (.inr (.inl 2))) ∈ sw_45.2.1.2.2.1 by simp [sw_45]) rfl hq
  rw [nFd_lo (by decide)] at f8
  have y8 := aRr a8 (show _ = some q2 from rfl)
  subst y8
  obtain ⟨u1007, f1007, a1007⟩ := fc_at k (show (0, 1007, .inr (.inl (3, 0))) ∈ sw_45.2.1.2.2.1 by simp [sw_45]) rfl hq
  rw [nFd_hi (by decide)] at f1007
  have y1007 := aRs a1007 (show _ = some z3 from rfl)
  subst y1007
  have g1007 := Value.int.inj (Option.some.inj f1007)
  obtain ⟨r1, f, i1, i2, hr, hg1, he⟩ := row_at hT hfs (show nFT 9 6 = some (.inr (.inl 50)) from rfl) (show nAT 50 = some (0, 360, .inl segS) from segS_ok) rfl
  cases (Option.some.inj (f6.symm.trans i1))
  obtain ⟨hix, hit⟩ := nj_ix_of (z := (z2 + 0)) (n := 360) (by omega) (by omega) (by omega)
  have e1 : ((z2 + 0) : Int).toNat = 180 + z0.toNat := by omega
  obtain ⟨i9, i8, i7⟩ := ac_at k (show (1, .inl 179, .inr (.inl (4, 0))) ∈ sw_45.2.1.2.2.2.1 by simp [sw_45]) rfl hr
  have i6 : i9 = Int32.ofInt 179 := Value.int.inj i8
  subst i6
  have i5 : (Int32.ofInt 179).toNatClampNeg = 179 := by decide
  rw [i5] at i7
  obtain ⟨r2, f2, k1, k2, hr2, hg2, -⟩ := row_at hT hfs (show nFT 9 8 = some (.inr (.inl 52)) from rfl) (show nAT 52 = some (0, 135, .inl [(135, (-2147483648), 2147483647, true)]) from rfl) rfl
  cases (Option.some.inj (f8.symm.trans k1))
  obtain ⟨c9, c8, c7⟩ := ac_at k (show (2, .inr (.inl (0, 0)), .inr (.inl (1, 0))) ∈ sw_45.2.1.2.2.2.1 by simp [sw_45]) rfl hr2
  have c6 := Value.int.inj (aRs c8 (show _ = some z0 from rfl))
  subst c6
  have c5 := Value.int.inj (aRs c7 (show _ = some z1 from rfl))
  rw [(nj_ix_of (z := z0 + 0) (n := 135) (by omega) (by omega) (by omega)).2, show (z0 + 0).toNat = z0.toNat by omega] at c5
  rw [nGh9, nG9_7, hg2] at g1007
  have o6 : gA (h.set q1 (.inl (0, 360, .inl (upd f (Int32.ofInt (z2 + 0)).toNatClampNeg (Int32.ofInt (z1 + 0)))))) fs 6 = upd f (Int32.ofInt (z2 + 0)).toNatClampNeg (Int32.ofInt (z1 + 0)) := gA_at f6 (List.getElem?_set_self (List.getElem?_eq_some_iff.mp hr).1)
  have o45 : gA (h.set q1 (.inl (0, 360, .inl (upd f (Int32.ofInt (z2 + 0)).toNatClampNeg (Int32.ofInt (z1 + 0)))))) fs 45 = gA h fs 45 := gA_oth hJ.2.1 hT t1 hr t0 hq f6 (by decide) t0 hq (show (9, 45, 65) ∈ nRw by decide) (.inr (by decide))
  have o8 : gA (h.set q1 (.inl (0, 360, .inl (upd f (Int32.ofInt (z2 + 0)).toNatClampNeg (Int32.ofInt (z1 + 0)))))) fs 8 = gA h fs 8 := gA_oth hJ.2.1 hT t1 hr t0 hq f6 (by decide) t0 hq (show (9, 8, 52) ∈ nRw by decide) (.inr (by decide))
  have o38 : gA (h.set q1 (.inl (0, 360, .inl (upd f (Int32.ofInt (z2 + 0)).toNatClampNeg (Int32.ofInt (z1 + 0)))))) fs 38 = gA h fs 38 := gA_oth hJ.2.1 hT t1 hr t0 hq f6 (by decide) t0 hq (show (9, 38, 63) ∈ nRw by decide) (.inr (by decide))
  have hne : ∀ n, ¬ n = 180 + z0.toNat → upd f (Int32.ofInt (z2 + 0)).toNatClampNeg (Int32.ofInt (z1 + 0)) n = gA h fs 6 n := fun n hn => by rw [hg1]; exact upd_ne (by rw [hit]; omega)
  have heq : upd f (Int32.ofInt (z2 + 0)).toNatClampNeg (Int32.ofInt (z1 + 0)) (180 + z0.toNat) = (Int32.ofInt (z1 + 0)) := by rw [hit, e1]; exact upd_eq
  obtain ⟨p1, p2, p3, p4, p5, p6⟩ := ast_ok (x := (Int32.ofInt (z1 + 0))) (mf := sw_45.2.2.2.1) hJ hT t1 (show nAT 50 = some (0, 360, .inl segS) from segS_ok) rfl hr t0 hq f6 (by decide) hix (sFullS (by rw [hit]; omega) (by rw [hit]; omega)) (fun kk h10 hk => by
    have hk2 : ¬ (1020 ≤ kk ∧ kk < 1066) := fun hc => hk ((show ∀ k, k < 1066 → 1020 ≤ k → (9, k) ∈ sw_45.2.2.2.1 by decide +kernel) kk hc.2 hc.1)
    have hk3 : ∀ x ∈ [1002, 1005, 1006, 1007], ¬ kk = x := fun x hx e => hk (e ▸ (show ∀ x ∈ [1002, 1005, 1006, 1007], (9, x) ∈ sw_45.2.2.2.1 by decide +kernel) x hx)
    rw [nGh9, nGh9, o6, o45, o8, o38]
    exact nG9_s (hk3 _ (by decide)) (hk3 _ (by decide)) (hk3 _ (by decide)) (hk3 _ (by decide)) hk2) (fun hV => by
    rcases hV with hV | hV <;> cases hV)
  have g1 := congrArg Int32.toInt g1007
  rw [i32n (by have := gE_le (fun j => gCut true (gA h fs 6) (180 + j)) f2 135; omega), a32 (by omega) (by omega)] at g1
  have g2 := (gE_iff (m := z0.toNat)).mp (show _ ≤ gE (fun j => gCut true (gA h fs 6) (180 + j)) f2 135 by omega)
  have g3 := (gE_iff (n := 135) (m := z0.toNat + 1) (f := fun j => gCut true (upd f (Int32.ofInt (z2 + 0)).toNatClampNeg (Int32.ofInt (z1 + 0))) (180 + j)) (g := f2)).mpr ⟨by omega, fun n hn => by
    show gCut true _ (180 + n) = _
    rw [gCutT (by omega)]
    by_cases e : n = z0.toNat
    · subst e; rw [heq, c5]
    · rw [hne _ (by omega)]
      have := g2.2 n (by omega)
      simp only [gCutT (show 179 ≤ 180 + n by omega)] at this
      exact this⟩
  have g4 := gE_le (fun j => gCut true (upd f (Int32.ofInt (z2 + 0)).toNatClampNeg (Int32.ofInt (z1 + 0))) (180 + j)) f2 135
  generalize hz5 : gE (fun j => gCut true (upd f (Int32.ofInt (z2 + 0)).toNatClampNeg (Int32.ofInt (z1 + 0))) (180 + j)) f2 135 = z5 at g3 g4
  refine ⟨_, fun _ => p1 pc rst, (fun e => nomatch e), p2, p3, p4, _, List.mem_singleton.mpr rfl, _, _, ⟨[(z5 : Int)], [], rfl, rfl⟩, aE_push (r := (0, 135)) k.1 ⟨by omega, by omega⟩, k.2.1, fun e he => ?_, fun e he => ?_, fun e he => ?_⟩
  · simp only [List.mem_cons, List.not_mem_nil, or_false] at he
    subst he
    refine ⟨q0, 9, _, _, rfl, p6, nFd_hi (by decide), ⟨(z5 : Int), rfl, ?_⟩⟩
    rw [nGh9, o6, o45, o8, o38, nG9_7, hg2, hz5, Int.add_zero, Int32.ofInt_eq_ofNat]
  · simp only [List.mem_cons, List.not_mem_nil, or_false] at he
    subst he
    refine ⟨q1, 0, _, _, _, rfl, p5, rfl, ?_⟩
    rw [i5, hne 179 (by omega), hg1]
    exact i7.x ⟨[_], [], rfl, rfl⟩
  · simp only [List.mem_cons, List.not_mem_nil, or_false] at he
    subst he
    refine ⟨fun t ht => by simp only [List.mem_cons, List.not_mem_nil, or_false] at ht; rcases ht with rfl | rfl <;> simp, ?_⟩
    simp only [lS, List.map_cons, List.map_nil, List.sum_cons, List.sum_nil, List.cons_append, List.nil_append, List.getD_cons_zero, List.getD_cons_succ]
    omega
/-- kept_copy0 -/
theorem sw_46_ok {S : List Nat} : nSv nFT nAT S (nJJ S) sw_46 := by
  intro h nu mu ws vs rst pc ini hJ hT k hw hv
  obtain ⟨z0, zr0, rfl, ze0⟩ := lc (show 4 = nu.length from k.1.1)
  obtain ⟨z1, zr1, rfl, ze1⟩ := lc (ze0)
  obtain ⟨z2, zr2, rfl, ze2⟩ := lc (ze1)
  obtain ⟨z3, zr3, rfl, ze3⟩ := lc (ze2)
  cases l0 ze3
  obtain ⟨q0, qr0, rfl, qe0⟩ := lc (show 3 = mu.length from k.2.1.1)
  obtain ⟨q1, qr1, rfl, qe1⟩ := lc (qe0)
  obtain ⟨q2, qr2, rfl, qe2⟩ := lc (qe1)
  cases l0 qe2
  have b0 : 179 ≤ z0 ∧ z0 ≤ 359 := k.1.2 0 z0 _ rfl rfl
  have b1 : (-2147483648) ≤ z1 ∧ z1 ≤ 2147483647 := k.1.2 1 z1 _ rfl rfl
  have b2 : 179 ≤ z2 ∧ z2 ≤ 359 := k.1.2 2 z2 _ rfl rfl
  have b3 : 0 ≤ z3 ∧ z3 ≤ 181 := k.1.2 3 z3 _ rfl rfl
  have t0 : S[q0]? = some 9 := k.2.1.2 0 q0 _ rfl rfl
  have t1 : S[q1]? = some 65 := k.2.1.2 1 q1 _ rfl rfl
  have t2 : S[q2]? = some 50 := k.2.1.2 2 q2 _ rfl rfl
  have d0 := (k.2.2.2.2 _ (show .inl ([(1, 2), ((-1), 0)], 0) ∈ sw_46.2.1.2.2.2.2 by simp [sw_46])).2
  simp only [lS, List.map_cons, List.map_nil, List.sum_cons, List.sum_nil, List.getD_cons_zero, List.getD_cons_succ] at d0
  have d1 := (k.2.2.2.2 _ (show .inl ([((-1), 2), (1, 0)], 0) ∈ sw_46.2.1.2.2.2.2 by simp [sw_46])).2
  simp only [lS, List.map_cons, List.map_nil, List.sum_cons, List.sum_nil, List.getD_cons_zero, List.getD_cons_succ] at d1
  have d2 := (k.2.2.2.2 _ (show .inl ([(1, 0), ((-1), 3)], (-179)) ∈ sw_46.2.1.2.2.2.2 by simp [sw_46])).2
  simp only [lS, List.map_cons, List.map_nil, List.sum_cons, List.sum_nil, List.getD_cons_zero, List.getD_cons_succ] at d2
  obtain ⟨w0, wl0, rfl, wh0, hw0⟩ := hw.cons
  have wx0 := aRr wh0 (show _ = some q0 from rfl)
  subst wx0
  obtain ⟨w1, wl1, rfl, wh1, hw1⟩ := hw0.cons
  have wx1 := aRs wh1 (show _ = some z0 from rfl)
  subst wx1
  have wnil : wl1 = [] := by cases wl1 with
    | nil => rfl
    | cons a b => exact hw1.elim
  subst wnil
  obtain ⟨v0, vl0, rfl, vh0, hv0⟩ := hv.cons
  have vx0 := aRs vh0 (show _ = some z1 from rfl)
  subst vx0
  obtain ⟨v1, vl1, rfl, vh1, hv1⟩ := hv0.cons
  have vx1 := aRs vh1 (show _ = some z2 from rfl)
  subst vx1
  obtain ⟨v2, vl2, rfl, vh2, hv2⟩ := hv1.cons
  have vx2 := aRr vh2 (show _ = some q1 from rfl)
  subst vx2
  have vnil : vl2 = [] := by cases vl2 with
    | nil => rfl
    | cons a b => exact hv2.elim
  subst vnil
  obtain ⟨fs, hq, hfs⟩ := hT.obj t0 (show oT 9 = some 9 from rfl)
  obtain ⟨u45, f45, a45⟩ := fc_at k (show (0, 45, .inr (.inr (.inl 1))) ∈ sw_46.2.1.2.2.1 by simp [sw_46]) rfl hq
  rw [nFd_lo (by decide)] at f45
  have y45 := aRr a45 (show _ = some q1 from rfl)
  subst y45
  obtain ⟨u6, f6, a6⟩ := fc_at k (show (0, 6, .inr (.inr (.inl 2))) ∈ sw_46.2.1.2.2.1 by simp [sw_46]) rfl hq
  rw [nFd_lo (by decide)] at f6
  have y6 := aRr a6 (show _ = some q2 from rfl)
  subst y6
  obtain ⟨u1005, f1005, a1005⟩ := fc_at k (show (0, 1005, .inr (.inl (3, 0))) ∈ sw_46.2.1.2.2.1 by simp [sw_46]) rfl hq
  rw [nFd_hi (by decide)] at f1005
  have y1005 := aRs a1005 (show _ = some z3 from rfl)
  subst y1005
  have g1005 := Value.int.inj (Option.some.inj f1005)
  obtain ⟨r1, f, i1, i2, hr, hg1, he⟩ := row_at hT hfs (show nFT 9 45 = some (.inr (.inl 65)) from rfl) (show nAT 65 = some (0, 720, .inl segK) from segK_ok) rfl
  cases (Option.some.inj (f45.symm.trans i1))
  obtain ⟨hix, hit⟩ := nj_ix_of (z := (z2 + 0)) (n := 720) (by omega) (by omega) (by omega)
  have e1 : ((z2 + 0) : Int).toNat = z0.toNat := by omega
  obtain ⟨r2, f2, k1, k2, hr2, hg2, -⟩ := row_at hT hfs (show nFT 9 6 = some (.inr (.inl 50)) from rfl) (show nAT 50 = some (0, 360, .inl segS) from segS_ok) rfl
  cases (Option.some.inj (f6.symm.trans k1))
  obtain ⟨c9, c8, c7⟩ := ac_at k (show (2, .inr (.inl (0, 0)), .inr (.inl (1, 0))) ∈ sw_46.2.1.2.2.2.1 by simp [sw_46]) rfl hr2
  have c6 := Value.int.inj (aRs c8 (show _ = some z0 from rfl))
  subst c6
  have c5 := Value.int.inj (aRs c7 (show _ = some z1 from rfl))
  rw [(nj_ix_of (z := z0 + 0) (n := 360) (by omega) (by omega) (by omega)).2, show (z0 + 0).toNat = z0.toNat by omega] at c5
  rw [nGh9, nG9_5, hg2] at g1005
  have o6 : gA (h.set q1 (.inl (0, 720, .inl (upd f (Int32.ofInt (z2 + 0)).toNatClampNeg (Int32.ofInt (z1 + 0)))))) fs 6 = gA h fs 6 := gA_oth hJ.2.1 hT t1 hr t0 hq f45 (by decide) t0 hq (show (9, 6, 50) ∈ nRw by decide) (.inr (by decide))
  have o45 : gA (h.set q1 (.inl (0, 720, .inl (upd f (Int32.ofInt (z2 + 0)).toNatClampNeg (Int32.ofInt (z1 + 0)))))) fs 45 = upd f (Int32.ofInt (z2 + 0)).toNatClampNeg (Int32.ofInt (z1 + 0)) := gA_at f45 (List.getElem?_set_self (List.getElem?_eq_some_iff.mp hr).1)
  have o8 : gA (h.set q1 (.inl (0, 720, .inl (upd f (Int32.ofInt (z2 + 0)).toNatClampNeg (Int32.ofInt (z1 + 0)))))) fs 8 = gA h fs 8 := gA_oth hJ.2.1 hT t1 hr t0 hq f45 (by decide) t0 hq (show (9, 8, 52) ∈ nRw by decide) (.inr (by decide))
  have o38 : gA (h.set q1 (.inl (0, 720, .inl (upd f (Int32.ofInt (z2 + 0)).toNatClampNeg (Int32.ofInt (z1 + 0)))))) fs 38 = gA h fs 38 := gA_oth hJ.2.1 hT t1 hr t0 hq f45 (by decide) t0 hq (show (9, 38, 63) ∈ nRw by decide) (.inr (by decide))
  have hne : ∀ n, ¬ n = z0.toNat → upd f (Int32.ofInt (z2 + 0)).toNatClampNeg (Int32.ofInt (z1 + 0)) n = gA h fs 45 n := fun n hn => by rw [hg1]; exact upd_ne (by rw [hit]; omega)
  have heq : upd f (Int32.ofInt (z2 + 0)).toNatClampNeg (Int32.ofInt (z1 + 0)) (z0.toNat) = (Int32.ofInt (z1 + 0)) := by rw [hit, e1]; exact upd_eq
  obtain ⟨p1, p2, p3, p4, p5, p6⟩ := ast_ok (x := (Int32.ofInt (z1 + 0))) (mf := sw_46.2.2.2.1) hJ hT t1 (show nAT 65 = some (0, 720, .inl segK) from segK_ok) rfl hr t0 hq f45 (by decide) hix (sFullK (by rw [hit]; omega)) (fun kk h10 hk => by
    simp only [sw_46, List.mem_cons, Prod.mk.injEq, true_and, List.not_mem_nil, or_false, not_or] at hk
    rw [nGh9, nGh9, o6, o45, o8, o38]
    exact nG9_kp0 (by omega) (by omega) (fun n hn => by by_cases hc : ((179 ≤ n ∧ n < 360) ∨ 539 ≤ n); (rw [gCutF hc, gCutF hc]; exact hne n (by omega)); (simp only [gCut, Bool.false_eq_true, if_false, if_neg hc]))) (fun hV => by
    rcases hV with hV | hV <;> cases hV)
  have g1 := congrArg Int32.toInt g1005
  rw [i32n (by have := gE_le (fun j => gCut true f2 (179 + j)) (fun j => gCut false (gA h fs 45) (179 + j)) 181; omega), a32 (by omega) (by omega)] at g1
  have g2 := (gE_iff (m := z0.toNat - 179)).mp (show _ ≤ gE (fun j => gCut true f2 (179 + j)) (fun j => gCut false (gA h fs 45) (179 + j)) 181 by omega)
  have g3 := (gE_iff (n := 181) (m := z0.toNat - 178) (f := fun j => gCut true f2 (179 + j)) (g := fun j => gCut false (upd f (Int32.ofInt (z2 + 0)).toNatClampNeg (Int32.ofInt (z1 + 0))) (179 + j))).mpr ⟨by omega, fun n hn => by
    show gCut true f2 (179 + n) = gCut false _ (179 + n)
    rw [gCutT (by omega), gCutF (by omega)]
    by_cases e : n = z0.toNat - 179
    · rw [show 179 + n = z0.toNat by omega, heq, c5]
    · rw [hne _ (by omega)]
      have := g2.2 n (by omega)
      simp only [gCutT (show 179 ≤ 179 + n by omega)] at this
      rw [this, gCutF (by omega)]⟩
  have g4 := gE_le (fun j => gCut true f2 (179 + j)) (fun j => gCut false (upd f (Int32.ofInt (z2 + 0)).toNatClampNeg (Int32.ofInt (z1 + 0))) (179 + j)) 181
  generalize hz4 : gE (fun j => gCut true f2 (179 + j)) (fun j => gCut false (upd f (Int32.ofInt (z2 + 0)).toNatClampNeg (Int32.ofInt (z1 + 0))) (179 + j)) 181 = z4 at g3 g4
  refine ⟨_, fun _ => p1 pc rst, (fun e => nomatch e), p2, p3, p4, _, List.mem_singleton.mpr rfl, _, _, ⟨[(z4 : Int)], [], rfl, rfl⟩, aE_push (r := (0, 181)) k.1 ⟨by omega, by omega⟩, k.2.1, fun e he => ?_, fun e he => ?_, fun e he => ?_⟩
  · simp only [List.mem_cons, List.not_mem_nil, or_false] at he
    subst he
    refine ⟨q0, 9, _, _, rfl, p6, nFd_hi (by decide), ⟨(z4 : Int), rfl, ?_⟩⟩
    rw [nGh9, o6, o45, o8, o38, nG9_5, hg2, hz4, Int.add_zero, Int32.ofInt_eq_ofNat]
  · exact nomatch he
  · simp only [List.mem_cons, List.not_mem_nil, or_false] at he
    subst he
    refine ⟨fun t ht => by simp only [List.mem_cons, List.not_mem_nil, or_false] at ht; rcases ht with rfl | rfl <;> simp, ?_⟩
    simp only [lS, List.map_cons, List.map_nil, List.sum_cons, List.sum_nil, List.cons_append, List.nil_append, List.getD_cons_zero, List.getD_cons_succ]
    omega
/-- s_restore0 -/
theorem sw_47_ok {S : List Nat} : nSv nFT nAT S (nJJ S) sw_47 := by
  intro h nu mu ws vs rst pc ini hJ hT k hw hv
  obtain ⟨z0, zr0, rfl, ze0⟩ := lc (show 3 = nu.length from k.1.1)
  obtain ⟨z1, zr1, rfl, ze1⟩ := lc (ze0)
  obtain ⟨z2, zr2, rfl, ze2⟩ := lc (ze1)
  cases l0 ze2
  obtain ⟨q0, qr0, rfl, qe0⟩ := lc (show 3 = mu.length from k.2.1.1)
  obtain ⟨q1, qr1, rfl, qe1⟩ := lc (qe0)
  obtain ⟨q2, qr2, rfl, qe2⟩ := lc (qe1)
  cases l0 qe2
  have b0 : 179 ≤ z0 ∧ z0 ≤ 359 := k.1.2 0 z0 _ rfl rfl
  have b1 : (-2147483648) ≤ z1 ∧ z1 ≤ 2147483647 := k.1.2 1 z1 _ rfl rfl
  have b2 : 0 ≤ z2 ∧ z2 ≤ 181 := k.1.2 2 z2 _ rfl rfl
  have t0 : S[q0]? = some 9 := k.2.1.2 0 q0 _ rfl rfl
  have t1 : S[q1]? = some 50 := k.2.1.2 1 q1 _ rfl rfl
  have t2 : S[q2]? = some 65 := k.2.1.2 2 q2 _ rfl rfl
  have d0 := (k.2.2.2.2 _ (show .inl ([(1, 0), ((-1), 2)], (-179)) ∈ sw_47.2.1.2.2.2.2 by simp [sw_47])).2
  simp only [lS, List.map_cons, List.map_nil, List.sum_cons, List.sum_nil, List.getD_cons_zero, List.getD_cons_succ] at d0
  obtain ⟨w0, wl0, rfl, wh0, hw0⟩ := hw.cons
  have wx0 := aRr wh0 (show _ = some q0 from rfl)
  subst wx0
  obtain ⟨w1, wl1, rfl, wh1, hw1⟩ := hw0.cons
  have wx1 := aRs wh1 (show _ = some z0 from rfl)
  subst wx1
  have wnil : wl1 = [] := by cases wl1 with
    | nil => rfl
    | cons a b => exact hw1.elim
  subst wnil
  obtain ⟨v0, vl0, rfl, vh0, hv0⟩ := hv.cons
  have vx0 := aRs vh0 (show _ = some z1 from rfl)
  subst vx0
  obtain ⟨v1, vl1, rfl, vh1, hv1⟩ := hv0.cons
  have vx1 := aRs vh1 (show _ = some z0 from rfl)
  subst vx1
  obtain ⟨v2, vl2, rfl, vh2, hv2⟩ := hv1.cons
  have vx2 := aRr vh2 (show _ = some q1 from rfl)
  subst vx2
  have vnil : vl2 = [] := by cases vl2 with
    | nil => rfl
    | cons a b => exact hv2.elim
  subst vnil
  obtain ⟨fs, hq, hfs⟩ := hT.obj t0 (show oT 9 = some 9 from rfl)
  obtain ⟨u6, f6, a6⟩ := fc_at k (show (0, 6, .inr (.inr (.inl 1))) ∈ sw_47.2.1.2.2.1 by simp [sw_47]) rfl hq
  rw [nFd_lo (by decide)] at f6
  have y6 := aRr a6 (show _ = some q1 from rfl)
  subst y6
  obtain ⟨u45, f45, a45⟩ := fc_at k (show (0, 45, .inr (.inr (.inl 2))) ∈ sw_47.2.1.2.2.1 by simp [sw_47]) rfl hq
  rw [nFd_lo (by decide)] at f45
  have y45 := aRr a45 (show _ = some q2 from rfl)
  subst y45
  obtain ⟨u1005, f1005, a1005⟩ := fc_at k (show (0, 1005, .inr (.inl (2, 0))) ∈ sw_47.2.1.2.2.1 by simp [sw_47]) rfl hq
  rw [nFd_hi (by decide)] at f1005
  have y1005 := aRs a1005 (show _ = some z2 from rfl)
  subst y1005
  have g1005 := Value.int.inj (Option.some.inj f1005)
  obtain ⟨r1, f, i1, i2, hr, hg1, he⟩ := row_at hT hfs (show nFT 9 6 = some (.inr (.inl 50)) from rfl) (show nAT 50 = some (0, 360, .inl segS) from segS_ok) rfl
  cases (Option.some.inj (f6.symm.trans i1))
  obtain ⟨hix, hit⟩ := nj_ix_of (z := (z0 + 0)) (n := 360) (by omega) (by omega) (by omega)
  obtain ⟨r2, f2, k1, k2, hr2, hg2, -⟩ := row_at hT hfs (show nFT 9 45 = some (.inr (.inl 65)) from rfl) (show nAT 65 = some (0, 720, .inl segK) from segK_ok) rfl
  cases (Option.some.inj (f45.symm.trans k1))
  obtain ⟨c9, c8, c7⟩ := ac_at k (show (2, .inr (.inl (0, 0)), .inr (.inl (1, 0))) ∈ sw_47.2.1.2.2.2.1 by simp [sw_47]) rfl hr2
  have c6 := Value.int.inj (aRs c8 (show _ = some z0 from rfl))
  subst c6
  have c5 := Value.int.inj (aRs c7 (show _ = some z1 from rfl))
  rw [(nj_ix_of (z := z0 + 0) (n := 720) (by omega) (by omega) (by omega)).2] at c5
  rw [nGh9, nG9_5, hg2] at g1005
  have o6 : gA (h.set q1 (.inl (0, 360, .inl (upd f (Int32.ofInt (z0 + 0)).toNatClampNeg (Int32.ofInt (z1 + 0)))))) fs 6 = upd f (Int32.ofInt (z0 + 0)).toNatClampNeg (Int32.ofInt (z1 + 0)) := gA_at f6 (List.getElem?_set_self (List.getElem?_eq_some_iff.mp hr).1)
  have o45 : gA (h.set q1 (.inl (0, 360, .inl (upd f (Int32.ofInt (z0 + 0)).toNatClampNeg (Int32.ofInt (z1 + 0)))))) fs 45 = gA h fs 45 := gA_oth hJ.2.1 hT t1 hr t0 hq f6 (by decide) t0 hq (show (9, 45, 65) ∈ nRw by decide) (.inr (by decide))
  have o8 : gA (h.set q1 (.inl (0, 360, .inl (upd f (Int32.ofInt (z0 + 0)).toNatClampNeg (Int32.ofInt (z1 + 0)))))) fs 8 = gA h fs 8 := gA_oth hJ.2.1 hT t1 hr t0 hq f6 (by decide) t0 hq (show (9, 8, 52) ∈ nRw by decide) (.inr (by decide))
  have o38 : gA (h.set q1 (.inl (0, 360, .inl (upd f (Int32.ofInt (z0 + 0)).toNatClampNeg (Int32.ofInt (z1 + 0)))))) fs 38 = gA h fs 38 := gA_oth hJ.2.1 hT t1 hr t0 hq f6 (by decide) t0 hq (show (9, 38, 63) ∈ nRw by decide) (.inr (by decide))
  have hne : ∀ n, ¬ n = (z0 + 0).toNat → upd f (Int32.ofInt (z0 + 0)).toNatClampNeg (Int32.ofInt (z1 + 0)) n = gA h fs 6 n := fun n hn => by rw [hg1]; exact upd_ne (by rw [hit]; omega)
  have heq : upd f (Int32.ofInt (z0 + 0)).toNatClampNeg (Int32.ofInt (z1 + 0)) ((z0 + 0).toNat) = (Int32.ofInt (z1 + 0)) := by rw [hit]; exact upd_eq
  obtain ⟨p1, p2, p3, p4, p5, p6⟩ := ast_ok (x := (Int32.ofInt (z1 + 0))) (mf := sw_47.2.2.2.1) hJ hT t1 (show nAT 50 = some (0, 360, .inl segS) from segS_ok) rfl hr t0 hq f6 (by decide) hix (sFullS (by rw [hit]; omega) (by rw [hit]; omega)) (fun kk h10 hk => by
    have hk2 : ¬ (1020 ≤ kk ∧ kk < 1066) := fun hc => hk ((show ∀ k, k < 1066 → 1020 ≤ k → (9, k) ∈ sw_47.2.2.2.1 by decide +kernel) kk hc.2 hc.1)
    have hk3 : ∀ x ∈ [1002, 1005, 1006, 1007], ¬ kk = x := fun x hx e => hk (e ▸ (show ∀ x ∈ [1002, 1005, 1006, 1007], (9, x) ∈ sw_47.2.2.2.1 by decide +kernel) x hx)
    rw [nGh9, nGh9, o6, o45, o8, o38]
    exact nG9_s (hk3 _ (by decide)) (hk3 _ (by decide)) (hk3 _ (by decide)) (hk3 _ (by decide)) hk2) (fun hV => by
    rcases hV with hV | hV <;> cases hV)
  have g1 := congrArg Int32.toInt g1005
  rw [i32n (by have := gE_le (fun j => gCut true (gA h fs 6) (179 + j)) (fun j => gCut false f2 (179 + j)) 181; omega), a32 (by omega) (by omega)] at g1
  have g2 := (gE_iff (m := z0.toNat - 179)).mp (show _ ≤ gE (fun j => gCut true (gA h fs 6) (179 + j)) (fun j => gCut false f2 (179 + j)) 181 by omega)
  have g3 := (gE_iff (n := 181) (m := z0.toNat - 178) (f := fun j => gCut true (upd f (Int32.ofInt (z0 + 0)).toNatClampNeg (Int32.ofInt (z1 + 0))) (179 + j)) (g := fun j => gCut false f2 (179 + j))).mpr ⟨by omega, fun n hn => by
    show gCut true _ (179 + n) = gCut false f2 (179 + n)
    rw [gCutT (by omega), gCutF (by omega)]
    by_cases e : n = z0.toNat - 179
    · rw [show 179 + n = (z0 + 0).toNat by omega, heq, c5]
    · rw [hne _ (by omega)]
      have := g2.2 n (by omega)
      simp only [gCutT (show 179 ≤ 179 + n by omega)] at this
      rw [this, gCutF (by omega)]⟩
  have g4 := gE_le (fun j => gCut true (upd f (Int32.ofInt (z0 + 0)).toNatClampNeg (Int32.ofInt (z1 + 0))) (179 + j)) (fun j => gCut false f2 (179 + j)) 181
  generalize hz3 : gE (fun j => gCut true (upd f (Int32.ofInt (z0 + 0)).toNatClampNeg (Int32.ofInt (z1 + 0))) (179 + j)) (fun j => gCut false f2 (179 + j)) 181 = z3 at g3 g4
  refine ⟨_, fun _ => p1 pc rst, (fun e => nomatch e), p2, p3, p4, _, List.mem_singleton.mpr rfl, _, _, ⟨[(z3 : Int)], [], rfl, rfl⟩, aE_push (r := (0, 181)) k.1 ⟨by omega, by omega⟩, k.2.1, fun e he => ?_, fun e he => ?_, fun e he => ?_⟩
  · simp only [List.mem_cons, List.not_mem_nil, or_false] at he
    subst he
    refine ⟨q0, 9, _, _, rfl, p6, nFd_hi (by decide), ⟨(z3 : Int), rfl, ?_⟩⟩
    rw [nGh9, o6, o45, o8, o38, nG9_5, hg2, hz3, Int.add_zero, Int32.ofInt_eq_ofNat]
  · exact nomatch he
  · simp only [List.mem_cons, List.not_mem_nil, or_false] at he
    subst he
    refine ⟨fun t ht => by simp only [List.mem_cons, List.not_mem_nil, or_false] at ht; rcases ht with rfl | rfl <;> simp, ?_⟩
    simp only [lS, List.map_cons, List.map_nil, List.sum_cons, List.sum_nil, List.cons_append, List.nil_append, List.getD_cons_zero, List.getD_cons_succ]
    omega
/-- kept_copy1 -/
theorem sw_48_ok {S : List Nat} : nSv nFT nAT S (nJJ S) sw_48 := by
  intro h nu mu ws vs rst pc ini hJ hT k hw hv
  obtain ⟨z0, zr0, rfl, ze0⟩ := lc (show 4 = nu.length from k.1.1)
  obtain ⟨z1, zr1, rfl, ze1⟩ := lc (ze0)
  obtain ⟨z2, zr2, rfl, ze2⟩ := lc (ze1)
  obtain ⟨z3, zr3, rfl, ze3⟩ := lc (ze2)
  cases l0 ze3
  obtain ⟨q0, qr0, rfl, qe0⟩ := lc (show 3 = mu.length from k.2.1.1)
  obtain ⟨q1, qr1, rfl, qe1⟩ := lc (qe0)
  obtain ⟨q2, qr2, rfl, qe2⟩ := lc (qe1)
  cases l0 qe2
  have b0 : 179 ≤ z0 ∧ z0 ≤ 359 := k.1.2 0 z0 _ rfl rfl
  have b1 : (-2147483648) ≤ z1 ∧ z1 ≤ 2147483647 := k.1.2 1 z1 _ rfl rfl
  have b2 : 539 ≤ z2 ∧ z2 ≤ 719 := k.1.2 2 z2 _ rfl rfl
  have b3 : 0 ≤ z3 ∧ z3 ≤ 181 := k.1.2 3 z3 _ rfl rfl
  have t0 : S[q0]? = some 9 := k.2.1.2 0 q0 _ rfl rfl
  have t1 : S[q1]? = some 65 := k.2.1.2 1 q1 _ rfl rfl
  have t2 : S[q2]? = some 50 := k.2.1.2 2 q2 _ rfl rfl
  have d0 := (k.2.2.2.2 _ (show .inl ([(1, 2), ((-1), 0)], (-360)) ∈ sw_48.2.1.2.2.2.2 by simp [sw_48])).2
  simp only [lS, List.map_cons, List.map_nil, List.sum_cons, List.sum_nil, List.getD_cons_zero, List.getD_cons_succ] at d0
  have d1 := (k.2.2.2.2 _ (show .inl ([((-1), 2), (1, 0)], 360) ∈ sw_48.2.1.2.2.2.2 by simp [sw_48])).2
  simp only [lS, List.map_cons, List.map_nil, List.sum_cons, List.sum_nil, List.getD_cons_zero, List.getD_cons_succ] at d1
  have d2 := (k.2.2.2.2 _ (show .inl ([(1, 0), ((-1), 3)], (-179)) ∈ sw_48.2.1.2.2.2.2 by simp [sw_48])).2
  simp only [lS, List.map_cons, List.map_nil, List.sum_cons, List.sum_nil, List.getD_cons_zero, List.getD_cons_succ] at d2
  obtain ⟨w0, wl0, rfl, wh0, hw0⟩ := hw.cons
  have wx0 := aRr wh0 (show _ = some q0 from rfl)
  subst wx0
  obtain ⟨w1, wl1, rfl, wh1, hw1⟩ := hw0.cons
  have wx1 := aRs wh1 (show _ = some z0 from rfl)
  subst wx1
  have wnil : wl1 = [] := by cases wl1 with
    | nil => rfl
    | cons a b => exact hw1.elim
  subst wnil
  obtain ⟨v0, vl0, rfl, vh0, hv0⟩ := hv.cons
  have vx0 := aRs vh0 (show _ = some z1 from rfl)
  subst vx0
  obtain ⟨v1, vl1, rfl, vh1, hv1⟩ := hv0.cons
  have vx1 := aRs vh1 (show _ = some z2 from rfl)
  subst vx1
  obtain ⟨v2, vl2, rfl, vh2, hv2⟩ := hv1.cons
  have vx2 := aRr vh2 (show _ = some q1 from rfl)
  subst vx2
  have vnil : vl2 = [] := by cases vl2 with
    | nil => rfl
    | cons a b => exact hv2.elim
  subst vnil
  obtain ⟨fs, hq, hfs⟩ := hT.obj t0 (show oT 9 = some 9 from rfl)
  obtain ⟨u45, f45, a45⟩ := fc_at k (show (0, 45, .inr (.inr (.inl 1))) ∈ sw_48.2.1.2.2.1 by simp [sw_48]) rfl hq
  rw [nFd_lo (by decide)] at f45
  have y45 := aRr a45 (show _ = some q1 from rfl)
  subst y45
  obtain ⟨u6, f6, a6⟩ := fc_at k (show (0, 6, .inr (.inr (.inl 2))) ∈ sw_48.2.1.2.2.1 by simp [sw_48]) rfl hq
  rw [nFd_lo (by decide)] at f6
  have y6 := aRr a6 (show _ = some q2 from rfl)
  subst y6
  obtain ⟨u1006, f1006, a1006⟩ := fc_at k (show (0, 1006, .inr (.inl (3, 0))) ∈ sw_48.2.1.2.2.1 by simp [sw_48]) rfl hq
  rw [nFd_hi (by decide)] at f1006
  have y1006 := aRs a1006 (show _ = some z3 from rfl)
  subst y1006
  have g1006 := Value.int.inj (Option.some.inj f1006)
  obtain ⟨r1, f, i1, i2, hr, hg1, he⟩ := row_at hT hfs (show nFT 9 45 = some (.inr (.inl 65)) from rfl) (show nAT 65 = some (0, 720, .inl segK) from segK_ok) rfl
  cases (Option.some.inj (f45.symm.trans i1))
  obtain ⟨hix, hit⟩ := nj_ix_of (z := (z2 + 0)) (n := 720) (by omega) (by omega) (by omega)
  have e1 : ((z2 + 0) : Int).toNat = 360 + z0.toNat := by omega
  obtain ⟨r2, f2, k1, k2, hr2, hg2, -⟩ := row_at hT hfs (show nFT 9 6 = some (.inr (.inl 50)) from rfl) (show nAT 50 = some (0, 360, .inl segS) from segS_ok) rfl
  cases (Option.some.inj (f6.symm.trans k1))
  obtain ⟨c9, c8, c7⟩ := ac_at k (show (2, .inr (.inl (0, 0)), .inr (.inl (1, 0))) ∈ sw_48.2.1.2.2.2.1 by simp [sw_48]) rfl hr2
  have c6 := Value.int.inj (aRs c8 (show _ = some z0 from rfl))
  subst c6
  have c5 := Value.int.inj (aRs c7 (show _ = some z1 from rfl))
  rw [(nj_ix_of (z := z0 + 0) (n := 360) (by omega) (by omega) (by omega)).2, show (z0 + 0).toNat = z0.toNat by omega] at c5
  rw [nGh9, nG9_6, hg2] at g1006
  have o6 : gA (h.set q1 (.inl (0, 720, .inl (upd f (Int32.ofInt (z2 + 0)).toNatClampNeg (Int32.ofInt (z1 + 0)))))) fs 6 = gA h fs 6 := gA_oth hJ.2.1 hT t1 hr t0 hq f45 (by decide) t0 hq (show (9, 6, 50) ∈ nRw by decide) (.inr (by decide))
  have o45 : gA (h.set q1 (.inl (0, 720, .inl (upd f (Int32.ofInt (z2 + 0)).toNatClampNeg (Int32.ofInt (z1 + 0)))))) fs 45 = upd f (Int32.ofInt (z2 + 0)).toNatClampNeg (Int32.ofInt (z1 + 0)) := gA_at f45 (List.getElem?_set_self (List.getElem?_eq_some_iff.mp hr).1)
  have o8 : gA (h.set q1 (.inl (0, 720, .inl (upd f (Int32.ofInt (z2 + 0)).toNatClampNeg (Int32.ofInt (z1 + 0)))))) fs 8 = gA h fs 8 := gA_oth hJ.2.1 hT t1 hr t0 hq f45 (by decide) t0 hq (show (9, 8, 52) ∈ nRw by decide) (.inr (by decide))
  have o38 : gA (h.set q1 (.inl (0, 720, .inl (upd f (Int32.ofInt (z2 + 0)).toNatClampNeg (Int32.ofInt (z1 + 0)))))) fs 38 = gA h fs 38 := gA_oth hJ.2.1 hT t1 hr t0 hq f45 (by decide) t0 hq (show (9, 38, 63) ∈ nRw by decide) (.inr (by decide))
  have hne : ∀ n, ¬ n = 360 + z0.toNat → upd f (Int32.ofInt (z2 + 0)).toNatClampNeg (Int32.ofInt (z1 + 0)) n = gA h fs 45 n := fun n hn => by rw [hg1]; exact upd_ne (by rw [hit]; omega)
  have heq : upd f (Int32.ofInt (z2 + 0)).toNatClampNeg (Int32.ofInt (z1 + 0)) (360 + z0.toNat) = (Int32.ofInt (z1 + 0)) := by rw [hit, e1]; exact upd_eq
  obtain ⟨p1, p2, p3, p4, p5, p6⟩ := ast_ok (x := (Int32.ofInt (z1 + 0))) (mf := sw_48.2.2.2.1) hJ hT t1 (show nAT 65 = some (0, 720, .inl segK) from segK_ok) rfl hr t0 hq f45 (by decide) hix (sFullK (by rw [hit]; omega)) (fun kk h10 hk => by
    simp only [sw_48, List.mem_cons, Prod.mk.injEq, true_and, List.not_mem_nil, or_false, not_or] at hk
    rw [nGh9, nGh9, o6, o45, o8, o38]
    exact nG9_kp1 (by omega) (by omega) (fun n hn => by by_cases hc : ((179 ≤ n ∧ n < 360) ∨ 539 ≤ n); (rw [gCutF hc, gCutF hc]; exact hne n (by omega)); (simp only [gCut, Bool.false_eq_true, if_false, if_neg hc]))) (fun hV => by
    rcases hV with hV | hV <;> cases hV)
  have g1 := congrArg Int32.toInt g1006
  rw [i32n (by have := gE_le (fun j => gCut true f2 (179 + j)) (fun j => gCut false (gA h fs 45) (539 + j)) 181; omega), a32 (by omega) (by omega)] at g1
  have g2 := (gE_iff (m := z0.toNat - 179)).mp (show _ ≤ gE (fun j => gCut true f2 (179 + j)) (fun j => gCut false (gA h fs 45) (539 + j)) 181 by omega)
  have g3 := (gE_iff (n := 181) (m := z0.toNat - 178) (f := fun j => gCut true f2 (179 + j)) (g := fun j => gCut false (upd f (Int32.ofInt (z2 + 0)).toNatClampNeg (Int32.ofInt (z1 + 0))) (539 + j))).mpr ⟨by omega, fun n hn => by
    show gCut true f2 (179 + n) = gCut false _ (539 + n)
    rw [gCutT (by omega), gCutF (by omega)]
    by_cases e : n = z0.toNat - 179
    · rw [show 539 + n = 360 + z0.toNat by omega, heq, show 179 + n = z0.toNat by omega, c5]
    · rw [hne _ (by omega)]
      have := g2.2 n (by omega)
      simp only [gCutT (show 179 ≤ 179 + n by omega)] at this
      rw [this, gCutF (by omega)]⟩
  have g4 := gE_le (fun j => gCut true f2 (179 + j)) (fun j => gCut false (upd f (Int32.ofInt (z2 + 0)).toNatClampNeg (Int32.ofInt (z1 + 0))) (539 + j)) 181
  generalize hz4 : gE (fun j => gCut true f2 (179 + j)) (fun j => gCut false (upd f (Int32.ofInt (z2 + 0)).toNatClampNeg (Int32.ofInt (z1 + 0))) (539 + j)) 181 = z4 at g3 g4
  refine ⟨_, fun _ => p1 pc rst, (fun e => nomatch e), p2, p3, p4, _, List.mem_singleton.mpr rfl, _, _, ⟨[(z4 : Int)], [], rfl, rfl⟩, aE_push (r := (0, 181)) k.1 ⟨by omega, by omega⟩, k.2.1, fun e he => ?_, fun e he => ?_, fun e he => ?_⟩
  · simp only [List.mem_cons, List.not_mem_nil, or_false] at he
    subst he
    refine ⟨q0, 9, _, _, rfl, p6, nFd_hi (by decide), ⟨(z4 : Int), rfl, ?_⟩⟩
    rw [nGh9, o6, o45, o8, o38, nG9_6, hg2, hz4, Int.add_zero, Int32.ofInt_eq_ofNat]
  · exact nomatch he
  · simp only [List.mem_cons, List.not_mem_nil, or_false] at he
    subst he
    refine ⟨fun t ht => by simp only [List.mem_cons, List.not_mem_nil, or_false] at ht; rcases ht with rfl | rfl <;> simp, ?_⟩
    simp only [lS, List.map_cons, List.map_nil, List.sum_cons, List.sum_nil, List.cons_append, List.nil_append, List.getD_cons_zero, List.getD_cons_succ]
    omega
/-- s_restore1 -/
theorem sw_49_ok {S : List Nat} : nSv nFT nAT S (nJJ S) sw_49 := by
  intro h nu mu ws vs rst pc ini hJ hT k hw hv
  obtain ⟨z0, zr0, rfl, ze0⟩ := lc (show 3 = nu.length from k.1.1)
  obtain ⟨z1, zr1, rfl, ze1⟩ := lc (ze0)
  obtain ⟨z2, zr2, rfl, ze2⟩ := lc (ze1)
  cases l0 ze2
  obtain ⟨q0, qr0, rfl, qe0⟩ := lc (show 3 = mu.length from k.2.1.1)
  obtain ⟨q1, qr1, rfl, qe1⟩ := lc (qe0)
  obtain ⟨q2, qr2, rfl, qe2⟩ := lc (qe1)
  cases l0 qe2
  have b0 : 179 ≤ z0 ∧ z0 ≤ 359 := k.1.2 0 z0 _ rfl rfl
  have b1 : (-2147483648) ≤ z1 ∧ z1 ≤ 2147483647 := k.1.2 1 z1 _ rfl rfl
  have b2 : 0 ≤ z2 ∧ z2 ≤ 181 := k.1.2 2 z2 _ rfl rfl
  have t0 : S[q0]? = some 9 := k.2.1.2 0 q0 _ rfl rfl
  have t1 : S[q1]? = some 50 := k.2.1.2 1 q1 _ rfl rfl
  have t2 : S[q2]? = some 65 := k.2.1.2 2 q2 _ rfl rfl
  have d0 := (k.2.2.2.2 _ (show .inl ([(1, 0), ((-1), 2)], (-179)) ∈ sw_49.2.1.2.2.2.2 by simp [sw_49])).2
  simp only [lS, List.map_cons, List.map_nil, List.sum_cons, List.sum_nil, List.getD_cons_zero, List.getD_cons_succ] at d0
  obtain ⟨w0, wl0, rfl, wh0, hw0⟩ := hw.cons
  have wx0 := aRr wh0 (show _ = some q0 from rfl)
  subst wx0
  obtain ⟨w1, wl1, rfl, wh1, hw1⟩ := hw0.cons
  have wx1 := aRs wh1 (show _ = some z0 from rfl)
  subst wx1
  have wnil : wl1 = [] := by cases wl1 with
    | nil => rfl
    | cons a b => exact hw1.elim
  subst wnil
  obtain ⟨v0, vl0, rfl, vh0, hv0⟩ := hv.cons
  have vx0 := aRs vh0 (show _ = some z1 from rfl)
  subst vx0
  obtain ⟨v1, vl1, rfl, vh1, hv1⟩ := hv0.cons
  have vx1 := aRs vh1 (show _ = some z0 from rfl)
  subst vx1
  obtain ⟨v2, vl2, rfl, vh2, hv2⟩ := hv1.cons
  have vx2 := aRr vh2 (show _ = some q1 from rfl)
  subst vx2
  have vnil : vl2 = [] := by cases vl2 with
    | nil => rfl
    | cons a b => exact hv2.elim
  subst vnil
  obtain ⟨fs, hq, hfs⟩ := hT.obj t0 (show oT 9 = some 9 from rfl)
  obtain ⟨u6, f6, a6⟩ := fc_at k (show (0, 6, .inr (.inr (.inl 1))) ∈ sw_49.2.1.2.2.1 by simp [sw_49]) rfl hq
  rw [nFd_lo (by decide)] at f6
  have y6 := aRr a6 (show _ = some q1 from rfl)
  subst y6
  obtain ⟨u45, f45, a45⟩ := fc_at k (show (0, 45, .inr (.inr (.inl 2))) ∈ sw_49.2.1.2.2.1 by simp [sw_49]) rfl hq
  rw [nFd_lo (by decide)] at f45
  have y45 := aRr a45 (show _ = some q2 from rfl)
  subst y45
  obtain ⟨u1006, f1006, a1006⟩ := fc_at k (show (0, 1006, .inr (.inl (2, 0))) ∈ sw_49.2.1.2.2.1 by simp [sw_49]) rfl hq
  rw [nFd_hi (by decide)] at f1006
  have y1006 := aRs a1006 (show _ = some z2 from rfl)
  subst y1006
  have g1006 := Value.int.inj (Option.some.inj f1006)
  obtain ⟨r1, f, i1, i2, hr, hg1, he⟩ := row_at hT hfs (show nFT 9 6 = some (.inr (.inl 50)) from rfl) (show nAT 50 = some (0, 360, .inl segS) from segS_ok) rfl
  cases (Option.some.inj (f6.symm.trans i1))
  obtain ⟨hix, hit⟩ := nj_ix_of (z := (z0 + 0)) (n := 360) (by omega) (by omega) (by omega)
  obtain ⟨r2, f2, k1, k2, hr2, hg2, -⟩ := row_at hT hfs (show nFT 9 45 = some (.inr (.inl 65)) from rfl) (show nAT 65 = some (0, 720, .inl segK) from segK_ok) rfl
  cases (Option.some.inj (f45.symm.trans k1))
  obtain ⟨c9, c8, c7⟩ := ac_at k (show (2, .inr (.inl (0, 360)), .inr (.inl (1, 0))) ∈ sw_49.2.1.2.2.2.1 by simp [sw_49]) rfl hr2
  have c6 := Value.int.inj (aRs c8 (show _ = some z0 from rfl))
  subst c6
  have c5 := Value.int.inj (aRs c7 (show _ = some z1 from rfl))
  rw [(nj_ix_of (z := z0 + 360) (n := 720) (by omega) (by omega) (by omega)).2] at c5
  rw [nGh9, nG9_6, hg2] at g1006
  have o6 : gA (h.set q1 (.inl (0, 360, .inl (upd f (Int32.ofInt (z0 + 0)).toNatClampNeg (Int32.ofInt (z1 + 0)))))) fs 6 = upd f (Int32.ofInt (z0 + 0)).toNatClampNeg (Int32.ofInt (z1 + 0)) := gA_at f6 (List.getElem?_set_self (List.getElem?_eq_some_iff.mp hr).1)
  have o45 : gA (h.set q1 (.inl (0, 360, .inl (upd f (Int32.ofInt (z0 + 0)).toNatClampNeg (Int32.ofInt (z1 + 0)))))) fs 45 = gA h fs 45 := gA_oth hJ.2.1 hT t1 hr t0 hq f6 (by decide) t0 hq (show (9, 45, 65) ∈ nRw by decide) (.inr (by decide))
  have o8 : gA (h.set q1 (.inl (0, 360, .inl (upd f (Int32.ofInt (z0 + 0)).toNatClampNeg (Int32.ofInt (z1 + 0)))))) fs 8 = gA h fs 8 := gA_oth hJ.2.1 hT t1 hr t0 hq f6 (by decide) t0 hq (show (9, 8, 52) ∈ nRw by decide) (.inr (by decide))
  have o38 : gA (h.set q1 (.inl (0, 360, .inl (upd f (Int32.ofInt (z0 + 0)).toNatClampNeg (Int32.ofInt (z1 + 0)))))) fs 38 = gA h fs 38 := gA_oth hJ.2.1 hT t1 hr t0 hq f6 (by decide) t0 hq (show (9, 38, 63) ∈ nRw by decide) (.inr (by decide))
  have hne : ∀ n, ¬ n = (z0 + 0).toNat → upd f (Int32.ofInt (z0 + 0)).toNatClampNeg (Int32.ofInt (z1 + 0)) n = gA h fs 6 n := fun n hn => by rw [hg1]; exact upd_ne (by rw [hit]; omega)
  have heq : upd f (Int32.ofInt (z0 + 0)).toNatClampNeg (Int32.ofInt (z1 + 0)) ((z0 + 0).toNat) = (Int32.ofInt (z1 + 0)) := by rw [hit]; exact upd_eq
  obtain ⟨p1, p2, p3, p4, p5, p6⟩ := ast_ok (x := (Int32.ofInt (z1 + 0))) (mf := sw_49.2.2.2.1) hJ hT t1 (show nAT 50 = some (0, 360, .inl segS) from segS_ok) rfl hr t0 hq f6 (by decide) hix (sFullS (by rw [hit]; omega) (by rw [hit]; omega)) (fun kk h10 hk => by
    have hk2 : ¬ (1020 ≤ kk ∧ kk < 1066) := fun hc => hk ((show ∀ k, k < 1066 → 1020 ≤ k → (9, k) ∈ sw_49.2.2.2.1 by decide +kernel) kk hc.2 hc.1)
    have hk3 : ∀ x ∈ [1002, 1005, 1006, 1007], ¬ kk = x := fun x hx e => hk (e ▸ (show ∀ x ∈ [1002, 1005, 1006, 1007], (9, x) ∈ sw_49.2.2.2.1 by decide +kernel) x hx)
    rw [nGh9, nGh9, o6, o45, o8, o38]
    exact nG9_s (hk3 _ (by decide)) (hk3 _ (by decide)) (hk3 _ (by decide)) (hk3 _ (by decide)) hk2) (fun hV => by
    rcases hV with hV | hV <;> cases hV)
  have g1 := congrArg Int32.toInt g1006
  rw [i32n (by have := gE_le (fun j => gCut true (gA h fs 6) (179 + j)) (fun j => gCut false f2 (539 + j)) 181; omega), a32 (by omega) (by omega)] at g1
  have g2 := (gE_iff (m := z0.toNat - 179)).mp (show _ ≤ gE (fun j => gCut true (gA h fs 6) (179 + j)) (fun j => gCut false f2 (539 + j)) 181 by omega)
  have g3 := (gE_iff (n := 181) (m := z0.toNat - 178) (f := fun j => gCut true (upd f (Int32.ofInt (z0 + 0)).toNatClampNeg (Int32.ofInt (z1 + 0))) (179 + j)) (g := fun j => gCut false f2 (539 + j))).mpr ⟨by omega, fun n hn => by
    show gCut true _ (179 + n) = gCut false f2 (539 + n)
    rw [gCutT (by omega), gCutF (by omega)]
    by_cases e : n = z0.toNat - 179
    · rw [show 179 + n = (z0 + 0).toNat by omega, heq, show 539 + n = (z0 + 360).toNat by omega, c5]
    · rw [hne _ (by omega)]
      have := g2.2 n (by omega)
      simp only [gCutT (show 179 ≤ 179 + n by omega)] at this
      rw [this, gCutF (by omega)]⟩
  have g4 := gE_le (fun j => gCut true (upd f (Int32.ofInt (z0 + 0)).toNatClampNeg (Int32.ofInt (z1 + 0))) (179 + j)) (fun j => gCut false f2 (539 + j)) 181
  generalize hz3 : gE (fun j => gCut true (upd f (Int32.ofInt (z0 + 0)).toNatClampNeg (Int32.ofInt (z1 + 0))) (179 + j)) (fun j => gCut false f2 (539 + j)) 181 = z3 at g3 g4
  refine ⟨_, fun _ => p1 pc rst, (fun e => nomatch e), p2, p3, p4, _, List.mem_singleton.mpr rfl, _, _, ⟨[(z3 : Int)], [], rfl, rfl⟩, aE_push (r := (0, 181)) k.1 ⟨by omega, by omega⟩, k.2.1, fun e he => ?_, fun e he => ?_, fun e he => ?_⟩
  · simp only [List.mem_cons, List.not_mem_nil, or_false] at he
    subst he
    refine ⟨q0, 9, _, _, rfl, p6, nFd_hi (by decide), ⟨(z3 : Int), rfl, ?_⟩⟩
    rw [nGh9, o6, o45, o8, o38, nG9_6, hg2, hz3, Int.add_zero, Int32.ofInt_eq_ofNat]
  · exact nomatch he
  · simp only [List.mem_cons, List.not_mem_nil, or_false] at he
    subst he
    refine ⟨fun t ht => by simp only [List.mem_cons, List.not_mem_nil, or_false] at ht; rcases ht with rfl | rfl <;> simp, ?_⟩
    simp only [lS, List.map_cons, List.map_nil, List.sum_cons, List.sum_nil, List.cons_append, List.nil_append, List.getD_cons_zero, List.getD_cons_succ]
    omega
