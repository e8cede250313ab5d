theorem lwP_gen2 {S : List Nat} {h : List nC} {qx qm ql qb qt : Nat} {zc zm zc2 zm2 : Int} {h1 : List nC} {mf : List (Nat × Nat)} {ma : List Nat} (I : lwP S qx qm ql qb qt zc zm h) (tx : S[qx]? = some 8) (tm : S[qm]? = some 9) (tl : S[ql]? = some 2) (J1 : nJJ S h1) (T1 : tOk nFT nAT S h1) (F : nFr mf ma S h h1) (n2 : (9, 1002) ∉ mf) (n3 : (9, 1003) ∉ mf) (n4 : (9, 1004) ∉ mf) (n5 : (8, 3) ∉ mf) (n6 : (2, 0) ∉ mf) (n7 : (8, 0) ∉ mf) (ht : ∃ ft, h1[qt]? = some (.inr (7, ft)) ∧ ft[5]? = some (.int (Int32.ofInt zc2))) (hm : ∃ fm, h1[qm]? = some (.inr (9, fm)) ∧ fm[2]? = some (.int (Int32.ofInt zm2))) : lwP S qx qm ql qb qt zc2 zm2 h1 := by
  obtain ⟨I0, ⟨fx, hx, b⟩, -, -⟩ := I
  obtain ⟨fx1, hx1, ex⟩ := (F qx 8 tx).1 ⟨8, rfl⟩ 8 fx hx
  exact ⟨lwI_fr I0 tx tm tl J1 T1 F n2 n3 n4 n5 n6, ⟨fx1, hx1, (nFd_lo (by decide)).symm.trans ((ex 0 n7).trans ((nFd_lo (by decide)).trans b))⟩, ht, hm⟩
section CLS
variable {X : nX} {L : Nat} {xs : Nat → Int32} {g d : Nat} {S : List Nat} {h : List nC} {qx qm ql qb qt : Nat} {z zc : Int}
def eC (u : Int32) (z : Int) : Prop := 0 ≤ u.toInt ∧ u.toInt ≤ z
theorem i32b (u : Int32) : -2147483648 ≤ u.toInt ∧ u.toInt ≤ 2147483647 := ⟨Int32.le_toInt u, by have := Int32.toInt_lt u; omega⟩
theorem slip_end (hd : 1 ≤ d) (I : lwP S qx qm ql qb qt z z h) (tx : S[qx]? = some 8) (tm : S[qm]? = some 9) (tl : S[ql]? = some 2) (tt : S[qt]? = some 7) (z0 : 0 ≤ z) (z1 : z ≤ 940) (u : Int32) : nT nj_M X L xs g d nm_20 (fun rv h1 => ((eC u z → rv = some (.int (Int32.ofInt 1)) ∧ lwP S qx qm ql qb qt u.toInt z h1) ∧ (¬ eC u z → rv = some (.int (Int32.ofInt 0)) ∧ lwP S qx qm ql qb qt z z h1))) 0 (lv_args 0 [.ref qx, .int u]) [] h := by
  have b := i32b u
  obtain ⟨-, ⟨fx, hx, fx0⟩, ⟨ft, ht, ft5⟩, fm, hm, fm2⟩ := id I
  rcases (by omega : u.toInt < 0 ∨ (0 ≤ u.toInt ∧ z < u.toInt) ∨ (0 ≤ u.toInt ∧ u.toInt ≤ z)) with c | c | c
  · have hpre : aOk S h [u.toInt, z] [qx, qt] nk_371.2.2.1 := ⟨aE2 (r0 := (-2147483648, -1)) (r1 := (0, 940)) ⟨by omega, by omega⟩ ⟨z0, z1⟩, tau_2 tx tt, List.forall_mem_cons.mpr ⟨(fc_ref (k := 1) rfl hx (by decide) fx0 rfl), List.forall_mem_cons.mpr ⟨(fc_int (k := 1) rfl ht (by decide) ft5 rfl), (fun _ hx => nomatch hx)⟩⟩, (fun e he => nomatch he), (fun e he => nomatch he)⟩
    refine nT.mono ?_ (vk_371 d (by show 0 ≤ d; omega) nm_20 rfl h [u.toInt, z] [qx, qt] [.ref qx, .int u] I.1.1 I.1.2.1 hpre ⟨⟨_, rfl, rfl⟩, ⟨u.toInt, rfl, by rw [Int.add_zero, Int32.ofInt_toInt]⟩, trivial⟩)
    rintro rv h1 ⟨J1, T1, F1, po, hpo, nu1, mu1, X1, ok1, res1⟩
    have hpo2 := List.mem_singleton.mp (show po ∈ [_] from hpo)
    subst hpo2
    obtain ⟨fn, hn, -⟩ := T1.obj tt (show oT 7 = some 7 from rfl)
    obtain ⟨y, hy, ey⟩ := fld_s ok1 (show (1, 5, (.inr (.inl (1, 0)) : aV)) ∈ _ from List.mem_cons_self) (X1.mu (show [qx, qt][1]? = some qt from rfl)) (by decide) hn
    cases hy.symm.trans (X1.nu (show [u.toInt, z][1]? = some _ from rfl))
    exact ⟨fun n => absurd n (by unfold eC; omega), fun _ => ⟨res_c res1, lwP_gen2 I tx tm tl J1 T1 F1 (by decide) (by decide) (by decide) (by decide) (by decide) (by decide) (⟨fn, hn, ey⟩) (lwP_mod I tm F1 (by decide))⟩⟩
  · have hpre : aOk S h [u.toInt, z] [qx, qt] nk_373.2.2.1 := ⟨aE2 (r0 := (0, 2147483647)) (r1 := (0, 940)) ⟨by omega, by omega⟩ ⟨z0, z1⟩, tau_2 tx tt, List.forall_mem_cons.mpr ⟨(fc_ref (k := 1) rfl hx (by decide) fx0 rfl), List.forall_mem_cons.mpr ⟨(fc_int (k := 1) rfl ht (by decide) ft5 rfl), (fun _ hx => nomatch hx)⟩⟩, (fun e he => nomatch he), (List.forall_mem_cons.mpr ⟨⟨fun t ht => by simp only [List.mem_cons, List.not_mem_nil, or_false] at ht; rcases ht with rfl | rfl <;> simp, by simp only [lS, List.map_cons, List.map_nil, List.sum_cons, List.sum_nil, List.getD_cons_zero, List.getD_cons_succ]; omega⟩, (fun _ hx => nomatch hx)⟩)⟩
    refine nT.mono ?_ (vk_373 d (by show 0 ≤ d; omega) nm_20 rfl h [u.toInt, z] [qx, qt] [.ref qx, .int u] I.1.1 I.1.2.1 hpre ⟨⟨_, rfl, rfl⟩, ⟨u.toInt, rfl, by rw [Int.add_zero, Int32.ofInt_toInt]⟩, trivial⟩)
    rintro rv h1 ⟨J1, T1, F1, po, hpo, nu1, mu1, X1, ok1, res1⟩
    have hpo2 := List.mem_singleton.mp (show po ∈ [_] from hpo)
    subst hpo2
    obtain ⟨fn, hn, -⟩ := T1.obj tt (show oT 7 = some 7 from rfl)
    obtain ⟨y, hy, ey⟩ := fld_s ok1 (show (1, 5, (.inr (.inl (1, 0)) : aV)) ∈ _ from List.mem_cons_self) (X1.mu (show [qx, qt][1]? = some qt from rfl)) (by decide) hn
    cases hy.symm.trans (X1.nu (show [u.toInt, z][1]? = some _ from rfl))
    exact ⟨fun n => absurd n (by unfold eC; omega), fun _ => ⟨res_c res1, lwP_gen2 I tx tm tl J1 T1 F1 (by decide) (by decide) (by decide) (by decide) (by decide) (by decide) (⟨fn, hn, ey⟩) (lwP_mod I tm F1 (by decide))⟩⟩
  · have hpre : aOk S h [u.toInt, z] [qx, qt] nk_375.2.2.1 := ⟨aE2 (r0 := (0, 940)) (r1 := (0, 940)) ⟨by omega, by omega⟩ ⟨z0, z1⟩, tau_2 tx tt, List.forall_mem_cons.mpr ⟨(fc_ref (k := 1) rfl hx (by decide) fx0 rfl), List.forall_mem_cons.mpr ⟨(fc_int (k := 1) rfl ht (by decide) ft5 rfl), (fun _ hx => nomatch hx)⟩⟩, (fun e he => nomatch he), (List.forall_mem_cons.mpr ⟨⟨fun t ht => by simp only [List.mem_cons, List.not_mem_nil, or_false] at ht; rcases ht with rfl | rfl <;> simp, by simp only [lS, List.map_cons, List.map_nil, List.sum_cons, List.sum_nil, List.getD_cons_zero, List.getD_cons_succ]; omega⟩, (fun _ hx => nomatch hx)⟩)⟩
    refine nT.mono ?_ (vk_375 d (by show 0 ≤ d; omega) nm_20 rfl h [u.toInt, z] [qx, qt] [.ref qx, .int u] I.1.1 I.1.2.1 hpre ⟨⟨_, rfl, rfl⟩, ⟨u.toInt, rfl, by rw [Int.add_zero, Int32.ofInt_toInt]⟩, trivial⟩)
    rintro rv h1 ⟨J1, T1, F1, po, hpo, nu1, mu1, X1, ok1, res1⟩
    have hpo2 := List.mem_singleton.mp (show po ∈ [_] from hpo)
    subst hpo2
    obtain ⟨fn, hn, -⟩ := T1.obj tt (show oT 7 = some 7 from rfl)
    obtain ⟨y, hy, ey⟩ := fld_s ok1 (show (1, 5, (.inr (.inl (0, 0)) : aV)) ∈ _ from List.mem_cons_self) (X1.mu (show [qx, qt][1]? = some qt from rfl)) (by decide) hn
    cases hy.symm.trans (X1.nu (show [u.toInt, z][0]? = some _ from rfl))
    exact ⟨fun _ => ⟨res_c res1, lwP_gen2 I tx tm tl J1 T1 F1 (by decide) (by decide) (by decide) (by decide) (by decide) (by decide) (⟨fn, hn, ey⟩) (lwP_mod I tm F1 (by decide))⟩, fun n => absurd c n⟩
theorem model_end (hd : 1 ≤ d) (I : lwP S qx qm ql qb qt zc z h) (tx : S[qx]? = some 8) (tm : S[qm]? = some 9) (tl : S[ql]? = some 2) (tt : S[qt]? = some 7) (z0 : 0 ≤ z) (z1 : z ≤ 940) (u : Int32) : nT nj_M X L xs g d nm_158 (fun rv h1 => ((eC u z → rv = some (.int (Int32.ofInt 1)) ∧ lwP S qx qm ql qb qt zc u.toInt h1) ∧ (¬ eC u z → rv = some (.int (Int32.ofInt 0)) ∧ lwP S qx qm ql qb qt zc z h1))) 0 (lv_args 0 [.ref qm, .int u]) [] h := by
  have b := i32b u
  obtain ⟨-, ⟨fx, hx, fx0⟩, ⟨ft, ht, ft5⟩, fm, hm, fm2⟩ := id I
  rcases (by omega : u.toInt < 0 ∨ (0 ≤ u.toInt ∧ z < u.toInt) ∨ (0 ≤ u.toInt ∧ u.toInt ≤ z)) with c | c | c
  · have hpre : aOk S h [u.toInt, z] [qm] nk_372.2.2.1 := ⟨aE2 (r0 := (-2147483648, -1)) (r1 := (0, 940)) ⟨by omega, by omega⟩ ⟨z0, z1⟩, tau_1 tm, List.forall_mem_cons.mpr ⟨(fc_int (k := 1) rfl hm (by decide) fm2 rfl), (fun _ hx => nomatch hx)⟩, (fun e he => nomatch he), (fun e he => nomatch he)⟩
    refine nT.mono ?_ (vk_372 d (by show 0 ≤ d; omega) nm_158 rfl h [u.toInt, z] [qm] [.ref qm, .int u] I.1.1 I.1.2.1 hpre ⟨⟨_, rfl, rfl⟩, ⟨u.toInt, rfl, by rw [Int.add_zero, Int32.ofInt_toInt]⟩, trivial⟩)
    rintro rv h1 ⟨J1, T1, F1, po, hpo, nu1, mu1, X1, ok1, res1⟩
    have hpo2 := List.mem_singleton.mp (show po ∈ [_] from hpo)
    subst hpo2
    obtain ⟨fn, hn, -⟩ := T1.obj tm (show oT 9 = some 9 from rfl)
    obtain ⟨y, hy, ey⟩ := fld_s ok1 (show (0, 2, (.inr (.inl (1, 0)) : aV)) ∈ _ from List.mem_cons_self) (X1.mu (show [qm][0]? = some qm from rfl)) (by decide) hn
    cases hy.symm.trans (X1.nu (show [u.toInt, z][1]? = some _ from rfl))
    exact ⟨fun n => absurd n (by unfold eC; omega), fun _ => ⟨res_c res1, lwP_gen2 I tx tm tl J1 T1 F1 (by decide) (by decide) (by decide) (by decide) (by decide) (by decide) (lwP_txt I tt F1 (by decide)) (⟨fn, hn, ey⟩)⟩⟩
  · have hpre : aOk S h [u.toInt, z] [qm] nk_374.2.2.1 := ⟨aE2 (r0 := (0, 2147483647)) (r1 := (0, 940)) ⟨by omega, by omega⟩ ⟨z0, z1⟩, tau_1 tm, List.forall_mem_cons.mpr ⟨(fc_int (k := 1) rfl hm (by decide) fm2 rfl), (fun _ hx => nomatch hx)⟩, (fun e he => nomatch he), (List.forall_mem_cons.mpr ⟨⟨fun t ht => by simp only [List.mem_cons, List.not_mem_nil, or_false] at ht; rcases ht with rfl | rfl <;> simp, by simp only [lS, List.map_cons, List.map_nil, List.sum_cons, List.sum_nil, List.getD_cons_zero, List.getD_cons_succ]; omega⟩, (fun _ hx => nomatch hx)⟩)⟩
    refine nT.mono ?_ (vk_374 d (by show 0 ≤ d; omega) nm_158 rfl h [u.toInt, z] [qm] [.ref qm, .int u] I.1.1 I.1.2.1 hpre ⟨⟨_, rfl, rfl⟩, ⟨u.toInt, rfl, by rw [Int.add_zero, Int32.ofInt_toInt]⟩, trivial⟩)
    rintro rv h1 ⟨J1, T1, F1, po, hpo, nu1, mu1, X1, ok1, res1⟩
    have hpo2 := List.mem_singleton.mp (show po ∈ [_] from hpo)
    subst hpo2
    obtain ⟨fn, hn, -⟩ := T1.obj tm (show oT 9 = some 9 from rfl)
    obtain ⟨y, hy, ey⟩ := fld_s ok1 (show (0, 2, (.inr (.inl (1, 0)) : aV)) ∈ _ from List.mem_cons_self) (X1.mu (show [qm][0]? = some qm from rfl)) (by decide) hn
    cases hy.symm.trans (X1.nu (show [u.toInt, z][1]? = some _ from rfl))
    exact ⟨fun n => absurd n (by unfold eC; omega), fun _ => ⟨res_c res1, lwP_gen2 I tx tm tl J1 T1 F1 (by decide) (by decide) (by decide) (by decide) (by decide) (by decide) (lwP_txt I tt F1 (by decide)) (⟨fn, hn, ey⟩)⟩⟩
  · have hpre : aOk S h [u.toInt, z] [qm] nk_376.2.2.1 := ⟨aE2 (r0 := (0, 940)) (r1 := (0, 940)) ⟨by omega, by omega⟩ ⟨z0, z1⟩, tau_1 tm, List.forall_mem_cons.mpr ⟨(fc_int (k := 1) rfl hm (by decide) fm2 rfl), (fun _ hx => nomatch hx)⟩, (fun e he => nomatch he), (List.forall_mem_cons.mpr ⟨⟨fun t ht => by simp only [List.mem_cons, List.not_mem_nil, or_false] at ht; rcases ht with rfl | rfl <;> simp, by simp only [lS, List.map_cons, List.map_nil, List.sum_cons, List.sum_nil, List.getD_cons_zero, List.getD_cons_succ]; omega⟩, (fun _ hx => nomatch hx)⟩)⟩
    refine nT.mono ?_ (vk_376 d (by show 0 ≤ d; omega) nm_158 rfl h [u.toInt, z] [qm] [.ref qm, .int u] I.1.1 I.1.2.1 hpre ⟨⟨_, rfl, rfl⟩, ⟨u.toInt, rfl, by rw [Int.add_zero, Int32.ofInt_toInt]⟩, trivial⟩)
    rintro rv h1 ⟨J1, T1, F1, po, hpo, nu1, mu1, X1, ok1, res1⟩
    have hpo2 := List.mem_singleton.mp (show po ∈ [_] from hpo)
    subst hpo2
    obtain ⟨fn, hn, -⟩ := T1.obj tm (show oT 9 = some 9 from rfl)
    obtain ⟨y, hy, ey⟩ := fld_s ok1 (show (0, 2, (.inr (.inl (0, 0)) : aV)) ∈ _ from List.mem_cons_self) (X1.mu (show [qm][0]? = some qm from rfl)) (by decide) hn
    cases hy.symm.trans (X1.nu (show [u.toInt, z][0]? = some _ from rfl))
    exact ⟨fun _ => ⟨res_c res1, lwP_gen2 I tx tm tl J1 T1 F1 (by decide) (by decide) (by decide) (by decide) (by decide) (by decide) (lwP_txt I tt F1 (by decide)) (⟨fn, hn, ey⟩)⟩, fun n => absurd c n⟩
theorem slip_feed (hd : 1 ≤ d) (I : lwP S qx qm ql qb qt z z h) (tx : S[qx]? = some 8) (tm : S[qm]? = some 9) (tl : S[ql]? = some 2) (tt : S[qt]? = some 7) (z0 : 0 ≤ z) (z1 : z ≤ 940) (a0 a1 a2 a3 a4 : Int32) : nT nj_M X L xs g d nm_18 (fun rv h1 => ((z ≤ 920 → rv = some (.int (Int32.ofInt (z + 20))) ∧ lwP S qx qm ql qb qt (z + 20) z h1) ∧ (¬ z ≤ 920 → rv = some (.int (Int32.ofInt (-1))) ∧ lwP S qx qm ql qb qt z z h1))) 0 (lv_args 0 [.ref qx, .int a0, .int a1, .int a2, .int a3, .int a4]) [] h := by
  obtain ⟨-, ⟨fx, hx, fx0⟩, ⟨ft, ht, ft5⟩, fm, hm, fm2⟩ := id I
  rcases (by omega : z ≤ 920 ∨ 920 < z) with c | c
  · have hpre : aOk S h [a0.toInt, a1.toInt, a2.toInt, a3.toInt, a4.toInt, z] [qx, qt] nk_379.2.2.1 := ⟨aE_push (aE_push (aE_push (aE_push (aE2 (r0 := (-2147483648, 2147483647)) (r1 := (-2147483648, 2147483647)) (i32b a0) (i32b a1)) (r := (-2147483648, 2147483647)) (i32b a2)) (r := (-2147483648, 2147483647)) (i32b a3)) (r := (-2147483648, 2147483647)) (i32b a4)) (r := (0, 920)) ⟨by omega, by omega⟩, tau_2 tx tt, List.forall_mem_cons.mpr ⟨(fc_ref (k := 1) rfl hx (by decide) fx0 rfl), List.forall_mem_cons.mpr ⟨(fc_int (k := 5) rfl ht (by decide) ft5 rfl), (fun _ hx => nomatch hx)⟩⟩, (fun e he => nomatch he), (fun e he => nomatch he)⟩
    refine nT.mono ?_ (vk_379 d (by show 1 ≤ d; omega) nm_18 rfl h [a0.toInt, a1.toInt, a2.toInt, a3.toInt, a4.toInt, z] [qx, qt] [.ref qx, .int a0, .int a1, .int a2, .int a3, .int a4] I.1.1 I.1.2.1 hpre ⟨⟨_, rfl, rfl⟩, ⟨a0.toInt, rfl, by rw [Int.add_zero, Int32.ofInt_toInt]⟩, ⟨a1.toInt, rfl, by rw [Int.add_zero, Int32.ofInt_toInt]⟩, ⟨a2.toInt, rfl, by rw [Int.add_zero, Int32.ofInt_toInt]⟩, ⟨a3.toInt, rfl, by rw [Int.add_zero, Int32.ofInt_toInt]⟩, ⟨a4.toInt, rfl, by rw [Int.add_zero, Int32.ofInt_toInt]⟩, trivial⟩)
    rintro rv h1 ⟨J1, T1, F1, po, hpo, nu1, mu1, X1, ok1, res1⟩
    have hpo2 := List.mem_singleton.mp (show po ∈ [_] from hpo)
    subst hpo2
    obtain ⟨fn, hn, -⟩ := T1.obj tt (show oT 7 = some 7 from rfl)
    obtain ⟨y, hy, ey⟩ := fld_s ok1 (show (1, 5, (.inr (.inl (6, 0)) : aV)) ∈ _ from List.mem_cons_self) (X1.mu (show [qx, qt][1]? = some qt from rfl)) (by decide) hn
    obtain ⟨y2, hy2, er⟩ := res_n res1
    cases hy2.symm.trans hy
    have hz5 := X1.nu (show [a0.toInt, a1.toInt, a2.toInt, a3.toInt, a4.toInt, z][5]? = some z from rfl)
    have d1 := (ok1.2.2.2.2 _ (show (.inl ([(1, 6), (-1, 5)], -20) : aDf) ∈ _ from List.mem_cons_self)).2
    have d2 := (ok1.2.2.2.2 _ (show (.inl ([(-1, 6), (1, 5)], 20) : aDf) ∈ _ from List.mem_cons_of_mem _ List.mem_cons_self)).2
    simp only [lS, List.map_cons, List.map_nil, List.sum_cons, List.sum_nil, List.getD_eq_getElem?_getD, hy, hz5, Option.getD_some] at d1 d2
    have ey3 : y = z + 20 := by omega
    subst ey3
    exact ⟨fun _ => ⟨er, lwP_gen2 I tx tm tl J1 T1 F1 (by decide) (by decide) (by decide) (by decide) (by decide) (by decide) (⟨fn, hn, ey⟩) (lwP_mod I tm F1 (by decide))⟩, fun n => absurd c n⟩
  · have hpre : aOk S h [a0.toInt, a1.toInt, a2.toInt, a3.toInt, a4.toInt, z] [qx, qt] nk_377.2.2.1 := ⟨aE_push (aE_push (aE_push (aE_push (aE2 (r0 := (-2147483648, 2147483647)) (r1 := (-2147483648, 2147483647)) (i32b a0) (i32b a1)) (r := (-2147483648, 2147483647)) (i32b a2)) (r := (-2147483648, 2147483647)) (i32b a3)) (r := (-2147483648, 2147483647)) (i32b a4)) (r := (921, 940)) ⟨by omega, by omega⟩, tau_2 tx tt, List.forall_mem_cons.mpr ⟨(fc_ref (k := 1) rfl hx (by decide) fx0 rfl), List.forall_mem_cons.mpr ⟨(fc_int (k := 5) rfl ht (by decide) ft5 rfl), (fun _ hx => nomatch hx)⟩⟩, (fun e he => nomatch he), (fun e he => nomatch he)⟩
    refine nT.mono ?_ (vk_377 d (by show 0 ≤ d; omega) nm_18 rfl h [a0.toInt, a1.toInt, a2.toInt, a3.toInt, a4.toInt, z] [qx, qt] [.ref qx, .int a0, .int a1, .int a2, .int a3, .int a4] I.1.1 I.1.2.1 hpre ⟨⟨_, rfl, rfl⟩, ⟨a0.toInt, rfl, by rw [Int.add_zero, Int32.ofInt_toInt]⟩, ⟨a1.toInt, rfl, by rw [Int.add_zero, Int32.ofInt_toInt]⟩, ⟨a2.toInt, rfl, by rw [Int.add_zero, Int32.ofInt_toInt]⟩, ⟨a3.toInt, rfl, by rw [Int.add_zero, Int32.ofInt_toInt]⟩, ⟨a4.toInt, rfl, by rw [Int.add_zero, Int32.ofInt_toInt]⟩, trivial⟩)
    rintro rv h1 ⟨J1, T1, F1, po, hpo, nu1, mu1, X1, ok1, res1⟩
    have hpo2 := List.mem_singleton.mp (show po ∈ [_] from hpo)
    subst hpo2
    obtain ⟨fn, hn, -⟩ := T1.obj tt (show oT 7 = some 7 from rfl)
    obtain ⟨y, hy, ey⟩ := fld_s ok1 (show (1, 5, (.inr (.inl (5, 0)) : aV)) ∈ _ from List.mem_cons_self) (X1.mu (show [qx, qt][1]? = some qt from rfl)) (by decide) hn
    cases hy.symm.trans (X1.nu (show [a0.toInt, a1.toInt, a2.toInt, a3.toInt, a4.toInt, z][5]? = some z from rfl))
    exact ⟨fun n => absurd n (by omega), fun _ => ⟨res_c res1, lwP_gen2 I tx tm tl J1 T1 F1 (by decide) (by decide) (by decide) (by decide) (by decide) (by decide) (⟨fn, hn, ey⟩) (lwP_mod I tm F1 (by decide))⟩⟩
theorem model_feed (hd : 1 ≤ d) (I : lwP S qx qm ql qb qt zc z h) (tx : S[qx]? = some 8) (tm : S[qm]? = some 9) (tl : S[ql]? = some 2) (tt : S[qt]? = some 7) (z0 : 0 ≤ z) (z1 : z ≤ 940) (a0 a1 a2 a3 a4 : Int32) : nT nj_M X L xs g d nm_156 (fun rv h1 => ((z ≤ 920 → rv = some (.int (Int32.ofInt (z + 20))) ∧ lwP S qx qm ql qb qt zc (z + 20) h1) ∧ (¬ z ≤ 920 → rv = some (.int (Int32.ofInt (-1))) ∧ lwP S qx qm ql qb qt zc z h1))) 0 (lv_args 0 [.ref qm, .int a0, .int a1, .int a2, .int a3, .int a4]) [] h := by
  obtain ⟨-, ⟨fx, hx, fx0⟩, ⟨ft, ht, ft5⟩, fm, hm, fm2⟩ := id I
  rcases (by omega : z ≤ 920 ∨ 920 < z) with c | c
  · have hpre : aOk S h [a0.toInt, a1.toInt, a2.toInt, a3.toInt, a4.toInt, z] [qm] nk_380.2.2.1 := ⟨aE_push (aE_push (aE_push (aE_push (aE2 (r0 := (-2147483648, 2147483647)) (r1 := (-2147483648, 2147483647)) (i32b a0) (i32b a1)) (r := (-2147483648, 2147483647)) (i32b a2)) (r := (-2147483648, 2147483647)) (i32b a3)) (r := (-2147483648, 2147483647)) (i32b a4)) (r := (0, 920)) ⟨by omega, by omega⟩, tau_1 tm, List.forall_mem_cons.mpr ⟨(fc_int (k := 5) rfl hm (by decide) fm2 rfl), (fun _ hx => nomatch hx)⟩, (fun e he => nomatch he), (fun e he => nomatch he)⟩
    refine nT.mono ?_ (vk_380 d (by show 1 ≤ d; omega) nm_156 rfl h [a0.toInt, a1.toInt, a2.toInt, a3.toInt, a4.toInt, z] [qm] [.ref qm, .int a0, .int a1, .int a2, .int a3, .int a4] I.1.1 I.1.2.1 hpre ⟨⟨_, rfl, rfl⟩, ⟨a0.toInt, rfl, by rw [Int.add_zero, Int32.ofInt_toInt]⟩, ⟨a1.toInt, rfl, by rw [Int.add_zero, Int32.ofInt_toInt]⟩, ⟨a2.toInt, rfl, by rw [Int.add_zero, Int32.ofInt_toInt]⟩, ⟨a3.toInt, rfl, by rw [Int.add_zero, Int32.ofInt_toInt]⟩, ⟨a4.toInt, rfl, by rw [Int.add_zero, Int32.ofInt_toInt]⟩, trivial⟩)
    rintro rv h1 ⟨J1, T1, F1, po, hpo, nu1, mu1, X1, ok1, res1⟩
    have hpo2 := List.mem_singleton.mp (show po ∈ [_] from hpo)
    subst hpo2
    obtain ⟨fn, hn, -⟩ := T1.obj tm (show oT 9 = some 9 from rfl)
    obtain ⟨y, hy, ey⟩ := fld_s ok1 (show (0, 2, (.inr (.inl (6, 0)) : aV)) ∈ _ from List.mem_cons_self) (X1.mu (show [qm][0]? = some qm from rfl)) (by decide) hn
    obtain ⟨y2, hy2, er⟩ := res_n res1
    cases hy2.symm.trans hy
    have hz5 := X1.nu (show [a0.toInt, a1.toInt, a2.toInt, a3.toInt, a4.toInt, z][5]? = some z from rfl)
    have d1 := (ok1.2.2.2.2 _ (show (.inl ([(1, 6), (-1, 5)], -20) : aDf) ∈ _ from List.mem_cons_self)).2
    have d2 := (ok1.2.2.2.2 _ (show (.inl ([(-1, 6), (1, 5)], 20) : aDf) ∈ _ from List.mem_cons_of_mem _ List.mem_cons_self)).2
    simp only [lS, List.map_cons, List.map_nil, List.sum_cons, List.sum_nil, List.getD_eq_getElem?_getD, hy, hz5, Option.getD_some] at d1 d2
    have ey3 : y = z + 20 := by omega
    subst ey3
    exact ⟨fun _ => ⟨er, lwP_gen2 I tx tm tl J1 T1 F1 (by decide) (by decide) (by decide) (by decide) (by decide) (by decide) (lwP_txt I tt F1 (by decide)) (⟨fn, hn, ey⟩)⟩, fun n => absurd c n⟩
  · have hpre : aOk S h [a0.toInt, a1.toInt, a2.toInt, a3.toInt, a4.toInt, z] [qm] nk_378.2.2.1 := ⟨aE_push (aE_push (aE_push (aE_push (aE2 (r0 := (-2147483648, 2147483647)) (r1 := (-2147483648, 2147483647)) (i32b a0) (i32b a1)) (r := (-2147483648, 2147483647)) (i32b a2)) (r := (-2147483648, 2147483647)) (i32b a3)) (r := (-2147483648, 2147483647)) (i32b a4)) (r := (921, 940)) ⟨by omega, by omega⟩, tau_1 tm, List.forall_mem_cons.mpr ⟨(fc_int (k := 5) rfl hm (by decide) fm2 rfl), (fun _ hx => nomatch hx)⟩, (fun e he => nomatch he), (fun e he => nomatch he)⟩
    refine nT.mono ?_ (vk_378 d (by show 0 ≤ d; omega) nm_156 rfl h [a0.toInt, a1.toInt, a2.toInt, a3.toInt, a4.toInt, z] [qm] [.ref qm, .int a0, .int a1, .int a2, .int a3, .int a4] I.1.1 I.1.2.1 hpre ⟨⟨_, rfl, rfl⟩, ⟨a0.toInt, rfl, by rw [Int.add_zero, Int32.ofInt_toInt]⟩, ⟨a1.toInt, rfl, by rw [Int.add_zero, Int32.ofInt_toInt]⟩, ⟨a2.toInt, rfl, by rw [Int.add_zero, Int32.ofInt_toInt]⟩, ⟨a3.toInt, rfl, by rw [Int.add_zero, Int32.ofInt_toInt]⟩, ⟨a4.toInt, rfl, by rw [Int.add_zero, Int32.ofInt_toInt]⟩, trivial⟩)
    rintro rv h1 ⟨J1, T1, F1, po, hpo, nu1, mu1, X1, ok1, res1⟩
    have hpo2 := List.mem_singleton.mp (show po ∈ [_] from hpo)
    subst hpo2
    obtain ⟨fn, hn, -⟩ := T1.obj tm (show oT 9 = some 9 from rfl)
    obtain ⟨y, hy, ey⟩ := fld_s ok1 (show (0, 2, (.inr (.inl (5, 0)) : aV)) ∈ _ from List.mem_cons_self) (X1.mu (show [qm][0]? = some qm from rfl)) (by decide) hn
    cases hy.symm.trans (X1.nu (show [a0.toInt, a1.toInt, a2.toInt, a3.toInt, a4.toInt, z][5]? = some z from rfl))
    exact ⟨fun n => absurd n (by omega), fun _ => ⟨res_c res1, lwP_gen2 I tx tm tl J1 T1 F1 (by decide) (by decide) (by decide) (by decide) (by decide) (by decide) (lwP_txt I tt F1 (by decide)) (⟨fn, hn, ey⟩)⟩⟩
def cC (u : Int32) : Prop := 0 ≤ u.toInt ∧ u.toInt ≤ 1
theorem slip_chron (hd : 8 ≤ d) (I : lwP S qx qm ql qb qt z z h) (tx : S[qx]? = some 8) (tm : S[qm]? = some 9) (tl : S[ql]? = some 2) (tt : S[qt]? = some 7) (z0 : 0 ≤ z) (z1 : z ≤ 940) (u : Int32) : nT nj_M X L xs g d nm_125 (fun rv h1 => (∃ y : Int32, rv = some (.int y)) ∧ ((cC u → lwP S qx qm ql qb qt 0 z h1) ∧ (¬ cC u → lwP S qx qm ql qb qt z z h1))) 0 (lv_args 0 [.ref qx, .int u]) [] h := by
  have b := i32b u
  obtain ⟨-, ⟨fx, hx, fx0⟩, ⟨ft, ht, ft5⟩, fm, hm, fm2⟩ := id I
  rcases (by omega : u.toInt < 0 ∨ 1 < u.toInt ∨ (0 ≤ u.toInt ∧ u.toInt ≤ 1)) with c | c | c
  · have hpre : aOk S h [u.toInt] [qx] nk_362.2.2.1 := ⟨aE1 (r0 := (-2147483648, -1)) ⟨by omega, by omega⟩, tau_1 tx, (fun e he => nomatch he), (fun e he => nomatch he), (fun e he => nomatch he)⟩
    refine nT.mono ?_ (vk_362 d (by show 0 ≤ d; omega) nm_125 rfl h [u.toInt] [qx] [.ref qx, .int u] I.1.1 I.1.2.1 hpre ⟨⟨_, rfl, rfl⟩, ⟨u.toInt, rfl, by rw [Int.add_zero, Int32.ofInt_toInt]⟩, trivial⟩)
    rintro rv h1 ⟨J1, T1, F1, po, hpo, nu1, mu1, X1, ok1, res1⟩
    have hpo2 := List.mem_singleton.mp (show po ∈ [_] from hpo)
    subst hpo2
    obtain ⟨y, -, er⟩ := res_n res1
    exact ⟨⟨_, er⟩, fun n => absurd n (by unfold cC; omega), fun _ => lwP_gen2 I tx tm tl J1 T1 F1 (by decide) (by decide) (by decide) (by decide) (by decide) (by decide) (lwP_txt I tt F1 (by decide)) (lwP_mod I tm F1 (by decide))⟩
  · have hpre : aOk S h [u.toInt] [qx] nk_363.2.2.1 := ⟨aE1 (r0 := (2, 2147483647)) ⟨by omega, by omega⟩, tau_1 tx, (fun e he => nomatch he), (fun e he => nomatch he), (fun e he => nomatch he)⟩
    refine nT.mono ?_ (vk_363 d (by show 0 ≤ d; omega) nm_125 rfl h [u.toInt] [qx] [.ref qx, .int u] I.1.1 I.1.2.1 hpre ⟨⟨_, rfl, rfl⟩, ⟨u.toInt, rfl, by rw [Int.add_zero, Int32.ofInt_toInt]⟩, trivial⟩)
    rintro rv h1 ⟨J1, T1, F1, po, hpo, nu1, mu1, X1, ok1, res1⟩
    have hpo2 := List.mem_singleton.mp (show po ∈ [_] from hpo)
    subst hpo2
    obtain ⟨y, -, er⟩ := res_n res1
    exact ⟨⟨_, er⟩, fun n => absurd n (by unfold cC; omega), fun _ => lwP_gen2 I tx tm tl J1 T1 F1 (by decide) (by decide) (by decide) (by decide) (by decide) (by decide) (lwP_txt I tt F1 (by decide)) (lwP_mod I tm F1 (by decide))⟩
  · have hpre : aOk S h [u.toInt] [qx, qt] nk_361.2.2.1 := ⟨aE1 (r0 := (0, 1)) ⟨by omega, by omega⟩, tau_2 tx tt, List.forall_mem_cons.mpr ⟨(fc_ref (k := 1) rfl hx (by decide) fx0 rfl), (fun _ hx => nomatch hx)⟩, (fun e he => nomatch he), (fun e he => nomatch he)⟩
    refine nT.mono ?_ (vk_361 d (by show 8 ≤ d; omega) nm_125 rfl h [u.toInt] [qx, qt] [.ref qx, .int u] I.1.1 I.1.2.1 hpre ⟨⟨_, rfl, rfl⟩, ⟨u.toInt, rfl, by rw [Int.add_zero, Int32.ofInt_toInt]⟩, trivial⟩)
    rintro rv h1 ⟨J1, T1, F1, po, hpo, nu1, mu1, X1, ok1, res1⟩
    have hpo2 := List.mem_singleton.mp (show po ∈ [_] from hpo)
    subst hpo2
    obtain ⟨y, -, er⟩ := res_n res1
    obtain ⟨fn, hn, -⟩ := T1.obj tt (show oT 7 = some 7 from rfl)
    have ey := fld_c ok1 (show (1, 5, (.inl 0 : aV)) ∈ _ from List.mem_cons_self) (X1.mu (show [qx, qt][1]? = some qt from rfl)) (by decide) hn
    exact ⟨⟨_, er⟩, fun _ => lwP_gen2 I tx tm tl J1 T1 F1 (by decide) (by decide) (by decide) (by decide) (by decide) (by decide) (⟨fn, hn, ey⟩) (lwP_mod I tm F1 (by decide)), fun n => absurd c n⟩
theorem model_chron (hd : 6 ≤ d) (I : lwP S qx qm ql qb qt zc z h) (tx : S[qx]? = some 8) (tm : S[qm]? = some 9) (tl : S[ql]? = some 2) (tt : S[qt]? = some 7) (z0 : 0 ≤ z) (z1 : z ≤ 940) (u : Int32) : nT nj_M X L xs g d nm_247 (fun rv h1 => (∃ y : Int32, rv = some (.int y)) ∧ ((cC u → lwP S qx qm ql qb qt zc 0 h1) ∧ (¬ cC u → lwP S qx qm ql qb qt zc z h1))) 0 (lv_args 0 [.ref qm, .int u]) [] h := by
  have b := i32b u
  obtain ⟨-, ⟨fx, hx, fx0⟩, ⟨ft, ht, ft5⟩, fm, hm, fm2⟩ := id I
  rcases (by omega : u.toInt < 0 ∨ 1 < u.toInt ∨ (0 ≤ u.toInt ∧ u.toInt ≤ 1)) with c | c | c
  · have hpre : aOk S h [u.toInt] [qm] nk_369.2.2.1 := ⟨aE1 (r0 := (-2147483648, -1)) ⟨by omega, by omega⟩, tau_1 tm, (fun e he => nomatch he), (fun e he => nomatch he), (fun e he => nomatch he)⟩
    refine nT.mono ?_ (vk_369 d (by show 1 ≤ d; omega) nm_247 rfl h [u.toInt] [qm] [.ref qm, .int u] I.1.1 I.1.2.1 hpre ⟨⟨_, rfl, rfl⟩, ⟨u.toInt, rfl, by rw [Int.add_zero, Int32.ofInt_toInt]⟩, trivial⟩)
    rintro rv h1 ⟨J1, T1, F1, po, hpo, nu1, mu1, X1, ok1, res1⟩
    have hpo2 := List.mem_singleton.mp (show po ∈ [_] from hpo)
    subst hpo2
    obtain ⟨y, -, er⟩ := res_n res1
    exact ⟨⟨_, er⟩, fun n => absurd n (by unfold cC; omega), fun _ => lwP_gen2 I tx tm tl J1 T1 F1 (by decide) (by decide) (by decide) (by decide) (by decide) (by decide) (lwP_txt I tt F1 (by decide)) (lwP_mod I tm F1 (by decide))⟩
  · have hpre : aOk S h [u.toInt] [qm] nk_370.2.2.1 := ⟨aE1 (r0 := (2, 2147483647)) ⟨by omega, by omega⟩, tau_1 tm, (fun e he => nomatch he), (fun e he => nomatch he), (fun e he => nomatch he)⟩
    refine nT.mono ?_ (vk_370 d (by show 1 ≤ d; omega) nm_247 rfl h [u.toInt] [qm] [.ref qm, .int u] I.1.1 I.1.2.1 hpre ⟨⟨_, rfl, rfl⟩, ⟨u.toInt, rfl, by rw [Int.add_zero, Int32.ofInt_toInt]⟩, trivial⟩)
    rintro rv h1 ⟨J1, T1, F1, po, hpo, nu1, mu1, X1, ok1, res1⟩
    have hpo2 := List.mem_singleton.mp (show po ∈ [_] from hpo)
    subst hpo2
    obtain ⟨y, -, er⟩ := res_n res1
    exact ⟨⟨_, er⟩, fun n => absurd n (by unfold cC; omega), fun _ => lwP_gen2 I tx tm tl J1 T1 F1 (by decide) (by decide) (by decide) (by decide) (by decide) (by decide) (lwP_txt I tt F1 (by decide)) (lwP_mod I tm F1 (by decide))⟩
  · have hpre : aOk S h [u.toInt] [qm] nk_368.2.2.1 := ⟨aE1 (r0 := (0, 1)) ⟨by omega, by omega⟩, tau_1 tm, (fun e he => nomatch he), (fun e he => nomatch he), (fun e he => nomatch he)⟩
    refine nT.mono ?_ (vk_368 d (by show 6 ≤ d; omega) nm_247 rfl h [u.toInt] [qm] [.ref qm, .int u] I.1.1 I.1.2.1 hpre ⟨⟨_, rfl, rfl⟩, ⟨u.toInt, rfl, by rw [Int.add_zero, Int32.ofInt_toInt]⟩, trivial⟩)
    rintro rv h1 ⟨J1, T1, F1, po, hpo, nu1, mu1, X1, ok1, res1⟩
    have hpo2 := List.mem_singleton.mp (show po ∈ [_] from hpo)
    subst hpo2
    obtain ⟨y, -, er⟩ := res_n res1
    obtain ⟨fn, hn, -⟩ := T1.obj tm (show oT 9 = some 9 from rfl)
    have ey := fld_c ok1 (show (0, 2, (.inl 0 : aV)) ∈ _ from List.mem_cons_self) (X1.mu (show [qm][0]? = some qm from rfl)) (by decide) hn
    exact ⟨⟨_, er⟩, fun _ => lwP_gen2 I tx tm tl J1 T1 F1 (by decide) (by decide) (by decide) (by decide) (by decide) (by decide) (lwP_txt I tt F1 (by decide)) (⟨fn, hn, ey⟩), fun n => absurd c n⟩
end CLS
