def nkL : nK := (265, 30, ([(0, 3066), (6, 3072), (0, 940)], [8, 9, 68, 2, 24, 7], [(1, 1002, .inl 1), (1, 1003, .inl 1), (1, 1004, .inl 1), (0, 3, .inr (.inr (.inl 3))), (3, 0, .inr (.inr (.inl 4))), (0, 0, .inr (.inr (.inl 5))), (5, 5, .inr (.inl (2, 0))), (1, 2, .inr (.inl (2, 0)))], [], [.inl ([(1, 0), ((-1), 1)], 6)]), [.inr (.inr (.inr (.inl 0))), .inr (.inr (.inl 0)), .inr (.inr (.inl 1)), .inr (.inr (.inl 2)), .inr (.inl (0, 0))], [(2, 5), (2, 6), (2, 7), (2, 8), (2, 9), (2, 10), (2, 11), (3, 1), (3, 2), (4, 4), (4, 5), (5, 4), (5, 5), (5, 6), (7, 5), (7, 6), (7, 7), (7, 8), (7, 9), (7, 10), (7, 11), (8, 14), (8, 15), (8, 16), (9, 0), (9, 2), (9, 3), (9, 4), (9, 5), (9, 11), (9, 12), (9, 13), (9, 14), (9, 15), (9, 16), (9, 17), (9, 18), (9, 24), (9, 27), (9, 28), (9, 29), (9, 30), (9, 33), (9, 34), (9, 39), (9, 40), (9, 41), (9, 42), (9, 43), (9, 1000), (9, 1001), (9, 1002), (9, 1005), (9, 1006), (9, 1007), (9, 1008), (9, 1009), (9, 1010), (9, 1011), (9, 1012), (9, 1020), (9, 1021), (9, 1022), (9, 1023), (9, 1024), (9, 1025), (9, 1026), (9, 1027), (9, 1028), (9, 1029), (9, 1030), (9, 1031), (9, 1032), (9, 1033), (9, 1034), (9, 1035), (9, 1036), (9, 1037), (9, 1038), (9, 1039), (9, 1040), (9, 1041), (9, 1042), (9, 1043), (9, 1044), (9, 1045), (9, 1046), (9, 1047), (9, 1048), (9, 1049), (9, 1050), (9, 1051), (9, 1052), (9, 1053), (9, 1054), (9, 1055), (9, 1056), (9, 1057), (9, 1058), (9, 1059), (9, 1060), (9, 1061), (9, 1062), (9, 1063), (9, 1064), (9, 1065), (1002, 5), (1002, 6), (1002, 7), (1002, 8), (1002, 9), (1002, 10), (1002, 11)], [24, 25, 26, 27, 28, 30, 31, 32, 33, 34, 35, 36, 37, 42, 43, 44, 47, 50, 52, 55, 56, 57, 58, 59, 60, 61, 63, 64, 69, 70, 71, 72, 73], [(([(0, 3066), (6, 3072), (0, 940), (0, 940)], [8, 9, 68, 2, 24, 7], [(1, 1002, .inl 1), (1, 1003, .inl 1), (1, 1004, .inl 1), (5, 5, .inr (.inl (3, 0))), (1, 2, .inr (.inl (3, 0)))], [], []), some (.inl 0)), (([(0, 3066), (6, 3072), (0, 940), (0, 940)], [8, 9, 68, 2, 24, 7], [(1, 1002, .inl 1), (1, 1003, .inl 1), (1, 1004, .inl 1), (5, 5, .inr (.inl (3, 0))), (1, 2, .inr (.inl (3, 0)))], [], []), some (.inl 1)), (([(0, 3066), (6, 3072), (0, 940), (0, 940)], [8, 9, 68, 2, 24, 7], [(1, 1002, .inl 1), (1, 1003, .inl 1), (1, 1004, .inl 1), (5, 5, .inr (.inl (3, 0))), (1, 2, .inr (.inl (3, 0)))], [], []), some (.inl 2)), (([(0, 3066), (6, 3072), (0, 940), (0, 940)], [8, 9, 68, 2, 24, 7], [(1, 1002, .inl 1), (1, 1003, .inl 1), (1, 1004, .inl 1), (5, 5, .inr (.inl (3, 0))), (1, 2, .inr (.inl (3, 0)))], [], []), some (.inl 3)), (([(0, 3066), (6, 3072), (0, 940), (0, 940)], [8, 9, 68, 2, 24, 7], [(1, 1002, .inl 1), (1, 1003, .inl 1), (1, 1004, .inl 1), (5, 5, .inr (.inl (3, 0))), (1, 2, .inr (.inl (3, 0)))], [], []), some (.inl 4)), (([(0, 3066), (6, 3072), (0, 940), (0, 940)], [8, 9, 68, 2, 24, 7], [(1, 1002, .inl 1), (1, 1003, .inl 1), (1, 1004, .inl 1), (5, 5, .inr (.inl (3, 0))), (1, 2, .inr (.inl (3, 0)))], [], []), some (.inl 5)), (([(0, 3066), (6, 3072), (0, 940), (0, 940)], [8, 9, 68, 2, 24, 7], [(1, 1002, .inl 1), (1, 1003, .inl 1), (1, 1004, .inl 1), (5, 5, .inr (.inl (3, 0))), (1, 2, .inr (.inl (3, 0)))], [], []), some (.inl 6)), (([(0, 3066), (6, 3072), (0, 940), (0, 940)], [8, 9, 68, 2, 24, 7], [(1, 1002, .inl 1), (1, 1003, .inl 1), (1, 1004, .inl 1), (5, 5, .inr (.inl (3, 0))), (1, 2, .inr (.inl (3, 0)))], [], []), some (.inl 7)), (([(0, 3066), (6, 3072), (0, 940), (0, 940)], [8, 9, 68, 2, 24, 7], [(1, 1002, .inl 1), (1, 1003, .inl 1), (1, 1004, .inl 1), (5, 5, .inr (.inl (3, 0))), (1, 2, .inr (.inl (3, 0)))], [], []), some (.inl 8)), (([(0, 3066), (6, 3072), (0, 940), (0, 940)], [8, 9, 68, 2, 24, 7], [(1, 1002, .inl 1), (1, 1003, .inl 1), (1, 1004, .inl 1), (5, 5, .inr (.inl (3, 0))), (1, 2, .inr (.inl (3, 0)))], [], []), some (.inl 9))])
def nxL : List nK := [nk_67, nk_68, nk_69, nk_70, nk_71, nk_72, nk_73, nk_74, nk_75, nk_76, nk_78, nk_79, nk_80, nk_81, nk_84, nk_88, nk_89, nk_90, nk_92, nk_93, nk_94, nk_95, nk_97, nk_98, nk_99, nk_100, nk_101, nk_102, nk_156, nk_210, nk_247, nk_248, nk_249, nk_251, nk_272, nk_273, nk_274, nk_275, nk_276, nk_277, nk_278, nk_280, nk_281, nk_282, nk_284, nk_285, nk_287, nk_288, nk_290, nk_291, nk_294, nk_295, nk_297, nk_298, nk_299, nk_300, nk_309, nk_335, nk_358, nk_359, nk_360, nk_365, nk_366, nk_367]
set_option maxRecDepth 100000 in
theorem law_exec : aExec nj_M2 nFT nAT2 nxL ([], []) (some 1) nkL.2.2.2.2.1 nkL.2.2.2.2.2.1 nkL.2.2.2.2.2.2 3 6 nkL.2.1 265 [] none 48 nkL.2.2.1 [(265, 0, aArgs 0 nkL.2.2.2.1, [])] = true := by decide +kernel
theorem nxL_ok {X : nX} {L : Nat} {xs : Nat → Int32} {g : Nat} {S : List Nat} {cc : Option (Nat → Int32)} : ∀ c ∈ nxL, nV nj_M2 X L xs g nFT nAT2 S (nJC S cc) c := fun c hc => by
  simp only [nxL, List.mem_cons, List.not_mem_nil, or_false] at hc
  rcases hc with rfl | rfl | rfl | rfl | rfl | rfl | rfl | rfl | rfl | rfl | rfl | rfl | rfl | rfl | rfl | rfl | rfl | rfl | rfl | rfl | rfl | rfl | rfl | rfl | rfl | rfl | rfl | rfl | rfl | rfl | rfl | rfl | rfl | rfl | rfl | rfl | rfl | rfl | rfl | rfl | rfl | rfl | rfl | rfl | rfl | rfl | rfl | rfl | rfl | rfl | rfl | rfl | rfl | rfl | rfl | rfl | rfl | rfl | rfl | rfl | rfl | rfl | rfl | rfl
  · exact nV_M2 (by decide) (nV_cc vk_67 (by decide))
  · exact nV_M2 (by decide) (nV_cc vk_68 (by decide))
  · exact nV_M2 (by decide) (nV_cc vk_69 (by decide))
  · exact nV_M2 (by decide) (nV_cc vk_70 (by decide))
  · exact nV_M2 (by decide) (nV_cc vk_71 (by decide))
  · exact nV_M2 (by decide) (nV_cc vk_72 (by decide))
  · exact nV_M2 (by decide) (nV_cc vk_73 (by decide))
  · exact nV_M2 (by decide) (nV_cc vk_74 (by decide))
  · exact nV_M2 (by decide) (nV_cc vk_75 (by decide))
  · exact nV_M2 (by decide) (nV_cc vk_76 (by decide))
  · exact nV_M2 (by decide) (nV_cc vk_78 (by decide))
  · exact nV_M2 (by decide) (nV_cc vk_79 (by decide))
  · exact nV_M2 (by decide) (nV_cc vk_80 (by decide))
  · exact nV_M2 (by decide) (nV_cc vk_81 (by decide))
  · exact nV_M2 (by decide) (nV_cc vk_84 (by decide))
  · exact nV_M2 (by decide) (nV_cc vk_88 (by decide))
  · exact nV_M2 (by decide) (nV_cc vk_89 (by decide))
  · exact nV_M2 (by decide) (nV_cc vk_90 (by decide))
  · exact nV_M2 (by decide) (nV_cc vk_92 (by decide))
  · exact nV_M2 (by decide) (nV_cc vk_93 (by decide))
  · exact nV_M2 (by decide) (nV_cc vk_94 (by decide))
  · exact nV_M2 (by decide) (nV_cc vk_95 (by decide))
  · exact nV_M2 (by decide) (nV_cc vk_97 (by decide))
  · exact nV_M2 (by decide) (nV_cc vk_98 (by decide))
  · exact nV_M2 (by decide) (nV_cc vk_99 (by decide))
  · exact nV_M2 (by decide) (nV_cc vk_100 (by decide))
  · exact nV_M2 (by decide) (nV_cc vk_101 (by decide))
  · exact nV_M2 (by decide) (nV_cc vk_102 (by decide))
  · exact nV_M2 (by decide) (nV_cc vk_156 (by decide))
  · exact nV_M2 (by decide) (nV_cc vk_210 (by decide))
  · exact nV_M2 (by decide) (nV_cc vk_247 (by decide))
  · exact nV_M2 (by decide) (nV_cc vk_248 (by decide))
  · exact nV_M2 (by decide) (nV_cc vk_249 (by decide))
  · exact nV_M2 (by decide) wk_251
  · exact nV_M2 (by decide) wk_272
  · exact nV_M2 (by decide) wk_273
  · exact nV_M2 (by decide) wk_274
  · exact nV_M2 (by decide) wk_275
  · exact nV_M2 (by decide) (nV_cc vk_276 (by decide))
  · exact nV_M2 (by decide) wk_277
  · exact nV_M2 (by decide) wk_278
  · exact nV_M2 (by decide) (nV_cc vk_280 (by decide))
  · exact nV_M2 (by decide) wk_281
  · exact nV_M2 (by decide) (nV_cc vk_282 (by decide))
  · exact nV_M2 (by decide) (nV_cc vk_284 (by decide))
  · exact nV_M2 (by decide) (nV_cc vk_285 (by decide))
  · exact nV_M2 (by decide) (nV_cc vk_287 (by decide))
  · exact nV_M2 (by decide) (nV_cc vk_288 (by decide))
  · exact nV_M2 (by decide) (nV_cc vk_290 (by decide))
  · exact nV_M2 (by decide) (nV_cc vk_291 (by decide))
  · exact nV_M2 (by decide) (nV_cc vk_294 (by decide))
  · exact nV_M2 (by decide) (nV_cc vk_295 (by decide))
  · exact nV_M2 (by decide) wk_297
  · exact nV_M2 (by decide) wk_298
  · exact nV_M2 (by decide) (nV_cc vk_299 (by decide))
  · exact nV_M2 (by decide) (nV_cc vk_300 (by decide))
  · exact nV_M2 (by decide) wk_309
  · exact nV_M2 (by decide) (nV_cc vk_335 (by decide))
  · exact nV_M2 (by decide) (nV_cc vk_358 (by decide))
  · exact nV_M2 (by decide) (nV_cc vk_359 (by decide))
  · exact nV_M2 (by decide) (nV_cc vk_360 (by decide))
  · exact nV_M2 (by decide) wk_365
  · exact nV_M2 (by decide) wk_366
  · exact nV_M2 (by decide) wk_367
/-- one round: from the loop's body on, to one of its ends -/
theorem law_round {X : nX} {L : Nat} {xs : Nat → Int32} {g d : Nat} {S : List Nat} {cc : Option (Nat → Int32)} {h : List nC} {i z : Int} {qx qm qo ql qb qt : Nat} (hd : 30 ≤ d) (hL : L ≤ 3072) (hi : 0 ≤ i) (hiL : i + 6 ≤ (L : Int)) (hJ : nJC S cc h) (hT : tOk nFT nAT S h) (tx : S[qx]? = some 8) (tm : S[qm]? = some 9) (to : S[qo]? = some 68) (tl : S[ql]? = some 2) (tb : S[qb]? = some 24) (tt : S[qt]? = some 7) (z0 : 0 ≤ z) (z1 : z ≤ 940) {fx fl fm ft : List Value} (fx0 : fx[0]? = some (.ref qt)) (ht : h[qt]? = some (.inr (7, ft))) (ft5 : ft[5]? = some (.int (Int32.ofInt z))) (fm2 : fm[2]? = some (.int (Int32.ofInt z))) (hx : h[qx]? = some (.inr (8, fx))) (hl : h[ql]? = some (.inr (2, fl))) (hm : h[qm]? = some (.inr (9, fm))) (fx3 : fx[3]? = some (.ref ql)) (fl0 : fl[0]? = some (.ref qb)) (g2 : nGh 1002 h 9 fm = 1) (g3 : nGh 1003 h 9 fm = 1) (g4 : nGh 1004 h 9 fm = 1) : nT nj_M2 X L xs g d nm_v (fun rv h1 => nJC S cc h1 ∧ tOk nFT nAT S h1 ∧ (∃ fm1, h1[qm]? = some (.inr (9, fm1)) ∧ nGh 1002 h1 9 fm1 = 1 ∧ nGh 1003 h1 9 fm1 = 1 ∧ nGh 1004 h1 9 fm1 = 1) ∧ (∃ fx1, h1[qx]? = some (.inr (8, fx1)) ∧ fx1[3]? = some (.ref ql)) ∧ (∃ fl1, h1[ql]? = some (.inr (2, fl1)) ∧ fl1[0]? = some (.ref qb)) ∧ nFr nkL.2.2.2.2.1 nkL.2.2.2.2.2.1 S h h1 ∧ ∃ z2 : Int, (0 ≤ z2 ∧ z2 ≤ 940) ∧ (∃ fx1, h1[qx]? = some (.inr (8, fx1)) ∧ fx1[0]? = some (.ref qt)) ∧ (∃ ft1, h1[qt]? = some (.inr (7, ft1)) ∧ ft1[5]? = some (.int (Int32.ofInt z2))) ∧ ∃ fm1, h1[qm]? = some (.inr (9, fm1)) ∧ fm1[2]? = some (.int (Int32.ofInt z2))) 0 [(0, .retAddr 0), (1, .ref qx), (2, .ref qm), (3, .ref qo), (4, .int (Int32.ofInt (i + 0)))] [] h := by
  have hpre : aOk S h [i, (L : Int), z] [qx, qm, qo, ql, qb, qt] nkL.2.2.1 := by
    refine ⟨aE_push (aE2 (r0 := (0, 3066)) (r1 := (6, 3072)) ⟨hi, by show i ≤ 3066; omega⟩ ⟨by show 6 ≤ (L : Int); omega, by show (L : Int) ≤ 3072; omega⟩) (r := (0, 940)) ⟨z0, z1⟩, ⟨rfl, fun j q t a b => ?_⟩, fun e he => ?_, (fun e he => nomatch he), fun e he => ?_⟩
    · match j, a, b with
      | 0, a, b => cases a; cases b; exact tx
      | 1, a, b => cases a; cases b; exact tm
      | 2, a, b => cases a; cases b; exact to
      | 3, a, b => cases a; cases b; exact tl
      | 4, a, b => cases a; cases b; exact tb
      | 5, a, b => cases a; cases b; exact tt
    · have he2 : e ∈ [(1, 1002, (.inl 1 : aV)), (1, 1003, .inl 1), (1, 1004, .inl 1), (0, 3, .inr (.inr (.inl 3))), (3, 0, .inr (.inr (.inl 4))), (0, 0, .inr (.inr (.inl 5))), (5, 5, .inr (.inl (2, 0))), (1, 2, .inr (.inl (2, 0)))] := he
      simp only [List.mem_cons, List.not_mem_nil, or_false] at he2
      rcases he2 with rfl | rfl | rfl | rfl | rfl | rfl | rfl | rfl
      · exact ⟨qm, 9, fm, _, rfl, hm, nFd_hi (by decide), by rw [g2]; rfl⟩
      · exact ⟨qm, 9, fm, _, rfl, hm, nFd_hi (by decide), by rw [g3]; rfl⟩
      · exact ⟨qm, 9, fm, _, rfl, hm, nFd_hi (by decide), by rw [g4]; rfl⟩
      · exact ⟨qx, 8, fx, _, rfl, hx, (nFd_lo (by decide)).trans fx3, ⟨ql, rfl, rfl⟩⟩
      · exact ⟨ql, 2, fl, _, rfl, hl, (nFd_lo (by decide)).trans fl0, ⟨qb, rfl, rfl⟩⟩
      · exact ⟨qx, 8, fx, _, rfl, hx, (nFd_lo (by decide)).trans fx0, ⟨qt, rfl, rfl⟩⟩
      · exact ⟨qt, 7, ft, _, rfl, ht, (nFd_lo (by decide)).trans ft5, ⟨z, rfl, by rw [Int.add_zero]⟩⟩
      · exact ⟨qm, 9, fm, _, rfl, hm, (nFd_lo (by decide)).trans fm2, ⟨z, rfl, by rw [Int.add_zero]⟩⟩
    · have he2 : e ∈ [(.inl ([(1, 0), (-1, 1)], 6) : aDf)] := he
      have he3 := List.mem_singleton.mp he2
      subst he3
      refine ⟨fun t ht => by simp only [List.mem_cons, List.not_mem_nil, or_false] at ht; rcases ht with rfl | rfl <;> simp, ?_⟩
      simp only [lS, List.map_cons, List.map_nil, List.sum_cons, List.sum_nil, List.getD_cons_zero, List.getD_cons_succ]
      omega
  refine nT.mono ?_ (aExec_nT (c := nkL) (ls := some 1) (W := ([], [])) (nJC_ok S cc) ⟨(fun c hc => nomatch hc), (fun c hc => nomatch hc)⟩ nxL_ok hd (show nj_M2 265 = some nm_v from rfl) hJ (tOk_to hT) hpre (vs := [.retAddr 0, .ref qx, .ref qm, .ref qo, .int (Int32.ofInt (i + 0))]) ⟨rfl, ⟨qx, rfl, rfl⟩, ⟨qm, rfl, rfl⟩, ⟨qo, rfl, rfl⟩, ⟨i, rfl, rfl⟩, trivial⟩ (fun y hy => by cases hy; rfl) law_exec)
  rintro rv h1 ⟨J1, T1, F1, po, hpo, nu1, mu1, X1, ok1, res1⟩
  refine ⟨J1, tOk_of T1, ?_⟩
  obtain ⟨fm1, hm1, -⟩ := T1.obj tm (show oT 9 = some 9 from rfl)
  have h4 : ∀ po ∈ nkL.2.2.2.2.2.2, po.1.2.2.1 = [(1, 1002, (.inl 1 : aV)), (1, 1003, .inl 1), (1, 1004, .inl 1), (5, 5, .inr (.inl (3, 0))), (1, 2, .inr (.inl (3, 0)))] ∧ po.1.1[3]? = some (0, 940) := List.forall_mem_cons.mpr ⟨⟨rfl, rfl⟩, List.forall_mem_cons.mpr ⟨⟨rfl, rfl⟩, List.forall_mem_cons.mpr ⟨⟨rfl, rfl⟩, List.forall_mem_cons.mpr ⟨⟨rfl, rfl⟩, List.forall_mem_cons.mpr ⟨⟨rfl, rfl⟩, List.forall_mem_cons.mpr ⟨⟨rfl, rfl⟩, List.forall_mem_cons.mpr ⟨⟨rfl, rfl⟩, List.forall_mem_cons.mpr ⟨⟨rfl, rfl⟩, List.forall_mem_cons.mpr ⟨⟨rfl, rfl⟩, List.forall_mem_cons.mpr ⟨⟨rfl, rfl⟩, (fun _ hx => nomatch hx)⟩⟩⟩⟩⟩⟩⟩⟩⟩⟩
  obtain ⟨h5, h6⟩ := h4 po hpo
  have hfc : ∀ k ∈ [1002, 1003, 1004], (1, k, (.inl 1 : aV)) ∈ po.1.2.2.1 := by
    intro k hk
    rw [h5]
    simp only [List.mem_cons, List.not_mem_nil, or_false] at hk
    rcases hk with rfl | rfl | rfl
    · exact List.mem_cons_self
    · exact List.mem_cons_of_mem _ List.mem_cons_self
    · exact List.mem_cons_of_mem _ (List.mem_cons_of_mem _ List.mem_cons_self)
  have look : ∀ k ∈ [1002, 1003, 1004], nGh k h1 9 fm1 = 1 := fun k hk => by
    obtain ⟨v, v1, v2⟩ := fc_at ok1 (hfc k hk) (X1.mu (show [qx, qm, qo, ql, qb, qt][1]? = some qm from rfl)) hm1
    rw [nFd_hi (by simp only [List.mem_cons, List.not_mem_nil, or_false] at hk; omega)] at v1
    have v3 : v = .int (Int32.ofInt 1) := v2
    rw [v3] at v1
    exact Value.int.inj (Option.some.inj v1)
  obtain ⟨fx1, hx1, ex1⟩ := (F1 qx 8 tx).1 ⟨8, rfl⟩ 8 fx hx
  obtain ⟨fl1, hl1, el1⟩ := (F1 ql 2 tl).1 ⟨2, rfl⟩ 2 fl hl
  obtain ⟨ft1, ht1, -⟩ := T1.obj tt (show oT 7 = some 7 from rfl)
  obtain ⟨v1, w1, ⟨y1, ey1, v1e⟩⟩ := fc_at ok1 (show (5, 5, (.inr (.inl (3, 0)) : aV)) ∈ po.1.2.2.1 by rw [h5]; exact List.mem_cons_of_mem _ (List.mem_cons_of_mem _ (List.mem_cons_of_mem _ List.mem_cons_self))) (X1.mu (show [qx, qm, qo, ql, qb, qt][5]? = some qt from rfl)) ht1
  obtain ⟨v2, w2, ⟨y2, ey2, v2e⟩⟩ := fc_at ok1 (show (1, 2, (.inr (.inl (3, 0)) : aV)) ∈ po.1.2.2.1 by rw [h5]; exact List.mem_cons_of_mem _ (List.mem_cons_of_mem _ (List.mem_cons_of_mem _ (List.mem_cons_of_mem _ List.mem_cons_self)))) (X1.mu (show [qx, qm, qo, ql, qb, qt][1]? = some qm from rfl)) hm1
  cases ey1.symm.trans ey2
  rw [nFd_lo (by decide)] at w1 w2
  rw [Int.add_zero] at v1e v2e
  rw [v1e] at w1
  rw [v2e] at w2
  have hr3 := ok1.1.2 3 y1 (0, 940) ey1 h6
  exact ⟨⟨fm1, hm1, look 1002 (by decide), look 1003 (by decide), look 1004 (by decide)⟩, ⟨fx1, hx1, (nFd_lo (by decide)).symm.trans ((ex1 3 (by decide)).trans ((nFd_lo (by decide)).trans fx3))⟩, ⟨fl1, hl1, (nFd_lo (by decide)).symm.trans ((el1 0 (by decide)).trans ((nFd_lo (by decide)).trans fl0))⟩, F1, y1, hr3, ⟨fx1, hx1, (nFd_lo (by decide)).symm.trans ((ex1 0 (by decide)).trans ((nFd_lo (by decide)).trans fx0))⟩, ⟨ft1, ht1, w1⟩, fm1, hm1, w2⟩
