/-! pictures of lives, phrases and images that stand in a heap of the law -/
section PIC2
variable {h : List nC}
theorem pic_lfP (T : tOk nFT nAT fS h) (H : fxOk h) (G : fyOk h) : ∃ x : Lf, hv (lfP x) h := by
  obtain ⟨fa, efa, -⟩ := T.obj (q := 37) (t := 2) (show fS[37]? = some 2 by decide) (show oT 2 = some 2 by decide)
  obtain ⟨ifa5, gfa5⟩ := fldI (k := 5) T (show fS[37]? = some 2 by decide) (show oT 2 = some 2 by decide) efa rfl
  obtain ⟨ifa6, gfa6⟩ := fldI (k := 6) T (show fS[37]? = some 2 by decide) (show oT 2 = some 2 by decide) efa rfl
  obtain ⟨ifa7, gfa7⟩ := fldI (k := 7) T (show fS[37]? = some 2 by decide) (show oT 2 = some 2 by decide) efa rfl
  obtain ⟨ifa8, gfa8⟩ := fldI (k := 8) T (show fS[37]? = some 2 by decide) (show oT 2 = some 2 by decide) efa rfl
  obtain ⟨ifa9, gfa9⟩ := fldI (k := 9) T (show fS[37]? = some 2 by decide) (show oT 2 = some 2 by decide) efa rfl
  obtain ⟨ifa10, gfa10⟩ := fldI (k := 10) T (show fS[37]? = some 2 by decide) (show oT 2 = some 2 by decide) efa rfl
  obtain ⟨ifa11, gfa11⟩ := fldI (k := 11) T (show fS[37]? = some 2 by decide) (show oT 2 = some 2 by decide) efa rfl
  have gfa0 : fa[0]? = some (.ref 38) := fx_at H (List.mem_of_getElem? (show FX[43]? = some _ from rfl)) efa
  have gfa1 : fa[1]? = some (.ref 39) := fx_at H (List.mem_of_getElem? (show FX[44]? = some _ from rfl)) efa
  have gfa2 : fa[2]? = some (.ref 40) := fx_at H (List.mem_of_getElem? (show FX[45]? = some _ from rfl)) efa
  have gfa3 : fa[3]? = some (.ref 41) := fx_at H (List.mem_of_getElem? (show FX[46]? = some _ from rfl)) efa
  have gfa4 : fa[4]? = some (.ref 42) := fx_at H (List.mem_of_getElem? (show FX[47]? = some _ from rfl)) efa
  have nfa : fa[12]? = none := fx_at H (List.mem_of_getElem? (show FX[48]? = some _ from rfl)) efa
  have lfa : fa = [.ref 38, .ref 39, .ref 40, .ref 41, .ref 42, .int ifa5, .int ifa6, .int ifa7, .int ifa8, .int ifa9, .int ifa10, .int ifa11] := by
    refine (fs_list (n := 11) (gfa11) nfa).trans ?_
    show [fa.getD 0 (.int 0), fa.getD 1 (.int 0), fa.getD 2 (.int 0), fa.getD 3 (.int 0), fa.getD 4 (.int 0), fa.getD 5 (.int 0), fa.getD 6 (.int 0), fa.getD 7 (.int 0), fa.getD 8 (.int 0), fa.getD 9 (.int 0), fa.getD 10 (.int 0), fa.getD 11 (.int 0)] = _
    rw [gD gfa0, gD gfa1, gD gfa2, gD gfa3, gD gfa4, gD gfa5, gD gfa6, gD gfa7, gD gfa8, gD gfa9, gD gfa10, gD gfa11]
  obtain ⟨r0, er0, -⟩ := rowI T (q := 38) (show fS[38]? = some 24 by decide) (show nAT 24 = some (0, 6, .inl _) from rfl) rfl
  obtain ⟨r1, er1, -⟩ := rowI T (q := 39) (show fS[39]? = some 25 by decide) (show nAT 25 = some (0, 6, .inl _) from rfl) rfl
  obtain ⟨r2, er2, -⟩ := rowI T (q := 40) (show fS[40]? = some 26 by decide) (show nAT 26 = some (0, 6, .inl _) from rfl) rfl
  obtain ⟨r3, er3, -⟩ := rowI T (q := 41) (show fS[41]? = some 27 by decide) (show nAT 27 = some (0, 10, .inl _) from rfl) rfl
  obtain ⟨r4, er4, -⟩ := rowI T (q := 42) (show fS[42]? = some 28 by decide) (show nAT 28 = some (0, 12, .inl _) from rfl) rfl
  rw [lfa] at efa
  exact ⟨(r0, r1, r2, r3, r4, ifa5, ifa6, ifa7, ifa8, ifa9, ifa10, ifa11), hv_c efa (hv_c er0 (hv_c er1 (hv_c er2 (hv_c er3 (hv_c er4 (hv_0))))))⟩
theorem pic_lf130 (T : tOk nFT nAT fS h) (H : fxOk h) (G : fyOk h) : ∃ x : Lf, hv (lf130 x) h := by
  obtain ⟨fa, efa, -⟩ := T.obj (q := 130) (t := 2) (show fS[130]? = some 2 by decide) (show oT 2 = some 2 by decide)
  obtain ⟨ifa5, gfa5⟩ := fldI (k := 5) T (show fS[130]? = some 2 by decide) (show oT 2 = some 2 by decide) efa rfl
  obtain ⟨ifa6, gfa6⟩ := fldI (k := 6) T (show fS[130]? = some 2 by decide) (show oT 2 = some 2 by decide) efa rfl
  obtain ⟨ifa7, gfa7⟩ := fldI (k := 7) T (show fS[130]? = some 2 by decide) (show oT 2 = some 2 by decide) efa rfl
  obtain ⟨ifa8, gfa8⟩ := fldI (k := 8) T (show fS[130]? = some 2 by decide) (show oT 2 = some 2 by decide) efa rfl
  obtain ⟨ifa9, gfa9⟩ := fldI (k := 9) T (show fS[130]? = some 2 by decide) (show oT 2 = some 2 by decide) efa rfl
  obtain ⟨ifa10, gfa10⟩ := fldI (k := 10) T (show fS[130]? = some 2 by decide) (show oT 2 = some 2 by decide) efa rfl
  obtain ⟨ifa11, gfa11⟩ := fldI (k := 11) T (show fS[130]? = some 2 by decide) (show oT 2 = some 2 by decide) efa rfl
  have gfa0 : fa[0]? = some (.ref 131) := fy_at G 35 rfl efa
  have gfa1 : fa[1]? = some (.ref 132) := fy_at G 36 rfl efa
  have gfa2 : fa[2]? = some (.ref 133) := fy_at G 37 rfl efa
  have gfa3 : fa[3]? = some (.ref 134) := fy_at G 38 rfl efa
  have gfa4 : fa[4]? = some (.ref 135) := fy_at G 39 rfl efa
  have nfa : fa[12]? = none := fy_at G 40 rfl efa
  have lfa : fa = [.ref 131, .ref 132, .ref 133, .ref 134, .ref 135, .int ifa5, .int ifa6, .int ifa7, .int ifa8, .int ifa9, .int ifa10, .int ifa11] := by
    refine (fs_list (n := 11) (gfa11) nfa).trans ?_
    show [fa.getD 0 (.int 0), fa.getD 1 (.int 0), fa.getD 2 (.int 0), fa.getD 3 (.int 0), fa.getD 4 (.int 0), fa.getD 5 (.int 0), fa.getD 6 (.int 0), fa.getD 7 (.int 0), fa.getD 8 (.int 0), fa.getD 9 (.int 0), fa.getD 10 (.int 0), fa.getD 11 (.int 0)] = _
    rw [gD gfa0, gD gfa1, gD gfa2, gD gfa3, gD gfa4, gD gfa5, gD gfa6, gD gfa7, gD gfa8, gD gfa9, gD gfa10, gD gfa11]
  obtain ⟨r0, er0, -⟩ := rowI T (q := 131) (show fS[131]? = some 24 by decide) (show nAT 24 = some (0, 6, .inl _) from rfl) rfl
  obtain ⟨r1, er1, -⟩ := rowI T (q := 132) (show fS[132]? = some 25 by decide) (show nAT 25 = some (0, 6, .inl _) from rfl) rfl
  obtain ⟨r2, er2, -⟩ := rowI T (q := 133) (show fS[133]? = some 26 by decide) (show nAT 26 = some (0, 6, .inl _) from rfl) rfl
  obtain ⟨r3, er3, -⟩ := rowI T (q := 134) (show fS[134]? = some 27 by decide) (show nAT 27 = some (0, 10, .inl _) from rfl) rfl
  obtain ⟨r4, er4, -⟩ := rowI T (q := 135) (show fS[135]? = some 28 by decide) (show nAT 28 = some (0, 12, .inl _) from rfl) rfl
  rw [lfa] at efa
  exact ⟨(r0, r1, r2, r3, r4, ifa5, ifa6, ifa7, ifa8, ifa9, ifa10, ifa11), hv_c efa (hv_c er0 (hv_c er1 (hv_c er2 (hv_c er3 (hv_c er4 (hv_0))))))⟩
theorem pic_lf157 (T : tOk nFT nAT fS h) (H : fxOk h) (G : fyOk h) : ∃ x : Lf, hv (lf157 x) h := by
  obtain ⟨fa, efa, -⟩ := T.obj (q := 157) (t := 2) (show fS[157]? = some 2 by decide) (show oT 2 = some 2 by decide)
  obtain ⟨ifa5, gfa5⟩ := fldI (k := 5) T (show fS[157]? = some 2 by decide) (show oT 2 = some 2 by decide) efa rfl
  obtain ⟨ifa6, gfa6⟩ := fldI (k := 6) T (show fS[157]? = some 2 by decide) (show oT 2 = some 2 by decide) efa rfl
  obtain ⟨ifa7, gfa7⟩ := fldI (k := 7) T (show fS[157]? = some 2 by decide) (show oT 2 = some 2 by decide) efa rfl
  obtain ⟨ifa8, gfa8⟩ := fldI (k := 8) T (show fS[157]? = some 2 by decide) (show oT 2 = some 2 by decide) efa rfl
  obtain ⟨ifa9, gfa9⟩ := fldI (k := 9) T (show fS[157]? = some 2 by decide) (show oT 2 = some 2 by decide) efa rfl
  obtain ⟨ifa10, gfa10⟩ := fldI (k := 10) T (show fS[157]? = some 2 by decide) (show oT 2 = some 2 by decide) efa rfl
  obtain ⟨ifa11, gfa11⟩ := fldI (k := 11) T (show fS[157]? = some 2 by decide) (show oT 2 = some 2 by decide) efa rfl
  have gfa0 : fa[0]? = some (.ref 158) := fy_at G 41 rfl efa
  have gfa1 : fa[1]? = some (.ref 159) := fy_at G 42 rfl efa
  have gfa2 : fa[2]? = some (.ref 160) := fy_at G 43 rfl efa
  have gfa3 : fa[3]? = some (.ref 161) := fy_at G 44 rfl efa
  have gfa4 : fa[4]? = some (.ref 162) := fy_at G 45 rfl efa
  have nfa : fa[12]? = none := fy_at G 46 rfl efa
  have lfa : fa = [.ref 158, .ref 159, .ref 160, .ref 161, .ref 162, .int ifa5, .int ifa6, .int ifa7, .int ifa8, .int ifa9, .int ifa10, .int ifa11] := by
    refine (fs_list (n := 11) (gfa11) nfa).trans ?_
    show [fa.getD 0 (.int 0), fa.getD 1 (.int 0), fa.getD 2 (.int 0), fa.getD 3 (.int 0), fa.getD 4 (.int 0), fa.getD 5 (.int 0), fa.getD 6 (.int 0), fa.getD 7 (.int 0), fa.getD 8 (.int 0), fa.getD 9 (.int 0), fa.getD 10 (.int 0), fa.getD 11 (.int 0)] = _
    rw [gD gfa0, gD gfa1, gD gfa2, gD gfa3, gD gfa4, gD gfa5, gD gfa6, gD gfa7, gD gfa8, gD gfa9, gD gfa10, gD gfa11]
  obtain ⟨r0, er0, -⟩ := rowI T (q := 158) (show fS[158]? = some 24 by decide) (show nAT 24 = some (0, 6, .inl _) from rfl) rfl
  obtain ⟨r1, er1, -⟩ := rowI T (q := 159) (show fS[159]? = some 25 by decide) (show nAT 25 = some (0, 6, .inl _) from rfl) rfl
  obtain ⟨r2, er2, -⟩ := rowI T (q := 160) (show fS[160]? = some 26 by decide) (show nAT 26 = some (0, 6, .inl _) from rfl) rfl
  obtain ⟨r3, er3, -⟩ := rowI T (q := 161) (show fS[161]? = some 27 by decide) (show nAT 27 = some (0, 10, .inl _) from rfl) rfl
  obtain ⟨r4, er4, -⟩ := rowI T (q := 162) (show fS[162]? = some 28 by decide) (show nAT 28 = some (0, 12, .inl _) from rfl) rfl
  rw [lfa] at efa
  exact ⟨(r0, r1, r2, r3, r4, ifa5, ifa6, ifa7, ifa8, ifa9, ifa10, ifa11), hv_c efa (hv_c er0 (hv_c er1 (hv_c er2 (hv_c er3 (hv_c er4 (hv_0))))))⟩
theorem pic_ph49 (T : tOk nFT nAT fS h) (H : fxOk h) (G : fyOk h) : ∃ p : Ph, hv (ph49 p) h := by
  obtain ⟨fa, efa, -⟩ := T.obj (q := 49) (t := 4) (show fS[49]? = some 4 by decide) (show oT 4 = some 4 by decide)
  obtain ⟨ifa4, gfa4⟩ := fldI (k := 4) T (show fS[49]? = some 4 by decide) (show oT 4 = some 4 by decide) efa rfl
  obtain ⟨ifa5, gfa5⟩ := fldI (k := 5) T (show fS[49]? = some 4 by decide) (show oT 4 = some 4 by decide) efa rfl
  have gfa0 : fa[0]? = some (.ref 50) := fy_at G 1 rfl efa
  have gfa1 : fa[1]? = some (.ref 51) := fy_at G 2 rfl efa
  have gfa2 : fa[2]? = some (.ref 52) := fy_at G 3 rfl efa
  have gfa3 : fa[3]? = some (.ref 53) := fy_at G 4 rfl efa
  have nfa : fa[6]? = none := fx_at H (List.mem_of_getElem? (show FX[49]? = some _ from rfl)) efa
  have lfa : fa = [.ref 50, .ref 51, .ref 52, .ref 53, .int ifa4, .int ifa5] := by
    refine (fs_list (n := 5) (gfa5) nfa).trans ?_
    show [fa.getD 0 (.int 0), fa.getD 1 (.int 0), fa.getD 2 (.int 0), fa.getD 3 (.int 0), fa.getD 4 (.int 0), fa.getD 5 (.int 0)] = _
    rw [gD gfa0, gD gfa1, gD gfa2, gD gfa3, gD gfa4, gD gfa5]
  obtain ⟨r0, er0, -⟩ := rowI T (q := 50) (show fS[50]? = some 30 by decide) (show nAT 30 = some (0, 40, .inl _) from rfl) rfl
  obtain ⟨r1, er1, -⟩ := rowI T (q := 51) (show fS[51]? = some 31 by decide) (show nAT 31 = some (0, 40, .inl _) from rfl) rfl
  obtain ⟨r2, er2, -⟩ := rowI T (q := 52) (show fS[52]? = some 32 by decide) (show nAT 32 = some (0, 40, .inl _) from rfl) rfl
  obtain ⟨r3, er3, -⟩ := rowI T (q := 53) (show fS[53]? = some 33 by decide) (show nAT 33 = some (0, 40, .inl _) from rfl) rfl
  rw [lfa] at efa
  exact ⟨(r0, r1, r2, r3, ifa4, ifa5), hv_c efa (hv_c er0 (hv_c er1 (hv_c er2 (hv_c er3 (hv_0)))))⟩
theorem pic_ph136 (T : tOk nFT nAT fS h) (H : fxOk h) (G : fyOk h) : ∃ p : Ph, hv (ph136 p) h := by
  obtain ⟨fa, efa, -⟩ := T.obj (q := 136) (t := 4) (show fS[136]? = some 4 by decide) (show oT 4 = some 4 by decide)
  obtain ⟨ifa4, gfa4⟩ := fldI (k := 4) T (show fS[136]? = some 4 by decide) (show oT 4 = some 4 by decide) efa rfl
  obtain ⟨ifa5, gfa5⟩ := fldI (k := 5) T (show fS[136]? = some 4 by decide) (show oT 4 = some 4 by decide) efa rfl
  have gfa0 : fa[0]? = some (.ref 137) := fy_at G 47 rfl efa
  have gfa1 : fa[1]? = some (.ref 138) := fy_at G 48 rfl efa
  have gfa2 : fa[2]? = some (.ref 139) := fy_at G 49 rfl efa
  have gfa3 : fa[3]? = some (.ref 140) := fy_at G 50 rfl efa
  have nfa : fa[6]? = none := fy_at G 51 rfl efa
  have lfa : fa = [.ref 137, .ref 138, .ref 139, .ref 140, .int ifa4, .int ifa5] := by
    refine (fs_list (n := 5) (gfa5) nfa).trans ?_
    show [fa.getD 0 (.int 0), fa.getD 1 (.int 0), fa.getD 2 (.int 0), fa.getD 3 (.int 0), fa.getD 4 (.int 0), fa.getD 5 (.int 0)] = _
    rw [gD gfa0, gD gfa1, gD gfa2, gD gfa3, gD gfa4, gD gfa5]
  obtain ⟨r0, er0, -⟩ := rowI T (q := 137) (show fS[137]? = some 30 by decide) (show nAT 30 = some (0, 40, .inl _) from rfl) rfl
  obtain ⟨r1, er1, -⟩ := rowI T (q := 138) (show fS[138]? = some 31 by decide) (show nAT 31 = some (0, 40, .inl _) from rfl) rfl
  obtain ⟨r2, er2, -⟩ := rowI T (q := 139) (show fS[139]? = some 32 by decide) (show nAT 32 = some (0, 40, .inl _) from rfl) rfl
  obtain ⟨r3, er3, -⟩ := rowI T (q := 140) (show fS[140]? = some 33 by decide) (show nAT 33 = some (0, 40, .inl _) from rfl) rfl
  rw [lfa] at efa
  exact ⟨(r0, r1, r2, r3, ifa4, ifa5), hv_c efa (hv_c er0 (hv_c er1 (hv_c er2 (hv_c er3 (hv_0)))))⟩
theorem pic_ph163 (T : tOk nFT nAT fS h) (H : fxOk h) (G : fyOk h) : ∃ p : Ph, hv (ph163 p) h := by
  obtain ⟨fa, efa, -⟩ := T.obj (q := 163) (t := 4) (show fS[163]? = some 4 by decide) (show oT 4 = some 4 by decide)
  obtain ⟨ifa4, gfa4⟩ := fldI (k := 4) T (show fS[163]? = some 4 by decide) (show oT 4 = some 4 by decide) efa rfl
  obtain ⟨ifa5, gfa5⟩ := fldI (k := 5) T (show fS[163]? = some 4 by decide) (show oT 4 = some 4 by decide) efa rfl
  have gfa0 : fa[0]? = some (.ref 164) := fy_at G 52 rfl efa
  have gfa1 : fa[1]? = some (.ref 165) := fy_at G 53 rfl efa
  have gfa2 : fa[2]? = some (.ref 166) := fy_at G 54 rfl efa
  have gfa3 : fa[3]? = some (.ref 167) := fy_at G 55 rfl efa
  have nfa : fa[6]? = none := fy_at G 56 rfl efa
  have lfa : fa = [.ref 164, .ref 165, .ref 166, .ref 167, .int ifa4, .int ifa5] := by
    refine (fs_list (n := 5) (gfa5) nfa).trans ?_
    show [fa.getD 0 (.int 0), fa.getD 1 (.int 0), fa.getD 2 (.int 0), fa.getD 3 (.int 0), fa.getD 4 (.int 0), fa.getD 5 (.int 0)] = _
    rw [gD gfa0, gD gfa1, gD gfa2, gD gfa3, gD gfa4, gD gfa5]
  obtain ⟨r0, er0, -⟩ := rowI T (q := 164) (show fS[164]? = some 30 by decide) (show nAT 30 = some (0, 40, .inl _) from rfl) rfl
  obtain ⟨r1, er1, -⟩ := rowI T (q := 165) (show fS[165]? = some 31 by decide) (show nAT 31 = some (0, 40, .inl _) from rfl) rfl
  obtain ⟨r2, er2, -⟩ := rowI T (q := 166) (show fS[166]? = some 32 by decide) (show nAT 32 = some (0, 40, .inl _) from rfl) rfl
  obtain ⟨r3, er3, -⟩ := rowI T (q := 167) (show fS[167]? = some 33 by decide) (show nAT 33 = some (0, 40, .inl _) from rfl) rfl
  rw [lfa] at efa
  exact ⟨(r0, r1, r2, r3, ifa4, ifa5), hv_c efa (hv_c er0 (hv_c er1 (hv_c er2 (hv_c er3 (hv_0)))))⟩
theorem pic_hoQ (T : tOk nFT nAT fS h) (H : fxOk h) (G : fyOk h) : ∃ y : Ho, hv (hoQ y) h := by
  obtain ⟨fa, efa, -⟩ := T.obj (q := 7) (t := 0) (show fS[7]? = some 0 by decide) (show oT 0 = some 0 by decide)
  obtain ⟨ifa14, gfa14⟩ := fldI (k := 14) T (show fS[7]? = some 0 by decide) (show oT 0 = some 0 by decide) efa rfl
  obtain ⟨ifa15, gfa15⟩ := fldI (k := 15) T (show fS[7]? = some 0 by decide) (show oT 0 = some 0 by decide) efa rfl
  have gfa0 : fa[0]? = some (.ref 8) := fx_at H (List.mem_of_getElem? (show FX[13]? = some _ from rfl)) efa
  have gfa1 : fa[1]? = some (.ref 9) := fx_at H (List.mem_of_getElem? (show FX[14]? = some _ from rfl)) efa
  have gfa2 : fa[2]? = some (.ref 10) := fx_at H (List.mem_of_getElem? (show FX[15]? = some _ from rfl)) efa
  have gfa3 : fa[3]? = some (.ref 11) := fx_at H (List.mem_of_getElem? (show FX[16]? = some _ from rfl)) efa
  have gfa4 : fa[4]? = some (.ref 12) := fx_at H (List.mem_of_getElem? (show FX[17]? = some _ from rfl)) efa
  have gfa5 : fa[5]? = some (.ref 13) := fx_at H (List.mem_of_getElem? (show FX[18]? = some _ from rfl)) efa
  have gfa6 : fa[6]? = some (.ref 14) := fx_at H (List.mem_of_getElem? (show FX[19]? = some _ from rfl)) efa
  have gfa7 : fa[7]? = some (.ref 15) := fx_at H (List.mem_of_getElem? (show FX[20]? = some _ from rfl)) efa
  have gfa8 : fa[8]? = some (.ref 16) := fx_at H (List.mem_of_getElem? (show FX[21]? = some _ from rfl)) efa
  have gfa9 : fa[9]? = some (.ref 17) := fx_at H (List.mem_of_getElem? (show FX[22]? = some _ from rfl)) efa
  have gfa10 : fa[10]? = some (.ref 18) := fx_at H (List.mem_of_getElem? (show FX[23]? = some _ from rfl)) efa
  have gfa11 : fa[11]? = some (.ref 19) := fx_at H (List.mem_of_getElem? (show FX[24]? = some _ from rfl)) efa
  have gfa12 : fa[12]? = some (.ref 20) := fx_at H (List.mem_of_getElem? (show FX[25]? = some _ from rfl)) efa
  have gfa13 : fa[13]? = some (.ref 21) := fx_at H (List.mem_of_getElem? (show FX[26]? = some _ from rfl)) efa
  have nfa : fa[16]? = none := fx_at H (List.mem_of_getElem? (show FX[27]? = some _ from rfl)) efa
  have lfa : fa = [.ref 8, .ref 9, .ref 10, .ref 11, .ref 12, .ref 13, .ref 14, .ref 15, .ref 16, .ref 17, .ref 18, .ref 19, .ref 20, .ref 21, .int ifa14, .int ifa15] := by
    refine (fs_list (n := 15) (gfa15) nfa).trans ?_
    show [fa.getD 0 (.int 0), fa.getD 1 (.int 0), fa.getD 2 (.int 0), fa.getD 3 (.int 0), fa.getD 4 (.int 0), fa.getD 5 (.int 0), fa.getD 6 (.int 0), fa.getD 7 (.int 0), fa.getD 8 (.int 0), fa.getD 9 (.int 0), fa.getD 10 (.int 0), fa.getD 11 (.int 0), fa.getD 12 (.int 0), fa.getD 13 (.int 0), fa.getD 14 (.int 0), fa.getD 15 (.int 0)] = _
    rw [gD gfa0, gD gfa1, gD gfa2, gD gfa3, gD gfa4, gD gfa5, gD gfa6, gD gfa7, gD gfa8, gD gfa9, gD gfa10, gD gfa11, gD gfa12, gD gfa13, gD gfa14, gD gfa15]
  obtain ⟨r0, er0, -⟩ := rowI T (q := 8) (show fS[8]? = some 10 by decide) (show nAT 10 = some (0, 4, .inl _) from rfl) rfl
  obtain ⟨r1, er1⟩ := rowL T (q := 9) (show fS[9]? = some 11 by decide) (show nAT 11 = some (3, 26, .inr (.inr ())) from rfl) rfl
  obtain ⟨r2, er2, -⟩ := rowI T (q := 10) (show fS[10]? = some 12 by decide) (show nAT 12 = some (0, 10, .inl _) from rfl) rfl
  obtain ⟨r3, er3, -⟩ := rowI T (q := 11) (show fS[11]? = some 13 by decide) (show nAT 13 = some (0, 10, .inl _) from rfl) rfl
  obtain ⟨r4, er4, -⟩ := rowI T (q := 12) (show fS[12]? = some 14 by decide) (show nAT 14 = some (0, 10, .inl _) from rfl) rfl
  obtain ⟨r5, er5, -⟩ := rowI T (q := 13) (show fS[13]? = some 15 by decide) (show nAT 15 = some (0, 10, .inl _) from rfl) rfl
  obtain ⟨r6, er6, -⟩ := rowI T (q := 14) (show fS[14]? = some 16 by decide) (show nAT 16 = some (0, 6, .inl _) from rfl) rfl
  obtain ⟨r7, er7, -⟩ := rowI T (q := 15) (show fS[15]? = some 17 by decide) (show nAT 17 = some (0, 6, .inl _) from rfl) rfl
  obtain ⟨r8, er8, -⟩ := rowI T (q := 16) (show fS[16]? = some 18 by decide) (show nAT 18 = some (0, 6, .inl _) from rfl) rfl
  obtain ⟨r9, er9, -⟩ := rowI T (q := 17) (show fS[17]? = some 19 by decide) (show nAT 19 = some (0, 6, .inl _) from rfl) rfl
  obtain ⟨r10, er10, -⟩ := rowI T (q := 18) (show fS[18]? = some 20 by decide) (show nAT 20 = some (0, 6, .inl _) from rfl) rfl
  obtain ⟨r11, er11, -⟩ := rowI T (q := 19) (show fS[19]? = some 21 by decide) (show nAT 21 = some (0, 6, .inl _) from rfl) rfl
  obtain ⟨r12, er12, -⟩ := rowI T (q := 20) (show fS[20]? = some 22 by decide) (show nAT 22 = some (0, 4, .inl _) from rfl) rfl
  obtain ⟨r13, er13, -⟩ := rowI T (q := 21) (show fS[21]? = some 23 by decide) (show nAT 23 = some (0, 48, .inl _) from rfl) rfl
  rw [lfa] at efa
  exact ⟨(r0, r1, r2, r3, r4, r5, r6, r7, r8, r9, r10, r11, r12, r13, ifa14, ifa15), hv_c efa (hv_c er0 (hv_c er1 (hv_c er2 (hv_c er3 (hv_c er4 (hv_c er5 (hv_c er6 (hv_c er7 (hv_c er8 (hv_c er9 (hv_c er10 (hv_c er11 (hv_c er12 (hv_c er13 (hv_0)))))))))))))))⟩
theorem pic_ho115 (T : tOk nFT nAT fS h) (H : fxOk h) (G : fyOk h) : ∃ y : Ho, hv (ho115 y) h := by
  obtain ⟨fa, efa, -⟩ := T.obj (q := 115) (t := 0) (show fS[115]? = some 0 by decide) (show oT 0 = some 0 by decide)
  obtain ⟨ifa14, gfa14⟩ := fldI (k := 14) T (show fS[115]? = some 0 by decide) (show oT 0 = some 0 by decide) efa rfl
  obtain ⟨ifa15, gfa15⟩ := fldI (k := 15) T (show fS[115]? = some 0 by decide) (show oT 0 = some 0 by decide) efa rfl
  have gfa0 : fa[0]? = some (.ref 116) := fy_at G 5 rfl efa
  have gfa1 : fa[1]? = some (.ref 117) := fy_at G 6 rfl efa
  have gfa2 : fa[2]? = some (.ref 118) := fy_at G 7 rfl efa
  have gfa3 : fa[3]? = some (.ref 119) := fy_at G 8 rfl efa
  have gfa4 : fa[4]? = some (.ref 120) := fy_at G 9 rfl efa
  have gfa5 : fa[5]? = some (.ref 121) := fy_at G 10 rfl efa
  have gfa6 : fa[6]? = some (.ref 122) := fy_at G 11 rfl efa
  have gfa7 : fa[7]? = some (.ref 123) := fy_at G 12 rfl efa
  have gfa8 : fa[8]? = some (.ref 124) := fy_at G 13 rfl efa
  have gfa9 : fa[9]? = some (.ref 125) := fy_at G 14 rfl efa
  have gfa10 : fa[10]? = some (.ref 126) := fy_at G 15 rfl efa
  have gfa11 : fa[11]? = some (.ref 127) := fy_at G 16 rfl efa
  have gfa12 : fa[12]? = some (.ref 128) := fy_at G 17 rfl efa
  have gfa13 : fa[13]? = some (.ref 129) := fy_at G 18 rfl efa
  have nfa : fa[16]? = none := fy_at G 19 rfl efa
  have lfa : fa = [.ref 116, .ref 117, .ref 118, .ref 119, .ref 120, .ref 121, .ref 122, .ref 123, .ref 124, .ref 125, .ref 126, .ref 127, .ref 128, .ref 129, .int ifa14, .int ifa15] := by
    refine (fs_list (n := 15) (gfa15) nfa).trans ?_
    show [fa.getD 0 (.int 0), fa.getD 1 (.int 0), fa.getD 2 (.int 0), fa.getD 3 (.int 0), fa.getD 4 (.int 0), fa.getD 5 (.int 0), fa.getD 6 (.int 0), fa.getD 7 (.int 0), fa.getD 8 (.int 0), fa.getD 9 (.int 0), fa.getD 10 (.int 0), fa.getD 11 (.int 0), fa.getD 12 (.int 0), fa.getD 13 (.int 0), fa.getD 14 (.int 0), fa.getD 15 (.int 0)] = _
    rw [gD gfa0, gD gfa1, gD gfa2, gD gfa3, gD gfa4, gD gfa5, gD gfa6, gD gfa7, gD gfa8, gD gfa9, gD gfa10, gD gfa11, gD gfa12, gD gfa13, gD gfa14, gD gfa15]
  obtain ⟨r0, er0, -⟩ := rowI T (q := 116) (show fS[116]? = some 10 by decide) (show nAT 10 = some (0, 4, .inl _) from rfl) rfl
  obtain ⟨r1, er1⟩ := rowL T (q := 117) (show fS[117]? = some 11 by decide) (show nAT 11 = some (3, 26, .inr (.inr ())) from rfl) rfl
  obtain ⟨r2, er2, -⟩ := rowI T (q := 118) (show fS[118]? = some 12 by decide) (show nAT 12 = some (0, 10, .inl _) from rfl) rfl
  obtain ⟨r3, er3, -⟩ := rowI T (q := 119) (show fS[119]? = some 13 by decide) (show nAT 13 = some (0, 10, .inl _) from rfl) rfl
  obtain ⟨r4, er4, -⟩ := rowI T (q := 120) (show fS[120]? = some 14 by decide) (show nAT 14 = some (0, 10, .inl _) from rfl) rfl
  obtain ⟨r5, er5, -⟩ := rowI T (q := 121) (show fS[121]? = some 15 by decide) (show nAT 15 = some (0, 10, .inl _) from rfl) rfl
  obtain ⟨r6, er6, -⟩ := rowI T (q := 122) (show fS[122]? = some 16 by decide) (show nAT 16 = some (0, 6, .inl _) from rfl) rfl
  obtain ⟨r7, er7, -⟩ := rowI T (q := 123) (show fS[123]? = some 17 by decide) (show nAT 17 = some (0, 6, .inl _) from rfl) rfl
  obtain ⟨r8, er8, -⟩ := rowI T (q := 124) (show fS[124]? = some 18 by decide) (show nAT 18 = some (0, 6, .inl _) from rfl) rfl
  obtain ⟨r9, er9, -⟩ := rowI T (q := 125) (show fS[125]? = some 19 by decide) (show nAT 19 = some (0, 6, .inl _) from rfl) rfl
  obtain ⟨r10, er10, -⟩ := rowI T (q := 126) (show fS[126]? = some 20 by decide) (show nAT 20 = some (0, 6, .inl _) from rfl) rfl
  obtain ⟨r11, er11, -⟩ := rowI T (q := 127) (show fS[127]? = some 21 by decide) (show nAT 21 = some (0, 6, .inl _) from rfl) rfl
  obtain ⟨r12, er12, -⟩ := rowI T (q := 128) (show fS[128]? = some 22 by decide) (show nAT 22 = some (0, 4, .inl _) from rfl) rfl
  obtain ⟨r13, er13, -⟩ := rowI T (q := 129) (show fS[129]? = some 23 by decide) (show nAT 23 = some (0, 48, .inl _) from rfl) rfl
  rw [lfa] at efa
  exact ⟨(r0, r1, r2, r3, r4, r5, r6, r7, r8, r9, r10, r11, r12, r13, ifa14, ifa15), hv_c efa (hv_c er0 (hv_c er1 (hv_c er2 (hv_c er3 (hv_c er4 (hv_c er5 (hv_c er6 (hv_c er7 (hv_c er8 (hv_c er9 (hv_c er10 (hv_c er11 (hv_c er12 (hv_c er13 (hv_0)))))))))))))))⟩
theorem pic_ho142 (T : tOk nFT nAT fS h) (H : fxOk h) (G : fyOk h) : ∃ y : Ho, hv (ho142 y) h := by
  obtain ⟨fa, efa, -⟩ := T.obj (q := 142) (t := 0) (show fS[142]? = some 0 by decide) (show oT 0 = some 0 by decide)
  obtain ⟨ifa14, gfa14⟩ := fldI (k := 14) T (show fS[142]? = some 0 by decide) (show oT 0 = some 0 by decide) efa rfl
  obtain ⟨ifa15, gfa15⟩ := fldI (k := 15) T (show fS[142]? = some 0 by decide) (show oT 0 = some 0 by decide) efa rfl
  have gfa0 : fa[0]? = some (.ref 143) := fy_at G 20 rfl efa
  have gfa1 : fa[1]? = some (.ref 144) := fy_at G 21 rfl efa
  have gfa2 : fa[2]? = some (.ref 145) := fy_at G 22 rfl efa
  have gfa3 : fa[3]? = some (.ref 146) := fy_at G 23 rfl efa
  have gfa4 : fa[4]? = some (.ref 147) := fy_at G 24 rfl efa
  have gfa5 : fa[5]? = some (.ref 148) := fy_at G 25 rfl efa
  have gfa6 : fa[6]? = some (.ref 149) := fy_at G 26 rfl efa
  have gfa7 : fa[7]? = some (.ref 150) := fy_at G 27 rfl efa
  have gfa8 : fa[8]? = some (.ref 151) := fy_at G 28 rfl efa
  have gfa9 : fa[9]? = some (.ref 152) := fy_at G 29 rfl efa
  have gfa10 : fa[10]? = some (.ref 153) := fy_at G 30 rfl efa
  have gfa11 : fa[11]? = some (.ref 154) := fy_at G 31 rfl efa
  have gfa12 : fa[12]? = some (.ref 155) := fy_at G 32 rfl efa
  have gfa13 : fa[13]? = some (.ref 156) := fy_at G 33 rfl efa
  have nfa : fa[16]? = none := fy_at G 34 rfl efa
  have lfa : fa = [.ref 143, .ref 144, .ref 145, .ref 146, .ref 147, .ref 148, .ref 149, .ref 150, .ref 151, .ref 152, .ref 153, .ref 154, .ref 155, .ref 156, .int ifa14, .int ifa15] := by
    refine (fs_list (n := 15) (gfa15) nfa).trans ?_
    show [fa.getD 0 (.int 0), fa.getD 1 (.int 0), fa.getD 2 (.int 0), fa.getD 3 (.int 0), fa.getD 4 (.int 0), fa.getD 5 (.int 0), fa.getD 6 (.int 0), fa.getD 7 (.int 0), fa.getD 8 (.int 0), fa.getD 9 (.int 0), fa.getD 10 (.int 0), fa.getD 11 (.int 0), fa.getD 12 (.int 0), fa.getD 13 (.int 0), fa.getD 14 (.int 0), fa.getD 15 (.int 0)] = _
    rw [gD gfa0, gD gfa1, gD gfa2, gD gfa3, gD gfa4, gD gfa5, gD gfa6, gD gfa7, gD gfa8, gD gfa9, gD gfa10, gD gfa11, gD gfa12, gD gfa13, gD gfa14, gD gfa15]
  obtain ⟨r0, er0, -⟩ := rowI T (q := 143) (show fS[143]? = some 10 by decide) (show nAT 10 = some (0, 4, .inl _) from rfl) rfl
  obtain ⟨r1, er1⟩ := rowL T (q := 144) (show fS[144]? = some 11 by decide) (show nAT 11 = some (3, 26, .inr (.inr ())) from rfl) rfl
  obtain ⟨r2, er2, -⟩ := rowI T (q := 145) (show fS[145]? = some 12 by decide) (show nAT 12 = some (0, 10, .inl _) from rfl) rfl
  obtain ⟨r3, er3, -⟩ := rowI T (q := 146) (show fS[146]? = some 13 by decide) (show nAT 13 = some (0, 10, .inl _) from rfl) rfl
  obtain ⟨r4, er4, -⟩ := rowI T (q := 147) (show fS[147]? = some 14 by decide) (show nAT 14 = some (0, 10, .inl _) from rfl) rfl
  obtain ⟨r5, er5, -⟩ := rowI T (q := 148) (show fS[148]? = some 15 by decide) (show nAT 15 = some (0, 10, .inl _) from rfl) rfl
  obtain ⟨r6, er6, -⟩ := rowI T (q := 149) (show fS[149]? = some 16 by decide) (show nAT 16 = some (0, 6, .inl _) from rfl) rfl
  obtain ⟨r7, er7, -⟩ := rowI T (q := 150) (show fS[150]? = some 17 by decide) (show nAT 17 = some (0, 6, .inl _) from rfl) rfl
  obtain ⟨r8, er8, -⟩ := rowI T (q := 151) (show fS[151]? = some 18 by decide) (show nAT 18 = some (0, 6, .inl _) from rfl) rfl
  obtain ⟨r9, er9, -⟩ := rowI T (q := 152) (show fS[152]? = some 19 by decide) (show nAT 19 = some (0, 6, .inl _) from rfl) rfl
  obtain ⟨r10, er10, -⟩ := rowI T (q := 153) (show fS[153]? = some 20 by decide) (show nAT 20 = some (0, 6, .inl _) from rfl) rfl
  obtain ⟨r11, er11, -⟩ := rowI T (q := 154) (show fS[154]? = some 21 by decide) (show nAT 21 = some (0, 6, .inl _) from rfl) rfl
  obtain ⟨r12, er12, -⟩ := rowI T (q := 155) (show fS[155]? = some 22 by decide) (show nAT 22 = some (0, 4, .inl _) from rfl) rfl
  obtain ⟨r13, er13, -⟩ := rowI T (q := 156) (show fS[156]? = some 23 by decide) (show nAT 23 = some (0, 48, .inl _) from rfl) rfl
  rw [lfa] at efa
  exact ⟨(r0, r1, r2, r3, r4, r5, r6, r7, r8, r9, r10, r11, r12, r13, ifa14, ifa15), hv_c efa (hv_c er0 (hv_c er1 (hv_c er2 (hv_c er3 (hv_c er4 (hv_c er5 (hv_c er6 (hv_c er7 (hv_c er8 (hv_c er9 (hv_c er10 (hv_c er11 (hv_c er12 (hv_c er13 (hv_0)))))))))))))))⟩
theorem pic_sl (T : tOk nFT nAT fS h) (H : fxOk h) (G : fyOk h) : ∃ (u : Nat → Value) (p3 p4 : Int32), hv (slI u) h ∧ hv (paP u p3 p4) h := by
  obtain ⟨fa, efa, -⟩ := T.obj (q := 0) (t := 8) (show fS[0]? = some 8 by decide) (show oT 8 = some 8 by decide)
  obtain ⟨ifa16, gfa16⟩ := fldI (k := 16) T (show fS[0]? = some 8 by decide) (show oT 8 = some 8 by decide) efa rfl
  have gfa1 : fa[1]? = some (.ref 7) := fx_at H (List.mem_of_getElem? (show FX[1]? = some _ from rfl)) efa
  have gfa3 : fa[3]? = some (.ref 37) := fx_at H (List.mem_of_getElem? (show FX[3]? = some _ from rfl)) efa
  have gfa5 : fa[5]? = some (.ref 49) := fx_at H (List.mem_of_getElem? (show FX[4]? = some _ from rfl)) efa
  have gfa8 : fa[8]? = some (.ref 63) := fx_at H (List.mem_of_getElem? (show FX[5]? = some _ from rfl)) efa
  have gfa9 : fa[9]? = some (.ref 113) := fy_at G 0 rfl efa
  have nfa : fa[17]? = none := fx_at H (List.mem_of_getElem? (show FX[6]? = some _ from rfl)) efa
  have lfa : fa = [fa.getD 0 (.int 0), .ref 7, fa.getD 2 (.int 0), .ref 37, fa.getD 4 (.int 0), .ref 49, fa.getD 6 (.int 0), fa.getD 7 (.int 0), .ref 63, .ref 113, fa.getD 10 (.int 0), fa.getD 11 (.int 0), fa.getD 12 (.int 0), fa.getD 13 (.int 0), fa.getD 14 (.int 0), fa.getD 15 (.int 0), fa.getD 16 (.int 0)] := by
    refine (fs_list (n := 16) (gfa16) nfa).trans ?_
    show [fa.getD 0 (.int 0), fa.getD 1 (.int 0), fa.getD 2 (.int 0), fa.getD 3 (.int 0), fa.getD 4 (.int 0), fa.getD 5 (.int 0), fa.getD 6 (.int 0), fa.getD 7 (.int 0), fa.getD 8 (.int 0), fa.getD 9 (.int 0), fa.getD 10 (.int 0), fa.getD 11 (.int 0), fa.getD 12 (.int 0), fa.getD 13 (.int 0), fa.getD 14 (.int 0), fa.getD 15 (.int 0), fa.getD 16 (.int 0)] = _
    rw [gD gfa1, gD gfa3, gD gfa5, gD gfa8, gD gfa9]
  obtain ⟨fb, efb, -⟩ := T.obj (q := 63) (t := 3) (show fS[63]? = some 3 by decide) (show oT 3 = some 3 by decide)
  obtain ⟨ifb1, gfb1⟩ := fldI (k := 1) T (show fS[63]? = some 3 by decide) (show oT 3 = some 3 by decide) efb rfl
  obtain ⟨ifb2, gfb2⟩ := fldI (k := 2) T (show fS[63]? = some 3 by decide) (show oT 3 = some 3 by decide) efb rfl
  have nfb : fb[3]? = none := fx_at H (List.mem_of_getElem? (show FX[50]? = some _ from rfl)) efb
  have lfb : fb = [fb.getD 0 (.int 0), .int ifb1, .int ifb2] := by
    refine (fs_list (n := 2) (gfb2) nfb).trans ?_
    show [fb.getD 0 (.int 0), fb.getD 1 (.int 0), fb.getD 2 (.int 0)] = _
    rw [gD gfb1, gD gfb2]
  rw [lfa] at efa
  rw [lfb] at efb
  exact ⟨fun k => if k = 24 then fb.getD 0 (.int 0) else fa.getD k (.int 0), ifb1, ifb2, hv_c efa hv_0, hv_c efb hv_0⟩
theorem pic_im0 (T : tOk nFT nAT fS h) (G : fyOk h) : ∃ kp : Int32, hv (im0 kp) h := by
  obtain ⟨fa, efa, -⟩ := T.obj (q := 114) (t := 1) (show fS[114]? = some 1 by decide) (show oT 1 = some 1 by decide)
  obtain ⟨ifa3, gfa3⟩ := fldI (k := 3) T (show fS[114]? = some 1 by decide) (show oT 1 = some 1 by decide) efa rfl
  have gfa0 : fa[0]? = some (.ref 115) := fy_at G 57 rfl efa
  have gfa1 : fa[1]? = some (.ref 130) := fy_at G 58 rfl efa
  have gfa2 : fa[2]? = some (.ref 136) := fy_at G 59 rfl efa
  have nfa : fa[4]? = none := fy_at G 60 rfl efa
  have lfa : fa = [.ref 115, .ref 130, .ref 136, .int ifa3] := by
    refine (fs_list (n := 3) (gfa3) nfa).trans ?_
    show [fa.getD 0 (.int 0), fa.getD 1 (.int 0), fa.getD 2 (.int 0), fa.getD 3 (.int 0)] = _
    rw [gD gfa0, gD gfa1, gD gfa2, gD gfa3]
  rw [lfa] at efa
  exact ⟨ifa3, hv_c efa hv_0⟩
theorem pic_im1 (T : tOk nFT nAT fS h) (G : fyOk h) : ∃ kp : Int32, hv (im1 kp) h := by
  obtain ⟨fa, efa, -⟩ := T.obj (q := 141) (t := 1) (show fS[141]? = some 1 by decide) (show oT 1 = some 1 by decide)
  obtain ⟨ifa3, gfa3⟩ := fldI (k := 3) T (show fS[141]? = some 1 by decide) (show oT 1 = some 1 by decide) efa rfl
  have gfa0 : fa[0]? = some (.ref 142) := fy_at G 61 rfl efa
  have gfa1 : fa[1]? = some (.ref 157) := fy_at G 62 rfl efa
  have gfa2 : fa[2]? = some (.ref 163) := fy_at G 63 rfl efa
  have nfa : fa[4]? = none := fy_at G 64 rfl efa
  have lfa : fa = [.ref 142, .ref 157, .ref 163, .int ifa3] := by
    refine (fs_list (n := 3) (gfa3) nfa).trans ?_
    show [fa.getD 0 (.int 0), fa.getD 1 (.int 0), fa.getD 2 (.int 0), fa.getD 3 (.int 0)] = _
    rw [gD gfa0, gD gfa1, gD gfa2, gD gfa3]
  rw [lfa] at efa
  exact ⟨ifa3, hv_c efa hv_0⟩
/-- the reference's fields that hold its images -/
theorem oK_of {h : List nC} (G : fyOk h) {o : Nat → Value} {thr len sz lim : Int32} {X : Lx} {flt fat got lns crs : Int32} {b hh : Nat → Int32} {nms rsv : Nat → Int64} {s : Nat → Int32} (hp : hv (rfS o thr len sz lim X flt fat got lns crs b hh nms rsv s) h) : (fun k => if k = 45 then .ref 192 else if k = 46 then .ref 193 else if k = 47 then .ref 194 else o k) = o := by
  have e := lg_hv (q := 175) hp rfl
  have a5 : some (o 45) = some (.ref 192) := fy_at G 65 rfl e
  have a6 : some (o 46) = some (.ref 193) := fy_at G 66 rfl e
  have a7 : some (o 47) = some (.ref 194) := fy_at G 67 rfl e
  funext k
  by_cases c5 : k = 45
  · rw [if_pos c5, c5]; exact (Option.some.inj a5).symm
  · rw [if_neg c5]
    by_cases c6 : k = 46
    · rw [if_pos c6, c6]; exact (Option.some.inj a6).symm
    · rw [if_neg c6]
      by_cases c7 : k = 47
      · rw [if_pos c7, c7]; exact (Option.some.inj a7).symm
      · rw [if_neg c7]
end PIC2
