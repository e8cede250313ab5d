/-! the faults on both sides -/
section PIC5
variable {h : List nC}
theorem pic_sc59 (T : tOk nFT nAT fS h) (H : fxOk h) (G : fyOk h) : ∃ p : Sc, hv (sc59 p) h := by
  obtain ⟨fa, efa, -⟩ := T.obj (q := 59) (t := 6) (show fS[59]? = some 6 by decide) (show oT 6 = some 6 by decide)
  obtain ⟨ifa3, gfa3⟩ := fldI (k := 3) T (show fS[59]? = some 6 by decide) (show oT 6 = some 6 by decide) efa rfl
  obtain ⟨ifa4, gfa4⟩ := fldI (k := 4) T (show fS[59]? = some 6 by decide) (show oT 6 = some 6 by decide) efa rfl
  have gfa0 : fa[0]? = some (.ref 60) := fy_at G 77 rfl efa
  have gfa1 : fa[1]? = some (.ref 61) := fy_at G 78 rfl efa
  have gfa2 : fa[2]? = some (.ref 62) := fy_at G 79 rfl efa
  have nfa : fa[5]? = none := fy_at G 76 rfl efa
  have lfa : fa = [.ref 60, .ref 61, .ref 62, .int ifa3, .int ifa4] := by
    refine (fs_list (n := 4) (gfa4) nfa).trans ?_
    show [fa.getD 0 (.int 0), fa.getD 1 (.int 0), fa.getD 2 (.int 0), fa.getD 3 (.int 0), fa.getD 4 (.int 0)] = _
    rw [gD gfa0, gD gfa1, gD gfa2, gD gfa3, gD gfa4]
  obtain ⟨r0, er0, -⟩ := rowI T (q := 60) (show fS[60]? = some 38 by decide) (show nAT 38 = some (0, 40, .inl _) from rfl) rfl
  obtain ⟨r1, er1, -⟩ := rowI T (q := 61) (show fS[61]? = some 39 by decide) (show nAT 39 = some (0, 40, .inl _) from rfl) rfl
  obtain ⟨r2, er2, -⟩ := rowI T (q := 62) (show fS[62]? = some 40 by decide) (show nAT 40 = some (0, 40, .inl _) from rfl) rfl
  rw [lfa] at efa
  exact ⟨(r0, r1, r2, ifa3, ifa4), hv_c efa (hv_c er0 (hv_c er1 (hv_c er2 (hv_0))))⟩
theorem u7_of (G : fyOk h) {u : Nat → Value} {lf : Int32} (hp : hv (slP u lf) h) : (fun j9 => if j9 = 7 then .ref 59 else u j9) = u := by
  have e := lg_hv (q := 0) hp rfl
  have a7 : some (u 7) = some (.ref 59) := fy_at G 75 rfl e
  funext k
  by_cases c : k = 7
  · rw [if_pos c, c]; exact (Option.some.inj a7).symm
  · rw [if_neg c]
theorem o35_of (T : tOk nFT nAT fS h) {o : Nat → Value} {thr len sz lim : Int32} {X : Lx} {flt fat got lns crs : Int32} {b hh : Nat → Int32} {nms rsv : Nat → Int64} {s : Nat → Int32} (hp : hv (rfS o thr len sz lim X flt fat got lns crs b hh nms rsv s) h) : ∃ c35 : Int32, (fun j9 => if j9 = 35 then .int c35 else o j9) = o := by
  have e := lg_hv (q := 175) hp rfl
  obtain ⟨c35, g35⟩ := fldI (k := 35) T (show fS[175]? = some 9 by decide) (show oT 9 = some 9 by decide) e rfl
  have a35 : some (o 35) = some (.int c35) := g35
  refine ⟨c35, ?_⟩
  funext k
  by_cases c : k = 35
  · rw [if_pos c, c]; exact (Option.some.inj a35).symm
  · rw [if_neg c]
end PIC5
def ok8 : List Nat := [1, 2, 3, 4, 5, 6, 7, 8, 9, 10, 11, 12, 13, 14, 15, 16, 17, 18, 19, 20, 22, 23, 24, 25, 26, 27, 28, 29, 30, 31, 32, 33, 34, 35, 36, 37, 38, 39, 40, 41, 42, 43, 44, 45, 46, 47, 49, 50, 51, 52, 53, 54, 55, 56, 57, 58, 59, 60, 61, 62, 63, 64, 65, 66, 67, 68, 69, 70, 71, 72, 73, 74, 75, 76, 77, 78, 79, 80, 81, 82, 83, 84, 85, 86, 87, 88, 89, 90, 91, 92, 93, 94, 95, 96, 97, 98, 99, 100, 101, 102, 103, 104, 105, 106, 107, 108, 109, 110, 111, 112, 113, 114, 115, 116, 117, 118, 119, 120, 121, 122, 123, 124, 126, 127, 128, 129, 130, 131, 132, 133, 134, 135, 137, 138, 139, 140, 141, 142, 143, 144, 145, 146, 147, 148, 149, 150, 151, 152, 153, 154, 155, 156, 157, 158, 159, 160, 161, 162, 163, 164, 165, 166, 167, 168, 169, 170, 171, 172, 173, 174, 175, 176, 177, 178, 179, 180, 181, 182, 183, 184, 185, 186, 187, 188, 189, 190, 191, 192, 193, 194, 195, 196, 197, 198, 199, 200, 201, 202, 203, 204, 205, 206, 207, 208, 209, 210, 211, 212, 213, 214, 215, 216, 217, 218, 219, 220, 221, 222, 223, 224, 225, 226, 227, 228, 229, 230, 231, 232, 233, 234, 235, 236, 237, 238, 239, 240, 241, 242, 243, 244, 245, 246, 247, 248, 249, 250, 251, 252, 253, 254, 255, 256, 257, 258, 259, 260, 261, 262, 263, 264]
def ok9 : List Nat := [0, 1, 2, 3, 4, 5, 6, 7, 8, 9, 10, 11, 12, 13, 14, 15, 16, 17, 18, 19, 20, 21, 22, 23, 24, 25, 26, 27, 28, 29, 30, 31, 32, 33, 34, 35, 36, 37, 38, 39, 40, 41, 42, 43, 44, 45, 46, 47, 48, 49, 50, 51, 52, 53, 54, 55, 56, 57, 58, 59, 60, 61, 62, 63, 64, 65, 66, 67, 68, 69, 70, 71, 72, 73, 74, 75, 76, 77, 78, 79, 80, 81, 82, 83, 84, 85, 86, 87, 88, 89, 90, 91, 92, 93, 94, 95, 96, 97, 98, 99, 100, 101, 102, 103, 104, 105, 106, 107, 108, 109, 110, 111, 112, 113, 114, 115, 116, 117, 118, 119, 120, 121, 122, 123, 124, 125, 126, 127, 128, 129, 130, 131, 132, 133, 134, 135, 136, 137, 138, 139, 140, 141, 142, 143, 144, 145, 146, 147, 148, 149, 150, 151, 152, 153, 154, 155, 156, 157, 158, 159, 160, 162, 163, 164, 165, 166, 168, 171, 172, 176, 182, 183, 185, 186, 187, 188, 189, 190, 191, 192, 193, 194, 195, 196, 197, 198, 199, 200, 201, 202, 203, 204, 205, 206, 207, 208, 209, 210, 211, 212, 213, 214, 215, 216, 217, 218, 219, 220, 221, 222, 223, 224, 225, 226, 227, 228, 229, 230, 231, 232, 233, 234, 235, 236, 237, 238, 239, 240, 241, 242, 243, 244, 245, 246, 249, 250, 252, 253, 254, 257, 258, 259, 260, 261, 262, 263, 264]
set_option maxRecDepth 100000 in
theorem ok8_ok : okL 8 14 ok8 nj_ms = true := by decide +kernel
set_option maxRecDepth 100000 in
theorem ok9_ok : okL 9 15 ok9 nj_ms = true := by decide +kernel
def fC (v : Int32) (h : List nC) : Prop := ∃ fs : List Value, h[(0 : Nat)]? = some (.inr (8, fs)) ∧ fs[14]? = some (.int v)
def fM (v : Int32) (h : List nC) : Prop := ∃ fs : List Value, h[(175 : Nat)]? = some (.inr (9, fs)) ∧ fs[15]? = some (.int v)
/-- what a sentence's text says; what a chronicle's text says -/
def sR (b : Nat → Int32) (n : Nat) (N : N4) : Rs Nat := sSen (tk b n 200) (N, ([], [], [], []), [], []) (decide (200 < n))
def cR (b : Nat → Int32) (n : Nat) (N : N4) : Rs Nat := cCh (tk b n 400) N (decide (400 < n)) 42 0 0
def chV (b : Nat → Int32) (n : Nat) (N : N4) (u v : Int32) : Int32 := if u = Int32.ofInt 0 ∨ u = Int32.ofInt 1 then Int32.ofNat (rK (cR b n N)) else v
theorem u_in {u : Int32} (hu : ¬ (u = Int32.ofInt 0 ∨ u = Int32.ofInt 1)) : (!nj_cmp .lt u (Int32.ofInt 0) && !nj_cmp .gt u (Int32.ofInt 1)) = false := by
  have z0 : (Int32.ofInt 0).toInt = 0 := rfl
  have z1 : (Int32.ofInt 1).toInt = 1 := rfl
  have c0 : nj_cmp .lt u (Int32.ofInt 0) = decide (u.toInt < 0) := decide_eq_decide.mpr (by rw [Int32.lt_iff_toInt_lt, z0])
  have c1 : nj_cmp .gt u (Int32.ofInt 1) = decide (1 < u.toInt) := decide_eq_decide.mpr (by rw [Int32.lt_iff_toInt_lt, z1])
  rw [c0, c1]
  by_cases a : u.toInt < 0
  · rw [decide_eq_true a]
    rfl
  · by_cases b : 1 < u.toInt
    · rw [decide_eq_true b, decide_eq_false a]
      rfl
    · exfalso
      rcases (show u.toInt = 0 ∨ u.toInt = 1 by omega) with e | e
      · exact hu (Or.inl (Int32.toInt_inj.mp (e.trans z0.symm)))
      · exact hu (Or.inr (Int32.toInt_inj.mp (e.trans z1.symm)))
section FLT
variable {X : nX} {L : Nat} {xs : Nat → Int32} {g d n nc nm : Nat} {b bc bm : Nat → Int32} {h h1 : List nC} {z y0 y1 : Ho} {k0 k1 v w : Int32} {s kp : Sn} {ak : Nat → Int32} {N : N4} {mf : List (Nat × Nat)} {ma : List Nat}
theorem fC_h (A : fC v h) (F : hF 8 14 h h1) : fC v h1 := by
  obtain ⟨fs, e1, e2⟩ := A
  obtain ⟨f1, e3, e4⟩ := F 0 fs e1
  exact ⟨f1, e3, e4.trans e2⟩
theorem fM_h (A : fM v h) (F : hF 9 15 h h1) : fM v h1 := by
  obtain ⟨fs, e1, e2⟩ := A
  obtain ⟨f1, e3, e4⟩ := F 175 fs e1
  exact ⟨f1, e3, e4.trans e2⟩
theorem fC_fr (A : fC v h) (F : nFr mf ma fS h h1) (hm : mf.elem (8, 14) = false) : fC v h1 := by
  obtain ⟨fs, e1, e2⟩ := A
  obtain ⟨f1, e3, e4⟩ := (F 0 8 (by decide)).1 ⟨8, rfl⟩ 8 fs e1
  refine ⟨f1, e3, ?_⟩
  have e5 := e4 14 (fun m => by rw [List.elem_eq_true_of_mem m] at hm; cases hm)
  rw [nFd_lo (by decide), nFd_lo (by decide)] at e5
  exact e5.trans e2
theorem fM_fr (A : fM v h) (F : nFr mf ma fS h h1) (hm : mf.elem (9, 15) = false) : fM v h1 := by
  obtain ⟨fs, e1, e2⟩ := A
  obtain ⟨f1, e3, e4⟩ := (F 175 9 (by decide)).1 ⟨9, rfl⟩ 9 fs e1
  refine ⟨f1, e3, ?_⟩
  have e5 := e4 15 (fun m => by rw [List.elem_eq_true_of_mem m] at hm; cases hm)
  rw [nFd_lo (by decide), nFd_lo (by decide)] at e5
  exact e5.trans e2
/-- a call that tells no fault -/
theorem xKeep {mt : nM} {Q : Option Value → List nC → Prop} {pc : Nat} {lv : nLv} {st : List Value} (A : fC v h) (B : fM w h) (h8 : mt.2.2.2.2.2.all (okE 8 14 ok8 0) = true) (h9 : mt.2.2.2.2.2.all (okE 9 15 ok9 0) = true) (q : nT nj_M X L xs g d mt Q pc lv st h) : nT nj_M X L xs g d mt (fun rv h1 => Q rv h1 ∧ fC v h1 ∧ fM w h1) pc lv st h := by
  refine nT.mono ?_ (nT_hF ok9_ok h9 (nT_hF ok8_ok h8 q))
  rintro rv h1 ⟨⟨a, f8⟩, f9⟩
  exact ⟨a, fC_h A f8, fM_h B f9⟩
set_option maxHeartbeats 2000000 in
theorem fFamS (hd : 6 ≤ d) (hn : n ≤ 940) (I : lwY n n b b z y0 y1 k0 k1 s kp ak h) : nT nj_M nX0 L xs 0 d nm_21 (fun rv h1 => fC (Int32.ofNat (rK (fR b n))) h1) 0 (lv_args 0 [.ref 0]) [] h := by
  obtain ⟨d1, rfl⟩ : ∃ d1, d = d1 + 6 := ⟨d - 6, by omega⟩
  have T := I.1.1.1.2.1
  obtain ⟨u9, lf, b1, kd, pl, vl, ky, tok, cur, tak, tl, fk, fp, y, zd, x, p1, p2, p3, p4, hky, hb1, hpic⟩ := pic_c T I.1.2.1 I.1.2.2 I.1.1.2.2.1
  rw [ofI_n] at hpic
  obtain ⟨mz, hM0, ks⟩ := c_family (L := L) (xs := xs) (d := d1) (u := u9) (lf := lf) (b := b1) (kd := kd) (pl := pl) (vl := vl) (ky := ky) (tok := tok) (cur := cur) (tak := tak) (tl := tl) (fk := fk) (fp := fp) (y := y) (z := zd) (x := x) (p1 := p1) (p2 := p2) (p3 := p3) (p4 := p4) hn hky
  have hM2 : nj_M 21 = some nm_21 := rfl
  cases hM0.symm.trans hM2
  refine nT.mono ?_ (ks h hpic)
  rintro rv h1 ⟨l1, ⟨e1, kd1, pl1, vl1, tok1, cur1, tak1, fp1, z1, hP⟩, hk1, hv1, fr1⟩
  have hR : fR b n = sFam (tk b1 n 900) (decide (900 < n)) 901 0 Hs0 0 := by
    unfold fR
    rw [tk_cg (f := b1) (g := b) (fun j hj => hb1 j (by omega))]
  rcases hP with ⟨e, p, hr, rfl⟩ | ⟨H, ln, g2, g3, hr, -, -, -, -, rfl⟩
  · have et := lg_hv (q := 0) hv1 rfl
    rw [hR, hr]
    exact ⟨_, et, rfl⟩
  · have et := lg_hv (q := 0) hv1 rfl
    rw [hR, hr]
    exact ⟨_, et, rfl⟩
set_option maxHeartbeats 2000000 in
theorem fFamM (hd : 6 ≤ d) (hn : n ≤ 940) (I : lwY nc n bc b z y0 y1 k0 k1 s kp ak h) : nT nj_M nX0 L xs 0 d nm_161 (fun rv h1 => fM (Int32.ofNat (rK (fR b n))) h1) 0 (lv_args 0 [.ref 175]) [] h := by
  obtain ⟨d1, rfl⟩ : ∃ d1, d = d1 + 6 := ⟨d - 6, by omega⟩
  have T := I.1.1.1.2.1
  obtain ⟨o, thr, sz, lim, Y, flt, fat, got, lns, crs, b1, hh, nms, rsv, s1, hrs, hb1, hby, hpic⟩ := pic_r T I.1.2.1 I.1.2.2 I.1.1.2.2.2
  rw [ofI_n] at hpic
  obtain ⟨mz, hM0, ks⟩ := k_family (L := L) (xs := xs) (d := d1) (o := o) (thr := thr) (sz := sz) (lim := lim) (X := Y) (flt := flt) (fat := fat) (got := got) (lns := lns) (crs := crs) (b := b1) (hh := hh) (nms := nms) (rsv := rsv) (s := s1) hn hby hrs
  have hM2 : nj_M 161 = some nm_161 := rfl
  cases hM0.symm.trans hM2
  refine nT.mono ?_ (ks h hpic)
  rintro rv h1 ⟨l1, ⟨o1, X1, fat1, got1, lns1, crs1, hh1, nms1, s2, e1, hP⟩, hk1, hv1, fr1⟩
  have hR : fR b n = sFam (tk b1 n 900) (decide (900 < n)) 901 0 Hs0 0 := by
    unfold fR
    rw [tk_cg (f := b1) (g := b) (fun j hj => hb1 j (by omega))]
  rcases hP with ⟨e, p, hr, es2, en2, rfl⟩ | ⟨H, ln, nmsB, hr, hH, hn1, -, hs, rfl⟩
  · have et := lg_hv (q := 175) hv1 rfl
    rw [hR, hr]
    exact ⟨_, et, rfl⟩
  · have et := lg_hv (q := 175) hv1 rfl
    rw [hR, hr]
    exact ⟨_, et, rfl⟩
set_option maxHeartbeats 2000000 in
theorem fSenS (hd : 29 ≤ d) (hn : n ≤ 940) (I : lwY n n b b z y0 y1 k0 k1 s kp ak h) (n1 : nmOk N) (n2 : nmR z.2.1 (nsl N)) : nT nj_M nX0 L xs 0 d nm_136 (fun rv h1 => fC (Int32.ofNat (rK (sR b n N))) h1) 0 (lv_args 0 [.ref 0]) [] h := by
  obtain ⟨d1, rfl⟩ : ∃ d1, d = d1 + 29 := ⟨d - 29, by omega⟩
  have T := I.1.1.1.2.1
  obtain ⟨u9, lf, b1, kd, pl, vl, ky, tok, cur, tak, tl, fk, fp, y, zd, x, p1, p2, p3, p4, hky, hb1, hpic⟩ := pic_c T I.1.2.1 I.1.2.2 I.1.1.2.2.1
  have hyz := ho_inj (hv_l (hv_r (hv_r hpic))) I.2.2.1.1
  rw [ofI_n, hyz] at hpic
  obtain ⟨P, q1⟩ := pic_ph54 T I.1.2.1 I.2.1
  obtain ⟨r, q2⟩ := pic_ph49 T I.1.2.1 I.2.1
  have s0 := hv_l hpic
  have eu := uS_of I.2.1 s0
  rw [← eu] at s0
  obtain ⟨mz, hM0, ks⟩ := c_sentence (L := L) (xs := xs) (d := d1) (u := u9) (lf := lf) (b := b1) (kd := kd) (pl := pl) (vl := vl) (ky := ky) (tok := tok) (cur := cur) (tak := tak) (tl := tl) (fk := fk) (fp := fp) (z := z) (P := P) (r := r) (H := (N, ([], [], [], []), [], [])) hn hky n1 n2
  have hM2 : nj_M 136 = some nm_136 := rfl
  cases hM0.symm.trans hM2
  refine nT.mono ?_ (ks h (hv_a s0 (hv_a (hv_a (hv_a (hv_l (hv_r hpic)) (hv_l (hv_r (hv_r hpic)))) q1) q2)))
  rintro rv h1 ⟨l1, ⟨e1, kd1, pl1, vl1, lf1, tok1, cur1, tak1, tl1, fk1, fp1, P1, r1, rfl, rfl⟩, hk1, hv1, fr1⟩
  have et := lg_hv (q := 0) hv1 rfl
  have hR : sR b n N = sSen (tk b1 n 200) (N, ([], [], [], []), [], []) (decide (200 < n)) := by
    unfold sR
    rw [tk_cg (f := b1) (g := b) (fun j hj => hb1 j (by omega))]
  rw [hR]
  exact ⟨_, et, rfl⟩
set_option maxHeartbeats 2000000 in
theorem fSenM (hd : 3 ≤ d) (hn : n ≤ 940) (I : lwY nc n bc b z y0 y1 k0 k1 s kp ak h) (n1 : nmOk N) (n2 : cnQ s.1 N) (n3 : nmZ s.2 N) : nT nj_M nX0 L xs 0 d nm_251 (fun rv h1 => fM (Int32.ofNat (rK (sR b n N))) h1) 0 (lv_args 0 [.ref 175]) [] h := by
  obtain ⟨d1, rfl⟩ : ∃ d1, d = d1 + 3 := ⟨d - 3, by omega⟩
  have T := I.1.1.1.2.1
  obtain ⟨o, thr, sz, lim, Y, flt, fat, got, lns, crs, b1, hh, nms, rsv, s1, hrs, hb1, hby, hpic⟩ := pic_r T I.1.2.1 I.1.2.2 I.1.1.2.2.2
  rw [ofI_n] at hpic
  obtain ⟨⟨s3, e3, h3⟩, m2, m3, ⟨n4, e5, h5⟩, m6⟩ := id I.2.2.2
  have es : s1 = s3 := celI ((lg_hv (q := 177) hpic rfl).symm.trans e3)
  have en : nms = n4 := celL ((lg_hv (q := 180) hpic rfl).symm.trans e5)
  obtain ⟨c39, c40, c41, c42, c43, eo⟩ := oS_of T I.2.1 hpic
  obtain ⟨cd, e179, -⟩ := rowI T (q := 179) (show fS[179]? = some 52 by decide) (show nAT 52 = some (0, 135, .inl _) from rfl) rfl
  obtain ⟨st, e190, -⟩ := rowI T (q := 190) (show fS[190]? = some 63 by decide) (show nAT 63 = some (0, 45, .inl _) from rfl) rfl
  have hp0 := hv_l hpic
  rw [← eo] at hp0
  have l2 := n1.2.1
  have l3 := n1.2.2.1
  have hnm : ∀ i, i < 26 → nms i = s.2 i := fun i hi => by rw [en]; exact h5 i hi
  obtain ⟨mz, hM0, ks⟩ := k_sentence (L := L) (xs := xs) (d := d1) (o := o) (thr := thr) (sz := sz) (lim := lim) (X := Y) (flt := flt) (fat := fat) (got := got) (lns := lns) (crs := crs) (b := b1) (hh := hh) (nms := nms) (rsv := rsv) (s := s1) (cd := cd) (st := st) (c39 := c39) (c40 := c40) (c41 := c41) (c42 := c42) (c43 := c43) (H := (N, ([], [], [], []), [], [])) hn hby hrs (by show 16 + N.2.2.1.length ≤ 52; omega) (nmF_cg (ns := N.2.2.1) n3.2.1 (by omega) hnm) (fun w hw => n1.2.2.2.2.2 w (alln_mem.mpr (Or.inr (Or.inr (Or.inl hw))))) (by rw [es]; exact (h3 2 (by decide)).trans n2.2.2.1) (by show 6 + N.2.1.length ≤ 52; omega) (nmF_cg (ns := N.2.1) n3.1 (by omega) hnm) (fun w hw => n1.2.2.2.2.2 w (alln_mem.mpr (Or.inr (Or.inl hw)))) (by rw [es]; exact (h3 1 (by decide)).trans n2.2.1)
  have hM2 : nj_M 251 = some nm_251 := rfl
  cases hM0.symm.trans hM2
  refine nT.mono ?_ (ks h (hv_a hp0 (hv_c e179 (hv_c e190 (hv_r hpic)))))
  rintro rv h1 ⟨l1, ⟨e1, X1, flt1, fat1, got1, x39, x40, x41, x42, x43, cd1, st1, s2, rfl, hs2, rfl⟩, hk1, hv1, fr1⟩
  have et := lg_hv (q := 175) hv1 rfl
  have hR : sR b n N = sSen (tk b1 n 200) (N, ([], [], [], []), [], []) (decide (200 < n)) := by
    unfold sR
    rw [tk_cg (f := b1) (g := b) (fun j hj => hb1 j (by omega))]
  rw [hR]
  exact ⟨_, et, rfl⟩
set_option maxHeartbeats 4000000 in
theorem fChrS (hd : 8 ≤ d) (hn : n ≤ 940) (I : lwY n n b b z y0 y1 k0 k1 s kp ak h) (A : fC v h) (n1 : nmOk N) (n2 : nmR z.2.1 (nsl N)) (u : Int32) : nT nj_M nX0 L xs 0 d nm_125 (fun rv h1 => fC (chV b n N u v) h1) 0 (lv_args 0 [.ref 0, .int u]) [] h := by
  unfold chV
  by_cases hu : u = Int32.ofInt 0 ∨ u = Int32.ofInt 1
  · rw [if_pos hu]
    obtain ⟨nn, rv2, h2, er2, -⟩ := yChrS (X := nX0) (L := L) (xs := xs) (g := 0) hd hn I u
    obtain ⟨d1, rfl⟩ : ∃ d1, d = d1 + 5 := ⟨d - 5, by omega⟩
    have T := I.1.1.1.2.1
    obtain ⟨u9, lf, b1, kd, pl, vl, ky, tok, cur, tak, tl, fk, fp, y, zd, x, p1, p2, p3, p4, hky, hb1, hpic⟩ := pic_c T I.1.2.1 I.1.2.2 I.1.1.2.2.1
    have hyz := ho_inj (hv_l (hv_r (hv_r hpic))) I.2.2.1.1
    rw [ofI_n, hyz] at hpic
    obtain ⟨Q, q1⟩ := pic_sc59 T I.1.2.1 I.2.1
    have s0 := hv_l hpic
    have eu := u7_of I.2.1 s0
    rw [← eu] at s0
    have hp := hv_a s0 (hv_a (hv_a (hv_l (hv_r hpic)) (hv_l (hv_r (hv_r hpic)))) q1)
    have ecg : cR b n N = cCh (tk b1 n 400) N (decide (400 < n)) 42 0 0 := by
      unfold cR
      rw [tk_cg (f := b1) (g := b) (fun j hj => hb1 j (by omega))]
    cases hR : cCh (tk b1 n 400) N (decide (400 < n)) 42 0 0 with
    | inl e =>
      obtain ⟨e0, pl0⟩ := e
      rw [ecg, hR]
      have k1 := cch_f (L := L) (xs := xs) (d := d1) (u9 := u9) (lf := lf) (b := b1) (kd := kd) (pl := pl) (vl := vl) (ky := ky) (tok := tok) (cur := cur) (tak := tak) (tl := tl) (fk := fk) (fp := fp) (z := z) (Q := Q) hn hky n1 n2 hR rfl hu h
      refine nT.mono ?_ (k1 rfl h hp fr.rf)
      rintro rv h1 ⟨l1, ⟨-, kd1, pl1, vl1, tok1, cur1, tak1, tl1, fk1, fp1, Q1, rfl⟩, hk1, hv1, fr1⟩
      have et := lg_hv (q := 0) hv1 rfl
      exact ⟨_, et, rfl⟩
    | inr e =>
      obtain ⟨qe, ke⟩ := e
      rw [ecg, hR]
      have k1 := cch_g (L := L) (xs := xs) (d := d1) (u9 := u9) (lf := lf) (b := b1) (kd := kd) (pl := pl) (vl := vl) (ky := ky) (tok := tok) (cur := cur) (tak := tak) (tl := tl) (fk := fk) (fp := fp) (z := z) (Q := Q) hn hky n1 n2 hR rfl hu h
      obtain ⟨n5, rv1, hm, er, l1, ⟨-, kd1, pl1, vl1, tok1, cur1, tak1, tl1, fk1, fp1, Q1, rfl⟩, hk1, hv1, fr1⟩ := k1 rfl h hp fr.rf
      obtain ⟨n3, lv1, g3, g4, mc3, ms3, er3⟩ := nvV_run (mt := nm_125) (pT := 48) (by decide +kernel) _ _ _ _ _ _ _ _ _ er _ _ _ _ _ _ er2
      have F := run_fr ok8_ok _ _ _ _ _ _ _ _ _ _ _ _ _ 48 (by decide +kernel) (Nat.le_refl 48) er3
      have et := lg_hv (q := 0) hv1 rfl
      exact ⟨nn, rv2, h2, er2, fC_h ⟨_, et, rfl⟩ F⟩
  · rw [if_neg hu]
    have c0 : nj_cmp .eq u 0 = false := decide_eq_false (fun e => hu (Or.inl e))
    have c1 : nj_cmp .eq u (Int32.ofInt 1) = false := decide_eq_false (fun e => hu (Or.inr e))
    have k1 : kT nj_M nX0 L xs d nm_125 (mQ [] (fun rv l => (∃ y : Int32, rv = some (.int y)) ∧ l = []) h) (hk []) h 0 (lv_args 0 [.ref 0, .int u]) [] [] := xw_go nostop 20 (fun K e => And.intro (fun c => nomatch (c0.symm.trans c)) (fun _ => And.intro (fun c => nomatch (c1.symm.trans c)) (fun _ => e _ _ _ _ (kT_end rfl (ret_i _) ⟨⟨_, rfl⟩, rfl⟩))))
    refine nT.mono ?_ (k1 rfl h hv_0 fr.rf)
    rintro rv h1 ⟨l1, ⟨-, rfl⟩, hk1, hv1, fr1⟩
    obtain ⟨fs, e1, e2⟩ := A
    exact ⟨fs, (fr_at (q := 0) fr1 rfl).trans e1, e2⟩
set_option maxHeartbeats 4000000 in
theorem fChrM (hd : 8 ≤ d) (hn : n ≤ 940) (I : lwY nc n bc b z y0 y1 k0 k1 s kp ak h) (B : fM w h) (n1 : nmOk N) (n2 : cnQ s.1 N) (n3 : nmZ s.2 N) (u : Int32) : nT nj_M nX0 L xs 0 d nm_247 (fun rv h1 => fM (chV b n N u w) h1) 0 (lv_args 0 [.ref 175, .int u]) [] h := by
  have T := I.1.1.1.2.1
  unfold chV
  obtain ⟨nn, rv2, h2, er2, -⟩ := yChrM (X := nX0) (L := L) (xs := xs) (g := 0) hd hn I u
  obtain ⟨d1, rfl⟩ : ∃ d1, d = d1 + 4 := ⟨d - 4, by omega⟩
  obtain ⟨o, thr, sz, lim, Y, flt, fat, got, lns, crs, b1, hh, nms, rsv, s1, hrs, hb1, hby, hpic⟩ := pic_r T I.1.2.1 I.1.2.2 I.1.1.2.2.2
  rw [ofI_n] at hpic
  by_cases hu : u = Int32.ofInt 0 ∨ u = Int32.ofInt 1
  · rw [if_pos hu]
    obtain ⟨⟨s3, e3, h3⟩, m2, m3, ⟨n4, e5, h5⟩, m6⟩ := id I.2.2.2
    have es : s1 = s3 := celI ((lg_hv (q := 177) hpic rfl).symm.trans e3)
    have en : nms = n4 := celL ((lg_hv (q := 180) hpic rfl).symm.trans e5)
    obtain ⟨c35, eo⟩ := o35_of T hpic
    obtain ⟨cd, e179, -⟩ := rowI T (q := 179) (show fS[179]? = some 52 by decide) (show nAT 52 = some (0, 135, .inl _) from rfl) rfl
    have hp0 := hv_l hpic
    rw [← eo] at hp0
    have hp := hv_a hp0 (hv_c e179 (hv_r hpic))
    have l2 := n1.2.1
    have l3 := n1.2.2.1
    have l4 := n1.2.2.2.1
    have hnm : ∀ i, i < 26 → nms i = s.2 i := fun i hi => by rw [en]; exact h5 i hi
    have b1' : N.2.1.length ≤ 10 ∧ N.2.2.1.length ≤ 6 ∧ N.2.2.2.length ≤ 4 := ⟨l2, l3, l4⟩
    have b2' : (∀ w ∈ N.2.1, wOk w) ∧ (∀ w ∈ N.2.2.1, wOk w) ∧ ∀ w ∈ N.2.2.2, wOk w := ⟨fun w hw => n1.2.2.2.2.2 w (alln_mem.mpr (Or.inr (Or.inl hw))), fun w hw => n1.2.2.2.2.2 w (alln_mem.mpr (Or.inr (Or.inr (Or.inl hw)))), fun w hw => n1.2.2.2.2.2 w (alln_mem.mpr (Or.inr (Or.inr (Or.inr hw))))⟩
    have b3' : nmF nms 6 N.2.1 ∧ nmF nms 16 N.2.2.1 ∧ nmF nms 22 N.2.2.2 := ⟨nmF_cg n3.1 (by omega) hnm, nmF_cg n3.2.1 (by omega) hnm, nmF_cg n3.2.2 (by omega) hnm⟩
    have t1 : s1 1 = Int32.ofNat N.2.1.length := by rw [es]; exact (h3 1 (by decide)).trans n2.2.1
    have t2 : s1 2 = Int32.ofNat N.2.2.1.length := by rw [es]; exact (h3 2 (by decide)).trans n2.2.2.1
    have t3 : s1 3 = Int32.ofNat N.2.2.2.length := by rw [es]; exact (h3 3 (by decide)).trans n2.2.2.2
    have ecg : cR b n N = cCh (tk b1 n 400) N (decide (400 < n)) 42 0 0 := by
      unfold cR
      rw [tk_cg (f := b1) (g := b) (fun j hj => hb1 j (by omega))]
    cases hR : cCh (tk b1 n 400) N (decide (400 < n)) 42 0 0 with
    | inl e =>
      obtain ⟨e0, pl0⟩ := e
      rw [ecg, hR]
      have k1 := chr0_f (L := L) (xs := xs) (d := d1) (o := o) (thr := thr) (sz := sz) (lim := lim) (X := Y) (flt := flt) (fat := fat) (got := got) (lns := lns) (crs := crs) (b := b1) (hh := hh) (nms := nms) (rsv := rsv) (s := s1) (c35 := c35) (cd := cd) hn hby hrs b1' b2' b3' t1 t2 t3 hR rfl hu h
      refine nT.mono ?_ (k1 rfl h hp fr.rf)
      rintro rv h1 ⟨l1, ⟨e7, pl7, X1, got1, c7, cd1, eE, -, rfl⟩, hk1, hv1, fr1⟩
      rw [hR] at eE
      cases eE
      have et := lg_hv (q := 175) hv1 rfl
      exact ⟨_, et, rfl⟩
    | inr e =>
      obtain ⟨qe, ke⟩ := e
      rw [ecg, hR]
      have k1 := chr0_g (L := L) (xs := xs) (d := d1) (o := o) (thr := thr) (sz := sz) (lim := lim) (X := Y) (flt := flt) (fat := fat) (got := got) (lns := lns) (crs := crs) (b := b1) (hh := hh) (nms := nms) (rsv := rsv) (s := s1) (c35 := c35) (cd := cd) hn hby hrs b1' b2' b3' t1 t2 t3 hR rfl hu h
      obtain ⟨n5, rv1, hm, er, l1, ⟨-, X1, fat1, got1, c7, cd1, rfl⟩, hk1, hv1, fr1⟩ := k1 rfl h hp fr.rf
      obtain ⟨n6, lv1, g3, g4, mc3, ms3, er3⟩ := nvV_run (mt := nm_247) (pT := 83) (by decide +kernel) _ _ _ _ _ _ _ _ _ er _ _ _ _ _ _ er2
      have F := run_fr ok9_ok _ _ _ _ _ _ _ _ _ _ _ _ _ 83 (by decide +kernel) (Nat.le_refl 83) er3
      have et := lg_hv (q := 175) hv1 rfl
      exact ⟨nn, rv2, h2, er2, fM_h ⟨_, et, rfl⟩ F⟩
  · rw [if_neg hu]
    have c0 := u_in hu
    have k1 : kT nj_M nX0 L xs (d1 + 4) nm_247 (mQ (rfS o thr (Int32.ofNat n) sz lim Y flt fat got lns crs b1 hh nms rsv s1) (fun rv l => (∃ y : Int32, rv = some (.int y)) ∧ l = rfS o (Int32.ofInt 0) (Int32.ofNat n) sz lim Y flt fat got lns crs b1 hh nms rsv s1) h) (hk (rfS o thr (Int32.ofNat n) sz lim Y flt fat got lns crs b1 hh nms rsv s1)) h 0 (lv_args 0 [.ref 175, .int u]) [] (rfS o thr (Int32.ofNat n) sz lim Y flt fat got lns crs b1 hh nms rsv s1) := by
      refine xw_go nostop 20 (fun K e => And.intro rfl (e _ _ _ _ (kT_call rfl rfl rfl rfl (q_isIn (L := L) (xs := xs) u (Int32.ofInt 0) (Int32.ofInt 1)) trivial rfl rfl (fun rv l1 hP1 _ => ?_))))
      obtain ⟨rfl, rfl⟩ := hP1
      rw [c0]
      refine kT_pic (l2 := rfS o (Int32.ofInt 0) (Int32.ofNat n) sz lim Y flt fat got lns crs b1 hh nms rsv s1) rfl ?_
      exact xw_go nostop 20 (fun K e => And.intro (fun c => nomatch (show false = true from c)) (fun _ => e _ _ _ _ (kT_end rfl (ret_i _) ⟨⟨_, rfl⟩, rfl⟩)))
    refine nT.mono ?_ (k1 rfl h hpic fr.rf)
    rintro rv h1 ⟨l1, ⟨-, rfl⟩, hk1, hv1, fr1⟩
    obtain ⟨fs, e1, e2⟩ := B
    have ep := lg_hv (q := 175) hpic rfl
    have et := lg_hv (q := 175) hv1 rfl
    have ef := celO (e1.symm.trans ep)
    rw [ef] at e2
    refine ⟨_, et, ?_⟩
    exact e2
theorem yChrS5 (hd : 8 ≤ d) (hn : n ≤ 940) (I : lwY n n b b z y0 y1 k0 k1 s kp ak h) (A : fC v h) (B : fM w h) (n1 : nmOk N) (n2 : nmR z.2.1 (nsl N)) (u : Int32) : nT nj_M X L xs g d nm_125 (fun rv h1 => ((∃ y : Int32, rv = some (.int y)) ∧ lwY (chF u n) n b b z y0 y1 k0 k1 s kp ak h1) ∧ fC (chV b n N u v) h1 ∧ fM w h1) 0 (lv_args 0 [.ref 0, .int u]) [] h := by
  refine nT.mono ?_ (nT_and (nT_hF ok9_ok (by decide +kernel) (yChrS hd hn I u)) (nT_up (X := X) (g := g) (by decide +kernel) (fChrS hd hn I A n1 n2 u)))
  rintro rv h1 ⟨⟨a, F9⟩, C1⟩
  exact ⟨a, C1, fM_h B F9⟩
theorem yChrM5 (hd : 8 ≤ d) (hn : n ≤ 940) (I : lwY nc n bc b z y0 y1 k0 k1 s kp ak h) (A : fC v h) (B : fM w h) (n1 : nmOk N) (n2 : cnQ s.1 N) (n3 : nmZ s.2 N) (u : Int32) : nT nj_M X L xs g d nm_247 (fun rv h1 => ((∃ y : Int32, rv = some (.int y)) ∧ lwY nc (chF u n) bc b z y0 y1 k0 k1 s kp ak h1) ∧ fC v h1 ∧ fM (chV b n N u w) h1) 0 (lv_args 0 [.ref 175, .int u]) [] h := by
  refine nT.mono ?_ (nT_and (nT_hF ok8_ok (by decide +kernel) (yChrM hd hn I u)) (nT_up (X := X) (g := g) (by decide +kernel) (fChrM hd hn I B n1 n2 n3 u)))
  rintro rv h1 ⟨⟨a, F9⟩, C1⟩
  exact ⟨a, fC_h A F9, C1⟩
theorem yFamS5 (hd : 6 ≤ d) (hn : n ≤ 940) (I : lwY n n b b z y0 y1 k0 k1 s kp ak h) (A : fC v h) (B : fM w h) : nT nj_M X L xs g d nm_21 (fun rv h1 => (rv = some (.int (fAns (fR b n))) ∧ ∃ z2, lwY 0 n b b z2 y0 y1 k0 k1 s kp ak h1 ∧ ((∃ e, fR b n = .inl e) ∧ z2 = z ∨ ∃ H ln, fR b n = .inr (H, ln) ∧ hoR H z2)) ∧ fC (Int32.ofNat (rK (fR b n))) h1 ∧ fM w h1) 0 (lv_args 0 [.ref 0]) [] h := by
  refine nT.mono ?_ (nT_and (nT_hF ok9_ok (by decide +kernel) (yFamS hd hn I)) (nT_up (X := X) (g := g) (by decide +kernel) (fFamS hd hn I)))
  rintro rv h1 ⟨⟨a, F9⟩, C1⟩
  exact ⟨a, C1, fM_h B F9⟩
theorem yFamM5 (hd : 6 ≤ d) (hn : n ≤ 940) (I : lwY nc n bc b z y0 y1 k0 k1 s kp ak h) (A : fC v h) (B : fM w h) : nT nj_M X L xs g d nm_161 (fun rv h1 => (rv = some (.int (fAns (fR b n))) ∧ ∃ s2, lwY nc 0 bc b z y0 y1 k0 k1 s2 kp ak h1 ∧ ((∃ e, fR b n = .inl e) ∧ s2 = s ∨ ∃ H ln, fR b n = .inr (H, ln) ∧ rsR H s2)) ∧ fC v h1 ∧ fM (Int32.ofNat (rK (fR b n))) h1) 0 (lv_args 0 [.ref 175]) [] h := by
  refine nT.mono ?_ (nT_and (nT_hF ok8_ok (by decide +kernel) (yFamM hd hn I)) (nT_up (X := X) (g := g) (by decide +kernel) (fFamM hd hn I)))
  rintro rv h1 ⟨⟨a, F9⟩, C1⟩
  exact ⟨a, fC_h A F9, C1⟩
theorem ySenS5 (hd : 29 ≤ d) (hn : n ≤ 940) (I : lwY n n b b z y0 y1 k0 k1 s kp ak h) (A : fC v h) (B : fM w h) (n1 : nmOk N) (n2 : nmR z.2.1 (nsl N)) : nT nj_M X L xs g d nm_136 (fun rv h1 => (rv = some (.int (snA b n N)) ∧ lwY 0 n b b z y0 y1 k0 k1 s kp ak h1) ∧ fC (Int32.ofNat (rK (sR b n N))) h1 ∧ fM w h1) 0 (lv_args 0 [.ref 0]) [] h := by
  refine nT.mono ?_ (nT_and (nT_hF ok9_ok (by decide +kernel) (ySenS hd hn I n1 n2)) (nT_up (X := X) (g := g) (by decide +kernel) (fSenS hd hn I n1 n2)))
  rintro rv h1 ⟨⟨a, F9⟩, C1⟩
  exact ⟨a, C1, fM_h B F9⟩
theorem ySenM5 (hd : 3 ≤ d) (hn : n ≤ 940) (I : lwY nc n bc b z y0 y1 k0 k1 s kp ak h) (A : fC v h) (B : fM w h) (n1 : nmOk N) (n2 : cnQ s.1 N) (n3 : nmZ s.2 N) : nT nj_M X L xs g d nm_251 (fun rv h1 => (rv = some (.int (snA b n N)) ∧ lwY nc 0 bc b z y0 y1 k0 k1 s kp ak h1) ∧ fC v h1 ∧ fM (Int32.ofNat (rK (sR b n N))) h1) 0 (lv_args 0 [.ref 175]) [] h := by
  refine nT.mono ?_ (nT_and (nT_hF ok8_ok (by decide +kernel) (ySenM hd hn I n1 n2 n3)) (nT_up (X := X) (g := g) (by decide +kernel) (fSenM hd hn I n1 n2 n3)))
  rintro rv h1 ⟨⟨a, F9⟩, C1⟩
  exact ⟨a, fC_h A F9, C1⟩
theorem yFltS (I : lwY n n b b z y0 y1 k0 k1 s kp ak h) (A : fC v h) (B : fM w h) : nT nj_M X L xs g d nm_53 (fun rv h1 => rv = some (.int v) ∧ lwY n n b b z y0 y1 k0 k1 s kp ak h1 ∧ fC v h1 ∧ fM w h1) 0 (lv_args 0 [.ref 0]) [] h := by
  obtain ⟨fs, e1, e2⟩ := id A
  have k1 : nT nj_M X L xs g d nm_53 (fun rv h1 => rv = some (.int v) ∧ h1 = h) 0 (lv_args 0 [.ref 0]) [] h := by
    refine ⟨4, some (.int v), h, ?_, rfl, rfl⟩
    have s0 : nj_step nj_M X L xs (fun d1 mz lv0 h0 g0 => nj_run nj_M X L xs 3 d1 mz 0 lv0 [] h0 g0) d nm_53 (.aload_n 0) 0 0 0 0 (lv_args 0 [.ref 0]) [] h g = some (1, lv_args 0 [.ref 0], [.ref 0], h, g, 0, 0) := rfl
    have s1 : nj_step nj_M X L xs (fun d1 mz lv0 h0 g0 => nj_run nj_M X L xs 2 d1 mz 0 lv0 [] h0 g0) d nm_53 (.getfield 85) 8 14 0 1 (lv_args 0 [.ref 0]) [.ref 0] h g = some (4, lv_args 0 [.ref 0], [.int v], h, g, 0, 0) := by
      simp only [nj_step, nj_pure, nj_mem, nj_getf, e1, e2, if_true]
    have r2 : nj_ret nm_53.2.2.2.1 .ireturn [.int v] = some (some (.int v)) := ret_i v
    unfold nj_run
    simp only [show nm_53.2.2.2.2.2.find? (fun q => q.1 == 0) = some (0, .aload_n 0, 0, 0, 0, 0) from rfl, show nj_ret nm_53.2.2.2.1 (.aload_n 0) ([] : List Value) = none from rfl, s0]
    unfold nj_run
    simp only [show nm_53.2.2.2.2.2.find? (fun q => q.1 == 1) = some (1, .getfield 85, 8, 14, 0, 530) from rfl, show nj_ret nm_53.2.2.2.1 (.getfield 85) ([.ref 0] : List Value) = none from rfl, s1]
    unfold nj_run
    simp only [show nm_53.2.2.2.2.2.find? (fun q => q.1 == 4) = some (4, .ireturn, 0, 0, 0, 0) from rfl, r2]
  refine nT.mono ?_ k1
  rintro rv h1 ⟨a, rfl⟩
  exact ⟨a, I, A, B⟩
theorem yFltM (I : lwY nc n bc b z y0 y1 k0 k1 s kp ak h) (A : fC v h) (B : fM w h) : nT nj_M X L xs g d nm_185 (fun rv h1 => rv = some (.int w) ∧ lwY nc n bc b z y0 y1 k0 k1 s kp ak h1 ∧ fC v h1 ∧ fM w h1) 0 (lv_args 0 [.ref 175]) [] h := by
  have T := I.1.1.1.2.1
  obtain ⟨o, thr, sz, lim, Y, flt, fat, got, lns, crs, b1, hh, nms, rsv, s1, hrs, hb1, hby, hpic⟩ := pic_r T I.1.2.1 I.1.2.2 I.1.1.2.2.2
  have k1 : mS nj_M nX0 L xs d 185 [.ref 175] (rfS o thr (Int32.ofInt (n : Int)) sz lim Y flt fat got lns crs b1 hh nms rsv s1) (fun rv l => rv = some (.int flt) ∧ l = rfS o (Int32.ofInt 0) (Int32.ofInt (n : Int)) sz lim Y flt fat got lns crs b1 hh nms rsv s1) :=
    mS_of rfl (fun h0 => xw_go nostop 20 (fun K e => And.intro rfl (e _ _ _ _ (kT_end rfl (ret_i _) ⟨rfl, rfl⟩))))
  obtain ⟨mz, hM0, ks⟩ := k1
  have hM2 : nj_M 185 = some nm_185 := rfl
  cases hM0.symm.trans hM2
  have k2 := nT_up (X := X) (g := g) (by decide +kernel) (ks h hpic)
  have k3 := (nV_cc (vk_210 (X := X) (L := L) (xs := xs) (g := g) (S := fS)) (by decide)) d (Nat.zero_le d) nm_185 rfl h [] [175] [.ref 175] (yJ I) (tOk_to T) ⟨⟨rfl, fun i z r h => nomatch h⟩, tau_1 (show fS[175]? = some 9 by decide), (fun e he => nomatch he), (fun e he => nomatch he), (fun e he => nomatch he)⟩ ⟨⟨_, rfl, rfl⟩, trivial⟩
  refine nT.mono ?_ (nT_and k2 k3)
  rintro rv h1 ⟨⟨l1, ⟨e1, rfl⟩, hk1, hv1, fr1⟩, J1, T1, F1, -⟩
  obtain ⟨fs, a1, a2⟩ := id B
  have ep := lg_hv (q := 175) hpic rfl
  have ef := celO (a1.symm.trans ep)
  have ew : w = flt := vI_inj (a2.symm.trans (congrArg (fun l : List Value => l[15]?) ef))
  exact ⟨by rw [e1, ew], lwY_keep I J1 (tOk_of T1) F1 (by decide +kernel) (by decide +kernel) (by decide +kernel), fC_fr A F1 rfl, fM_fr B F1 rfl⟩
end FLT
def lwB5 (h : List nC) : Prop := ∃ (n : Nat) (b : Nat → Int32) (z y0 y1 : Ho) (k0 k1 : Int32) (s kp : Sn) (ak : Nat → Int32) (v : Int32), n ≤ 940 ∧ hR z y0 y1 k0 k1 s kp ak ∧ lwY n n b b z y0 y1 k0 k1 s kp ak h ∧ fC v h ∧ fM v h
