/-! what the two tapes hold, and the calls that touch them -/
def lwZ (nc nm : Nat) (bc bm : Nat → Int32) (h : List nC) : Prop := lwP fS 0 175 37 38 1 (nc : Int) (nm : Int) h ∧ fxOk h ∧ roOk bc bm h
def lwB4 (h : List nC) : Prop := ∃ (n : Nat) (b : Nat → Int32), n ≤ 940 ∧ lwZ n n b b h
def eF (u : Int32) (n : Nat) : Nat := if 0 ≤ u.toInt ∧ u.toInt ≤ (n : Int) then u.toInt.toNat else n
def chF (u : Int32) (n : Nat) : Nat := if 0 ≤ u.toInt ∧ u.toInt ≤ 1 then 0 else n
def fN (n : Nat) : Nat := if n + 20 ≤ 940 then n + 20 else n
def fB (b : Nat → Int32) (n : Nat) (a1 a2 a3 a4 a5 : Int32) : Nat → Int32 := if n + 20 ≤ 940 then feed5 b n a1 a2 a3 a4 a5 else b
def fR (b : Nat → Int32) (n : Nat) : (Nat × Nat) ⊕ (Hs × Nat) := sFam (tk b n 900) (decide (900 < n)) 901 0 Hs0 0
section LWZ
variable {X : nX} {L : Nat} {xs : Nat → Int32} {g d n nc nm nc2 nm2 : Nat} {b bc bm : Nat → Int32} {h h1 : List nC} {mf : List (Nat × Nat)} {ma : List Nat}
theorem lwZ_P (I : lwZ nc nm bc bm h) (P : lwP fS 0 175 37 38 1 (nc2 : Int) (nm2 : Int) h1) (F : nFr mf ma fS h h1) (hc : fxC mf = true) (n1 : 45 ∉ ma) (n2 : 54 ∉ ma) (n3 : 41 ∉ ma) (n4 : 49 ∉ ma) : lwZ nc2 nm2 bc bm h1 := ⟨P, fx_fr I.2.1 F hc, ro_fr I.2.2 F n1 n2 n3 n4⟩
theorem lwB4_fr (I : lwB4 h) (J1 : nJJ fS h1) (T1 : tOk nFT nAT fS h1) (F : nFr mf ma fS h h1) (n2 : (9, 1002) ∉ mf) (n3 : (9, 1003) ∉ mf) (n4 : (9, 1004) ∉ mf) (n5 : (8, 3) ∉ mf) (n6 : (2, 0) ∉ mf) (n7 : (8, 0) ∉ mf) (n8 : (7, 5) ∉ mf) (n9 : (9, 2) ∉ mf) (hc : fxC mf = true) (m1 : 45 ∉ ma) (m2 : 54 ∉ ma) (m3 : 41 ∉ ma) (m4 : 49 ∉ ma) : lwB4 h1 := by
  obtain ⟨n, b, hn, I⟩ := I
  exact ⟨n, b, hn, lwZ_P I (lwP_fr I.1 (show fS[0]? = some 8 by decide) (show fS[175]? = some 9 by decide) (show fS[37]? = some 2 by decide) (show fS[1]? = some 7 by decide) J1 T1 F n2 n3 n4 n5 n6 n7 n8 n9) F hc m1 m2 m3 m4⟩
theorem zEndS (hd : 1 ≤ d) (hn : n ≤ 940) (I : lwZ n n b b h) (u : Int32) : nT nj_M X L xs g d nm_20 (fun rv h1 => (∃ y : Int32, rv = some (.int y)) ∧ lwZ (eF u n) n b b h1) 0 (lv_args 0 [.ref 0, .int u]) [] h := by
  have k1 := slip_end (X := X) (L := L) (xs := xs) (g := g) (d := d) (by omega) I.1 (show fS[0]? = some 8 by decide) (show fS[175]? = some 9 by decide) (show fS[37]? = some 2 by decide) (show fS[1]? = some 7 by decide) (by omega) (by omega) u
  have hpre : aOk fS h [u.toInt] [0] nk_65.2.2.1 := ⟨aE1 (r0 := (-2147483648, 2147483647)) (i32b u), tau_1 (show fS[0]? = some 8 by decide), (fun e he => nomatch he), (fun e he => nomatch he), (fun e he => nomatch he)⟩
  have k2 := vk_65 (X := X) (L := L) (xs := xs) (g := g) d (Nat.le_trans (by decide) hd) nm_20 rfl h [u.toInt] [0] [.ref 0, .int u] I.1.1.1 I.1.1.2.1 hpre ⟨⟨_, rfl, rfl⟩, ⟨u.toInt, rfl, by rw [Int.add_zero, Int32.ofInt_toInt]⟩, trivial⟩
  refine nT.mono ?_ (nT_and k1 k2)
  rintro rv h1 ⟨⟨a1, a2⟩, J1, T1, F1, -⟩
  by_cases c : eC u (n : Int)
  · obtain ⟨e1, P⟩ := a1 c
    refine ⟨⟨_, e1⟩, lwZ_P I ?_ F1 (by decide) (by decide) (by decide) (by decide) (by decide)⟩
    have e2 : ((eF u n : Nat) : Int) = u.toInt := by
      unfold eF
      rw [if_pos (show 0 ≤ u.toInt ∧ u.toInt ≤ (n : Int) from c)]
      have := c.1
      omega
    rw [e2]
    exact P
  · obtain ⟨e1, P⟩ := a2 c
    refine ⟨⟨_, e1⟩, lwZ_P I ?_ F1 (by decide) (by decide) (by decide) (by decide) (by decide)⟩
    rw [show eF u n = n from if_neg (show ¬ (0 ≤ u.toInt ∧ u.toInt ≤ (n : Int)) from c)]
    exact P
theorem zEndM (hd : 1 ≤ d) (hn : n ≤ 940) (I : lwZ nc n bc b h) (u : Int32) : nT nj_M X L xs g d nm_158 (fun rv h1 => (∃ y : Int32, rv = some (.int y)) ∧ lwZ nc (eF u n) bc b h1) 0 (lv_args 0 [.ref 175, .int u]) [] h := by
  have k1 := model_end (X := X) (L := L) (xs := xs) (g := g) (d := d) (by omega) I.1 (show fS[0]? = some 8 by decide) (show fS[175]? = some 9 by decide) (show fS[37]? = some 2 by decide) (show fS[1]? = some 7 by decide) (by omega) (by omega) u
  have hpre : aOk fS h [u.toInt] [175] nk_160.2.2.1 := ⟨aE1 (r0 := (-2147483648, 2147483647)) (i32b u), tau_1 (show fS[175]? = some 9 by decide), (fun e he => nomatch he), (fun e he => nomatch he), (fun e he => nomatch he)⟩
  have k2 := vk_160 (X := X) (L := L) (xs := xs) (g := g) d (Nat.le_trans (by decide) hd) nm_158 rfl h [u.toInt] [175] [.ref 175, .int u] I.1.1.1 I.1.1.2.1 hpre ⟨⟨_, rfl, rfl⟩, ⟨u.toInt, rfl, by rw [Int.add_zero, Int32.ofInt_toInt]⟩, trivial⟩
  refine nT.mono ?_ (nT_and k1 k2)
  rintro rv h1 ⟨⟨a1, a2⟩, J1, T1, F1, -⟩
  by_cases c : eC u (n : Int)
  · obtain ⟨e1, P⟩ := a1 c
    refine ⟨⟨_, e1⟩, lwZ_P I ?_ F1 (by decide) (by decide) (by decide) (by decide) (by decide)⟩
    have e2 : ((eF u n : Nat) : Int) = u.toInt := by
      unfold eF
      rw [if_pos (show 0 ≤ u.toInt ∧ u.toInt ≤ (n : Int) from c)]
      have := c.1
      omega
    rw [e2]
    exact P
  · obtain ⟨e1, P⟩ := a2 c
    refine ⟨⟨_, e1⟩, lwZ_P I ?_ F1 (by decide) (by decide) (by decide) (by decide) (by decide)⟩
    rw [show eF u n = n from if_neg (show ¬ (0 ≤ u.toInt ∧ u.toInt ≤ (n : Int)) from c)]
    exact P
theorem zChrS (hd : 8 ≤ d) (hn : n ≤ 940) (I : lwZ n n b b h) (u : Int32) : nT nj_M X L xs g d nm_125 (fun rv h1 => (∃ y : Int32, rv = some (.int y)) ∧ lwZ (chF u n) n b b h1) 0 (lv_args 0 [.ref 0, .int u]) [] h := by
  have k1 := slip_chron (X := X) (L := L) (xs := xs) (g := g) (d := d) (by omega) I.1 (show fS[0]? = some 8 by decide) (show fS[175]? = some 9 by decide) (show fS[37]? = some 2 by decide) (show fS[1]? = some 7 by decide) (by omega) (by omega) u
  have hpre : aOk fS h [u.toInt] [0] nk_348.2.2.1 := ⟨aE1 (r0 := (-2147483648, 2147483647)) (i32b u), tau_1 (show fS[0]? = some 8 by decide), (fun e he => nomatch he), (fun e he => nomatch he), (fun e he => nomatch he)⟩
  have k2 := vk_348 (X := X) (L := L) (xs := xs) (g := g) d (Nat.le_trans (by decide) hd) nm_125 rfl h [u.toInt] [0] [.ref 0, .int u] I.1.1.1 I.1.1.2.1 hpre ⟨⟨_, rfl, rfl⟩, ⟨u.toInt, rfl, by rw [Int.add_zero, Int32.ofInt_toInt]⟩, trivial⟩
  refine nT.mono ?_ (nT_and k1 k2)
  rintro rv h1 ⟨⟨ey, a1, a2⟩, J1, T1, F1, -⟩
  refine ⟨ey, lwZ_P I ?_ F1 (by decide) (by decide) (by decide) (by decide) (by decide)⟩
  by_cases c : cC u
  · rw [show chF u n = 0 from if_pos (show 0 ≤ u.toInt ∧ u.toInt ≤ 1 from c)]
    exact a1 c
  · rw [show chF u n = n from if_neg (show ¬ (0 ≤ u.toInt ∧ u.toInt ≤ 1) from c)]
    exact a2 c
theorem zChrM (hd : 8 ≤ d) (hn : n ≤ 940) (I : lwZ nc n bc b h) (u : Int32) : nT nj_M X L xs g d nm_247 (fun rv h1 => (∃ y : Int32, rv = some (.int y)) ∧ lwZ nc (chF u n) bc b h1) 0 (lv_args 0 [.ref 175, .int u]) [] h := by
  have k1 := model_chron (X := X) (L := L) (xs := xs) (g := g) (d := d) (by omega) I.1 (show fS[0]? = some 8 by decide) (show fS[175]? = some 9 by decide) (show fS[37]? = some 2 by decide) (show fS[1]? = some 7 by decide) (by omega) (by omega) u
  have fin : ∀ {mf : List (Nat × Nat)} {ma : List Nat} {B : Option Value → List nC → Prop}, nT nj_M X L xs g d nm_247 (fun rv h1 => nJJ fS h1 ∧ tOk nFT nAT fS h1 ∧ nFr mf ma fS h h1 ∧ B rv h1) 0 (lv_args 0 [.ref 175, .int u]) [] h → fxC mf = true → 45 ∉ ma → 54 ∉ ma → 41 ∉ ma → 49 ∉ ma → nT nj_M X L xs g d nm_247 (fun rv h1 => (∃ y : Int32, rv = some (.int y)) ∧ lwZ nc (chF u n) bc b h1) 0 (lv_args 0 [.ref 175, .int u]) [] h := by
    intro mf ma B k2 f1 f2 f3 f4 f5
    refine nT.mono ?_ (nT_and k1 k2)
    rintro rv h1 ⟨⟨ey, a1, a2⟩, J1, T1, F1, -⟩
    refine ⟨ey, lwZ_P I ?_ F1 f1 f2 f3 f4 f5⟩
    by_cases c : cC u
    · rw [show chF u n = 0 from if_pos (show 0 ≤ u.toInt ∧ u.toInt ≤ 1 from c)]
      exact a1 c
    · rw [show chF u n = n from if_neg (show ¬ (0 ≤ u.toInt ∧ u.toInt ≤ 1) from c)]
      exact a2 c
  have bu := i32b u
  rcases (by omega : u.toInt < 0 ∨ 1 < u.toInt ∨ (0 ≤ u.toInt ∧ u.toInt ≤ 1)) with c | c | c
  · exact fin (vk_369 (X := X) (L := L) (xs := xs) (g := g) (S := fS) d (Nat.le_trans (by decide) hd) nm_247 rfl h [u.toInt] [175] [.ref 175, .int u] I.1.1.1 I.1.1.2.1 ⟨aE1 (r0 := (-2147483648, -1)) ⟨by omega, by omega⟩, tau_1 (show fS[175]? = some 9 by decide), (fun e he => nomatch he), (fun e he => nomatch he), (fun e he => nomatch he)⟩ ⟨⟨_, rfl, rfl⟩, ⟨u.toInt, rfl, by rw [Int.add_zero, Int32.ofInt_toInt]⟩, trivial⟩) (by decide +kernel) (by decide) (by decide) (by decide) (by decide)
  · exact fin (vk_370 (X := X) (L := L) (xs := xs) (g := g) (S := fS) d (Nat.le_trans (by decide) hd) nm_247 rfl h [u.toInt] [175] [.ref 175, .int u] I.1.1.1 I.1.1.2.1 ⟨aE1 (r0 := (2, 2147483647)) ⟨by omega, by omega⟩, tau_1 (show fS[175]? = some 9 by decide), (fun e he => nomatch he), (fun e he => nomatch he), (fun e he => nomatch he)⟩ ⟨⟨_, rfl, rfl⟩, ⟨u.toInt, rfl, by rw [Int.add_zero, Int32.ofInt_toInt]⟩, trivial⟩) (by decide +kernel) (by decide) (by decide) (by decide) (by decide)
  · exact fin (vk_368 (X := X) (L := L) (xs := xs) (g := g) (S := fS) d (Nat.le_trans (by decide) hd) nm_247 rfl h [u.toInt] [175] [.ref 175, .int u] I.1.1.1 I.1.1.2.1 ⟨aE1 (r0 := (0, 1)) ⟨by omega, by omega⟩, tau_1 (show fS[175]? = some 9 by decide), (fun e he => nomatch he), (fun e he => nomatch he), (fun e he => nomatch he)⟩ ⟨⟨_, rfl, rfl⟩, ⟨u.toInt, rfl, by rw [Int.add_zero, Int32.ofInt_toInt]⟩, trivial⟩) (by decide +kernel) (by decide) (by decide) (by decide) (by decide)
theorem ofI_n (n : Nat) : Int32.ofInt (n : Int) = Int32.ofNat n := Int32.ofInt_eq_ofNat
theorem hv_l {l1 l2 : nL} {h : List nC} (a : hv (l1 ++ l2) h) : hv l1 h := fun e he => a e (List.mem_append.mpr (Or.inl he))
theorem hv_r {l1 l2 : nL} {h : List nC} (a : hv (l1 ++ l2) h) : hv l2 h := fun e he => a e (List.mem_append.mpr (Or.inr he))
theorem zFeedS (hd : 1 ≤ d) (hn : n ≤ 940) (I : lwZ n n b b h) (a1 a2 a3 a4 a5 : Int32) : nT nj_M X L xs g d nm_18 (fun rv h1 => (∃ y : Int32, rv = some (.int y)) ∧ lwZ (fN n) n (fB b n a1 a2 a3 a4 a5) b h1) 0 (lv_args 0 [.ref 0, .int a1, .int a2, .int a3, .int a4, .int a5]) [] h := by
  obtain ⟨d1, rfl⟩ : ∃ d1, d = d1 + 1 := ⟨d - 1, by omega⟩
  obtain ⟨u, lf, b1, kd, pl, vl, ky, tok, cur, tak, tl, fk, fp, y, z, x, p1, p2, p3, p4, hky, hb1, hpic⟩ := pic_c I.1.1.2.1 I.2.1 I.2.2 I.1.2.2.1
  rw [ofI_n] at hpic
  obtain ⟨mz, hM, ks⟩ := c_feed (L := L) (xs := xs) (d := d1) (u := u) (lf := lf) (b := b1) (kd := kd) (pl := pl) (vl := vl) (ky := ky) (tok := tok) (cur := cur) (tak := tak) (tl := tl) (fk := fk) (fp := fp) hn a1 a2 a3 a4 a5
  have hM2 : nj_M 18 = some nm_18 := rfl
  cases hM.symm.trans hM2
  have k1 := nT_up (X := X) (g := g) (by decide +kernel) (ks h (hv_a (hv_l hpic) (hv_l (hv_r hpic))))
  have hpre : aOk fS h [a1.toInt, a2.toInt, a3.toInt, a4.toInt, a5.toInt] [0] nk_64.2.2.1 := ⟨aE_push (aE_push (aE_push (aE2 (r0 := (-2147483648, 2147483647)) (r1 := (-2147483648, 2147483647)) (i32b a1) (i32b a2)) (r := (-2147483648, 2147483647)) (i32b a3)) (r := (-2147483648, 2147483647)) (i32b a4)) (r := (-2147483648, 2147483647)) (i32b a5), tau_1 (show fS[0]? = some 8 by decide), (fun e he => nomatch he), (fun e he => nomatch he), (fun e he => nomatch he)⟩
  have k2 := vk_64 (X := X) (L := L) (xs := xs) (g := g) (d1 + 1) (by show 1 ≤ d1 + 1; omega) nm_18 rfl h [a1.toInt, a2.toInt, a3.toInt, a4.toInt, a5.toInt] [0] [.ref 0, .int a1, .int a2, .int a3, .int a4, .int a5] I.1.1.1 I.1.1.2.1 hpre ⟨⟨_, rfl, rfl⟩, ⟨a1.toInt, rfl, by rw [Int.add_zero, Int32.ofInt_toInt]⟩, ⟨a2.toInt, rfl, by rw [Int.add_zero, Int32.ofInt_toInt]⟩, ⟨a3.toInt, rfl, by rw [Int.add_zero, Int32.ofInt_toInt]⟩, ⟨a4.toInt, rfl, by rw [Int.add_zero, Int32.ofInt_toInt]⟩, ⟨a5.toInt, rfl, by rw [Int.add_zero, Int32.ofInt_toInt]⟩, trivial⟩
  refine nT.mono ?_ (nT_and k1 k2)
  rintro rv h1 ⟨⟨l1, hP, hk1, hv1, fr1⟩, J1, T1, F1, -⟩
  have kr := ro_kr I.2.2 F1 (by decide) (by decide)
  have fx := fx_fr I.2.1 F1 (by decide)
  have hm := lwP_mod I.1 (show fS[175]? = some 9 by decide) F1 (by decide)
  obtain ⟨f6, e6, h6⟩ := I.2.2.2.2.2
  have e176 := ((F1 176 49 (by decide)).2 (by decide) (by decide)).trans e6
  rcases hP with ⟨c, rfl, rfl⟩ | ⟨c, rfl, rfl⟩
  · have et := lg_hv (q := 1) hv1 rfl
    have eb := lg_hv (q := 2) hv1 rfl
    refine ⟨⟨_, rfl⟩, ?_⟩
    rw [show fN n = n + 20 from if_pos c, show fB b n a1 a2 a3 a4 a5 = feed5 b n a1 a2 a3 a4 a5 from if_pos c]
    exact ⟨lwP_gen2 I.1 (show fS[0]? = some 8 by decide) (show fS[175]? = some 9 by decide) (show fS[37]? = some 2 by decide) J1 T1 F1 (by decide) (by decide) (by decide) (by decide) (by decide) (by decide) ⟨_, et, by rw [ofI_n]; rfl⟩ hm, fx, kr.1, kr.2, ⟨_, eb, feed5_cg hb1 a1 a2 a3 a4 a5⟩, f6, e176, h6⟩
  · have et := lg_hv (q := 1) hv1 rfl
    have eb := lg_hv (q := 2) hv1 rfl
    refine ⟨⟨_, rfl⟩, ?_⟩
    rw [show fN n = n from if_neg c, show fB b n a1 a2 a3 a4 a5 = b from if_neg c]
    exact ⟨lwP_gen2 I.1 (show fS[0]? = some 8 by decide) (show fS[175]? = some 9 by decide) (show fS[37]? = some 2 by decide) J1 T1 F1 (by decide) (by decide) (by decide) (by decide) (by decide) (by decide) ⟨_, et, by rw [ofI_n]; rfl⟩ hm, fx, kr.1, kr.2, ⟨_, eb, hb1⟩, f6, e176, h6⟩
theorem zFeedM (hd : 1 ≤ d) (hn : n ≤ 940) (I : lwZ nc n bc b h) (a1 a2 a3 a4 a5 : Int32) : nT nj_M X L xs g d nm_156 (fun rv h1 => (∃ y : Int32, rv = some (.int y)) ∧ lwZ nc (fN n) bc (fB b n a1 a2 a3 a4 a5) h1) 0 (lv_args 0 [.ref 175, .int a1, .int a2, .int a3, .int a4, .int a5]) [] h := by
  obtain ⟨d1, rfl⟩ : ∃ d1, d = d1 + 1 := ⟨d - 1, by omega⟩
  obtain ⟨o, thr, sz, lim, Y, flt, fat, got, lns, crs, b1, hh, nms, rsv, s, hrs, hb1, hby, hpic⟩ := pic_r I.1.1.2.1 I.2.1 I.2.2 I.1.2.2.2
  rw [ofI_n] at hpic
  obtain ⟨mz, hM, ks⟩ := q_feed (L := L) (xs := xs) (d := d1) (o := o) (thr := thr) (sz := sz) (lim := lim) (X := Y) (flt := flt) (fat := fat) (got := got) (lns := lns) (crs := crs) (b := b1) (hh := hh) (nms := nms) (rsv := rsv) hn a1 a2 a3 a4 a5
  have hM2 : nj_M 156 = some nm_156 := rfl
  cases hM.symm.trans hM2
  have k1 := nT_up (X := X) (g := g) (by decide +kernel) (ks h (hv_l hpic))
  have hpre : aOk fS h [a1.toInt, a2.toInt, a3.toInt, a4.toInt, a5.toInt] [175] nk_159.2.2.1 := ⟨aE_push (aE_push (aE_push (aE2 (r0 := (-2147483648, 2147483647)) (r1 := (-2147483648, 2147483647)) (i32b a1) (i32b a2)) (r := (-2147483648, 2147483647)) (i32b a3)) (r := (-2147483648, 2147483647)) (i32b a4)) (r := (-2147483648, 2147483647)) (i32b a5), tau_1 (show fS[175]? = some 9 by decide), (fun e he => nomatch he), (fun e he => nomatch he), (fun e he => nomatch he)⟩
  have k2 := vk_159 (X := X) (L := L) (xs := xs) (g := g) (d1 + 1) (by show 1 ≤ d1 + 1; omega) nm_156 rfl h [a1.toInt, a2.toInt, a3.toInt, a4.toInt, a5.toInt] [175] [.ref 175, .int a1, .int a2, .int a3, .int a4, .int a5] I.1.1.1 I.1.1.2.1 hpre ⟨⟨_, rfl, rfl⟩, ⟨a1.toInt, rfl, by rw [Int.add_zero, Int32.ofInt_toInt]⟩, ⟨a2.toInt, rfl, by rw [Int.add_zero, Int32.ofInt_toInt]⟩, ⟨a3.toInt, rfl, by rw [Int.add_zero, Int32.ofInt_toInt]⟩, ⟨a4.toInt, rfl, by rw [Int.add_zero, Int32.ofInt_toInt]⟩, ⟨a5.toInt, rfl, by rw [Int.add_zero, Int32.ofInt_toInt]⟩, trivial⟩
  refine nT.mono ?_ (nT_and k1 k2)
  rintro rv h1 ⟨⟨l1, hP, hk1, hv1, fr1⟩, J1, T1, F1, -⟩
  have kr := ro_kr I.2.2 F1 (by decide) (by decide)
  have fx := fx_fr I.2.1 F1 (by decide)
  have ht := lwP_txt I.1 (show fS[1]? = some 7 by decide) F1 (by decide)
  obtain ⟨f6, e6, h6⟩ := I.2.2.2.2.1
  have e2 := ((F1 2 41 (by decide)).2 (by decide) (by decide)).trans e6
  rcases hP with ⟨c, rfl, rfl⟩ | ⟨c, rfl, rfl⟩
  · have et := lg_hv (q := 175) hv1 rfl
    have eb := lg_hv (q := 176) hv1 rfl
    refine ⟨⟨_, rfl⟩, ?_⟩
    rw [show fN n = n + 20 from if_pos c, show fB b n a1 a2 a3 a4 a5 = feed5 b n a1 a2 a3 a4 a5 from if_pos c]
    exact ⟨lwP_gen2 I.1 (show fS[0]? = some 8 by decide) (show fS[175]? = some 9 by decide) (show fS[37]? = some 2 by decide) J1 T1 F1 (by decide) (by decide) (by decide) (by decide) (by decide) (by decide) ht ⟨_, et, by rw [ofI_n]; rfl⟩, fx, kr.1, kr.2, ⟨f6, e2, h6⟩, _, eb, feed5_cg hb1 a1 a2 a3 a4 a5⟩
  · have et := lg_hv (q := 175) hv1 rfl
    have eb := lg_hv (q := 176) hv1 rfl
    refine ⟨⟨_, rfl⟩, ?_⟩
    rw [show fN n = n from if_neg c, show fB b n a1 a2 a3 a4 a5 = b from if_neg c]
    exact ⟨lwP_gen2 I.1 (show fS[0]? = some 8 by decide) (show fS[175]? = some 9 by decide) (show fS[37]? = some 2 by decide) J1 T1 F1 (by decide) (by decide) (by decide) (by decide) (by decide) (by decide) ht ⟨_, et, by rw [ofI_n]; rfl⟩, fx, kr.1, kr.2, ⟨f6, e2, h6⟩, _, eb, hb1⟩
theorem zFamS (hd : 6 ≤ d) (hn : n ≤ 940) (I : lwZ n n b b h) : nT nj_M X L xs g d nm_21 (fun rv h1 => rv = some (.int (fAns (fR b n))) ∧ lwZ 0 n b b h1) 0 (lv_args 0 [.ref 0]) [] h := by
  obtain ⟨d1, rfl⟩ : ∃ d1, d = d1 + 6 := ⟨d - 6, by omega⟩
  obtain ⟨u, lf, b1, kd, pl, vl, ky, tok, cur, tak, tl, fk, fp, y, z, x, p1, p2, p3, p4, hky, hb1, hpic⟩ := pic_c I.1.1.2.1 I.2.1 I.2.2 I.1.2.2.1
  rw [ofI_n] at hpic
  obtain ⟨mz, hM, ks⟩ := c_family (L := L) (xs := xs) (d := d1) (u := u) (lf := lf) (b := b1) (kd := kd) (pl := pl) (vl := vl) (ky := ky) (tok := tok) (cur := cur) (tak := tak) (tl := tl) (fk := fk) (fp := fp) (y := y) (z := z) (x := x) (p1 := p1) (p2 := p2) (p3 := p3) (p4 := p4) hn hky
  have hM2 : nj_M 21 = some nm_21 := rfl
  cases hM.symm.trans hM2
  have k1 := nT_up (X := X) (g := g) (by decide +kernel) (ks h hpic)
  have hpre : aOk fS h [] [0] nk_66.2.2.1 := ⟨⟨rfl, fun i z r h => nomatch h⟩, tau_1 (show fS[0]? = some 8 by decide), (fun e he => nomatch he), (fun e he => nomatch he), (fun e he => nomatch he)⟩
  have k2 := vk_66 (X := X) (L := L) (xs := xs) (g := g) (d1 + 6) (by show 6 ≤ d1 + 6; omega) nm_21 rfl h [] [0] [.ref 0] I.1.1.1 I.1.1.2.1 hpre ⟨⟨_, rfl, rfl⟩, trivial⟩
  refine nT.mono ?_ (nT_and k1 k2)
  rintro rv h1 ⟨⟨l1, ⟨e1, kd1, pl1, vl1, tok1, cur1, tak1, fp1, z1, hP⟩, hk1, hv1, fr1⟩, J1, T1, F1, -⟩
  have hR : fR b n = sFam (tk b1 n 900) (decide (900 < n)) 901 0 Hs0 0 := by
    unfold fR
    rw [tk_cg (f := b1) (g := b) (fun j hj => hb1 j (by omega))]
  rw [hR]
  refine ⟨e1, lwZ_P I ?_ F1 (by decide) (by decide) (by decide) (by decide) (by decide)⟩
  have hm := lwP_mod I.1 (show fS[175]? = some 9 by decide) F1 (by decide)
  rcases hP with ⟨e, p, -, rfl⟩ | ⟨H, ln, g2, g3, -, -, -, -, -, rfl⟩
  · have et := lg_hv (q := 1) hv1 rfl
    exact lwP_gen2 I.1 (show fS[0]? = some 8 by decide) (show fS[175]? = some 9 by decide) (show fS[37]? = some 2 by decide) J1 T1 F1 (by decide) (by decide) (by decide) (by decide) (by decide) (by decide) ⟨_, et, rfl⟩ hm
  · have et := lg_hv (q := 1) hv1 rfl
    exact lwP_gen2 I.1 (show fS[0]? = some 8 by decide) (show fS[175]? = some 9 by decide) (show fS[37]? = some 2 by decide) J1 T1 F1 (by decide) (by decide) (by decide) (by decide) (by decide) (by decide) ⟨_, et, rfl⟩ hm
theorem zFamM (hd : 6 ≤ d) (hn : n ≤ 940) (I : lwZ nc n bc b h) : nT nj_M X L xs g d nm_161 (fun rv h1 => rv = some (.int (fAns (fR b n))) ∧ lwZ nc 0 bc b h1) 0 (lv_args 0 [.ref 175]) [] h := by
  obtain ⟨d1, rfl⟩ : ∃ d1, d = d1 + 6 := ⟨d - 6, by omega⟩
  obtain ⟨o, thr, sz, lim, Y, flt, fat, got, lns, crs, b1, hh, nms, rsv, s, hrs, hb1, hby, hpic⟩ := pic_r I.1.1.2.1 I.2.1 I.2.2 I.1.2.2.2
  rw [ofI_n] at hpic
  obtain ⟨mz, hM, ks⟩ := k_family (L := L) (xs := xs) (d := d1) (o := o) (thr := thr) (sz := sz) (lim := lim) (X := Y) (flt := flt) (fat := fat) (got := got) (lns := lns) (crs := crs) (b := b1) (hh := hh) (nms := nms) (rsv := rsv) (s := s) hn hby hrs
  have hM2 : nj_M 161 = some nm_161 := rfl
  cases hM.symm.trans hM2
  have k1 := nT_up (X := X) (g := g) (by decide +kernel) (ks h hpic)
  obtain ⟨fm0, hm0, g2, g3, g4⟩ := I.1.1.2.2.1
  have hpre : aOk fS h [] [175] nk_209.2.2.1 := ⟨⟨rfl, fun i z r h => nomatch h⟩, tau_1 (show fS[175]? = some 9 by decide), List.forall_mem_cons.mpr ⟨⟨175, 9, fm0, _, rfl, hm0, nFd_hi (by decide), by rw [g2]; rfl⟩, (fun _ hx => nomatch hx)⟩, (fun e he => nomatch he), (fun e he => nomatch he)⟩
  have k2 := vk_209 (X := X) (L := L) (xs := xs) (g := g) (d1 + 6) (by show 6 ≤ d1 + 6; omega) nm_161 rfl h [] [175] [.ref 175] I.1.1.1 I.1.1.2.1 hpre ⟨⟨_, rfl, rfl⟩, trivial⟩
  refine nT.mono ?_ (nT_and k1 k2)
  rintro rv h1 ⟨⟨l1, ⟨o1, X1, fat1, got1, lns1, crs1, hh1, nms1, s1, e1, hP⟩, hk1, hv1, fr1⟩, J1, T1, F1, po, hpo, nu1, mu1, Z1, ok1, -⟩
  have hR : fR b n = sFam (tk b1 n 900) (decide (900 < n)) 901 0 Hs0 0 := by
    unfold fR
    rw [tk_cg (f := b1) (g := b) (fun j hj => hb1 j (by omega))]
  rw [hR]
  refine ⟨e1, lwZ_P I ?_ F1 (by decide) (by decide) (by decide) (by decide) (by decide)⟩
  have hpo2 := List.mem_singleton.mp (show po ∈ [_] from hpo)
  subst hpo2
  obtain ⟨fm1, hm1, em⟩ := (F1 175 9 (by decide)).1 ⟨9, rfl⟩ 9 fm0 hm0
  have gk : ∀ k, ¬ k < 1000 → (9, k) ∉ nk_209.2.2.2.2.1 → nGh k h 9 fm0 = 1 → nGh k h1 9 fm1 = 1 := fun k hk hn e => by
    have e2 := em k hn
    rw [nFd_hi hk, nFd_hi hk, e] at e2
    exact Value.int.inj (Option.some.inj e2)
  have g12 : nGh 1002 h1 9 fm1 = 1 := by
    obtain ⟨w, v1, v2⟩ := fc_at ok1 (show (0, 1002, (.inl 1 : aV)) ∈ _ from List.mem_cons_self) (Z1.mu (show [175][0]? = some 175 from rfl)) hm1
    rw [nFd_hi (by decide)] at v1
    have v3 : w = .int (Int32.ofInt 1) := v2
    rw [v3] at v1
    exact Value.int.inj (Option.some.inj v1)
  have ht := lwP_txt I.1 (show fS[1]? = some 7 by decide) F1 (by decide)
  obtain ⟨I0, ⟨fx, hx, fx0⟩, -, -⟩ := id I.1
  obtain ⟨fx1, hx1, ex⟩ := (F1 0 8 (by decide)).1 ⟨8, rfl⟩ 8 fx hx
  have hI := lwI_fr2 I0 (show fS[0]? = some 8 by decide) (show fS[37]? = some 2 by decide) J1 T1 F1 ⟨fm1, hm1, g12, gk 1003 (by decide) (by decide) g3, gk 1004 (by decide) (by decide) g4⟩ (by decide) (by decide)
  rcases hP with ⟨e, p, -, -, rfl⟩ | ⟨H, ln, nmsB, -, -, -, -, -, rfl⟩
  · have et := lg_hv (q := 175) hv1 rfl
    exact ⟨hI, ⟨fx1, hx1, (nFd_lo (by decide)).symm.trans ((ex 0 (by decide)).trans ((nFd_lo (by decide)).trans fx0))⟩, ht, _, et, rfl⟩
  · have et := lg_hv (q := 175) hv1 rfl
    exact ⟨hI, ⟨fx1, hx1, (nFd_lo (by decide)).symm.trans ((ex 0 (by decide)).trans ((nFd_lo (by decide)).trans fx0))⟩, ht, _, et, rfl⟩
end LWZ
