/-! sentence, on both sides -/
section PIC3
variable {h : List nC}
theorem pic_ph54 (T : tOk nFT nAT fS h) (H : fxOk h) (G : fyOk h) : ∃ p : Ph, hv (ph54 p) h := by
  obtain ⟨fa, efa, -⟩ := T.obj (q := 54) (t := 4) (show fS[54]? = some 4 by decide) (show oT 4 = some 4 by decide)
  obtain ⟨ifa4, gfa4⟩ := fldI (k := 4) T (show fS[54]? = some 4 by decide) (show oT 4 = some 4 by decide) efa rfl
  obtain ⟨ifa5, gfa5⟩ := fldI (k := 5) T (show fS[54]? = some 4 by decide) (show oT 4 = some 4 by decide) efa rfl
  have gfa0 : fa[0]? = some (.ref 55) := fy_at G 71 rfl efa
  have gfa1 : fa[1]? = some (.ref 56) := fy_at G 72 rfl efa
  have gfa2 : fa[2]? = some (.ref 57) := fy_at G 73 rfl efa
  have gfa3 : fa[3]? = some (.ref 58) := fy_at G 74 rfl efa
  have nfa : fa[6]? = none := fy_at G 70 rfl efa
  have lfa : fa = [.ref 55, .ref 56, .ref 57, .ref 58, .int ifa4, .int ifa5] := by
    refine (fs_list (n := 5) (gfa5) nfa).trans ?_
    show [fa.getD 0 (.int 0), fa.getD 1 (.int 0), fa.getD 2 (.int 0), fa.getD 3 (.int 0), fa.getD 4 (.int 0), fa.getD 5 (.int 0)] = _
    rw [gD gfa0, gD gfa1, gD gfa2, gD gfa3, gD gfa4, gD gfa5]
  obtain ⟨r0, er0, -⟩ := rowI T (q := 55) (show fS[55]? = some 30 by decide) (show nAT 30 = some (0, 40, .inl _) from rfl) rfl
  obtain ⟨r1, er1, -⟩ := rowI T (q := 56) (show fS[56]? = some 31 by decide) (show nAT 31 = some (0, 40, .inl _) from rfl) rfl
  obtain ⟨r2, er2, -⟩ := rowI T (q := 57) (show fS[57]? = some 32 by decide) (show nAT 32 = some (0, 40, .inl _) from rfl) rfl
  obtain ⟨r3, er3, -⟩ := rowI T (q := 58) (show fS[58]? = some 33 by decide) (show nAT 33 = some (0, 40, .inl _) from rfl) rfl
  rw [lfa] at efa
  exact ⟨(r0, r1, r2, r3, ifa4, ifa5), hv_c efa (hv_c er0 (hv_c er1 (hv_c er2 (hv_c er3 (hv_0)))))⟩
theorem uS_of (G : fyOk h) {u : Nat → Value} {lf : Int32} (hp : hv (slP u lf) h) : (fun k => if k = 6 then .ref 54 else u k) = u := by
  have e := lg_hv (q := 0) hp rfl
  have a6 : some (u 6) = some (.ref 54) := fy_at G 68 rfl e
  funext k
  by_cases c : k = 6
  · rw [if_pos c, c]; exact (Option.some.inj a6).symm
  · rw [if_neg c]
theorem oS_of (T : tOk nFT nAT fS h) (G : fyOk h) {o : Nat → Value} {thr len sz lim : Int32} {X : Lx} {flt fat got lns crs : Int32} {b hh : Nat → Int32} {nms rsv : Nat → Int64} {s : Nat → Int32} (hp : hv (rfS o thr len sz lim X flt fat got lns crs b hh nms rsv s) h) : ∃ c39 c40 c41 c42 c43 : Int32, (fun k => if k = 38 then .ref 190 else if k = 39 then .int c39 else if k = 40 then .int c40 else if k = 41 then .int c41 else if k = 42 then .int c42 else if k = 43 then .int c43 else o k) = o := by
  have e := lg_hv (q := 175) hp rfl
  have a38 : some (o 38) = some (.ref 190) := fy_at G 69 rfl e
  obtain ⟨c39, g39⟩ := fldI (k := 39) T (show fS[175]? = some 9 by decide) (show oT 9 = some 9 by decide) e rfl
  have a39 : some (o 39) = some (.int c39) := g39
  obtain ⟨c40, g40⟩ := fldI (k := 40) T (show fS[175]? = some 9 by decide) (show oT 9 = some 9 by decide) e rfl
  have a40 : some (o 40) = some (.int c40) := g40
  obtain ⟨c41, g41⟩ := fldI (k := 41) T (show fS[175]? = some 9 by decide) (show oT 9 = some 9 by decide) e rfl
  have a41 : some (o 41) = some (.int c41) := g41
  obtain ⟨c42, g42⟩ := fldI (k := 42) T (show fS[175]? = some 9 by decide) (show oT 9 = some 9 by decide) e rfl
  have a42 : some (o 42) = some (.int c42) := g42
  obtain ⟨c43, g43⟩ := fldI (k := 43) T (show fS[175]? = some 9 by decide) (show oT 9 = some 9 by decide) e rfl
  have a43 : some (o 43) = some (.int c43) := g43
  refine ⟨c39, c40, c41, c42, c43, ?_⟩
  funext k
  by_cases e38 : k = 38
  · rw [if_pos e38, e38]; exact (Option.some.inj a38).symm
  rw [if_neg e38]
  by_cases e39 : k = 39
  · rw [if_pos e39, e39]; exact (Option.some.inj a39).symm
  rw [if_neg e39]
  by_cases e40 : k = 40
  · rw [if_pos e40, e40]; exact (Option.some.inj a40).symm
  rw [if_neg e40]
  by_cases e41 : k = 41
  · rw [if_pos e41, e41]; exact (Option.some.inj a41).symm
  rw [if_neg e41]
  by_cases e42 : k = 42
  · rw [if_pos e42, e42]; exact (Option.some.inj a42).symm
  rw [if_neg e42]
  by_cases e43 : k = 43
  · rw [if_pos e43, e43]; exact (Option.some.inj a43).symm
  rw [if_neg e43]
end PIC3
/-- what a sentence answers -/
def snA (b : Nat → Int32) (n : Nat) (N : N4) : Int32 := sAns (sSen (tk b n 200) (N, ([], [], [], []), [], []) (decide (200 < n)))
section LWS
variable {X : nX} {L : Nat} {xs : Nat → Int32} {g d n nc nm : Nat} {b bc bm : Nat → Int32} {h : List nC} {z y0 y1 : Ho} {k0 k1 : Int32} {s kp : Sn} {ak : Nat → Int32} {N : N4}
set_option maxHeartbeats 2000000 in
theorem ySenS (hd : 29 ≤ d) (hn : n ≤ 940) (I : lwY n n b b z y0 y1 k0 k1 s kp ak h) (n1 : nmOk N) (n2 : nmR z.2.1 (nsl N)) : nT nj_M X L xs g d nm_136 (fun rv h1 => rv = some (.int (snA b n N)) ∧ lwY 0 n b b z y0 y1 k0 k1 s kp ak h1) 0 (lv_args 0 [.ref 0]) [] h := by
  obtain ⟨d1, rfl⟩ : ∃ d1, d = d1 + 29 := ⟨d - 29, by omega⟩
  have T := I.1.1.1.2.1
  obtain ⟨u, lf, b1, kd, pl, vl, ky, tok, cur, tak, tl, fk, fp, y, zd, x, p1, p2, p3, p4, hky, hb1, hpic⟩ := pic_c T I.1.2.1 I.1.2.2 I.1.1.2.2.1
  have hyz := ho_inj (hv_l (hv_r (hv_r hpic))) I.2.2.1.1
  rw [ofI_n, hyz] at hpic
  obtain ⟨P, q1⟩ := pic_ph54 T I.1.2.1 I.2.1
  obtain ⟨r, q2⟩ := pic_ph49 T I.1.2.1 I.2.1
  have s0 := hv_l hpic
  have eu := uS_of I.2.1 s0
  rw [← eu] at s0
  obtain ⟨mz, hM0, ks⟩ := c_sentence (L := L) (xs := xs) (d := d1) (u := u) (lf := lf) (b := b1) (kd := kd) (pl := pl) (vl := vl) (ky := ky) (tok := tok) (cur := cur) (tak := tak) (tl := tl) (fk := fk) (fp := fp) (z := z) (P := P) (r := r) (H := (N, ([], [], [], []), [], [])) hn hky n1 n2
  have hM2 : nj_M 136 = some nm_136 := rfl
  cases hM0.symm.trans hM2
  have k1 := nT_up (X := X) (g := g) (by decide +kernel) (ks h (hv_a s0 (hv_a (hv_a (hv_a (hv_l (hv_r hpic)) (hv_l (hv_r (hv_r hpic)))) q1) q2)))
  have hpre : aOk fS h [] [0] nk_155.2.2.1 := ⟨⟨rfl, fun i z r h => nomatch h⟩, tau_1 (show fS[0]? = some 8 by decide), (fun e he => nomatch he), (fun e he => nomatch he), (fun e he => nomatch he)⟩
  have k2 := (nV_cc (vk_155 (X := X) (L := L) (xs := xs) (g := g) (S := fS)) (by decide)) (d1 + 29) (by show 29 ≤ d1 + 29; omega) nm_136 rfl h [] [0] [.ref 0] (yJ I) (tOk_to T) hpre ⟨⟨_, rfl, rfl⟩, trivial⟩
  refine nT.mono ?_ (nT_and k1 k2)
  rintro rv h1 ⟨⟨l1, ⟨e1, kd1, pl1, vl1, lf1, tok1, cur1, tak1, tl1, fk1, fp1, P1, r1, -, rfl⟩, hk1, hv1, fr1⟩, J1, T1, F1, -⟩
  have hm := lwP_mod I.1.1 (show fS[175]? = some 9 by decide) F1 (by decide)
  have et := lg_hv (q := 1) hv1 rfl
  have Z1 : lwZ 0 n b b h1 := lwZ_P I.1 (lwP_gen2 I.1.1 (show fS[0]? = some 8 by decide) (show fS[175]? = some 9 by decide) (show fS[37]? = some 2 by decide) J1.1 (tOk_of T1) F1 (by decide) (by decide) (by decide) (by decide) (by decide) (by decide) ⟨_, et, rfl⟩ hm) F1 (by decide) (by decide) (by decide) (by decide) (by decide)
  refine ⟨e1.trans ?_, lwY_fr I J1 (tOk_of T1) F1 Z1 (by decide +kernel) (by decide +kernel)⟩
  unfold snA
  rw [tk_cg (f := b1) (g := b) (fun j hj => hb1 j (by omega))]
set_option maxHeartbeats 2000000 in
theorem ySenM (hd : 3 ≤ d) (hn : n ≤ 940) (I : lwY nc n bc b z y0 y1 k0 k1 s kp ak h) (n1 : nmOk N) (n2 : cnQ s.1 N) (n3 : nmZ s.2 N) : nT nj_M X L xs g d nm_251 (fun rv h1 => rv = some (.int (snA b n N)) ∧ lwY nc 0 bc b z y0 y1 k0 k1 s kp ak h1) 0 (lv_args 0 [.ref 175]) [] h := by
  obtain ⟨d1, rfl⟩ : ∃ d1, d = d1 + 3 := ⟨d - 3, by omega⟩
  have T := I.1.1.1.2.1
  obtain ⟨o, thr, sz, lim, Y, flt, fat, got, lns, crs, b1, hh, nms, rsv, s1, hrs, hb1, hby, hpic⟩ := pic_r T I.1.2.1 I.1.2.2 I.1.1.2.2.2
  rw [ofI_n] at hpic
  obtain ⟨⟨s3, e3, h3⟩, m2, m3, ⟨n4, e5, h5⟩, m6⟩ := id I.2.2.2
  have es : s1 = s3 := celI ((lg_hv (q := 177) hpic rfl).symm.trans e3)
  have en : nms = n4 := celL ((lg_hv (q := 180) hpic rfl).symm.trans e5)
  obtain ⟨c39, c40, c41, c42, c43, eo⟩ := oS_of T I.2.1 hpic
  obtain ⟨cd, e179, -⟩ := rowI T (q := 179) (show fS[179]? = some 52 by decide) (show nAT 52 = some (0, 135, .inl _) from rfl) rfl
  obtain ⟨st, e190, -⟩ := rowI T (q := 190) (show fS[190]? = some 63 by decide) (show nAT 63 = some (0, 45, .inl _) from rfl) rfl
  have hp0 := hv_l hpic
  rw [← eo] at hp0
  have l2 := n1.2.1
  have l3 := n1.2.2.1
  have hnm : ∀ i, i < 26 → nms i = s.2 i := fun i hi => by rw [en]; exact h5 i hi
  obtain ⟨mz, hM0, ks⟩ := k_sentence (L := L) (xs := xs) (d := d1) (o := o) (thr := thr) (sz := sz) (lim := lim) (X := Y) (flt := flt) (fat := fat) (got := got) (lns := lns) (crs := crs) (b := b1) (hh := hh) (nms := nms) (rsv := rsv) (s := s1) (cd := cd) (st := st) (c39 := c39) (c40 := c40) (c41 := c41) (c42 := c42) (c43 := c43) (H := (N, ([], [], [], []), [], [])) hn hby hrs (by show 16 + N.2.2.1.length ≤ 52; omega) (nmF_cg (ns := N.2.2.1) n3.2.1 (by omega) hnm) (fun w hw => n1.2.2.2.2.2 w (alln_mem.mpr (Or.inr (Or.inr (Or.inl hw))))) (by rw [es]; exact (h3 2 (by decide)).trans n2.2.2.1) (by show 6 + N.2.1.length ≤ 52; omega) (nmF_cg (ns := N.2.1) n3.1 (by omega) hnm) (fun w hw => n1.2.2.2.2.2 w (alln_mem.mpr (Or.inr (Or.inl hw)))) (by rw [es]; exact (h3 1 (by decide)).trans n2.2.1)
  have hM2 : nj_M 251 = some nm_251 := rfl
  cases hM0.symm.trans hM2
  have k1 := nT_up (X := X) (g := g) (by decide +kernel) (ks h (hv_a hp0 (hv_c e179 (hv_c e190 (hv_r hpic)))))
  obtain ⟨fm0, hm0, g2, g3, g4⟩ := I.1.1.1.2.2.1
  have hpre : aOk fS h [] [175] nk_328.2.2.1 := ⟨⟨rfl, fun i z r h => nomatch h⟩, tau_1 (show fS[175]? = some 9 by decide), List.forall_mem_cons.mpr ⟨⟨175, 9, fm0, _, rfl, hm0, nFd_hi (by decide), by rw [g2]; rfl⟩, (fun _ hx => nomatch hx)⟩, (fun e he => nomatch he), (fun e he => nomatch he)⟩
  have k2 := (wk_328 (X := X) (L := L) (xs := xs) (g := g) (S := fS) (cc := some s.1)) (d1 + 3) (by show 3 ≤ d1 + 3; omega) nm_251 rfl h [] [175] [.ref 175] (yJ I) (tOk_to T) hpre ⟨⟨_, rfl, rfl⟩, trivial⟩
  refine nT.mono ?_ (nT_and k1 k2)
  rintro rv h1 ⟨⟨l1, ⟨e1, X1, flt1, fat1, got1, x39, x40, x41, x42, x43, cd1, st1, s2, -, hs2, rfl⟩, hk1, hv1, fr1⟩, J1, T1, F1, po, hpo, nu1, mu1, X9, ok1, -⟩
  have hpo2 := List.mem_singleton.mp (show po ∈ [_] from hpo)
  subst hpo2
  obtain ⟨fm1, hm1, em⟩ := (F1 175 9 (by decide)).1 ⟨9, rfl⟩ 9 fm0 hm0
  have gk : ∀ k, ¬ k < 1000 → (9, k) ∉ nk_328.2.2.2.2.1 → nGh k h 9 fm0 = 1 → nGh k h1 9 fm1 = 1 := fun k hk hn e => by
    have e2 := em k hn
    rw [nFd_hi hk, nFd_hi hk, e] at e2
    exact Value.int.inj (Option.some.inj e2)
  have g12 : nGh 1002 h1 9 fm1 = 1 := by
    obtain ⟨w, v1, v2⟩ := fc_at ok1 (show (0, 1002, (.inl 1 : aV)) ∈ _ from List.mem_cons_self) (X9.mu (show [175][0]? = some 175 from rfl)) hm1
    rw [nFd_hi (by decide)] at v1
    have v3 : w = .int (Int32.ofInt 1) := v2
    rw [v3] at v1
    exact Value.int.inj (Option.some.inj v1)
  have ht := lwP_txt I.1.1 (show fS[1]? = some 7 by decide) F1 (by decide)
  obtain ⟨I0, ⟨fx, hx, fx0⟩, -, -⟩ := id I.1.1
  obtain ⟨fx1, hx1, ex⟩ := (F1 0 8 (by decide)).1 ⟨8, rfl⟩ 8 fx hx
  have hI := lwI_fr2 I0 (show fS[0]? = some 8 by decide) (show fS[37]? = some 2 by decide) J1.1 (tOk_of T1) F1 ⟨fm1, hm1, g12, gk 1003 (by decide) (by decide) g3, gk 1004 (by decide) (by decide) g4⟩ (by decide) (by decide)
  have et := lg_hv (q := 175) hv1 rfl
  have Z1 : lwZ nc 0 bc b h1 := lwZ_P I.1 ⟨hI, ⟨fx1, hx1, (nFd_lo (by decide)).symm.trans ((ex 0 (by decide)).trans ((nFd_lo (by decide)).trans fx0))⟩, ht, _, et, rfl⟩ F1 (by decide) (by decide) (by decide) (by decide) (by decide)
  refine ⟨e1.trans ?_, lwY_fr I J1 (tOk_of T1) F1 Z1 (by decide +kernel) (by decide +kernel)⟩
  unfold snA
  rw [tk_cg (f := b1) (g := b) (fun j hj => hb1 j (by omega))]
end LWS
