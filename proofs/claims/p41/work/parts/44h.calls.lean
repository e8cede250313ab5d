section CALLS
variable {L : Nat} {xs : Nat → Int32} {d : Nat} {h : List nC} {c0 c1 m0 m1 : Int32}
def rR (u c0 c1 : Int32) : Int32 := if u = 0 then c0 else if u = 1 then c1 else 0
set_option maxRecDepth 100000 in
theorem slip_rest0 (hd : 1 ≤ d) (I : lwQ c0 c1 m0 m1 h) (kb : kB c0) : nT nj_M nX0 L xs 0 d nm_152 (fun rv h1 => rv = some (.int c0) ∧ lwQ c0 c1 m0 m1 h1) 0 (lv_args 0 [.ref 0, .int 0]) [] h := by
  obtain ⟨⟨fx, hx, fx9⟩, ⟨fr, hr, fr0, fr1⟩, ⟨f0, h0, f03⟩, ⟨f1, h1, f13⟩, -⟩ := I.2.1
  show nT nj_M nX0 L xs 0 d nm_152 _ 0 [(0, .ref 0), (1, .int 0)] [] h
  refine nT_pure (pc1 := 1) (lv1 := [(0, .ref 0), (1, .int 0)]) (st1 := [.int 0]) rfl rfl rfl ?_
  refine nT_pure (pc1 := 9) (lv1 := [(0, .ref 0), (1, .int 0)]) (st1 := []) rfl rfl rfl ?_
  refine nT_pure (pc1 := 10) (lv1 := [(0, .ref 0), (1, .int 0)]) (st1 := [.ref 0]) rfl rfl rfl ?_
  refine nT_mem (pc1 := 13) (st1 := [.ref 113]) (h1 := h) rfl rfl rfl (by show nj_getf 10 8 9 [.ref 0] h = _; simp only [nj_getf, hx, fx9, if_true]) ?_
  refine nT_pure (pc1 := 14) (lv1 := [(0, .ref 0), (1, .int 0)]) (st1 := [.int 0, .ref 113]) rfl rfl rfl ?_
  refine nT_mem (pc1 := 15) (st1 := [.ref 114]) (h1 := h) rfl rfl rfl (by show nj_aald 14 [.int 0, .ref 113] h = _; simp only [nj_aald, hr]; rw [if_pos (by decide)]; simp only [show (0 : Int32).toNatClampNeg = 0 from rfl, fr0]) ?_
  refine nT_mem (pc1 := 18) (st1 := [.int c0]) (h1 := h) rfl rfl rfl (by show nj_getf 15 1 3 [.ref 114] h = _; simp only [nj_getf, h0, f03, if_true]) ?_
  rcases kb with rfl | rfl
  · refine nT_pure (pc1 := 21) (lv1 := [(0, .ref 0), (1, .int 0)]) (st1 := []) rfl rfl rfl ?_
    refine nT_pure (pc1 := 22) (lv1 := [(0, .ref 0), (1, .int 0)]) (st1 := [.int (Int32.ofInt 0)]) rfl rfl rfl ?_
    exact nT_ret rfl (rv := some (.int 0)) rfl ⟨rfl, I⟩
  · refine nT_pure (pc1 := 23) (lv1 := [(0, .ref 0), (1, .int 0)]) (st1 := []) rfl rfl rfl ?_
    have k := aAt_ok (c := nk_sr) (pc0 := 23) (al0 := na_sr) (lv0 := [(0, .ref 0), (1, .int 0)]) (nu := [0]) (mu := [0]) (xs := xs) (L := L) (nJJ_ok fS) ww_sr wx_sr hd (show nj_M nk_sr.1 = some nm_152 from rfl) I.1.1 I.1.2.1 ⟨aE1 (r0 := (0, 1)) ⟨by decide, by decide⟩, tau_1 (by decide), (fun e he => nomatch he), (fun e he => nomatch he), (fun e he => nomatch he)⟩ (List.forall_mem_cons.mpr ⟨⟨.ref 0, rfl, 0, rfl, rfl⟩, List.forall_mem_cons.mpr ⟨⟨.int 0, rfl, 0, rfl, rfl⟩, (fun _ hx => nomatch hx)⟩⟩) (fun y hy => by cases hy) vc_sr ve_sr
    refine nT.mono ?_ k
    rintro rv h2 ⟨J1, T1, F1, po, hpo, nu1, mu1, X1, ok1, res1⟩
    have hpo2 := List.mem_singleton.mp (show po ∈ [_] from hpo)
    subst hpo2
    exact ⟨res_c res1, lwQ_fr I J1 T1 F1 (by decide) (by decide) (by decide) (by decide) (by decide) (by decide) (by decide) (by decide) (by decide) (by decide)⟩
set_option maxRecDepth 100000 in
theorem slip_rest1 (hd : 1 ≤ d) (I : lwQ c0 c1 m0 m1 h) (kb : kB c1) : nT nj_M nX0 L xs 0 d nm_152 (fun rv h1 => rv = some (.int c1) ∧ lwQ c0 c1 m0 m1 h1) 0 (lv_args 0 [.ref 0, .int 1]) [] h := by
  obtain ⟨⟨fx, hx, fx9⟩, ⟨fr, hr, fr0, fr1⟩, ⟨f0, h0, f03⟩, ⟨f1, h1, f13⟩, -⟩ := I.2.1
  show nT nj_M nX0 L xs 0 d nm_152 _ 0 [(0, .ref 0), (1, .int 1)] [] h
  refine nT_pure (pc1 := 1) (lv1 := [(0, .ref 0), (1, .int 1)]) (st1 := [.int 1]) rfl rfl rfl ?_
  refine nT_pure (pc1 := 4) (lv1 := [(0, .ref 0), (1, .int 1)]) (st1 := []) rfl rfl rfl ?_
  refine nT_pure (pc1 := 5) (lv1 := [(0, .ref 0), (1, .int 1)]) (st1 := [.int 1]) rfl rfl rfl ?_
  refine nT_pure (pc1 := 6) (lv1 := [(0, .ref 0), (1, .int 1)]) (st1 := [.int (Int32.ofInt 1), .int 1]) rfl rfl rfl ?_
  refine nT_pure (pc1 := 9) (lv1 := [(0, .ref 0), (1, .int 1)]) (st1 := []) rfl rfl rfl ?_
  refine nT_pure (pc1 := 10) (lv1 := [(0, .ref 0), (1, .int 1)]) (st1 := [.ref 0]) rfl rfl rfl ?_
  refine nT_mem (pc1 := 13) (st1 := [.ref 113]) (h1 := h) rfl rfl rfl (by show nj_getf 10 8 9 [.ref 0] h = _; simp only [nj_getf, hx, fx9, if_true]) ?_
  refine nT_pure (pc1 := 14) (lv1 := [(0, .ref 0), (1, .int 1)]) (st1 := [.int 1, .ref 113]) rfl rfl rfl ?_
  refine nT_mem (pc1 := 15) (st1 := [.ref 141]) (h1 := h) rfl rfl rfl (by show nj_aald 14 [.int 1, .ref 113] h = _; simp only [nj_aald, hr]; rw [if_pos (by decide)]; simp only [show (1 : Int32).toNatClampNeg = 1 from rfl, fr1]) ?_
  refine nT_mem (pc1 := 18) (st1 := [.int c1]) (h1 := h) rfl rfl rfl (by show nj_getf 15 1 3 [.ref 141] h = _; simp only [nj_getf, h1, f13, if_true]) ?_
  rcases kb with rfl | rfl
  · refine nT_pure (pc1 := 21) (lv1 := [(0, .ref 0), (1, .int 1)]) (st1 := []) rfl rfl rfl ?_
    refine nT_pure (pc1 := 22) (lv1 := [(0, .ref 0), (1, .int 1)]) (st1 := [.int (Int32.ofInt 0)]) rfl rfl rfl ?_
    exact nT_ret rfl (rv := some (.int 0)) rfl ⟨rfl, I⟩
  · refine nT_pure (pc1 := 23) (lv1 := [(0, .ref 0), (1, .int 1)]) (st1 := []) rfl rfl rfl ?_
    have k := aAt_ok (c := nk_sr) (pc0 := 23) (al0 := na_sr) (lv0 := [(0, .ref 0), (1, .int 1)]) (nu := [1]) (mu := [0]) (xs := xs) (L := L) (nJJ_ok fS) ww_sr wx_sr hd (show nj_M nk_sr.1 = some nm_152 from rfl) I.1.1 I.1.2.1 ⟨aE1 (r0 := (0, 1)) ⟨by decide, by decide⟩, tau_1 (by decide), (fun e he => nomatch he), (fun e he => nomatch he), (fun e he => nomatch he)⟩ (List.forall_mem_cons.mpr ⟨⟨.ref 0, rfl, 0, rfl, rfl⟩, List.forall_mem_cons.mpr ⟨⟨.int 1, rfl, 1, rfl, rfl⟩, (fun _ hx => nomatch hx)⟩⟩) (fun y hy => by cases hy) vc_sr ve_sr
    refine nT.mono ?_ k
    rintro rv h2 ⟨J1, T1, F1, po, hpo, nu1, mu1, X1, ok1, res1⟩
    have hpo2 := List.mem_singleton.mp (show po ∈ [_] from hpo)
    subst hpo2
    exact ⟨res_c res1, lwQ_fr I J1 T1 F1 (by decide) (by decide) (by decide) (by decide) (by decide) (by decide) (by decide) (by decide) (by decide) (by decide)⟩
theorem tau_2q {S : List Nat} {q1 t1 q2 t2 : Nat} (h1 : S[q1]? = some t1) (h2 : S[q2]? = some t2) : [t1, t2].length = [q1, q2].length ∧ ∀ (j q t : Nat), [q1, q2][j]? = some q → [t1, t2][j]? = some t → S[q]? = some t := by
  refine ⟨rfl, fun j q t a b => ?_⟩
  match j, a, b with
  | 0, a, b => cases a; cases b; exact h1
  | 1, a, b => cases a; cases b; exact h2
set_option maxRecDepth 100000 in
theorem slip_img0 (hd : 1 ≤ d) (I : lwQ c0 c1 m0 m1 h) : nT nj_M nX0 L xs 0 d nm_151 (fun rv h1 => rv = some (.int 1) ∧ lwQ 1 c1 m0 m1 h1) 0 (lv_args 0 [.ref 0, .int 0]) [] h := by
  obtain ⟨⟨fx, hx, fx9⟩, ⟨fr, hr, fr0, fr1⟩, -⟩ := I.2.1
  show nT nj_M nX0 L xs 0 d nm_151 _ 0 [(0, .ref 0), (1, .int 0)] [] h
  refine nT_pure (pc1 := 1) (lv1 := [(0, .ref 0), (1, .int 0)]) (st1 := [.int 0]) rfl rfl rfl ?_
  refine nT_pure (pc1 := 11) (lv1 := [(0, .ref 0), (1, .int 0)]) (st1 := []) rfl rfl rfl ?_
  refine nT_pure (pc1 := 12) (lv1 := [(0, .ref 0), (1, .int 0)]) (st1 := [.ref 0]) rfl rfl rfl ?_
  refine nT_mem (pc1 := 15) (st1 := [.ref 113]) (h1 := h) rfl rfl rfl (by show nj_getf 12 8 9 [.ref 0] h = _; simp only [nj_getf, hx, fx9, if_true]) ?_
  refine nT_pure (pc1 := 16) (lv1 := [(0, .ref 0), (1, .int 0)]) (st1 := [.int 0, .ref 113]) rfl rfl rfl ?_
  refine nT_mem (pc1 := 17) (st1 := [.ref 114]) (h1 := h) rfl rfl rfl (by show nj_aald 16 [.int 0, .ref 113] h = _; simp only [nj_aald, hr]; rw [if_pos (by decide)]; simp only [show (0 : Int32).toNatClampNeg = 0 from rfl, fr0]) ?_
  refine nT_pure (pc1 := 18) (lv1 := [(2, .ref 114), (0, .ref 0), (1, .int 0)]) (st1 := []) rfl rfl rfl ?_
  have k := (nT_My hall_151 (by decide +kernel)).mp (aAt_ok (c := nk_si) (pc0 := 18) (al0 := na_si) (lv0 := [(2, .ref 114), (0, .ref 0), (1, .int 0)]) (nu := [0]) (mu := [0, 114]) (xs := xs) (L := L) (d := d) (nJJ_ok fS) ww_si wx_si hd (show (nj_My 151 (nvr nm_151 51 (fun p => decide (18 ≤ p)))) nk_si.1 = some (nvr nm_151 51 (fun p => decide (18 ≤ p))) from rfl) I.1.1 I.1.2.1 ⟨aE1 (r0 := (0, 1)) ⟨by decide, by decide⟩, tau_2q (by decide) (by decide), (fun e he => nomatch he), (fun e he => nomatch he), (fun e he => nomatch he)⟩ (List.forall_mem_cons.mpr ⟨⟨.ref 0, rfl, 0, rfl, rfl⟩, List.forall_mem_cons.mpr ⟨⟨.int 0, rfl, 0, rfl, rfl⟩, List.forall_mem_cons.mpr ⟨⟨.ref 114, rfl, 114, rfl, rfl⟩, (fun _ hx => nomatch hx)⟩⟩⟩) (fun y hy => by cases hy) vc_si ve_si)
  obtain ⟨n, rv, h1, e, J1, T1, F1, -⟩ := k
  obtain ⟨lv1, a1⟩ := nvr_at (by decide +kernel) n d 18 [(2, .ref 114), (0, .ref 0), (1, .int 0)] [] h rv h1 0 e
  have l2 : nj_get lv1 2 = some (.ref 114) := at_keep (K := 3) (by decide +kernel) n 18 [(2, .ref 114), (0, .ref 0), (1, .int 0)] [] h a1 2 (by decide) _ rfl rfl
  have I1 := lwQ_fr I J1 T1 F1 (by decide) (by decide) (by decide) (by decide) (by decide) (by decide) (by decide) (by decide) (by decide) (by decide)
  obtain ⟨-, -, ⟨f0, e0, f03⟩, ⟨f1, e1, f13⟩, -⟩ := id I1.2.1
  have hlt : 3 < f0.length := (List.getElem?_eq_some_iff.mp f03).1
  have hp : nj_putf (nm_151.1.name == "<init>") 53 1 3 0 [.int (Int32.ofInt 1), .ref 114] h1 = some (56, [], h1.set 114 (.inr (1, f0.set 3 (.int (Int32.ofInt 1))))) := by
    simp only [nj_putf, e0]
    rw [if_pos ⟨trivial, hlt, by decide, Or.inl trivial⟩]
  obtain ⟨st1, q9, t9, fs9, x9, e9, -, -, J2, T2, F2, -⟩ := m_putf (ini := (nm_151.1.name == "<init>")) (pc := 53) (a := 1) (b := 3) (v := 0) (mf := [(1, 3)]) (ma := []) (st := [.int (Int32.ofInt 1), .ref 114]) (nu := []) (mu := [114]) (s := ([], [1], [], [], [])) (ast := [.inl 1, .inr (.inr (.inl 0))]) (s1 := ([], [1], [(0, 3, .inl 1)], [], [])) (ast1 := []) (nJJ_ok fS) I1.1.1 I1.1.2.1 ⟨⟨rfl, fun i z r h => nomatch h⟩, tau_1 (by decide), (fun e he => nomatch he), (fun e he => nomatch he), (fun e he => nomatch he)⟩ ⟨rfl, ⟨114, rfl, rfl⟩, trivial⟩ rfl
  rw [hp] at e9
  simp only [Option.some.injEq, Prod.mk.injEq] at e9
  rw [← e9.2.2] at J2 T2 F2
  have I2 : lwQ 1 c1 m0 m1 (h1.set 114 (.inr (1, f0.set 3 (.int (Int32.ofInt 1))))) := by
    obtain ⟨⟨gx, k1, k2⟩, ⟨gr, k3, k4⟩, -, -, gm, k7, k8⟩ := I1.2.1
    obtain ⟨ga, k9, k10⟩ := I1.2.2
    have ne : ∀ j, ¬ 114 = j → (h1.set 114 (.inr (1, f0.set 3 (.int (Int32.ofInt 1)))))[j]? = h1[j]? := fun j hj => List.getElem?_set_ne hj
    exact ⟨lwI_fr I1.1 (by decide) (by decide) (by decide) J2 T2 F2 (by decide) (by decide) (by decide) (by decide) (by decide), ⟨⟨gx, (ne _ (by decide)).trans k1, k2⟩, ⟨gr, (ne _ (by decide)).trans k3, k4⟩, ⟨f0.set 3 (.int (Int32.ofInt 1)), List.getElem?_set_self (List.getElem?_eq_some_iff.mp e0).1, List.getElem?_set_self hlt⟩, ⟨f1, (ne _ (by decide)).trans e1, f13⟩, gm, (ne _ (by decide)).trans k7, k8⟩, ga, (ne _ (by decide)).trans k9, k10⟩
  have suf : nT nj_M nX0 L xs 0 d nm_151 (fun rv h1 => rv = some (.int 1) ∧ lwQ 1 c1 m0 m1 h1) 51 lv1 [] h1 := by
    refine nT_pure (pc1 := 52) (lv1 := lv1) (st1 := [.ref 114]) rfl rfl (by show nj_lda lv1 (51 + 1) 2 [] = _; unfold nj_lda; rw [l2]) ?_
    refine nT_pure (pc1 := 53) (lv1 := lv1) (st1 := [.int (Int32.ofInt 1), .ref 114]) rfl rfl rfl ?_
    refine nT_mem (pc1 := 56) (st1 := []) rfl rfl rfl hp ?_
    refine nT_pure (pc1 := 57) (lv1 := lv1) (st1 := [.int (Int32.ofInt 1)]) rfl rfl rfl ?_
    exact nT_ret rfl (rv := some (.int 1)) rfl ⟨rfl, I2⟩
  obtain ⟨n2, rv2, h3, e3, q3⟩ := suf
  obtain ⟨n3, e4⟩ := at_run e3 n 18 [(2, .ref 114), (0, .ref 0), (1, .int 0)] [] h a1
  exact ⟨n3, rv2, h3, e4, q3⟩
set_option maxRecDepth 100000 in
theorem slip_img1 (hd : 1 ≤ d) (I : lwQ c0 c1 m0 m1 h) : nT nj_M nX0 L xs 0 d nm_151 (fun rv h1 => rv = some (.int 1) ∧ lwQ c0 1 m0 m1 h1) 0 (lv_args 0 [.ref 0, .int 1]) [] h := by
  obtain ⟨⟨fx, hx, fx9⟩, ⟨fr, hr, fr0, fr1⟩, -⟩ := I.2.1
  show nT nj_M nX0 L xs 0 d nm_151 _ 0 [(0, .ref 0), (1, .int 1)] [] h
  refine nT_pure (pc1 := 1) (lv1 := [(0, .ref 0), (1, .int 1)]) (st1 := [.int 1]) rfl rfl rfl ?_
  refine nT_pure (pc1 := 4) (lv1 := [(0, .ref 0), (1, .int 1)]) (st1 := []) rfl rfl rfl ?_
  refine nT_pure (pc1 := 5) (lv1 := [(0, .ref 0), (1, .int 1)]) (st1 := [.int 1]) rfl rfl rfl ?_
  refine nT_pure (pc1 := 6) (lv1 := [(0, .ref 0), (1, .int 1)]) (st1 := [.int (Int32.ofInt 1), .int 1]) rfl rfl rfl ?_
  refine nT_pure (pc1 := 11) (lv1 := [(0, .ref 0), (1, .int 1)]) (st1 := []) rfl rfl rfl ?_
  refine nT_pure (pc1 := 12) (lv1 := [(0, .ref 0), (1, .int 1)]) (st1 := [.ref 0]) rfl rfl rfl ?_
  refine nT_mem (pc1 := 15) (st1 := [.ref 113]) (h1 := h) rfl rfl rfl (by show nj_getf 12 8 9 [.ref 0] h = _; simp only [nj_getf, hx, fx9, if_true]) ?_
  refine nT_pure (pc1 := 16) (lv1 := [(0, .ref 0), (1, .int 1)]) (st1 := [.int 1, .ref 113]) rfl rfl rfl ?_
  refine nT_mem (pc1 := 17) (st1 := [.ref 141]) (h1 := h) rfl rfl rfl (by show nj_aald 16 [.int 1, .ref 113] h = _; simp only [nj_aald, hr]; rw [if_pos (by decide)]; simp only [show (1 : Int32).toNatClampNeg = 1 from rfl, fr1]) ?_
  refine nT_pure (pc1 := 18) (lv1 := [(2, .ref 141), (0, .ref 0), (1, .int 1)]) (st1 := []) rfl rfl rfl ?_
  have k := (nT_My hall_151 (by decide +kernel)).mp (aAt_ok (c := nk_si) (pc0 := 18) (al0 := na_si) (lv0 := [(2, .ref 141), (0, .ref 0), (1, .int 1)]) (nu := [1]) (mu := [0, 141]) (xs := xs) (L := L) (d := d) (nJJ_ok fS) ww_si wx_si hd (show (nj_My 151 (nvr nm_151 51 (fun p => decide (18 ≤ p)))) nk_si.1 = some (nvr nm_151 51 (fun p => decide (18 ≤ p))) from rfl) I.1.1 I.1.2.1 ⟨aE1 (r0 := (0, 1)) ⟨by decide, by decide⟩, tau_2q (by decide) (by decide), (fun e he => nomatch he), (fun e he => nomatch he), (fun e he => nomatch he)⟩ (List.forall_mem_cons.mpr ⟨⟨.ref 0, rfl, 0, rfl, rfl⟩, List.forall_mem_cons.mpr ⟨⟨.int 1, rfl, 1, rfl, rfl⟩, List.forall_mem_cons.mpr ⟨⟨.ref 141, rfl, 141, rfl, rfl⟩, (fun _ hx => nomatch hx)⟩⟩⟩) (fun y hy => by cases hy) vc_si ve_si)
  obtain ⟨n, rv, h1, e, J1, T1, F1, -⟩ := k
  obtain ⟨lv1, a1⟩ := nvr_at (by decide +kernel) n d 18 [(2, .ref 141), (0, .ref 0), (1, .int 1)] [] h rv h1 0 e
  have l2 : nj_get lv1 2 = some (.ref 141) := at_keep (K := 3) (by decide +kernel) n 18 [(2, .ref 141), (0, .ref 0), (1, .int 1)] [] h a1 2 (by decide) _ rfl rfl
  have I1 := lwQ_fr I J1 T1 F1 (by decide) (by decide) (by decide) (by decide) (by decide) (by decide) (by decide) (by decide) (by decide) (by decide)
  obtain ⟨-, -, ⟨f0, e0, f03⟩, ⟨f1, e1, f13⟩, -⟩ := id I1.2.1
  have hlt : 3 < f1.length := (List.getElem?_eq_some_iff.mp f13).1
  have hp : nj_putf (nm_151.1.name == "<init>") 53 1 3 0 [.int (Int32.ofInt 1), .ref 141] h1 = some (56, [], h1.set 141 (.inr (1, f1.set 3 (.int (Int32.ofInt 1))))) := by
    simp only [nj_putf, e1]
    rw [if_pos ⟨trivial, hlt, by decide, Or.inl trivial⟩]
  obtain ⟨st1, q9, t9, fs9, x9, e9, -, -, J2, T2, F2, -⟩ := m_putf (ini := (nm_151.1.name == "<init>")) (pc := 53) (a := 1) (b := 3) (v := 0) (mf := [(1, 3)]) (ma := []) (st := [.int (Int32.ofInt 1), .ref 141]) (nu := []) (mu := [141]) (s := ([], [1], [], [], [])) (ast := [.inl 1, .inr (.inr (.inl 0))]) (s1 := ([], [1], [(0, 3, .inl 1)], [], [])) (ast1 := []) (nJJ_ok fS) I1.1.1 I1.1.2.1 ⟨⟨rfl, fun i z r h => nomatch h⟩, tau_1 (by decide), (fun e he => nomatch he), (fun e he => nomatch he), (fun e he => nomatch he)⟩ ⟨rfl, ⟨141, rfl, rfl⟩, trivial⟩ rfl
  rw [hp] at e9
  simp only [Option.some.injEq, Prod.mk.injEq] at e9
  rw [← e9.2.2] at J2 T2 F2
  have I2 : lwQ c0 1 m0 m1 (h1.set 141 (.inr (1, f1.set 3 (.int (Int32.ofInt 1))))) := by
    obtain ⟨⟨gx, k1, k2⟩, ⟨gr, k3, k4⟩, -, -, gm, k7, k8⟩ := I1.2.1
    obtain ⟨ga, k9, k10⟩ := I1.2.2
    have ne : ∀ j, ¬ 141 = j → (h1.set 141 (.inr (1, f1.set 3 (.int (Int32.ofInt 1)))))[j]? = h1[j]? := fun j hj => List.getElem?_set_ne hj
    exact ⟨lwI_fr I1.1 (by decide) (by decide) (by decide) J2 T2 F2 (by decide) (by decide) (by decide) (by decide) (by decide), ⟨⟨gx, (ne _ (by decide)).trans k1, k2⟩, ⟨gr, (ne _ (by decide)).trans k3, k4⟩, ⟨f0, (ne _ (by decide)).trans e0, f03⟩, ⟨f1.set 3 (.int (Int32.ofInt 1)), List.getElem?_set_self (List.getElem?_eq_some_iff.mp e1).1, List.getElem?_set_self hlt⟩, gm, (ne _ (by decide)).trans k7, k8⟩, ga, (ne _ (by decide)).trans k9, k10⟩
  have suf : nT nj_M nX0 L xs 0 d nm_151 (fun rv h1 => rv = some (.int 1) ∧ lwQ c0 1 m0 m1 h1) 51 lv1 [] h1 := by
    refine nT_pure (pc1 := 52) (lv1 := lv1) (st1 := [.ref 141]) rfl rfl (by show nj_lda lv1 (51 + 1) 2 [] = _; unfold nj_lda; rw [l2]) ?_
    refine nT_pure (pc1 := 53) (lv1 := lv1) (st1 := [.int (Int32.ofInt 1), .ref 141]) rfl rfl rfl ?_
    refine nT_mem (pc1 := 56) (st1 := []) rfl rfl rfl hp ?_
    refine nT_pure (pc1 := 57) (lv1 := lv1) (st1 := [.int (Int32.ofInt 1)]) rfl rfl rfl ?_
    exact nT_ret rfl (rv := some (.int 1)) rfl ⟨rfl, I2⟩
  obtain ⟨n2, rv2, h3, e3, q3⟩ := suf
  obtain ⟨n3, e4⟩ := at_run e3 n 18 [(2, .ref 141), (0, .ref 0), (1, .int 1)] [] h a1
  exact ⟨n3, rv2, h3, e4, q3⟩
theorem i3_fc {nu : List Int} (I : lwI fS 0 175 37 38 h) : ∀ e ∈ [(0, 1002, (.inl 1 : aV)), (0, 1003, .inl 1), (0, 1004, .inl 1)], fcOk nu [175] h e := by
  obtain ⟨fm, hm, a2, a3, a4⟩ := I.2.2.1
  intro e he
  simp only [List.mem_cons, List.not_mem_nil, or_false] at he
  rcases he with rfl | rfl | rfl
  · exact ⟨175, 9, fm, _, rfl, hm, nFd_hi (by decide), by rw [a2]; rfl⟩
  · exact ⟨175, 9, fm, _, rfl, hm, nFd_hi (by decide), by rw [a3]; rfl⟩
  · exact ⟨175, 9, fm, _, rfl, hm, nFd_hi (by decide), by rw [a4]; rfl⟩
theorem i3_of {h1 : List nC} {nu nu1 : List Int} {mu1 : List Nat} {s : aS} (T1 : tOk nFT nAT fS h1) (X1 : aX nu [175] nu1 mu1) (ok1 : aOk fS h1 nu1 mu1 s) (hs : s.2.2.1 = [(0, 1002, (.inl 1 : aV)), (0, 1003, .inl 1), (0, 1004, .inl 1)]) : ∃ fm, h1[175]? = some (.inr (9, fm)) ∧ nGh 1002 h1 9 fm = 1 ∧ nGh 1003 h1 9 fm = 1 ∧ nGh 1004 h1 9 fm = 1 := by
  obtain ⟨fm1, hm1, -⟩ := T1.obj (show fS[175]? = some 9 by decide) (show oT 9 = some 9 from rfl)
  have look : ∀ k, ¬ k < 1000 → (0, k, (.inl 1 : aV)) ∈ [(0, 1002, (.inl 1 : aV)), (0, 1003, .inl 1), (0, 1004, .inl 1)] → nGh k h1 9 fm1 = 1 := fun k hk he => by
    obtain ⟨w, v1, v2⟩ := fc_at ok1 (by rw [hs]; exact he) (X1.mu (show [175][0]? = some 175 from rfl)) hm1
    rw [nFd_hi hk] at v1
    have v3 : w = .int (Int32.ofInt 1) := v2
    rw [v3] at v1
    exact Value.int.inj (Option.some.inj v1)
  exact ⟨fm1, hm1, look 1002 (by decide) List.mem_cons_self, look 1003 (by decide) (List.mem_cons_of_mem _ List.mem_cons_self), look 1004 (by decide) (List.mem_cons_of_mem _ (List.mem_cons_of_mem _ List.mem_cons_self))⟩
set_option maxRecDepth 100000 in
theorem model_rest0 {d1 : Nat} (hd : 1 ≤ d1 + 1) (I : lwQ c0 c1 m0 m1 h) (kb : kB m0) : nT nj_M nX0 L xs 0 (d1 + 1) nm_263 (fun rv h1 => rv = some (.int m0) ∧ lwQ c0 c1 m0 m1 h1) 0 (lv_args 0 [.ref 175, .int 0]) [] h := by
  obtain ⟨-, -, -, -, fm, hm, fm47⟩ := id I.2.1
  have hlt : 0 < fm.length := Nat.lt_of_le_of_lt (Nat.zero_le _) (List.getElem?_eq_some_iff.mp fm47).1
  show nT nj_M nX0 L xs 0 (d1 + 1) nm_263 _ 0 [(0, .ref 175), (1, .int 0)] [] h
  refine nT_pure (pc1 := 1) (lv1 := [(0, .ref 175), (1, .int 0)]) (st1 := [.ref 175]) rfl rfl rfl ?_
  refine nT_pure (pc1 := 2) (lv1 := [(0, .ref 175), (1, .int 0)]) (st1 := [.int (Int32.ofInt 0), .ref 175]) rfl rfl rfl ?_
  have hp : nj_putf (nm_263.1.name == "<init>") 2 9 0 0 [.int (Int32.ofInt 0), .ref 175] h = some (5, [], h.set 175 (.inr (9, fm.set 0 (.int (Int32.ofInt 0))))) := by
    simp only [nj_putf, hm]
    rw [if_pos ⟨trivial, hlt, by decide, Or.inl trivial⟩]
  obtain ⟨st1, q9, t9, fs9, x9, e9, -, -, J2, T2, F2, -⟩ := m_putf (ini := (nm_263.1.name == "<init>")) (pc := 2) (a := 9) (b := 0) (v := 0) (mf := [(9, 0)]) (ma := []) (st := [.int (Int32.ofInt 0), .ref 175]) (nu := []) (mu := [175]) (s := ([], [9], [], [], [])) (ast := [.inl 0, .inr (.inr (.inl 0))]) (s1 := ([], [9], [(0, 0, .inl 0)], [], [])) (ast1 := []) (nJJ_ok fS) I.1.1 I.1.2.1 ⟨⟨rfl, fun i z r h => nomatch h⟩, tau_1 (by decide), (fun e he => nomatch he), (fun e he => nomatch he), (fun e he => nomatch he)⟩ ⟨rfl, ⟨175, rfl, rfl⟩, trivial⟩ rfl
  rw [hp] at e9
  simp only [Option.some.injEq, Prod.mk.injEq] at e9
  rw [← e9.2.2] at J2 T2 F2
  have I2 := lwQ_fr I J2 T2 F2 (by decide) (by decide) (by decide) (by decide) (by decide) (by decide) (by decide) (by decide) (by decide) (by decide)
  refine nT_mem (pc1 := 5) (st1 := []) rfl rfl rfl hp ?_
  generalize h.set 175 (.inr (9, fm.set 0 (.int (Int32.ofInt 0)))) = h2 at J2 T2 F2 I2 ⊢
  refine nT_pure (pc1 := 6) (lv1 := [(0, .ref 175), (1, .int 0)]) (st1 := [.int 0]) rfl rfl rfl ?_
  refine nT_pure (pc1 := 7) (lv1 := [(0, .ref 175), (1, .int 0)]) (st1 := [.int (Int32.ofInt 0), .int 0]) rfl rfl rfl ?_
  refine nT_pure (pc1 := 8) (lv1 := [(0, .ref 175), (1, .int 0)]) (st1 := [.int (Int32.ofInt 1), .int (Int32.ofInt 0), .int 0]) rfl rfl rfl ?_
  refine nT_call (d1 := d1) (mz := nm_176) rfl rfl (by decide) (by decide) (by decide) (by decide) rfl rfl ⟨20, some (.int (Int32.ofInt 1)), h2, rfl, ?_⟩
  show nT nj_M nX0 L xs 0 (d1 + 1) nm_263 _ 11 [(0, .ref 175), (1, .int 0)] [.int (Int32.ofInt 1)] h2
  refine nT_pure (pc1 := 14) (lv1 := [(0, .ref 175), (1, .int 0)]) (st1 := []) rfl rfl rfl ?_
  refine nT_pure (pc1 := 15) (lv1 := [(0, .ref 175), (1, .int 0)]) (st1 := [.ref 175]) rfl rfl rfl ?_
  obtain ⟨-, -, -, -, fn, hn, fn47⟩ := id I2.2.1
  obtain ⟨fa, ha, fa0, fa1⟩ := I2.2.2
  refine nT_mem (pc1 := 18) (st1 := [.ref 194]) (h1 := h2) rfl rfl rfl (by show nj_getf 15 9 47 [.ref 175] h2 = _; simp only [nj_getf, hn, fn47, if_true]) ?_
  refine nT_pure (pc1 := 19) (lv1 := [(0, .ref 175), (1, .int 0)]) (st1 := [.int 0, .ref 194]) rfl rfl rfl ?_
  refine nT_mem (pc1 := 20) (st1 := [.int m0]) (h1 := h2) rfl rfl rfl (by show nj_bald 19 [.int 0, .ref 194] h2 = _; simp only [nj_bald, ha]; rw [if_pos (by decide)]; simp only [show (0 : Int32).toNatClampNeg = 0 from rfl, fa0]) ?_
  rcases kb with rfl | rfl
  · refine nT_pure (pc1 := 23) (lv1 := [(0, .ref 175), (1, .int 0)]) (st1 := []) rfl rfl rfl ?_
    refine nT_pure (pc1 := 24) (lv1 := [(0, .ref 175), (1, .int 0)]) (st1 := [.int (Int32.ofInt 0)]) rfl rfl rfl ?_
    exact nT_ret rfl (rv := some (.int 0)) rfl ⟨rfl, I2⟩
  · refine nT_pure (pc1 := 25) (lv1 := [(0, .ref 175), (1, .int 0)]) (st1 := []) rfl rfl rfl ?_
    refine nT.mono ?_ (aAt_ok (c := nk_mr0) (pc0 := 25) (al0 := na_mr0) (lv0 := [(0, .ref 175), (1, .int 0)]) (nu := [0]) (mu := [175]) (xs := xs) (L := L) (nJJ_ok fS) ww_mr0 wx_mr0 (by show 0 ≤ d1 + 1; omega) (show nj_M nk_mr0.1 = some nm_263 from rfl) I2.1.1 I2.1.2.1 ⟨aE1 (r0 := (0, 0)) ⟨by decide, by decide⟩, tau_1 (by decide), i3_fc I2.1, (fun e he => nomatch he), (fun e he => nomatch he)⟩ (List.forall_mem_cons.mpr ⟨⟨.ref 175, rfl, 175, rfl, rfl⟩, List.forall_mem_cons.mpr ⟨⟨.int 0, rfl, 0, rfl, rfl⟩, (fun _ hx => nomatch hx)⟩⟩) (fun y hy => by cases hy) vc_mr0 ve_mr0)
    rintro rv h3 ⟨J3, T3, F3, po, hpo, nu1, mu1, X1, ok1, res1⟩
    have hpo2 := List.mem_singleton.mp (show po ∈ [_] from hpo)
    subst hpo2
    exact ⟨res_c res1, lwI_fr2 I2.1 (by decide) (by decide) J3 T3 F3 (i3_of T3 X1 ok1 rfl) (by decide) (by decide), lwK_fr I2.2.1 F3 (by decide) (by decide) (by decide) (by decide), lwA_fr I2.2.2 F3 (by decide)⟩
set_option maxRecDepth 100000 in
theorem model_rest1 {d1 : Nat} (hd : 1 ≤ d1 + 1) (I : lwQ c0 c1 m0 m1 h) (kb : kB m1) : nT nj_M nX0 L xs 0 (d1 + 1) nm_263 (fun rv h1 => rv = some (.int m1) ∧ lwQ c0 c1 m0 m1 h1) 0 (lv_args 0 [.ref 175, .int 1]) [] h := by
  obtain ⟨-, -, -, -, fm, hm, fm47⟩ := id I.2.1
  have hlt : 0 < fm.length := Nat.lt_of_le_of_lt (Nat.zero_le _) (List.getElem?_eq_some_iff.mp fm47).1
  show nT nj_M nX0 L xs 0 (d1 + 1) nm_263 _ 0 [(0, .ref 175), (1, .int 1)] [] h
  refine nT_pure (pc1 := 1) (lv1 := [(0, .ref 175), (1, .int 1)]) (st1 := [.ref 175]) rfl rfl rfl ?_
  refine nT_pure (pc1 := 2) (lv1 := [(0, .ref 175), (1, .int 1)]) (st1 := [.int (Int32.ofInt 0), .ref 175]) rfl rfl rfl ?_
  have hp : nj_putf (nm_263.1.name == "<init>") 2 9 0 0 [.int (Int32.ofInt 0), .ref 175] h = some (5, [], h.set 175 (.inr (9, fm.set 0 (.int (Int32.ofInt 0))))) := by
    simp only [nj_putf, hm]
    rw [if_pos ⟨trivial, hlt, by decide, Or.inl trivial⟩]
  obtain ⟨st1, q9, t9, fs9, x9, e9, -, -, J2, T2, F2, -⟩ := m_putf (ini := (nm_263.1.name == "<init>")) (pc := 2) (a := 9) (b := 0) (v := 0) (mf := [(9, 0)]) (ma := []) (st := [.int (Int32.ofInt 0), .ref 175]) (nu := []) (mu := [175]) (s := ([], [9], [], [], [])) (ast := [.inl 0, .inr (.inr (.inl 0))]) (s1 := ([], [9], [(0, 0, .inl 0)], [], [])) (ast1 := []) (nJJ_ok fS) I.1.1 I.1.2.1 ⟨⟨rfl, fun i z r h => nomatch h⟩, tau_1 (by decide), (fun e he => nomatch he), (fun e he => nomatch he), (fun e he => nomatch he)⟩ ⟨rfl, ⟨175, rfl, rfl⟩, trivial⟩ rfl
  rw [hp] at e9
  simp only [Option.some.injEq, Prod.mk.injEq] at e9
  rw [← e9.2.2] at J2 T2 F2
  have I2 := lwQ_fr I J2 T2 F2 (by decide) (by decide) (by decide) (by decide) (by decide) (by decide) (by decide) (by decide) (by decide) (by decide)
  refine nT_mem (pc1 := 5) (st1 := []) rfl rfl rfl hp ?_
  generalize h.set 175 (.inr (9, fm.set 0 (.int (Int32.ofInt 0)))) = h2 at J2 T2 F2 I2 ⊢
  refine nT_pure (pc1 := 6) (lv1 := [(0, .ref 175), (1, .int 1)]) (st1 := [.int 1]) rfl rfl rfl ?_
  refine nT_pure (pc1 := 7) (lv1 := [(0, .ref 175), (1, .int 1)]) (st1 := [.int (Int32.ofInt 0), .int 1]) rfl rfl rfl ?_
  refine nT_pure (pc1 := 8) (lv1 := [(0, .ref 175), (1, .int 1)]) (st1 := [.int (Int32.ofInt 1), .int (Int32.ofInt 0), .int 1]) rfl rfl rfl ?_
  refine nT_call (d1 := d1) (mz := nm_176) rfl rfl (by decide) (by decide) (by decide) (by decide) rfl rfl ⟨20, some (.int (Int32.ofInt 1)), h2, rfl, ?_⟩
  show nT nj_M nX0 L xs 0 (d1 + 1) nm_263 _ 11 [(0, .ref 175), (1, .int 1)] [.int (Int32.ofInt 1)] h2
  refine nT_pure (pc1 := 14) (lv1 := [(0, .ref 175), (1, .int 1)]) (st1 := []) rfl rfl rfl ?_
  refine nT_pure (pc1 := 15) (lv1 := [(0, .ref 175), (1, .int 1)]) (st1 := [.ref 175]) rfl rfl rfl ?_
  obtain ⟨-, -, -, -, fn, hn, fn47⟩ := id I2.2.1
  obtain ⟨fa, ha, fa0, fa1⟩ := I2.2.2
  refine nT_mem (pc1 := 18) (st1 := [.ref 194]) (h1 := h2) rfl rfl rfl (by show nj_getf 15 9 47 [.ref 175] h2 = _; simp only [nj_getf, hn, fn47, if_true]) ?_
  refine nT_pure (pc1 := 19) (lv1 := [(0, .ref 175), (1, .int 1)]) (st1 := [.int 1, .ref 194]) rfl rfl rfl ?_
  refine nT_mem (pc1 := 20) (st1 := [.int m1]) (h1 := h2) rfl rfl rfl (by show nj_bald 19 [.int 1, .ref 194] h2 = _; simp only [nj_bald, ha]; rw [if_pos (by decide)]; simp only [show (1 : Int32).toNatClampNeg = 1 from rfl, fa1]) ?_
  rcases kb with rfl | rfl
  · refine nT_pure (pc1 := 23) (lv1 := [(0, .ref 175), (1, .int 1)]) (st1 := []) rfl rfl rfl ?_
    refine nT_pure (pc1 := 24) (lv1 := [(0, .ref 175), (1, .int 1)]) (st1 := [.int (Int32.ofInt 0)]) rfl rfl rfl ?_
    exact nT_ret rfl (rv := some (.int 0)) rfl ⟨rfl, I2⟩
  · refine nT_pure (pc1 := 25) (lv1 := [(0, .ref 175), (1, .int 1)]) (st1 := []) rfl rfl rfl ?_
    refine nT.mono ?_ (aAt_ok (c := nk_mr1) (pc0 := 25) (al0 := na_mr1) (lv0 := [(0, .ref 175), (1, .int 1)]) (nu := [1]) (mu := [175]) (xs := xs) (L := L) (nJJ_ok fS) ww_mr1 wx_mr1 (by show 0 ≤ d1 + 1; omega) (show nj_M nk_mr1.1 = some nm_263 from rfl) I2.1.1 I2.1.2.1 ⟨aE1 (r0 := (1, 1)) ⟨by decide, by decide⟩, tau_1 (by decide), i3_fc I2.1, (fun e he => nomatch he), (fun e he => nomatch he)⟩ (List.forall_mem_cons.mpr ⟨⟨.ref 175, rfl, 175, rfl, rfl⟩, List.forall_mem_cons.mpr ⟨⟨.int 1, rfl, 1, rfl, rfl⟩, (fun _ hx => nomatch hx)⟩⟩) (fun y hy => by cases hy) vc_mr1 ve_mr1)
    rintro rv h3 ⟨J3, T3, F3, po, hpo, nu1, mu1, X1, ok1, res1⟩
    have hpo2 := List.mem_singleton.mp (show po ∈ [_] from hpo)
    subst hpo2
    exact ⟨res_c res1, lwI_fr2 I2.1 (by decide) (by decide) J3 T3 F3 (i3_of T3 X1 ok1 rfl) (by decide) (by decide), lwK_fr I2.2.1 F3 (by decide) (by decide) (by decide) (by decide), lwA_fr I2.2.2 F3 (by decide)⟩
set_option maxRecDepth 100000 in
theorem model_img0 (hd : 1 ≤ d) (I : lwQ c0 c1 m0 m1 h) : nT nj_M nX0 L xs 0 d nm_262 (fun rv h1 => rv = some (.int 1) ∧ lwQ c0 c1 1 m1 h1) 0 (lv_args 0 [.ref 175, .int 0]) [] h := by
  have k := (nT_My hall_262 (by decide +kernel)).mp (aAt_ok (c := nk_mi0) (pc0 := 0) (al0 := na_mi0) (lv0 := [(0, .ref 175), (1, .int 0)]) (nu := [0]) (mu := [175]) (xs := xs) (L := L) (d := d) (nJJ_ok fS) ww_mi0 wx_mi0 hd (show (nj_My 262 (nvr nm_262 80 (fun _ => true))) nk_mi0.1 = some (nvr nm_262 80 (fun _ => true)) from rfl) I.1.1 I.1.2.1 ⟨aE1 (r0 := (0, 0)) ⟨by decide, by decide⟩, tau_1 (by decide), i3_fc I.1, (fun e he => nomatch he), (fun e he => nomatch he)⟩ (List.forall_mem_cons.mpr ⟨⟨.ref 175, rfl, 175, rfl, rfl⟩, List.forall_mem_cons.mpr ⟨⟨.int 0, rfl, 0, rfl, rfl⟩, (fun _ hx => nomatch hx)⟩⟩) (fun y hy => by cases hy) vc_mi0 ve_mi0)
  obtain ⟨n, rv, h1, e, J1, T1, F1, po, hpo, nu1, mu1, X1, ok1, res1⟩ := k
  have hpo2 := List.mem_singleton.mp (show po ∈ [_] from hpo)
  subst hpo2
  obtain ⟨lv1, a1⟩ := nvr_at (by decide +kernel) n d 0 [(0, .ref 175), (1, .int 0)] [] h rv h1 0 e
  have l0 : nj_get lv1 0 = some (.ref 175) := at_keep (K := 2) (by decide +kernel) n 0 [(0, .ref 175), (1, .int 0)] [] h a1 0 (by decide) _ rfl rfl
  have l1 : nj_get lv1 1 = some (.int 0) := at_keep (K := 2) (by decide +kernel) n 0 [(0, .ref 175), (1, .int 0)] [] h a1 1 (by decide) _ rfl rfl
  have I1 : lwQ c0 c1 m0 m1 h1 := ⟨lwI_fr2 I.1 (by decide) (by decide) J1 T1 F1 (i3_of T1 X1 ok1 rfl) (by decide) (by decide), lwK_fr I.2.1 F1 (by decide) (by decide) (by decide) (by decide), lwA_fr I.2.2 F1 (by decide)⟩
  obtain ⟨-, -, -, -, fn, hn, fn47⟩ := id I1.2.1
  obtain ⟨fa, ha, fa0, fa1⟩ := id I1.2.2
  have hp : nj_bast 86 [.int (Int32.ofInt 1), .int 0, .ref 194] h1 = some (87, [], h1.set 194 (.inl (2, 2, .inl (upd fa (0 : Int32).toNatClampNeg (vp_nar (nj_kt 2) (Int32.ofInt 1)))))) := by
    simp only [nj_bast, ha]
    rw [if_pos ⟨Or.inr trivial, by decide⟩]
  obtain ⟨st1, h9, e9, J2, T2, F2, -, -⟩ := m_bast (pc := 86) (mf := []) (ma := [67]) (st := [.int (Int32.ofInt 1), .int 0, .ref 194]) (nu := []) (mu := [194]) (s := ([], [67], [], [], [])) (ast := [.inl 1, .inl 0, .inr (.inr (.inl 0))]) (s1 := ([], [67], [], [], [])) (ast1 := []) (nJJ_ok fS) I1.1.1 I1.1.2.1 ⟨⟨rfl, fun i z r h => nomatch h⟩, tau_1 (by decide), (fun e he => nomatch he), (fun e he => nomatch he), (fun e he => nomatch he)⟩ ⟨rfl, rfl, ⟨194, rfl, rfl⟩, trivial⟩ rfl
  rw [hp] at e9
  simp only [Option.some.injEq, Prod.mk.injEq] at e9
  rw [← e9.2.2] at J2 T2 F2
  have I2 : lwQ c0 c1 1 m1 (h1.set 194 (.inl (2, 2, .inl (upd fa (0 : Int32).toNatClampNeg (vp_nar (nj_kt 2) (Int32.ofInt 1)))))) := ⟨lwI_fr I1.1 (by decide) (by decide) (by decide) J2 T2 F2 (by decide) (by decide) (by decide) (by decide) (by decide), lwK_fr I1.2.1 F2 (by decide) (by decide) (by decide) (by decide), _, List.getElem?_set_self (List.getElem?_eq_some_iff.mp ha).1, rfl, fa1⟩
  have suf : nT nj_M nX0 L xs 0 d nm_262 (fun rv h1 => rv = some (.int 1) ∧ lwQ c0 c1 1 m1 h1) 80 lv1 [] h1 := by
    refine nT_pure (pc1 := 81) (lv1 := lv1) (st1 := [.ref 175]) rfl rfl (by show nj_lda lv1 (80 + 1) 0 [] = _; unfold nj_lda; rw [l0]) ?_
    refine nT_mem (pc1 := 84) (st1 := [.ref 194]) (h1 := h1) rfl rfl rfl (by show nj_getf 81 9 47 [.ref 175] h1 = _; simp only [nj_getf, hn, fn47, if_true]) ?_
    refine nT_pure (pc1 := 85) (lv1 := lv1) (st1 := [.int 0, .ref 194]) rfl rfl (by show nj_ldi lv1 (84 + 1) 1 [.ref 194] = _; unfold nj_ldi; rw [l1]) ?_
    refine nT_pure (pc1 := 86) (lv1 := lv1) (st1 := [.int (Int32.ofInt 1), .int 0, .ref 194]) rfl rfl rfl ?_
    refine nT_mem (pc1 := 87) (st1 := []) rfl rfl rfl hp ?_
    refine nT_pure (pc1 := 88) (lv1 := lv1) (st1 := [.int (Int32.ofInt 1)]) rfl rfl rfl ?_
    exact nT_ret rfl (rv := some (.int 1)) rfl ⟨rfl, I2⟩
  obtain ⟨n2, rv2, h3, e3, q3⟩ := suf
  obtain ⟨n3, e4⟩ := at_run e3 n 0 [(0, .ref 175), (1, .int 0)] [] h a1
  exact ⟨n3, rv2, h3, e4, q3⟩
set_option maxRecDepth 100000 in
theorem model_img1 (hd : 1 ≤ d) (I : lwQ c0 c1 m0 m1 h) : nT nj_M nX0 L xs 0 d nm_262 (fun rv h1 => rv = some (.int 1) ∧ lwQ c0 c1 m0 1 h1) 0 (lv_args 0 [.ref 175, .int 1]) [] h := by
  have k := (nT_My hall_262 (by decide +kernel)).mp (aAt_ok (c := nk_mi1) (pc0 := 0) (al0 := na_mi1) (lv0 := [(0, .ref 175), (1, .int 1)]) (nu := [1]) (mu := [175]) (xs := xs) (L := L) (d := d) (nJJ_ok fS) ww_mi1 wx_mi1 hd (show (nj_My 262 (nvr nm_262 80 (fun _ => true))) nk_mi1.1 = some (nvr nm_262 80 (fun _ => true)) from rfl) I.1.1 I.1.2.1 ⟨aE1 (r0 := (1, 1)) ⟨by decide, by decide⟩, tau_1 (by decide), i3_fc I.1, (fun e he => nomatch he), (fun e he => nomatch he)⟩ (List.forall_mem_cons.mpr ⟨⟨.ref 175, rfl, 175, rfl, rfl⟩, List.forall_mem_cons.mpr ⟨⟨.int 1, rfl, 1, rfl, rfl⟩, (fun _ hx => nomatch hx)⟩⟩) (fun y hy => by cases hy) vc_mi1 ve_mi1)
  obtain ⟨n, rv, h1, e, J1, T1, F1, po, hpo, nu1, mu1, X1, ok1, res1⟩ := k
  have hpo2 := List.mem_singleton.mp (show po ∈ [_] from hpo)
  subst hpo2
  obtain ⟨lv1, a1⟩ := nvr_at (by decide +kernel) n d 0 [(0, .ref 175), (1, .int 1)] [] h rv h1 0 e
  have l0 : nj_get lv1 0 = some (.ref 175) := at_keep (K := 2) (by decide +kernel) n 0 [(0, .ref 175), (1, .int 1)] [] h a1 0 (by decide) _ rfl rfl
  have l1 : nj_get lv1 1 = some (.int 1) := at_keep (K := 2) (by decide +kernel) n 0 [(0, .ref 175), (1, .int 1)] [] h a1 1 (by decide) _ rfl rfl
  have I1 : lwQ c0 c1 m0 m1 h1 := ⟨lwI_fr2 I.1 (by decide) (by decide) J1 T1 F1 (i3_of T1 X1 ok1 rfl) (by decide) (by decide), lwK_fr I.2.1 F1 (by decide) (by decide) (by decide) (by decide), lwA_fr I.2.2 F1 (by decide)⟩
  obtain ⟨-, -, -, -, fn, hn, fn47⟩ := id I1.2.1
  obtain ⟨fa, ha, fa0, fa1⟩ := id I1.2.2
  have hp : nj_bast 86 [.int (Int32.ofInt 1), .int 1, .ref 194] h1 = some (87, [], h1.set 194 (.inl (2, 2, .inl (upd fa (1 : Int32).toNatClampNeg (vp_nar (nj_kt 2) (Int32.ofInt 1)))))) := by
    simp only [nj_bast, ha]
    rw [if_pos ⟨Or.inr trivial, by decide⟩]
  obtain ⟨st1, h9, e9, J2, T2, F2, -, -⟩ := m_bast (pc := 86) (mf := []) (ma := [67]) (st := [.int (Int32.ofInt 1), .int 1, .ref 194]) (nu := []) (mu := [194]) (s := ([], [67], [], [], [])) (ast := [.inl 1, .inl 1, .inr (.inr (.inl 0))]) (s1 := ([], [67], [], [], [])) (ast1 := []) (nJJ_ok fS) I1.1.1 I1.1.2.1 ⟨⟨rfl, fun i z r h => nomatch h⟩, tau_1 (by decide), (fun e he => nomatch he), (fun e he => nomatch he), (fun e he => nomatch he)⟩ ⟨rfl, rfl, ⟨194, rfl, rfl⟩, trivial⟩ rfl
  rw [hp] at e9
  simp only [Option.some.injEq, Prod.mk.injEq] at e9
  rw [← e9.2.2] at J2 T2 F2
  have I2 : lwQ c0 c1 m0 1 (h1.set 194 (.inl (2, 2, .inl (upd fa (1 : Int32).toNatClampNeg (vp_nar (nj_kt 2) (Int32.ofInt 1)))))) := ⟨lwI_fr I1.1 (by decide) (by decide) (by decide) J2 T2 F2 (by decide) (by decide) (by decide) (by decide) (by decide), lwK_fr I1.2.1 F2 (by decide) (by decide) (by decide) (by decide), _, List.getElem?_set_self (List.getElem?_eq_some_iff.mp ha).1, fa0, rfl⟩
  have suf : nT nj_M nX0 L xs 0 d nm_262 (fun rv h1 => rv = some (.int 1) ∧ lwQ c0 c1 m0 1 h1) 80 lv1 [] h1 := by
    refine nT_pure (pc1 := 81) (lv1 := lv1) (st1 := [.ref 175]) rfl rfl (by show nj_lda lv1 (80 + 1) 0 [] = _; unfold nj_lda; rw [l0]) ?_
    refine nT_mem (pc1 := 84) (st1 := [.ref 194]) (h1 := h1) rfl rfl rfl (by show nj_getf 81 9 47 [.ref 175] h1 = _; simp only [nj_getf, hn, fn47, if_true]) ?_
    refine nT_pure (pc1 := 85) (lv1 := lv1) (st1 := [.int 1, .ref 194]) rfl rfl (by show nj_ldi lv1 (84 + 1) 1 [.ref 194] = _; unfold nj_ldi; rw [l1]) ?_
    refine nT_pure (pc1 := 86) (lv1 := lv1) (st1 := [.int (Int32.ofInt 1), .int 1, .ref 194]) rfl rfl rfl ?_
    refine nT_mem (pc1 := 87) (st1 := []) rfl rfl rfl hp ?_
    refine nT_pure (pc1 := 88) (lv1 := lv1) (st1 := [.int (Int32.ofInt 1)]) rfl rfl rfl ?_
    exact nT_ret rfl (rv := some (.int 1)) rfl ⟨rfl, I2⟩
  obtain ⟨n2, rv2, h3, e3, q3⟩ := suf
  obtain ⟨n3, e4⟩ := at_run e3 n 0 [(0, .ref 175), (1, .int 1)] [] h a1
  exact ⟨n3, rv2, h3, e4, q3⟩
end CALLS
section ALL
variable {X : nX} {L : Nat} {xs : Nat → Int32} {g : Nat} {h : List nC} {c0 c1 m0 m1 : Int32}
theorem slip_restore {d1 : Nat} (hd : 3 ≤ d1) (I : lwQ c0 c1 m0 m1 h) (k0 : kB c0) (k1 : kB c1) (u : Int32) : nT nj_M X L xs g (d1 + 1) nm_152 (fun rv h1 => rv = some (.int (rR u c0 c1)) ∧ lwQ c0 c1 m0 m1 h1) 0 (lv_args 0 [.ref 0, .int u]) [] h := by
  have b := b32 u
  rcases cases32 u with c | rfl | rfl | c
  · have e0 : ¬ u = 0 := fun e => by subst e; exact absurd c (by decide)
    have e1 : ¬ u = 1 := fun e => by subst e; exact absurd c (by decide)
    refine nT.mono ?_ (img_app (lo := -2147483648) (hi := -1) vk_357 rfl (by show 0 ≤ d1 + 1; omega) rfl rfl (by omega) (by omega) (by decide) (fun e he => nomatch he) I.1.1 I.1.2.1)
    rintro rv h1 ⟨J1, T1, F1, po, hpo, nu1, mu1, X1, ok1, res1⟩
    have hpo2 := List.mem_singleton.mp (show po ∈ [_] from hpo)
    subst hpo2
    rw [show rR u c0 c1 = Int32.ofInt 0 from by unfold rR; rw [if_neg e0, if_neg e1]; rfl]
    exact ⟨res_s ok1 res1 rfl, lwQ_fr I J1 T1 F1 (by decide) (by decide) (by decide) (by decide) (by decide) (by decide) (by decide) (by decide) (by decide) (by decide)⟩
  · exact nT_up (by decide +kernel) (nT.mono (fun rv h1 k => k) (slip_rest0 (by omega) I k0))
  · exact nT_up (by decide +kernel) (nT.mono (fun rv h1 k => k) (slip_rest1 (by omega) I k1))
  · have e0 : ¬ u = 0 := fun e => by subst e; exact absurd c (by decide)
    have e1 : ¬ u = 1 := fun e => by subst e; exact absurd c (by decide)
    refine nT.mono ?_ (img_app (lo := 2) (hi := 2147483647) vk_359 rfl (by show 0 ≤ d1 + 1; omega) rfl rfl (by omega) (by omega) (by decide) (fun e he => nomatch he) I.1.1 I.1.2.1)
    rintro rv h1 ⟨J1, T1, F1, po, hpo, nu1, mu1, X1, ok1, res1⟩
    have hpo2 := List.mem_singleton.mp (show po ∈ [_] from hpo)
    subst hpo2
    rw [show rR u c0 c1 = Int32.ofInt 0 from by unfold rR; rw [if_neg e0, if_neg e1]; rfl]
    exact ⟨res_s ok1 res1 rfl, lwQ_fr I J1 T1 F1 (by decide) (by decide) (by decide) (by decide) (by decide) (by decide) (by decide) (by decide) (by decide) (by decide)⟩
theorem model_restore {d1 : Nat} (hd : 3 ≤ d1) (I : lwQ c0 c1 m0 m1 h) (k0 : kB m0) (k1 : kB m1) (u : Int32) : nT nj_M X L xs g (d1 + 1) nm_263 (fun rv h1 => rv = some (.int (rR u m0 m1)) ∧ lwQ c0 c1 m0 m1 h1) 0 (lv_args 0 [.ref 175, .int u]) [] h := by
  have b := b32 u
  rcases cases32 u with c | rfl | rfl | c
  · have e0 : ¬ u = 0 := fun e => by subst e; exact absurd c (by decide)
    have e1 : ¬ u = 1 := fun e => by subst e; exact absurd c (by decide)
    refine nT.mono ?_ (img_app (lo := -2147483648) (hi := -1) vk_358 rfl (by show 1 ≤ d1 + 1; omega) rfl rfl (by omega) (by omega) (by decide) (i3_fc I.1) I.1.1 I.1.2.1)
    rintro rv h1 ⟨J1, T1, F1, po, hpo, nu1, mu1, X1, ok1, res1⟩
    have hpo2 := List.mem_singleton.mp (show po ∈ [_] from hpo)
    subst hpo2
    rw [show rR u m0 m1 = Int32.ofInt 0 from by unfold rR; rw [if_neg e0, if_neg e1]; rfl]
    exact ⟨res_c res1, lwQ_fr I J1 T1 F1 (by decide) (by decide) (by decide) (by decide) (by decide) (by decide) (by decide) (by decide) (by decide) (by decide)⟩
  · exact nT_up (by decide +kernel) (nT.mono (fun rv h1 k => k) (model_rest0 (by omega) I k0))
  · exact nT_up (by decide +kernel) (nT.mono (fun rv h1 k => k) (model_rest1 (by omega) I k1))
  · have e0 : ¬ u = 0 := fun e => by subst e; exact absurd c (by decide)
    have e1 : ¬ u = 1 := fun e => by subst e; exact absurd c (by decide)
    refine nT.mono ?_ (img_app (lo := 2) (hi := 2147483647) vk_360 rfl (by show 1 ≤ d1 + 1; omega) rfl rfl (by omega) (by omega) (by decide) (i3_fc I.1) I.1.1 I.1.2.1)
    rintro rv h1 ⟨J1, T1, F1, po, hpo, nu1, mu1, X1, ok1, res1⟩
    have hpo2 := List.mem_singleton.mp (show po ∈ [_] from hpo)
    subst hpo2
    rw [show rR u m0 m1 = Int32.ofInt 0 from by unfold rR; rw [if_neg e0, if_neg e1]; rfl]
    exact ⟨res_c res1, lwQ_fr I J1 T1 F1 (by decide) (by decide) (by decide) (by decide) (by decide) (by decide) (by decide) (by decide) (by decide) (by decide)⟩
def iA (u b : Int32) (k : Int32) : Int32 := if u = k then 1 else b
def iR (u : Int32) : Int32 := if u = 0 then 1 else if u = 1 then 1 else 0
theorem iA_kB {u b k : Int32} (h : kB b) : kB (iA u b k) := by
  unfold iA
  split
  · exact Or.inr rfl
  · exact h
theorem slip_image {d1 : Nat} (hd : 3 ≤ d1) (I : lwQ c0 c1 m0 m1 h) (u : Int32) : nT nj_M X L xs g (d1 + 1) nm_151 (fun rv h1 => rv = some (.int (iR u)) ∧ lwQ (iA u c0 0) (iA u c1 1) m0 m1 h1) 0 (lv_args 0 [.ref 0, .int u]) [] h := by
  have b := b32 u
  rcases cases32 u with c | rfl | rfl | c
  · have e0 : ¬ u = 0 := fun e => by subst e; exact absurd c (by decide)
    have e1 : ¬ u = 1 := fun e => by subst e; exact absurd c (by decide)
    refine nT.mono ?_ (img_app (lo := -2147483648) (hi := -1) vk_353 rfl (by show 0 ≤ d1 + 1; omega) rfl rfl (by omega) (by omega) (by decide) (fun e he => nomatch he) I.1.1 I.1.2.1)
    rintro rv h1 ⟨J1, T1, F1, po, hpo, nu1, mu1, X1, ok1, res1⟩
    have hpo2 := List.mem_singleton.mp (show po ∈ [_] from hpo)
    subst hpo2
    rw [show iR u = Int32.ofInt 0 from by unfold iR; rw [if_neg e0, if_neg e1]; rfl, show iA u c0 0 = c0 from if_neg e0, show iA u c1 1 = c1 from if_neg e1]
    exact ⟨res_s ok1 res1 rfl, lwQ_fr I J1 T1 F1 (by decide) (by decide) (by decide) (by decide) (by decide) (by decide) (by decide) (by decide) (by decide) (by decide)⟩
  · exact nT_up (by decide +kernel) (nT.mono (fun rv h1 k => k) (slip_img0 (by omega) I))
  · exact nT_up (by decide +kernel) (nT.mono (fun rv h1 k => k) (slip_img1 (by omega) I))
  · have e0 : ¬ u = 0 := fun e => by subst e; exact absurd c (by decide)
    have e1 : ¬ u = 1 := fun e => by subst e; exact absurd c (by decide)
    refine nT.mono ?_ (img_app (lo := 2) (hi := 2147483647) vk_355 rfl (by show 0 ≤ d1 + 1; omega) rfl rfl (by omega) (by omega) (by decide) (fun e he => nomatch he) I.1.1 I.1.2.1)
    rintro rv h1 ⟨J1, T1, F1, po, hpo, nu1, mu1, X1, ok1, res1⟩
    have hpo2 := List.mem_singleton.mp (show po ∈ [_] from hpo)
    subst hpo2
    rw [show iR u = Int32.ofInt 0 from by unfold iR; rw [if_neg e0, if_neg e1]; rfl, show iA u c0 0 = c0 from if_neg e0, show iA u c1 1 = c1 from if_neg e1]
    exact ⟨res_s ok1 res1 rfl, lwQ_fr I J1 T1 F1 (by decide) (by decide) (by decide) (by decide) (by decide) (by decide) (by decide) (by decide) (by decide) (by decide)⟩
theorem model_image {d1 : Nat} (hd : 3 ≤ d1) (I : lwQ c0 c1 m0 m1 h) (u : Int32) : nT nj_M X L xs g (d1 + 1) nm_262 (fun rv h1 => rv = some (.int (iR u)) ∧ lwQ c0 c1 (iA u m0 0) (iA u m1 1) h1) 0 (lv_args 0 [.ref 175, .int u]) [] h := by
  have b := b32 u
  rcases cases32 u with c | rfl | rfl | c
  · have e0 : ¬ u = 0 := fun e => by subst e; exact absurd c (by decide)
    have e1 : ¬ u = 1 := fun e => by subst e; exact absurd c (by decide)
    refine nT.mono ?_ (img_app (lo := -2147483648) (hi := -1) vk_354 rfl (by show 1 ≤ d1 + 1; omega) rfl rfl (by omega) (by omega) (by decide) (i3_fc I.1) I.1.1 I.1.2.1)
    rintro rv h1 ⟨J1, T1, F1, po, hpo, nu1, mu1, X1, ok1, res1⟩
    have hpo2 := List.mem_singleton.mp (show po ∈ [_] from hpo)
    subst hpo2
    rw [show iR u = Int32.ofInt 0 from by unfold iR; rw [if_neg e0, if_neg e1]; rfl, show iA u m0 0 = m0 from if_neg e0, show iA u m1 1 = m1 from if_neg e1]
    exact ⟨res_c res1, lwQ_fr I J1 T1 F1 (by decide) (by decide) (by decide) (by decide) (by decide) (by decide) (by decide) (by decide) (by decide) (by decide)⟩
  · exact nT_up (by decide +kernel) (nT.mono (fun rv h1 k => k) (model_img0 (by omega) I))
  · exact nT_up (by decide +kernel) (nT.mono (fun rv h1 k => k) (model_img1 (by omega) I))
  · have e0 : ¬ u = 0 := fun e => by subst e; exact absurd c (by decide)
    have e1 : ¬ u = 1 := fun e => by subst e; exact absurd c (by decide)
    refine nT.mono ?_ (img_app (lo := 2) (hi := 2147483647) vk_356 rfl (by show 1 ≤ d1 + 1; omega) rfl rfl (by omega) (by omega) (by decide) (i3_fc I.1) I.1.1 I.1.2.1)
    rintro rv h1 ⟨J1, T1, F1, po, hpo, nu1, mu1, X1, ok1, res1⟩
    have hpo2 := List.mem_singleton.mp (show po ∈ [_] from hpo)
    subst hpo2
    rw [show iR u = Int32.ofInt 0 from by unfold iR; rw [if_neg e0, if_neg e1]; rfl, show iA u m0 0 = m0 from if_neg e0, show iA u m1 1 = m1 from if_neg e1]
    exact ⟨res_c res1, lwQ_fr I J1 T1 F1 (by decide) (by decide) (by decide) (by decide) (by decide) (by decide) (by decide) (by decide) (by decide) (by decide)⟩
end ALL
