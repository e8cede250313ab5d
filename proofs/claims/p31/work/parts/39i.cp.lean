/-! Phrase.copyFrom -/
theorem getf_at {h : List nC} {pc ci b q : Nat} {fs r : List Value} {x : Value} (hq : h[q]? = some (.inr (ci, fs))) (hb : fs[b]? = some x) : nj_getf pc ci b (.ref q :: r) h = some (pc + 3, x :: r, h) := by
  simp only [nj_getf, hq, if_true, hb]
theorem putf_at {h : List nC} {ini : Bool} {pc ci b q : Nat} {fs r : List Value} {x : Value} (hq : h[q]? = some (.inr (ci, fs))) (hb : b < fs.length) (hx : nj_fit (nj_ty ci b) x = true) : nj_putf ini pc ci b 0 (x :: .ref q :: r) h = some (pc + 3, r, h.set q (.inr (ci, fs.set b x))) := by
  simp only [nj_putf, hq]
  exact if_pos ⟨trivial, hb, hx, Or.inl trivial⟩
theorem alen_at {h : List nC} {L pc q n : Nat} {r : List Value} {c : (Nat → Int32) ⊕ (Nat → Int64) ⊕ (Nat → Option Nat)} (hq : h[q]? = some (.inl (0, n, c))) : nj_alen L pc (.ref q :: r) h = some (pc + 1, .int (Int32.ofNat n) :: r, h) := by
  simp only [nj_alen, hq]
  rfl
theorem calls_copy {M : Nat → Option nM} {X : nX} {run : Nat → nM → nLv → List nC → Nat → Option nRes} {d pc idx a b g : Nat} {lv : nLv} {st r : List Value} {h h1 : List nC} (e : nj_copy st h = some (r, h1)) (hr : nj_sum r ≤ 8) : nj_calls M X run d pc (.invokestatic idx) a b 5 lv st h g = some (pc + 3, lv, r, h1, g, 0, 0) := by
  unfold nj_calls
  rw [if_neg (show ¬ nj_isinv (.invokestatic idx) = false from fun h => nomatch (show true = false from h)), if_neg (by decide), if_pos rfl, e]
  exact if_pos hr
theorem cp_blk0 {X : nX} {L : Nat} {xs : Nat → Int32} {g d : Nat} {Q : Option Value → List nC → Prop} {h : List nC} {a b ra rb : Nat} {fa fb : List Value} {ua ub : Nat → Int32} (ha : h[a]? = some (.inr (4, fa))) (hb : h[b]? = some (.inr (4, fb))) (fak : fa[0]? = some (.ref ra)) (fbk : fb[0]? = some (.ref rb)) (hra : h[ra]? = some (.inl (0, 40, .inl ua))) (hrb : h[rb]? = some (.inl (0, 40, .inl ub))) (kk : nT nj_M X L xs g d nm_144 Q 18 [(0, .ref a), (1, .ref b)] [] (h.set ra (.inl (0, 40, .inl (va_cpy ub ua 0 0 40))))) : nT nj_M X L xs g d nm_144 Q 0 [(0, .ref a), (1, .ref b)] [] h := by
  refine nT_pure (pc1 := 1) (lv1 := [(0, .ref a), (1, .ref b)]) (st1 := [.ref b]) rfl rfl rfl ?_
  refine nT_mem (pc1 := 4) (st1 := [.ref rb]) rfl rfl rfl (getf_at hb fbk) ?_
  refine nT_pure (pc1 := 5) (lv1 := [(0, .ref a), (1, .ref b)]) (st1 := [.int (Int32.ofInt 0), .ref rb]) rfl rfl rfl ?_
  refine nT_pure (pc1 := 6) (lv1 := [(0, .ref a), (1, .ref b)]) (st1 := [.ref a, .int (Int32.ofInt 0), .ref rb]) rfl rfl rfl ?_
  refine nT_mem (pc1 := 9) (st1 := [.ref ra, .int (Int32.ofInt 0), .ref rb]) rfl rfl rfl (getf_at ha fak) ?_
  refine nT_pure (pc1 := 10) (lv1 := [(0, .ref a), (1, .ref b)]) (st1 := [.int (Int32.ofInt 0), .ref ra, .int (Int32.ofInt 0), .ref rb]) rfl rfl rfl ?_
  refine nT_pure (pc1 := 11) (lv1 := [(0, .ref a), (1, .ref b)]) (st1 := [.ref a, .int (Int32.ofInt 0), .ref ra, .int (Int32.ofInt 0), .ref rb]) rfl rfl rfl ?_
  refine nT_mem (pc1 := 14) (st1 := [.ref ra, .int (Int32.ofInt 0), .ref ra, .int (Int32.ofInt 0), .ref rb]) rfl rfl rfl (getf_at ha fak) ?_
  refine nT_mem (pc1 := 15) (st1 := [.int (Int32.ofNat 40), .int (Int32.ofInt 0), .ref ra, .int (Int32.ofInt 0), .ref rb]) rfl rfl rfl (alen_at (L := L) hra) ?_
  refine nT_c0 (pc1 := 18) (lv1 := [(0, .ref a), (1, .ref b)]) (st1 := []) (h1 := h.set ra (.inl (0, 40, .inl (va_cpy ub ua 0 0 40)))) rfl rfl (fun run => ?_) kk
  have e : nj_copy [.int (Int32.ofNat 40), .int (Int32.ofInt 0), .ref ra, .int (Int32.ofInt 0), .ref rb] h = some ([], h.set ra (.inl (0, 40, .inl (va_cpy ub ua 0 0 40)))) := by
    simp only [nj_copy, hra, hrb]
    exact if_pos (by decide)
  exact calls_copy e (by decide)
theorem cp_blk1 {X : nX} {L : Nat} {xs : Nat → Int32} {g d : Nat} {Q : Option Value → List nC → Prop} {h : List nC} {a b ra rb : Nat} {fa fb : List Value} {ua ub : Nat → Int32} (ha : h[a]? = some (.inr (4, fa))) (hb : h[b]? = some (.inr (4, fb))) (fak : fa[1]? = some (.ref ra)) (fbk : fb[1]? = some (.ref rb)) (hra : h[ra]? = some (.inl (0, 40, .inl ua))) (hrb : h[rb]? = some (.inl (0, 40, .inl ub))) (kk : nT nj_M X L xs g d nm_144 Q 36 [(0, .ref a), (1, .ref b)] [] (h.set ra (.inl (0, 40, .inl (va_cpy ub ua 0 0 40))))) : nT nj_M X L xs g d nm_144 Q 18 [(0, .ref a), (1, .ref b)] [] h := by
  refine nT_pure (pc1 := 19) (lv1 := [(0, .ref a), (1, .ref b)]) (st1 := [.ref b]) rfl rfl rfl ?_
  refine nT_mem (pc1 := 22) (st1 := [.ref rb]) rfl rfl rfl (getf_at hb fbk) ?_
  refine nT_pure (pc1 := 23) (lv1 := [(0, .ref a), (1, .ref b)]) (st1 := [.int (Int32.ofInt 0), .ref rb]) rfl rfl rfl ?_
  refine nT_pure (pc1 := 24) (lv1 := [(0, .ref a), (1, .ref b)]) (st1 := [.ref a, .int (Int32.ofInt 0), .ref rb]) rfl rfl rfl ?_
  refine nT_mem (pc1 := 27) (st1 := [.ref ra, .int (Int32.ofInt 0), .ref rb]) rfl rfl rfl (getf_at ha fak) ?_
  refine nT_pure (pc1 := 28) (lv1 := [(0, .ref a), (1, .ref b)]) (st1 := [.int (Int32.ofInt 0), .ref ra, .int (Int32.ofInt 0), .ref rb]) rfl rfl rfl ?_
  refine nT_pure (pc1 := 29) (lv1 := [(0, .ref a), (1, .ref b)]) (st1 := [.ref a, .int (Int32.ofInt 0), .ref ra, .int (Int32.ofInt 0), .ref rb]) rfl rfl rfl ?_
  refine nT_mem (pc1 := 32) (st1 := [.ref ra, .int (Int32.ofInt 0), .ref ra, .int (Int32.ofInt 0), .ref rb]) rfl rfl rfl (getf_at ha fak) ?_
  refine nT_mem (pc1 := 33) (st1 := [.int (Int32.ofNat 40), .int (Int32.ofInt 0), .ref ra, .int (Int32.ofInt 0), .ref rb]) rfl rfl rfl (alen_at (L := L) hra) ?_
  refine nT_c0 (pc1 := 36) (lv1 := [(0, .ref a), (1, .ref b)]) (st1 := []) (h1 := h.set ra (.inl (0, 40, .inl (va_cpy ub ua 0 0 40)))) rfl rfl (fun run => ?_) kk
  have e : nj_copy [.int (Int32.ofNat 40), .int (Int32.ofInt 0), .ref ra, .int (Int32.ofInt 0), .ref rb] h = some ([], h.set ra (.inl (0, 40, .inl (va_cpy ub ua 0 0 40)))) := by
    simp only [nj_copy, hra, hrb]
    exact if_pos (by decide)
  exact calls_copy e (by decide)
theorem cp_blk2 {X : nX} {L : Nat} {xs : Nat → Int32} {g d : Nat} {Q : Option Value → List nC → Prop} {h : List nC} {a b ra rb : Nat} {fa fb : List Value} {ua ub : Nat → Int32} (ha : h[a]? = some (.inr (4, fa))) (hb : h[b]? = some (.inr (4, fb))) (fak : fa[2]? = some (.ref ra)) (fbk : fb[2]? = some (.ref rb)) (hra : h[ra]? = some (.inl (0, 40, .inl ua))) (hrb : h[rb]? = some (.inl (0, 40, .inl ub))) (kk : nT nj_M X L xs g d nm_144 Q 54 [(0, .ref a), (1, .ref b)] [] (h.set ra (.inl (0, 40, .inl (va_cpy ub ua 0 0 40))))) : nT nj_M X L xs g d nm_144 Q 36 [(0, .ref a), (1, .ref b)] [] h := by
  refine nT_pure (pc1 := 37) (lv1 := [(0, .ref a), (1, .ref b)]) (st1 := [.ref b]) rfl rfl rfl ?_
  refine nT_mem (pc1 := 40) (st1 := [.ref rb]) rfl rfl rfl (getf_at hb fbk) ?_
  refine nT_pure (pc1 := 41) (lv1 := [(0, .ref a), (1, .ref b)]) (st1 := [.int (Int32.ofInt 0), .ref rb]) rfl rfl rfl ?_
  refine nT_pure (pc1 := 42) (lv1 := [(0, .ref a), (1, .ref b)]) (st1 := [.ref a, .int (Int32.ofInt 0), .ref rb]) rfl rfl rfl ?_
  refine nT_mem (pc1 := 45) (st1 := [.ref ra, .int (Int32.ofInt 0), .ref rb]) rfl rfl rfl (getf_at ha fak) ?_
  refine nT_pure (pc1 := 46) (lv1 := [(0, .ref a), (1, .ref b)]) (st1 := [.int (Int32.ofInt 0), .ref ra, .int (Int32.ofInt 0), .ref rb]) rfl rfl rfl ?_
  refine nT_pure (pc1 := 47) (lv1 := [(0, .ref a), (1, .ref b)]) (st1 := [.ref a, .int (Int32.ofInt 0), .ref ra, .int (Int32.ofInt 0), .ref rb]) rfl rfl rfl ?_
  refine nT_mem (pc1 := 50) (st1 := [.ref ra, .int (Int32.ofInt 0), .ref ra, .int (Int32.ofInt 0), .ref rb]) rfl rfl rfl (getf_at ha fak) ?_
  refine nT_mem (pc1 := 51) (st1 := [.int (Int32.ofNat 40), .int (Int32.ofInt 0), .ref ra, .int (Int32.ofInt 0), .ref rb]) rfl rfl rfl (alen_at (L := L) hra) ?_
  refine nT_c0 (pc1 := 54) (lv1 := [(0, .ref a), (1, .ref b)]) (st1 := []) (h1 := h.set ra (.inl (0, 40, .inl (va_cpy ub ua 0 0 40)))) rfl rfl (fun run => ?_) kk
  have e : nj_copy [.int (Int32.ofNat 40), .int (Int32.ofInt 0), .ref ra, .int (Int32.ofInt 0), .ref rb] h = some ([], h.set ra (.inl (0, 40, .inl (va_cpy ub ua 0 0 40)))) := by
    simp only [nj_copy, hra, hrb]
    exact if_pos (by decide)
  exact calls_copy e (by decide)
theorem nGh46 {S : List Nat} {h h1 : List nC} (hJ : nJV S h) (hJ1 : nJV S h1) {q t ci : Nat} {fs fs1 : List Value} (hS : S[q]? = some t) (hc : oT t = some ci) (ht : t = 4 ∨ t = 6) (hq : h[q]? = some (.inr (ci, fs))) (hq1 : h1[q]? = some (.inr (ci, fs1))) (k : Nat) : nGh k h1 ci fs1 = nGh k h ci fs := by
  have e1 := hJ q t ci fs hS ht hq
  have e2 := hJ1 q t ci fs1 hS ht hq1
  rcases ht with rfl | rfl
  · cases hc
    exact (show nGh k h1 4 fs1 = 1 from e2).trans (show nGh k h 4 fs = 1 from e1).symm
  · cases hc
    exact (show nGh k h1 6 fs1 = 1 from e2).trans (show nGh k h 6 fs = 1 from e1).symm
theorem man_copy {X : nX} {L : Nat} {xs : Nat → Int32} {g : Nat} {S : List Nat} : nV nj_M X L xs g nFT nAT S (nJJ S) (144, 0, ([], [4, 4], [], [], []), [.inr (.inr (.inl 0)), .inr (.inr (.inl 1))], [(4, 4), (4, 5)], [30, 31, 32], [(([], [4, 4], [], [], []), none)]) := by
  intro d hd mt hM h nu mu vs hJ hT k hs
  cases (show some nm_144 = some mt from hM)
  cases l0 (show 0 = nu.length from k.1.1)
  obtain ⟨a, qr0, rfl, qe0⟩ := lc (show 2 = mu.length from k.2.1.1)
  obtain ⟨b, qr1, rfl, qe1⟩ := lc qe0
  cases l0 qe1
  obtain ⟨v0, vl0, rfl, vh0, hv0⟩ := hs.cons
  have vx0 := aRr vh0 (show _ = some a from rfl)
  subst vx0
  obtain ⟨v1, vl1, rfl, vh1, hv1⟩ := hv0.cons
  have vx1 := aRr vh1 (show _ = some b from rfl)
  subst vx1
  have vnil : vl1 = [] := by cases vl1 with
    | nil => rfl
    | cons a b => exact hv1.elim
  subst vnil
  have ta : S[a]? = some 4 := k.2.1.2 0 a _ rfl rfl
  have tb : S[b]? = some 4 := k.2.1.2 1 b _ rfl rfl
  obtain ⟨fa, ha, hfa⟩ := hT.obj ta (show oT 4 = some 4 from rfl)
  obtain ⟨fb, hb, hfb⟩ := hT.obj tb (show oT 4 = some 4 from rfl)
  have F40 : nAT 30 = some (0, 40, .inl [(40, (-2147483648), 2147483647, true)]) := rfl
  obtain ⟨ra0, ua0, a00, a01, a02, a03, a04⟩ := row_at hT hfa (show nFT 4 0 = some (.inr (.inl 30)) from rfl) (show nAT 30 = some (0, 40, .inl [(40, (-2147483648), 2147483647, true)]) from rfl) rfl
  obtain ⟨ra1, ua1, a10, a11, a12, a13, a14⟩ := row_at hT hfa (show nFT 4 1 = some (.inr (.inl 31)) from rfl) (show nAT 31 = some (0, 40, .inl [(40, (-2147483648), 2147483647, false)]) from rfl) rfl
  obtain ⟨ra2, ua2, a20, a21, a22, a23, a24⟩ := row_at hT hfa (show nFT 4 2 = some (.inr (.inl 32)) from rfl) (show nAT 32 = some (0, 40, .inl [(40, (-2147483648), 2147483647, true)]) from rfl) rfl
  obtain ⟨rb0, ub0, b00, b01, b02, b03, b04⟩ := row_at hT hfb (show nFT 4 0 = some (.inr (.inl 30)) from rfl) (show nAT 30 = some (0, 40, .inl [(40, (-2147483648), 2147483647, true)]) from rfl) rfl
  obtain ⟨rb1, ub1, b10, b11, b12, b13, b14⟩ := row_at hT hfb (show nFT 4 1 = some (.inr (.inl 31)) from rfl) (show nAT 31 = some (0, 40, .inl [(40, (-2147483648), 2147483647, false)]) from rfl) rfl
  obtain ⟨rb2, ub2, b20, b21, b22, b23, b24⟩ := row_at hT hfb (show nFT 4 2 = some (.inr (.inl 32)) from rfl) (show nAT 32 = some (0, 40, .inl [(40, (-2147483648), 2147483647, true)]) from rfl) rfl
  obtain ⟨xl, l1, l2, l3⟩ := int_at hfb (show nFT 4 4 = some (.inl (0, 40)) from rfl)
  obtain ⟨xo, o1, o2, o3⟩ := int_at hfb (show nFT 4 5 = some (.inl ((-2147483648), 2147483647)) from rfl)
  obtain ⟨yl, m1, -, -⟩ := int_at hfa (show nFT 4 4 = some (.inl (0, 40)) from rfl)
  obtain ⟨yo, n1, -, -⟩ := int_at hfa (show nFT 4 5 = some (.inl ((-2147483648), 2147483647)) from rfl)
  have ne : ∀ {q q2 t t2 : Nat}, S[q]? = some t → S[q2]? = some t2 → ¬ t = t2 → ¬ q = q2 := fun h1 h2 h3 e => by
    subst e
    exact h3 (Option.some.inj (h1.symm.trans h2))
  have na0 := ne a01 ta (by decide)
  have na1 := ne a11 ta (by decide)
  have na2 := ne a21 ta (by decide)
  have nb0 := ne a01 tb (by decide)
  have nb1 := ne a11 tb (by decide)
  have nb2 := ne a21 tb (by decide)
  have n01 := ne a01 a11 (by decide)
  have n02 := ne a01 a21 (by decide)
  have n12 := ne a11 a21 (by decide)
  have w01 := ne a01 b11 (by decide)
  have w02 := ne a01 b21 (by decide)
  have w12 := ne a11 b21 (by decide)
  let A0 : nC := .inl (0, 40, .inl (va_cpy ub0 ua0 0 0 40))
  let A1 : nC := .inl (0, 40, .inl (va_cpy ub1 ua1 0 0 40))
  let A2 : nC := .inl (0, 40, .inl (va_cpy ub2 ua2 0 0 40))
  let h3 : List nC := ((h.set ra0 A0).set ra1 A1).set ra2 A2
  let f1 : List Value := fa.set 4 (.int xl)
  let f2 : List Value := f1.set 5 (.int xo)
  let h5 : List nC := (h3.set a (.inr (4, f1))).set a (.inr (4, f2))
  have h3a : h3[a]? = some (.inr (4, fa)) := by
    show (((h.set ra0 A0).set ra1 A1).set ra2 A2)[a]? = _
    rw [List.getElem?_set_ne na2, List.getElem?_set_ne na1, List.getElem?_set_ne na0]
    exact ha
  have h3b : h3[b]? = some (.inr (4, fb)) := by
    show (((h.set ra0 A0).set ra1 A1).set ra2 A2)[b]? = _
    rw [List.getElem?_set_ne nb2, List.getElem?_set_ne nb1, List.getElem?_set_ne nb0]
    exact hb
  have al3 : a < h3.length := (List.getElem?_eq_some_iff.mp h3a).1
  have fl4 : 4 < fa.length := (List.getElem?_eq_some_iff.mp m1).1
  have fl5 : 5 < f1.length := by
    show 5 < (fa.set 4 (.int xl)).length
    rw [List.length_set]
    exact (List.getElem?_eq_some_iff.mp n1).1
  have h5a : h5[a]? = some (.inr (4, f2)) := List.getElem?_set_self (by rw [List.length_set]; exact al3)
  have h5o : ∀ q, ¬ q = a → ¬ q = ra0 → ¬ q = ra1 → ¬ q = ra2 → h5[q]? = h[q]? := fun q e0 e1 e2 e3 => by
    show ((h3.set a (.inr (4, f1))).set a (.inr (4, f2)))[q]? = _
    rw [List.getElem?_set_ne (fun z => e0 z.symm), List.getElem?_set_ne (fun z => e0 z.symm)]
    show (((h.set ra0 A0).set ra1 A1).set ra2 A2)[q]? = _
    rw [List.getElem?_set_ne (fun z => e3 z.symm), List.getElem?_set_ne (fun z => e2 z.symm), List.getElem?_set_ne (fun z => e1 z.symm)]
  have h3r : ∀ q, ¬ q = a → h5[q]? = h3[q]? := fun q e0 => by
    show ((h3.set a (.inr (4, f1))).set a (.inr (4, f2)))[q]? = _
    rw [List.getElem?_set_ne (fun z => e0 z.symm), List.getElem?_set_ne (fun z => e0 z.symm)]
  have r0l : ra0 < h.length := (List.getElem?_eq_some_iff.mp a02).1
  have r1l : ra1 < h.length := (List.getElem?_eq_some_iff.mp a12).1
  have r2l : ra2 < h.length := (List.getElem?_eq_some_iff.mp a22).1
  have h50 : h5[ra0]? = some A0 := by
    rw [h3r ra0 na0]
    show (((h.set ra0 A0).set ra1 A1).set ra2 A2)[ra0]? = _
    rw [List.getElem?_set_ne (fun z => n02 z.symm), List.getElem?_set_ne (fun z => n01 z.symm)]
    exact List.getElem?_set_self r0l
  have h51 : h5[ra1]? = some A1 := by
    rw [h3r ra1 na1]
    show (((h.set ra0 A0).set ra1 A1).set ra2 A2)[ra1]? = _
    rw [List.getElem?_set_ne (fun z => n12 z.symm)]
    exact List.getElem?_set_self (by rw [List.length_set]; exact r1l)
  have h52 : h5[ra2]? = some A2 := by
    rw [h3r ra2 na2]
    exact List.getElem?_set_self (by rw [List.length_set, List.length_set]; exact r2l)
  have cp : ∀ (u v : Nat → Int32) (j : Nat), j < 40 → va_cpy u v 0 0 40 j = u j := fun u v j hj => by
    unfold va_cpy
    rw [if_pos ⟨Nat.zero_le _, by omega⟩]
    congr 1
    omega
  have hJ5 : nJJ S h5 := by
    refine ⟨?_, ?_, ?_, hJ.2.2.2⟩
    · intro q t ci fs hS ht hq
      by_cases e : q = a
      · subst e
        cases h5a.symm.trans hq
        have hold := hJ.1 b 4 4 fb tb (.inl rfl) hb
        rw [nGh4, b03, b23, l2] at hold
        have g0 : gA h5 f2 0 = va_cpy ub0 ua0 0 0 40 := gA_at (q := ra0) (kd := 0) (n := 40) (by
          show ((fa.set 4 (.int xl)).set 5 (.int xo))[0]? = _
          rw [List.getElem?_set_ne (by decide), List.getElem?_set_ne (by decide)]
          exact a00) h50
        have g2 : gA h5 f2 2 = va_cpy ub2 ua2 0 0 40 := gA_at (q := ra2) (kd := 0) (n := 40) (by
          show ((fa.set 4 (.int xl)).set 5 (.int xo))[2]? = _
          rw [List.getElem?_set_ne (by decide), List.getElem?_set_ne (by decide)]
          exact a20) h52
        have g4 : gI f2 4 = xl.toInt := gI_at (by
          show ((fa.set 4 (.int xl)).set 5 (.int xo))[4]? = _
          rw [List.getElem?_set_ne (by decide)]
          exact List.getElem?_set_self fl4)
        rw [nGh4, g0, g2, g4, ← hold]
        refine gAll_congr (fun i hi => ?_)
        rw [cp _ _ i (by omega), cp _ _ i (by omega)]
      · have hno : ∀ z, (∃ fx, h[z]? = some (.inl fx)) → ¬ q = z ∨ h5[q]? = h5[z]? := fun z hz => by
          by_cases e2 : q = z
          · exact .inr (by rw [e2])
          · exact .inl e2
        have e0 : ¬ q = ra0 := fun z => by subst z; cases (show some (Sum.inl (0, 40, .inl (va_cpy ub0 ua0 0 0 40)) : nC) = some (.inr (ci, fs)) from h50.symm.trans hq)
        have e1 : ¬ q = ra1 := fun z => by subst z; cases (show some (Sum.inl (0, 40, .inl (va_cpy ub1 ua1 0 0 40)) : nC) = some (.inr (ci, fs)) from h51.symm.trans hq)
        have e2 : ¬ q = ra2 := fun z => by subst z; cases (show some (Sum.inl (0, 40, .inl (va_cpy ub2 ua2 0 0 40)) : nC) = some (.inr (ci, fs)) from h52.symm.trans hq)
        rw [h5o q e e0 e1 e2] at hq
        have hold := hJ.1 q t ci fs hS ht hq
        obtain ⟨cc, hc1, hc2⟩ := hT q t hS
        cases hq.symm.trans hc1
        have row : ∀ bb T, (t, bb, T) ∈ nRw → (T = 30 ∨ T = 32 ∨ T = 38 ∨ T = 39 ∨ T = 40) → gA h5 fs bb = gA h fs bb := fun bb T hm hTT => by
          obtain ⟨v, hv1, r, rfl, hv3⟩ := hc2.2 bb _ (nRw_sp _ hm).2
          unfold gA
          rw [hv1]
          simp only
          rw [h5o r (ne hv3 ta (show ¬ T = 4 by omega)) (fun z => ?_) (ne hv3 a11 (show ¬ T = 31 by omega)) (fun z => ?_)]
          · subst z
            cases a01.symm.trans hv3
            have := nRw_ok _ hm (4, 0, 30) (by decide) rfl
            cases this
            exact e (hJ.2.1 q a 4 0 _ ci 4 fs fa hS ta (by decide) hq ha hv1 a00)
          · subst z
            cases a21.symm.trans hv3
            have := nRw_ok _ hm (4, 2, 32) (by decide) rfl
            cases this
            exact e (hJ.2.1 q a 4 2 _ ci 4 fs fa hS ta (by decide) hq ha hv1 a20)
        rcases ht with rfl | rfl
        · cases hc2.1
          rw [nGh4] at hold ⊢
          rw [row 0 30 (by decide) (by decide), row 2 32 (by decide) (by decide)]
          exact hold
        · cases hc2.1
          rw [nGh6] at hold ⊢
          rw [row 0 38 (by decide) (by decide), row 1 39 (by decide) (by decide), row 2 40 (by decide) (by decide)]
          exact hold
    · have i0 := nIn_arr (y := (0, 40, .inl (va_cpy ub0 ua0 0 0 40))) hJ.2.1 a02
      have i1 := nIn_arr (y := (0, 40, .inl (va_cpy ub1 ua1 0 0 40))) i0 (q := ra1) (by rw [List.getElem?_set_ne n01]; exact a12)
      have i2 := nIn_arr (y := (0, 40, .inl (va_cpy ub2 ua2 0 0 40))) i1 (q := ra2) (by rw [List.getElem?_set_ne n12, List.getElem?_set_ne n02]; exact a22)
      have i3 := nIn_obj (b := 4) (x := .int xl) i2 ta (.inr (fun r h => by cases h)) h3a
      exact nIn_obj (b := 5) (x := .int xo) i3 ta (.inr (fun r h => by cases h)) (List.getElem?_set_self al3)
    · have i0 := nLen_arr (y := (0, 40, .inl (va_cpy ub0 ua0 0 0 40))) hJ.2.2.1 a02
      have i1 := nLen_arr (y := (0, 40, .inl (va_cpy ub1 ua1 0 0 40))) i0 (q := ra1) (by rw [List.getElem?_set_ne n01]; exact a12)
      have i2 := nLen_arr (y := (0, 40, .inl (va_cpy ub2 ua2 0 0 40))) i1 (q := ra2) (by rw [List.getElem?_set_ne n12, List.getElem?_set_ne n02]; exact a22)
      have i3 := nLen_obj (b := 4) (x := .int xl) i2 h3a
      exact nLen_obj (b := 5) (x := .int xo) i3 (List.getElem?_set_self al3)
  have hT5 : tOk nFT nAT S h5 := by
    intro q t hS
    by_cases e : q = a
    · subst e
      cases ta.symm.trans hS
      refine ⟨_, h5a, rfl, fun kk ty hF => ?_⟩
      by_cases e5 : kk = 5
      · subst e5
        cases hF.symm.trans (show nFT 4 5 = some (.inl ((-2147483648), 2147483647)) from rfl)
        exact ⟨.int xo, List.getElem?_set_self fl5, xo, rfl, o3⟩
      · by_cases e4 : kk = 4
        · subst e4
          cases hF.symm.trans (show nFT 4 4 = some (.inl (0, 40)) from rfl)
          refine ⟨.int xl, ?_, xl, rfl, l3⟩
          show ((fa.set 4 (.int xl)).set 5 (.int xo))[4]? = _
          rw [List.getElem?_set_ne (by decide)]
          exact List.getElem?_set_self fl4
        · obtain ⟨w, g1, g2⟩ := hfa kk ty hF
          refine ⟨w, ?_, g2⟩
          show ((fa.set 4 (.int xl)).set 5 (.int xo))[kk]? = _
          rw [List.getElem?_set_ne (fun z => e5 z.symm), List.getElem?_set_ne (fun z => e4 z.symm)]
          exact g1
    · by_cases e0 : q = ra0
      · subst e0
        cases a01.symm.trans hS
        exact ⟨_, h50, rfl, _, rfl, fun j hj => by
          obtain ⟨r, r1, r2⟩ := b04 j hj
          exact ⟨r, r1, by rw [cp _ _ j hj]; exact r2⟩⟩
      · by_cases e1 : q = ra1
        · subst e1
          cases a11.symm.trans hS
          exact ⟨_, h51, rfl, _, rfl, fun j hj => by
            obtain ⟨r, r1, r2⟩ := b14 j hj
            exact ⟨r, r1, by rw [cp _ _ j hj]; exact r2⟩⟩
        · by_cases e2 : q = ra2
          · subst e2
            cases a21.symm.trans hS
            exact ⟨_, h52, rfl, _, rfl, fun j hj => by
              obtain ⟨r, r1, r2⟩ := b24 j hj
              exact ⟨r, r1, by rw [cp _ _ j hj]; exact r2⟩⟩
          · rw [h5o q e e0 e1 e2]
            exact hT q t hS
  have hF5 : nFr [(4, 4), (4, 5)] [30, 31, 32] S h h5 := by
    intro q t hS
    refine ⟨fun _ ci fs hq => ?_, fun hn hma => ?_⟩
    · by_cases e : q = a
      · subst e
        cases ha.symm.trans hq
        cases ta.symm.trans hS
        refine ⟨f2, h5a, fun kk hk => ?_⟩
        simp only [List.mem_cons, Prod.mk.injEq, true_and, List.not_mem_nil, or_false, not_or] at hk
        unfold nFd
        split
        · show ((fa.set 4 (.int xl)).set 5 (.int xo))[kk]? = _
          rw [List.getElem?_set_ne (fun z => hk.2 z.symm), List.getElem?_set_ne (fun z => hk.1 z.symm)]
        · rw [nGh46 hJ.1 hJ5.1 ta rfl (.inl rfl) ha h5a]
      · have e0 : ¬ q = ra0 := fun z => by subst z; cases a02.symm.trans hq
        have e1 : ¬ q = ra1 := fun z => by subst z; cases a12.symm.trans hq
        have e2 : ¬ q = ra2 := fun z => by subst z; cases a22.symm.trans hq
        have hq5 : h5[q]? = some (.inr (ci, fs)) := by rw [h5o q e e0 e1 e2]; exact hq
        refine ⟨fs, hq5, fun kk hk => ?_⟩
        unfold nFd
        split
        · rfl
        · obtain ⟨cc, hc1, hc2⟩ := hT q t hS
          cases hq.symm.trans hc1
          obtain ⟨z1, z2, z3⟩ := oT9 hc2.1
          by_cases c4 : ci = 4
          · rw [nGh46 hJ.1 hJ5.1 hS hc2.1 (.inl (z2 c4)) hq hq5]
          · by_cases c6 : ci = 6
            · rw [nGh46 hJ.1 hJ5.1 hS hc2.1 (.inr (z3 c6)) hq hq5]
            · unfold nGh
              split
              · next c9 =>
                cases z1 c9
                have row : ∀ bb T, nFT 9 bb = some (.inr (.inl T)) → ¬ T = 4 → ¬ T = 30 → ¬ T = 31 → ¬ T = 32 → gA h5 fs bb = gA h fs bb := fun bb T hF n4 n0 n1 n2 => by
                  obtain ⟨v, hv1, r, rfl, hv3⟩ := hc2.2 bb _ hF
                  unfold gA
                  rw [hv1]
                  simp only
                  rw [h5o r (ne hv3 ta n4) (ne hv3 a01 n0) (ne hv3 a11 n1) (ne hv3 a21 n2)]
                rw [row 6 50 rfl (by decide) (by decide) (by decide) (by decide), row 45 65 rfl (by decide) (by decide) (by decide) (by decide), row 8 52 rfl (by decide) (by decide) (by decide) (by decide), row 38 63 rfl (by decide) (by decide) (by decide) (by decide)]
              · rfl
    · simp only [List.mem_cons, List.not_mem_nil, or_false, not_or] at hma
      refine h5o q (fun z => ?_) (fun z => ?_) (fun z => ?_) (fun z => ?_)
      · subst z; cases ta.symm.trans hS; cases hn
      · subst z; cases a01.symm.trans hS; exact hma.1 rfl
      · subst z; cases a11.symm.trans hS; exact hma.2.1 rfl
      · subst z; cases a21.symm.trans hS; exact hma.2.2 rfl
  refine nT.mono (Q := fun rv h1 => h1 = h5 ∧ rv = none) ?_ ?_
  · rintro rv h1 ⟨rfl, rfl⟩
    exact ⟨hJ5, hT5, hF5, _, List.mem_singleton.mpr rfl, [], [a, b], aX.rf, ⟨k.1, k.2.1, (fun e he => nomatch he), (fun e he => nomatch he), (fun e he => nomatch he)⟩, trivial⟩
  · refine cp_blk0 ha hb a00 b00 a02 b02 ?_
    refine cp_blk1 (ra := ra1) (rb := rb1) (fa := fa) (fb := fb) (ua := ua1) (ub := ub1) (by rw [List.getElem?_set_ne na0]; exact ha) (by rw [List.getElem?_set_ne nb0]; exact hb) a10 b10 (by rw [List.getElem?_set_ne n01]; exact a12) (by rw [List.getElem?_set_ne w01]; exact b12) ?_
    refine cp_blk2 (ra := ra2) (rb := rb2) (fa := fa) (fb := fb) (ua := ua2) (ub := ub2) (by rw [List.getElem?_set_ne na1, List.getElem?_set_ne na0]; exact ha) (by rw [List.getElem?_set_ne nb1, List.getElem?_set_ne nb0]; exact hb) a20 b20 (by rw [List.getElem?_set_ne n12, List.getElem?_set_ne n02]; exact a22) (by rw [List.getElem?_set_ne w12, List.getElem?_set_ne w02]; exact b22) ?_
    show nT nj_M X L xs g d nm_144 _ 54 [(0, .ref a), (1, .ref b)] [] h3
    refine nT_pure (pc1 := 55) (lv1 := [(0, .ref a), (1, .ref b)]) (st1 := [.ref a]) rfl rfl rfl ?_
    refine nT_pure (pc1 := 56) (lv1 := [(0, .ref a), (1, .ref b)]) (st1 := [.ref b, .ref a]) rfl rfl rfl ?_
    refine nT_mem (pc1 := 59) (st1 := [.int xl, .ref a]) rfl rfl rfl (getf_at h3b l1) ?_
    refine nT_mem (pc1 := 62) (st1 := []) (h1 := h3.set a (.inr (4, f1))) rfl rfl rfl (putf_at h3a fl4 rfl) ?_
    refine nT_pure (pc1 := 63) (lv1 := [(0, .ref a), (1, .ref b)]) (st1 := [.ref a]) rfl rfl rfl ?_
    refine nT_pure (pc1 := 64) (lv1 := [(0, .ref a), (1, .ref b)]) (st1 := [.ref b, .ref a]) rfl rfl rfl ?_
    have h4b : ∃ f4, (h3.set a (.inr (4, f1)))[b]? = some (.inr (4, f4)) ∧ f4[5]? = some (.int xo) := by
      by_cases e : a = b
      · subst e
        cases ha.symm.trans hb
        refine ⟨f1, List.getElem?_set_self al3, ?_⟩
        show (fa.set 4 (.int xl))[5]? = _
        rw [List.getElem?_set_ne (by decide)]
        exact o1
      · exact ⟨fb, by rw [List.getElem?_set_ne e]; exact h3b, o1⟩
    obtain ⟨f4, j1, j2⟩ := h4b
    have h4a : (h3.set a (.inr (4, f1)))[a]? = some (.inr (4, f1)) := List.getElem?_set_self al3
    refine nT_mem (pc1 := 67) (st1 := [.int xo, .ref a]) rfl rfl rfl (getf_at j1 j2) ?_
    refine nT_mem (pc1 := 70) (st1 := []) (h1 := h5) rfl rfl rfl (putf_at h4a fl5 rfl) ?_
    exact nT_ret (rv := none) rfl rfl ⟨rfl, rfl⟩
