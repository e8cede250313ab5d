theorem lwI_fr2 {S : List Nat} {qx qm ql qb : Nat} {h h1 : List nC} {mf : List (Nat × Nat)} {ma : List Nat} (I : lwI S qx qm ql qb h) (tx : S[qx]? = some 8) (tl : S[ql]? = some 2) (J1 : nJJ S h1) (T1 : tOk nFT nAT S h1) (F : nFr mf ma S h h1) (hg : ∃ fm, h1[qm]? = some (.inr (9, fm)) ∧ nGh 1002 h1 9 fm = 1 ∧ nGh 1003 h1 9 fm = 1 ∧ nGh 1004 h1 9 fm = 1) (n5 : (8, 3) ∉ mf) (n6 : (2, 0) ∉ mf) : lwI S qx qm ql qb h1 := by
  obtain ⟨-, -, -, ⟨fx, hx, b⟩, fl, hl, c⟩ := I
  obtain ⟨fx1, hx1, ex⟩ := (F qx 8 tx).1 ⟨8, rfl⟩ 8 fx hx
  obtain ⟨fl1, hl1, el⟩ := (F ql 2 tl).1 ⟨2, rfl⟩ 2 fl hl
  exact ⟨J1, T1, hg, ⟨fx1, hx1, (nFd_lo (by decide)).symm.trans ((ex 3 n5).trans ((nFd_lo (by decide)).trans b))⟩, fl1, hl1, (nFd_lo (by decide)).symm.trans ((el 0 n6).trans ((nFd_lo (by decide)).trans c))⟩
theorem lwI_fr {S : List Nat} {qx qm ql qb : Nat} {h h1 : List nC} {mf : List (Nat × Nat)} {ma : List Nat} (I : lwI S qx qm ql qb h) (tx : S[qx]? = some 8) (tm : S[qm]? = some 9) (tl : S[ql]? = some 2) (J1 : nJJ S h1) (T1 : tOk nFT nAT S h1) (F : nFr mf ma S h h1) (n2 : (9, 1002) ∉ mf) (n3 : (9, 1003) ∉ mf) (n4 : (9, 1004) ∉ mf) (n5 : (8, 3) ∉ mf) (n6 : (2, 0) ∉ mf) : lwI S qx qm ql qb h1 := by
  have I0 := I
  obtain ⟨-, -, ⟨fm, hm, a2, a3, a4⟩, -⟩ := I
  obtain ⟨fm1, hm1, em⟩ := (F qm 9 tm).1 ⟨9, rfl⟩ 9 fm hm
  have gk : ∀ k, ¬ k < 1000 → (9, k) ∉ mf → nGh k h 9 fm = 1 → nGh k h1 9 fm1 = 1 := fun k hk hn e => by
    have e2 := em k hn
    rw [nFd_hi hk, nFd_hi hk, e] at e2
    exact Value.int.inj (Option.some.inj e2)
  exact lwI_fr2 I0 tx tl J1 T1 F ⟨fm1, hm1, gk 1002 (by decide) n2 a2, gk 1003 (by decide) n3 a3, gk 1004 (by decide) n4 a4⟩ n5 n6
theorem res_c {nu : List Int} {mu : List Nat} {r : Int} {rv : Option Value} (h : aRes nu mu (some (.inl r)) rv) : rv = some (.int (Int32.ofInt r)) := by
  cases rv with
  | none => exact h.elim
  | some v => exact congrArg some (show v = .int (Int32.ofInt r) from h)
theorem res_s {S : List Nat} {h : List nC} {nu : List Int} {mu : List Nat} {s : aS} {i : Nat} {r : Int} {rv : Option Value} (ok : aOk S h nu mu s) (hr : aRes nu mu (some (.inr (.inl (i, 0)))) rv) (hi : s.1[i]? = some (r, r)) : rv = some (.int (Int32.ofInt r)) := by
  cases rv with
  | none => exact hr.elim
  | some v =>
    obtain ⟨z, hz, e⟩ := (show ∃ z : Int, nu[i]? = some z ∧ v = .int (Int32.ofInt (z + 0)) from hr)
    have h2 := ok.1.2 i z (r, r) hz hi
    have h3 : z = r := Int.le_antisymm h2.2 h2.1
    rw [e, Int.add_zero, h3]
theorem tau_1 {S : List Nat} {q t : Nat} (h : S[q]? = some t) : [t].length = [q].length ∧ ∀ (j q2 t2 : Nat), [q][j]? = some q2 → [t][j]? = some t2 → S[q2]? = some t2 := by
  refine ⟨rfl, fun j q2 t2 a b => ?_⟩
  match j, a, b with
  | 0, a, b => cases a; cases b; exact h
section IMG
variable {X : nX} {L : Nat} {xs : Nat → Int32} {g d : Nat} {S : List Nat} {h : List nC}
theorem two_app {c : nK} {mt : nM} {q : Nat} {u w : Int32} (hv : nV nj_M X L xs g nFT nAT S (nJJ S) c) (hM : nj_M c.1 = some mt) (hd : c.2.1 ≤ d) (hpre : c.2.2.1 = ([(-2147483648, 2147483647), (-2147483648, 2147483647)], [9], [], [], [])) (har : c.2.2.2.1 = [.inr (.inr (.inl 0)), .inr (.inl (0, 0)), .inr (.inl (1, 0))]) (hpo : ∀ po ∈ c.2.2.2.2.2.2, po.2 = some (.inr (.inl (2, 0)))) (hq : S[q]? = some 9) (hJ : nJJ S h) (hT : tOk nFT nAT S h) : nT nj_M X L xs g d mt (fun rv h1 => nJJ S h1 ∧ tOk nFT nAT S h1 ∧ nFr c.2.2.2.2.1 c.2.2.2.2.2.1 S h h1 ∧ ∃ y : Int32, rv = some (.int y)) 0 (lv_args 0 [.ref q, .int u, .int w]) [] h := by
  have b : ∀ u : Int32, -2147483648 ≤ u.toInt ∧ u.toInt ≤ 2147483647 := fun u => ⟨Int32.le_toInt u, by have := Int32.toInt_lt u; omega⟩
  refine nT.mono ?_ (hv d hd mt hM h [u.toInt, w.toInt] [q] [.ref q, .int u, .int w] hJ hT (by rw [hpre]; exact ⟨aE2 (b u) (b w), tau_1 hq, (fun e he => nomatch he), (fun e he => nomatch he), (fun e he => nomatch he)⟩) (by rw [har]; exact ⟨⟨q, rfl, rfl⟩, ⟨u.toInt, rfl, by rw [Int.add_zero, Int32.ofInt_toInt]⟩, ⟨w.toInt, rfl, by rw [Int.add_zero, Int32.ofInt_toInt]⟩, trivial⟩))
  rintro rv h1 ⟨J1, T1, F1, po, hpo1, nu1, mu1, X1, ok1, res1⟩
  refine ⟨J1, T1, F1, ?_⟩
  rw [hpo po hpo1] at res1
  cases rv with
  | none => exact res1.elim
  | some v =>
    obtain ⟨z, hz, e⟩ := (show ∃ z : Int, nu1[2]? = some z ∧ v = .int (Int32.ofInt (z + 0)) from res1)
    exact ⟨_, congrArg some e⟩
/-- .. with the tape's lengths: the class's zc, the reference's zm -/
def lwP (S : List Nat) (qx qm ql qb qt : Nat) (zc zm : Int) (h : List nC) : Prop := lwI S qx qm ql qb h ∧ (∃ fx, h[qx]? = some (.inr (8, fx)) ∧ fx[0]? = some (.ref qt)) ∧ (∃ ft, h[qt]? = some (.inr (7, ft)) ∧ ft[5]? = some (.int (Int32.ofInt zc))) ∧ ∃ fm, h[qm]? = some (.inr (9, fm)) ∧ fm[2]? = some (.int (Int32.ofInt zm))
def lwW (S : List Nat) (qx qm ql qb qt : Nat) (h : List nC) : Prop := ∃ z : Int, (0 ≤ z ∧ z ≤ 940) ∧ lwP S qx qm ql qb qt z z h
section LWP
variable {qx qm ql qb qt : Nat} {zc zm z2 : Int} {h1 : List nC} {mf : List (Nat × Nat)} {ma : List Nat}
theorem lwP_gen (I : lwP S qx qm ql qb qt zc zm h) (tx : S[qx]? = some 8) (tm : S[qm]? = some 9) (tl : S[ql]? = some 2) (J1 : nJJ S h1) (T1 : tOk nFT nAT S h1) (F : nFr mf ma S h h1) (n2 : (9, 1002) ∉ mf) (n3 : (9, 1003) ∉ mf) (n4 : (9, 1004) ∉ mf) (n5 : (8, 3) ∉ mf) (n6 : (2, 0) ∉ mf) (n7 : (8, 0) ∉ mf) (ht : ∃ ft, h1[qt]? = some (.inr (7, ft)) ∧ ft[5]? = some (.int (Int32.ofInt zc))) (hm : ∃ fm, h1[qm]? = some (.inr (9, fm)) ∧ fm[2]? = some (.int (Int32.ofInt zm))) : lwP S qx qm ql qb qt zc zm h1 := by
  obtain ⟨I0, ⟨fx, hx, b⟩, -, -⟩ := I
  obtain ⟨fx1, hx1, ex⟩ := (F qx 8 tx).1 ⟨8, rfl⟩ 8 fx hx
  exact ⟨lwI_fr I0 tx tm tl J1 T1 F n2 n3 n4 n5 n6, ⟨fx1, hx1, (nFd_lo (by decide)).symm.trans ((ex 0 n7).trans ((nFd_lo (by decide)).trans b))⟩, ht, hm⟩
theorem lwP_txt (I : lwP S qx qm ql qb qt zc zm h) (tt : S[qt]? = some 7) (F : nFr mf ma S h h1) (n8 : (7, 5) ∉ mf) : ∃ ft, h1[qt]? = some (.inr (7, ft)) ∧ ft[5]? = some (.int (Int32.ofInt zc)) := by
  obtain ⟨-, -, ⟨ft, ht, b⟩, -⟩ := I
  obtain ⟨ft1, ht1, et⟩ := (F qt 7 tt).1 ⟨7, rfl⟩ 7 ft ht
  exact ⟨ft1, ht1, (nFd_lo (by decide)).symm.trans ((et 5 n8).trans ((nFd_lo (by decide)).trans b))⟩
theorem lwP_mod (I : lwP S qx qm ql qb qt zc zm h) (tm : S[qm]? = some 9) (F : nFr mf ma S h h1) (n9 : (9, 2) ∉ mf) : ∃ fm, h1[qm]? = some (.inr (9, fm)) ∧ fm[2]? = some (.int (Int32.ofInt zm)) := by
  obtain ⟨-, -, -, fm, hm, b⟩ := I
  obtain ⟨fm1, hm1, em⟩ := (F qm 9 tm).1 ⟨9, rfl⟩ 9 fm hm
  exact ⟨fm1, hm1, (nFd_lo (by decide)).symm.trans ((em 2 n9).trans ((nFd_lo (by decide)).trans b))⟩
theorem lwP_fr (I : lwP S qx qm ql qb qt zc zm h) (tx : S[qx]? = some 8) (tm : S[qm]? = some 9) (tl : S[ql]? = some 2) (tt : S[qt]? = some 7) (J1 : nJJ S h1) (T1 : tOk nFT nAT S h1) (F : nFr mf ma S h h1) (n2 : (9, 1002) ∉ mf) (n3 : (9, 1003) ∉ mf) (n4 : (9, 1004) ∉ mf) (n5 : (8, 3) ∉ mf) (n6 : (2, 0) ∉ mf) (n7 : (8, 0) ∉ mf) (n8 : (7, 5) ∉ mf) (n9 : (9, 2) ∉ mf) : lwP S qx qm ql qb qt zc zm h1 :=
  lwP_gen I tx tm tl J1 T1 F n2 n3 n4 n5 n6 n7 (lwP_txt I tt F n8) (lwP_mod I tm F n9)
theorem lwW_fr (I : lwW S qx qm ql qb qt h) (tx : S[qx]? = some 8) (tm : S[qm]? = some 9) (tl : S[ql]? = some 2) (tt : S[qt]? = some 7) (J1 : nJJ S h1) (T1 : tOk nFT nAT S h1) (F : nFr mf ma S h h1) (n2 : (9, 1002) ∉ mf) (n3 : (9, 1003) ∉ mf) (n4 : (9, 1004) ∉ mf) (n5 : (8, 3) ∉ mf) (n6 : (2, 0) ∉ mf) (n7 : (8, 0) ∉ mf) (n8 : (7, 5) ∉ mf) (n9 : (9, 2) ∉ mf) : lwW S qx qm ql qb qt h1 := by
  obtain ⟨z, hz, I⟩ := I
  exact ⟨z, hz, lwP_fr I tx tm tl tt J1 T1 F n2 n3 n4 n5 n6 n7 n8 n9⟩
/-- a promise's word on a field, as a constant and as a name -/
theorem fld_c {nu : List Int} {mu : List Nat} {s : aS} {j f q ci : Nat} {r : Int} {fs : List Value} (ok : aOk S h nu mu s) (he : (j, f, (.inl r : aV)) ∈ s.2.2.1) (hj : mu[j]? = some q) (hf : f < 1000) (hq : h[q]? = some (.inr (ci, fs))) : fs[f]? = some (.int (Int32.ofInt r)) := by
  obtain ⟨v, w, e⟩ := fc_at ok he hj hq
  rw [nFd_lo hf] at w
  rw [w]
  exact congrArg some (show v = .int (Int32.ofInt r) from e)
theorem fld_s {nu : List Int} {mu : List Nat} {s : aS} {j f q ci k : Nat} {fs : List Value} (ok : aOk S h nu mu s) (he : (j, f, (.inr (.inl (k, 0)) : aV)) ∈ s.2.2.1) (hj : mu[j]? = some q) (hf : f < 1000) (hq : h[q]? = some (.inr (ci, fs))) : ∃ z, nu[k]? = some z ∧ fs[f]? = some (.int (Int32.ofInt z)) := by
  obtain ⟨v, w, ⟨z, hz, e⟩⟩ := fc_at ok he hj hq
  rw [nFd_lo hf] at w
  exact ⟨z, hz, by rw [w, e, Int.add_zero]⟩
theorem res_n {nu : List Int} {mu : List Nat} {k : Nat} {rv : Option Value} (h : aRes nu mu (some (.inr (.inl (k, 0)))) rv) : ∃ z, nu[k]? = some z ∧ rv = some (.int (Int32.ofInt z)) := by
  cases rv with
  | none => exact h.elim
  | some v =>
    obtain ⟨z, hz, e⟩ := (show ∃ z : Int, nu[k]? = some z ∧ v = .int (Int32.ofInt (z + 0)) from h)
    exact ⟨z, hz, by rw [e, Int.add_zero]⟩
theorem tau_2 {q1 t1 q2 t2 : Nat} (h1 : S[q1]? = some t1) (h2 : S[q2]? = some t2) : [t1, t2].length = [q1, q2].length ∧ ∀ (j q t : Nat), [q1, q2][j]? = some q → [t1, t2][j]? = some t → S[q]? = some t := by
  refine ⟨rfl, fun j q t a b => ?_⟩
  match j, a, b with
  | 0, a, b => cases a; cases b; exact h1
  | 1, a, b => cases a; cases b; exact h2
theorem fc_ref {nu : List Int} {mu : List Nat} {j f q ci k r : Nat} {fs : List Value} (hj : mu[j]? = some q) (hq : h[q]? = some (.inr (ci, fs))) (hf : f < 1000) (hv : fs[f]? = some (.ref r)) (hk : mu[k]? = some r) : fcOk nu mu h (j, f, .inr (.inr (.inl k))) := ⟨q, ci, fs, _, hj, hq, (nFd_lo hf).trans hv, ⟨r, hk, rfl⟩⟩
theorem fc_int {nu : List Int} {mu : List Nat} {j f q ci k : Nat} {z : Int} {fs : List Value} (hj : mu[j]? = some q) (hq : h[q]? = some (.inr (ci, fs))) (hf : f < 1000) (hv : fs[f]? = some (.int (Int32.ofInt z))) (hk : nu[k]? = some z) : fcOk nu mu h (j, f, .inr (.inl (k, 0))) := ⟨q, ci, fs, _, hj, hq, (nFd_lo hf).trans hv, ⟨z, hk, by rw [Int.add_zero]⟩⟩
end LWP
end IMG
