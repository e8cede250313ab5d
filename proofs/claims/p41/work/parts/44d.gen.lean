theorem lwI_fr2 {S : List Nat} {qx qm ql qb : Nat} {h h1 : List nC} {mf : List (Nat × Nat)} {ma : List Nat} (I : lwI S qx qm ql qb h) (tx : S[qx]? = some 8) (tl : S[ql]? = some 2) (J1 : nJJ S h1) (T1 : tOk nFT nAT S h1) (F : nFr mf ma S h h1) (hg : ∃ fm, h1[qm]? = some (.inr (9, fm)) ∧ nGh 1002 h1 9 fm = 1 ∧ nGh 1003 h1 9 fm = 1 ∧ nGh 1004 h1 9 fm = 1) (n5 : (8, 3) ∉ mf) (n6 : (2, 0) ∉ mf) : lwI S qx qm ql qb h1 := by
  obtain ⟨-, -, -, ⟨fx, hx, b⟩, fl, hl, c⟩ := I
  obtain ⟨fx1, hx1, ex⟩ := (F qx 8 tx).1 ⟨8, rfl⟩ 8 fx hx
  obtain ⟨fl1, hl1, el⟩ := (F ql 2 tl).1 ⟨2, rfl⟩ 2 fl hl
  exact ⟨J1, T1, hg, ⟨fx1, hx1, (nFd_lo (by decide)).symm.trans ((ex 3 n5).trans ((nFd_lo (by decide)).trans b))⟩, fl1, hl1, (nFd_lo (by decide)).symm.trans ((el 0 n6).trans ((nFd_lo (by decide)).trans c))⟩
theorem lwI_fr {S : List Nat} {qx qm ql qb : Nat} {h h1 : List nC} {mf : List (Nat × Nat)} {ma : List Nat} (I : lwI S qx qm ql qb h) (tx : S[qx]? = some 8) (tm : S[qm]? = some 9) (tl : S[ql]? = some 2) (J1 : nJJ S h1) (T1 : tOk nFT nAT S h1) (F : nFr mf ma S h h1) (n2 : (9, 1002) ∉ mf) (n3 : (9, 1003) ∉ mf) (n4 : (9, 1004) ∉ mf) (n5 : (8, 3) ∉ mf) (n6 : (2, 0) ∉ mf) : lwI S qx qm ql qb h1 := by
  have I0 := I
  obtain ⟨-, -, ⟨fm, hm, a2, a3, a4⟩, -⟩ := I
  obtain ⟨fm1, hm1, em⟩ := (F qm 9 tm).1 ⟨9, rfl⟩ 9 fm hm
  have gk : ∀ k, ¬ k < 1000 → (9, k) ∉ mf → nGh k h 9 fm = 1 → nGh k h1 9 fm1 = 1 := fun k hk hn e => by
    have e2 := em k hn
    rw [nFd_hi hk, nFd_hi hk, e] at e2
    exact Value.int.inj (Option.some.inj e2)
  exact lwI_fr2 I0 tx tl J1 T1 F ⟨fm1, hm1, gk 1002 (by decide) n2 a2, gk 1003 (by decide) n3 a3, gk 1004 (by decide) n4 a4⟩ n5 n6
theorem res_c {nu : List Int} {mu : List Nat} {r : Int} {rv : Option Value} (h : aRes nu mu (some (.inl r)) rv) : rv = some (.int (Int32.ofInt r)) := by
  cases rv with
  | none => exact h.elim
  | some v => exact congrArg some (show v = .int (Int32.ofInt r) from h)
theorem res_s {S : List Nat} {h : List nC} {nu : List Int} {mu : List Nat} {s : aS} {i : Nat} {r : Int} {rv : Option Value} (ok : aOk S h nu mu s) (hr : aRes nu mu (some (.inr (.inl (i, 0)))) rv) (hi : s.1[i]? = some (r, r)) : rv = some (.int (Int32.ofInt r)) := by
  cases rv with
  | none => exact hr.elim
  | some v =>
    obtain ⟨z, hz, e⟩ := (show ∃ z : Int, nu[i]? = some z ∧ v = .int (Int32.ofInt (z + 0)) from hr)
    have h2 := ok.1.2 i z (r, r) hz hi
    have h3 : z = r := Int.le_antisymm h2.2 h2.1
    rw [e, Int.add_zero, h3]
theorem tau_1 {S : List Nat} {q t : Nat} (h : S[q]? = some t) : [t].length = [q].length ∧ ∀ (j q2 t2 : Nat), [q][j]? = some q2 → [t][j]? = some t2 → S[q2]? = some t2 := by
  refine ⟨rfl, fun j q2 t2 a b => ?_⟩
  match j, a, b with
  | 0, a, b => cases a; cases b; exact h
section IMG
variable {X : nX} {L : Nat} {xs : Nat → Int32} {g d : Nat} {S : List Nat} {h : List nC}
theorem img_app {c : nK} {mt : nM} {t q : Nat} {lo hi : Int} {fc : List (Nat × Nat × aV)} {v : Int32} (hv : nV nj_M X L xs g nFT nAT S (nJJ S) c) (hM : nj_M c.1 = some mt) (hd : c.2.1 ≤ d) (hpre : c.2.2.1 = ([(lo, hi)], [t], fc, [], [])) (har : c.2.2.2.1 = [.inr (.inr (.inl 0)), .inr (.inl (0, 0))]) (hlo : lo ≤ v.toInt) (hhi : v.toInt ≤ hi) (hq : S[q]? = some t) (hfc : ∀ e ∈ fc, fcOk [v.toInt] [q] h e) (hJ : nJJ S h) (hT : tOk nFT nAT S h) : nT nj_M X L xs g d mt (fun rv h1 => nJJ S h1 ∧ tOk nFT nAT S h1 ∧ nFr c.2.2.2.2.1 c.2.2.2.2.2.1 S h h1 ∧ ∃ po ∈ c.2.2.2.2.2.2, ∃ nu1 mu1, aX [v.toInt] [q] nu1 mu1 ∧ aOk S h1 nu1 mu1 po.1 ∧ aRes nu1 mu1 po.2 rv) 0 (lv_args 0 [.ref q, .int v]) [] h :=
  hv d hd mt hM h [v.toInt] [q] [.ref q, .int v] hJ hT (by rw [hpre]; exact ⟨aE1 ⟨hlo, hhi⟩, tau_1 hq, hfc, (fun e he => nomatch he), (fun e he => nomatch he)⟩) (by rw [har]; exact ⟨⟨q, rfl, rfl⟩, ⟨v.toInt, rfl, by rw [Int.add_zero, Int32.ofInt_toInt]⟩, trivial⟩)
theorem two_app {c : nK} {mt : nM} {q : Nat} {u w : Int32} (hv : nV nj_M X L xs g nFT nAT S (nJJ S) c) (hM : nj_M c.1 = some mt) (hd : c.2.1 ≤ d) (hpre : c.2.2.1 = ([(-2147483648, 2147483647), (-2147483648, 2147483647)], [9], [], [], [])) (har : c.2.2.2.1 = [.inr (.inr (.inl 0)), .inr (.inl (0, 0)), .inr (.inl (1, 0))]) (hpo : ∀ po ∈ c.2.2.2.2.2.2, po.2 = some (.inr (.inl (2, 0)))) (hq : S[q]? = some 9) (hJ : nJJ S h) (hT : tOk nFT nAT S h) : nT nj_M X L xs g d mt (fun rv h1 => nJJ S h1 ∧ tOk nFT nAT S h1 ∧ nFr c.2.2.2.2.1 c.2.2.2.2.2.1 S h h1 ∧ ∃ y : Int32, rv = some (.int y)) 0 (lv_args 0 [.ref q, .int u, .int w]) [] h := by
  have b : ∀ u : Int32, -2147483648 ≤ u.toInt ∧ u.toInt ≤ 2147483647 := fun u => ⟨Int32.le_toInt u, by have := Int32.toInt_lt u; omega⟩
  refine nT.mono ?_ (hv d hd mt hM h [u.toInt, w.toInt] [q] [.ref q, .int u, .int w] hJ hT (by rw [hpre]; exact ⟨aE2 (b u) (b w), tau_1 hq, (fun e he => nomatch he), (fun e he => nomatch he), (fun e he => nomatch he)⟩) (by rw [har]; exact ⟨⟨q, rfl, rfl⟩, ⟨u.toInt, rfl, by rw [Int.add_zero, Int32.ofInt_toInt]⟩, ⟨w.toInt, rfl, by rw [Int.add_zero, Int32.ofInt_toInt]⟩, trivial⟩))
  rintro rv h1 ⟨J1, T1, F1, po, hpo1, nu1, mu1, X1, ok1, res1⟩
  refine ⟨J1, T1, F1, ?_⟩
  rw [hpo po hpo1] at res1
  cases rv with
  | none => exact res1.elim
  | some v =>
    obtain ⟨z, hz, e⟩ := (show ∃ z : Int, nu1[2]? = some z ∧ v = .int (Int32.ofInt (z + 0)) from res1)
    exact ⟨_, congrArg some e⟩
end IMG
