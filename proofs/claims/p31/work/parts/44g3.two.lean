theorem two_app2 {X : nX} {L : Nat} {xs : Nat → Int32} {g d : Nat} {S : List Nat} {cc : Option (Nat → Int32)} {h : List nC} {c : nK} {mt : nM} {q : Nat} {u w : Int32} (hv : nV nj_M X L xs g nFT nAT2 S (nJC S cc) c) (hM : nj_M c.1 = some mt) (hd : c.2.1 ≤ d) (hpre : c.2.2.1 = ([(-2147483648, 2147483647), (-2147483648, 2147483647)], [9], [], [], [])) (har : c.2.2.2.1 = [.inr (.inr (.inl 0)), .inr (.inl (0, 0)), .inr (.inl (1, 0))]) (hpo : ∀ po ∈ c.2.2.2.2.2.2, po.2 = some (.inr (.inl (2, 0)))) (hq : S[q]? = some 9) (hJ : nJC S cc h) (hT : tOk nFT nAT S h) : nT nj_M X L xs g d mt (fun rv h1 => nJC S cc h1 ∧ tOk nFT nAT S h1 ∧ nFr c.2.2.2.2.1 c.2.2.2.2.2.1 S h h1 ∧ ∃ y : Int32, rv = some (.int y)) 0 (lv_args 0 [.ref q, .int u, .int w]) [] h := by
  refine nT.mono ?_ (hv d hd mt hM h [u.toInt, w.toInt] [q] [.ref q, .int u, .int w] hJ (tOk_to hT) (by rw [hpre]; exact ⟨aE2 (i32b u) (i32b w), tau_1 hq, (fun e he => nomatch he), (fun e he => nomatch he), (fun e he => nomatch he)⟩) (by rw [har]; exact ⟨⟨q, rfl, rfl⟩, ⟨u.toInt, rfl, by rw [Int.add_zero, Int32.ofInt_toInt]⟩, ⟨w.toInt, rfl, by rw [Int.add_zero, Int32.ofInt_toInt]⟩, trivial⟩))
  rintro rv h1 ⟨J1, T1, F1, po, hpo1, nu1, mu1, X1, ok1, res1⟩
  refine ⟨J1, tOk_of T1, F1, ?_⟩
  rw [hpo po hpo1] at res1
  cases rv with
  | none => exact res1.elim
  | some v =>
    obtain ⟨z, hz, e⟩ := (show ∃ z : Int, nu1[2]? = some z ∧ v = .int (Int32.ofInt (z + 0)) from res1)
    exact ⟨_, congrArg some e⟩
theorem lwB5_fr {h h1 : List nC} {mf : List (Nat × Nat)} {ma : List Nat} (I : lwB5 h) (J1 : nJJ fS h1) (T1 : tOk nFT nAT fS h1) (F : nFr mf ma fS h h1) (h50 : 50 ∉ ma) (hz : zB mf ma = true) (hc : hcB mf ma = true) (hy : fyC mf = true) : lwB5 h1 := by
  obtain ⟨n, b, z, y0, y1, k0, k1, s, kp, ak, hn, R, I⟩ := I
  exact ⟨n, b, z, y0, y1, k0, k1, s, kp, ak, hn, R, lwY_keep I (nJC_fr (yJ I) J1 F h50) T1 F hz hc hy⟩
theorem lwB5_I {h : List nC} (I : lwB5 h) : lwI fS 0 175 37 38 h := by
  obtain ⟨n, b, z, y0, y1, k0, k1, s, kp, ak, hn, R, I⟩ := I
  exact I.1.1.1
theorem kB2_k {k a : Int32} {q : Prop} (h : kB2 k a q) : (k = 0 ∨ k = 1) ∧ (a = 0 ∨ a = 1) := by
  rcases h with ⟨c, d⟩ | ⟨c, d, -⟩
  · exact ⟨Or.inl c, Or.inl d⟩
  · exact ⟨Or.inr c, Or.inr d⟩
