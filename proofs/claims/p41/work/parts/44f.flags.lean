/-! the flags of the two images, in class (c0, c1) and reference (m0, m1) -/
def kB (b : Int32) : Prop := b = 0 ∨ b = 1
def lwK (c0 c1 : Int32) (h : List nC) : Prop := (∃ fx, h[0]? = some (.inr (8, fx)) ∧ fx[9]? = some (.ref 113)) ∧ (∃ fr, h[113]? = some (.inl (5, 2, .inr (.inr fr))) ∧ fr 0 = some 114 ∧ fr 1 = some 141) ∧ (∃ f0, h[114]? = some (.inr (1, f0)) ∧ f0[3]? = some (.int c0)) ∧ (∃ f1, h[141]? = some (.inr (1, f1)) ∧ f1[3]? = some (.int c1)) ∧ ∃ fm, h[175]? = some (.inr (9, fm)) ∧ fm[47]? = some (.ref 194)
def lwA (m0 m1 : Int32) (h : List nC) : Prop := ∃ fa, h[194]? = some (.inl (2, 2, .inl fa)) ∧ fa 0 = m0 ∧ fa 1 = m1
def lwQ (c0 c1 m0 m1 : Int32) (h : List nC) : Prop := lwI fS 0 175 37 38 h ∧ lwK c0 c1 h ∧ lwA m0 m1 h
def lwW (h : List nC) : Prop := ∃ b0 b1 : Int32, (kB b0 ∧ kB b1) ∧ lwQ b0 b1 b0 b1 h
section LWQ
variable {c0 c1 m0 m1 : Int32} {h h1 : List nC} {mf : List (Nat × Nat)} {ma : List Nat}
theorem lwK_fr (k : lwK c0 c1 h) (F : nFr mf ma fS h h1) (n1 : (8, 9) ∉ mf) (n2 : (1, 3) ∉ mf) (n3 : (9, 47) ∉ mf) (n4 : 46 ∉ ma) : lwK c0 c1 h1 := by
  obtain ⟨⟨fx, hx, a⟩, ⟨fr, hr, b⟩, ⟨f0, h0, c⟩, ⟨f1, h1', d⟩, fm, hm, e⟩ := k
  obtain ⟨fx1, hx1, ex⟩ := (F 0 8 (by decide)).1 ⟨8, rfl⟩ 8 fx hx
  obtain ⟨f01, h01, e0⟩ := (F 114 1 (by decide)).1 ⟨1, rfl⟩ 1 f0 h0
  obtain ⟨f11, h11, e1⟩ := (F 141 1 (by decide)).1 ⟨1, rfl⟩ 1 f1 h1'
  obtain ⟨fm1, hm1, em⟩ := (F 175 9 (by decide)).1 ⟨9, rfl⟩ 9 fm hm
  exact ⟨⟨fx1, hx1, (nFd_lo (by decide)).symm.trans ((ex 9 n1).trans ((nFd_lo (by decide)).trans a))⟩, ⟨fr, ((F 113 46 (by decide)).2 rfl n4).trans hr, b⟩, ⟨f01, h01, (nFd_lo (by decide)).symm.trans ((e0 3 n2).trans ((nFd_lo (by decide)).trans c))⟩, ⟨f11, h11, (nFd_lo (by decide)).symm.trans ((e1 3 n2).trans ((nFd_lo (by decide)).trans d))⟩, fm1, hm1, (nFd_lo (by decide)).symm.trans ((em 47 n3).trans ((nFd_lo (by decide)).trans e))⟩
theorem lwA_fr (k : lwA m0 m1 h) (F : nFr mf ma fS h h1) (n5 : 67 ∉ ma) : lwA m0 m1 h1 := by
  obtain ⟨fa, ha, b⟩ := k
  exact ⟨fa, ((F 194 67 (by decide)).2 rfl n5).trans ha, b⟩
theorem lwQ_fr (I : lwQ c0 c1 m0 m1 h) (J1 : nJJ fS h1) (T1 : tOk nFT nAT fS h1) (F : nFr mf ma fS h h1) (n1 : (8, 9) ∉ mf) (n2 : (1, 3) ∉ mf) (n3 : (9, 47) ∉ mf) (n4 : 46 ∉ ma) (n5 : 67 ∉ ma) (g2 : (9, 1002) ∉ mf) (g3 : (9, 1003) ∉ mf) (g4 : (9, 1004) ∉ mf) (g5 : (8, 3) ∉ mf) (g6 : (2, 0) ∉ mf) : lwQ c0 c1 m0 m1 h1 :=
  ⟨lwI_fr I.1 (by decide) (by decide) (by decide) J1 T1 F g2 g3 g4 g5 g6, lwK_fr I.2.1 F n1 n2 n3 n4, lwA_fr I.2.2 F n5⟩
theorem lwW_fr (I : lwW h) (J1 : nJJ fS h1) (T1 : tOk nFT nAT fS h1) (F : nFr mf ma fS h h1) (n1 : (8, 9) ∉ mf) (n2 : (1, 3) ∉ mf) (n3 : (9, 47) ∉ mf) (n4 : 46 ∉ ma) (n5 : 67 ∉ ma) (g2 : (9, 1002) ∉ mf) (g3 : (9, 1003) ∉ mf) (g4 : (9, 1004) ∉ mf) (g5 : (8, 3) ∉ mf) (g6 : (2, 0) ∉ mf) : lwW h1 := by
  obtain ⟨b0, b1, kb, I⟩ := I
  exact ⟨b0, b1, kb, lwQ_fr I J1 T1 F n1 n2 n3 n4 n5 g2 g3 g4 g5 g6⟩
theorem b32 (u : Int32) : -2147483648 ≤ u.toInt ∧ u.toInt ≤ 2147483647 := ⟨Int32.le_toInt u, by have := Int32.toInt_lt u; omega⟩
theorem cases32 (u : Int32) : u.toInt < 0 ∨ u = 0 ∨ u = 1 ∨ 2 ≤ u.toInt := by
  rcases (by omega : u.toInt < 0 ∨ u.toInt = 0 ∨ u.toInt = 1 ∨ 2 ≤ u.toInt) with c | c | c | c
  · exact Or.inl c
  · exact Or.inr (Or.inl (Int32.toInt_inj.mp c))
  · exact Or.inr (Or.inr (Or.inl (Int32.toInt_inj.mp c)))
  · exact Or.inr (Or.inr (Or.inr c))
end LWQ
