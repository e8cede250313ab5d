/-! the class's scanner -/
theorem cmp_ne01 (x : Bool) : nj_cmp .ne (b01 x) 0 = x := by cases x <;> rfl
theorem cmp_eq01 (x : Bool) : nj_cmp .eq (b01 x) 0 = !x := by cases x <;> rfl
theorem cmp_nat {i j : Nat} (hi : i < 2147483648) (hj : j < 2147483648) : nj_cmp .ge (Int32.ofNat i) (Int32.ofNat j) = decide (j ≤ i) ∧ nj_cmp .lt (Int32.ofNat i) (Int32.ofNat j) = decide (i < j) ∧ nj_cmp .gt (Int32.ofNat i) (Int32.ofNat j) = decide (j < i) ∧ nj_cmp .le (Int32.ofNat i) (Int32.ofNat j) = decide (i ≤ j) ∧ nj_cmp .eq (Int32.ofNat i) (Int32.ofNat j) = decide (i = j) ∧ nj_cmp .ne (Int32.ofNat i) (Int32.ofNat j) = decide (¬ i = j) := by
  have e1 := i32_small hi
  have e2 := i32_small hj
  have e3 : (Int32.ofNat i = Int32.ofNat j) ↔ i = j := by
    constructor
    · intro h
      have := congrArg Int32.toInt h
      omega
    · intro h; rw [h]
  unfold nj_cmp
  refine ⟨?_, ?_, ?_, ?_, ?_, ?_⟩
  · exact decide_eq_decide.mpr (by rw [Int32.le_iff_toInt_le, e1, e2]; omega)
  · exact decide_eq_decide.mpr (by rw [Int32.lt_iff_toInt_lt, e1, e2]; omega)
  · exact decide_eq_decide.mpr (by rw [Int32.lt_iff_toInt_lt, e1, e2]; omega)
  · exact decide_eq_decide.mpr (by rw [Int32.le_iff_toInt_le, e1, e2]; omega)
  · exact decide_eq_decide.mpr e3
  · exact decide_eq_decide.mpr (not_congr e3)
/-- letters and digits are small numbers -/
theorem isL_i {c : Int32} : isL c = true ↔ 97 ≤ c.toInt ∧ c.toInt ≤ 122 := by
  unfold isL nj_cmp
  rw [Bool.and_eq_true, Bool.not_eq_true', Bool.not_eq_true', decide_eq_false_iff_not, decide_eq_false_iff_not, Int32.lt_iff_toInt_lt, Int32.lt_iff_toInt_lt, show (97 : Int32).toInt = 97 from rfl, show (122 : Int32).toInt = 122 from rfl]
  omega
theorem isD_i {c : Int32} : isD c = true ↔ 48 ≤ c.toInt ∧ c.toInt ≤ 57 := by
  unfold isD nj_cmp
  rw [Bool.and_eq_true, Bool.not_eq_true', Bool.not_eq_true', decide_eq_false_iff_not, decide_eq_false_iff_not, Int32.lt_iff_toInt_lt, Int32.lt_iff_toInt_lt, show (48 : Int32).toInt = 48 from rfl, show (57 : Int32).toInt = 57 from rfl]
  omega
theorem isA_or {c : Int32} : isA c = true ↔ isL c = true ∨ isD c = true := by unfold isA; rw [Bool.or_eq_true]
/-- what a run has told after j bytes: its word, its number, how many letters, how many digits -/
def rst (b : Nat → Int32) (p : Nat) : Nat → Int × Int × Nat × Nat
  | 0 => (0, 0, 0, 0)
  | j + 1 => if isL (b (p + j)) = true then ((rst b p j).1 * 32 + (b (p + j)).toInt - 97 + 1, (rst b p j).2.1, (rst b p j).2.2.1 + 1, (rst b p j).2.2.2) else ((rst b p j).1, (rst b p j).2.1 * 10 + (b (p + j)).toInt - 48, (rst b p j).2.2.1, (rst b p j).2.2.2 + 1)
theorem wLet_i (w : Int) (c : Int32) : wLet (Int64.ofInt w) c = Int64.ofInt (w * 32 + c.toInt - 97 + 1) := by
  unfold wLet
  rw [Int64.ofInt_add, Int64.ofInt_sub, Int64.ofInt_add, Int64.ofInt_mul, Int64.ofInt_int32ToInt]
  rfl
theorem num_i (x : Int) (c : Int32) : Int32.ofInt x * (Int8.ofInt 10).toInt32 + c - (Int8.ofInt 48).toInt32 = Int32.ofInt (x * 10 + c.toInt - 48) := by
  rw [Int32.ofInt_sub, Int32.ofInt_add, Int32.ofInt_mul, Int32.ofInt_toInt]
  rfl
abbrev lcs (p : Nat) (s : Int × Int × Nat × Nat) (a : Nat) : nLv := [(0, .ref 1), (1, .int (Int32.ofNat p)), (2, .long (Int64.ofInt s.1)), (4, .int (Int32.ofInt s.2.1)), (5, .int (Int32.ofNat s.2.2.1)), (6, .int (Int32.ofNat s.2.2.2)), (7, .int (Int32.ofNat a))]
section SCN
variable {L : Nat} {xs : Nat → Int32} {d : Nat} {b kd pl : Nat → Int32} {vl ky : Nat → Int64} {len tok cur tak tl fk fp : Int32}
theorem rst_L {p j : Nat} (h : isL (b (p + j)) = true) : rst b p (j + 1) = ((rst b p j).1 * 32 + (b (p + j)).toInt - 97 + 1, (rst b p j).2.1, (rst b p j).2.2.1 + 1, (rst b p j).2.2.2) := by
  show (if isL (b (p + j)) = true then _ else _) = _
  rw [if_pos h]
theorem rst_D {p j : Nat} (h : isL (b (p + j)) = false) : rst b p (j + 1) = ((rst b p j).1, (rst b p j).2.1 * 10 + (b (p + j)).toInt - 48, (rst b p j).2.2.1, (rst b p j).2.2.2 + 1) := by
  show (if isL (b (p + j)) = true then _ else _) = _
  rw [if_neg (by rw [h]; decide)]
theorem lcs_L {p j : Nat} (h : isL (b (p + j)) = true) : lcs p (rst b p (j + 1)) (p + (j + 1)) = [(0, .ref 1), (1, .int (Int32.ofNat p)), (2, .long (wLet (Int64.ofInt (rst b p j).1) (b (p + j)))), (4, .int (Int32.ofInt (rst b p j).2.1)), (5, .int (Int32.ofNat (rst b p j).2.2.1 + Int32.ofInt 1)), (6, .int (Int32.ofNat (rst b p j).2.2.2)), (7, .int (Int32.ofNat (p + j) + Int32.ofInt 1))] := by
  rw [wLet_i, i32_succ, i32_succ, rst_L h]
  rfl
theorem lcs_D {p j : Nat} (h : isL (b (p + j)) = false) : lcs p (rst b p (j + 1)) (p + (j + 1)) = [(0, .ref 1), (1, .int (Int32.ofNat p)), (2, .long (Int64.ofInt (rst b p j).1)), (4, .int (Int32.ofInt (rst b p j).2.1 * (Int8.ofInt 10).toInt32 + b (p + j) - (Int8.ofInt 48).toInt32)), (5, .int (Int32.ofNat (rst b p j).2.2.1)), (6, .int (Int32.ofNat (rst b p j).2.2.2 + Int32.ofInt 1)), (7, .int (Int32.ofNat (p + j) + Int32.ofInt 1))] := by
  rw [num_i, i32_succ, i32_succ, rst_D h]
  rfl
theorem run_loop {Q : Option Value → List nC → Prop} {ks : List Nat} {h0 : List nC} {n p J : Nat} (hn : n ≤ 940) (hexit : kT nj_M nX0 L xs (d + 1) nm_28 Q ks h0 107 (lcs p (rst b p J) (p + J)) [] (txP b kd pl vl ky (Int32.ofNat n) tok cur tak tl fk fp)) : ∀ (k j : Nat), p + j + k = n → ru b n k (p + j) = p + J → kT nj_M nX0 L xs (d + 1) nm_28 Q ks h0 14 (lcs p (rst b p j) (p + j)) [] (txP b kd pl vl ky (Int32.ofNat n) tok cur tak tl fk fp) := by
  intro k
  induction k with
  | zero =>
    intro j hj hJ
    have e : j = J := by
      have : p + j = p + J := hJ
      omega
    subst e
    refine xw_go (fun pc => pc == 107) 8 (fun K e => And.intro (fun _ => e _ _ _ _ hexit) (fun c => ?_))
    exfalso
    have c2 := (cmp_nat (i := p + j) (j := n) (by omega) (by omega)).1.symm.trans c
    have := of_decide_eq_false c2
    omega
  | succ k ih =>
    intro j hj hJ
    have hx := ix_nat (i := p + j) (n := 940) (by omega) (by decide)
    have hb : b (Int32.ofNat (p + j)).toNatClampNeg = b (p + j) := by rw [hx.2]
    have hru0 : ru b n (k + 1) (p + j) = if p + j < n ∧ isA (b (p + j)) = true then ru b n k (p + j + 1) else p + j := rfl
    have h49 : isA (b (p + j)) = true → kT nj_M nX0 L xs (d + 1) nm_28 Q ks h0 49 (lcs p (rst b p j) (p + j)) [] (txP b kd pl vl ky (Int32.ofNat n) tok cur tak tl fk fp) := by
      intro hA
      rw [hru0, if_pos ⟨by omega, hA⟩] at hJ
      have ih1 := ih (j + 1) (by omega) hJ
      refine xw_go (fun pc => pc == 14) 20 (fun K e => And.intro hx.1 (e _ _ _ _ (kT_call rfl rfl rfl rfl (s_isL _) trivial rfl rfl (fun rv l1 hP _ => ?_))))
      obtain ⟨rfl, rfl⟩ := hP
      refine xw_go (fun pc => pc == 14) 20 (fun K e => And.intro (fun c => ?_) (fun c => ?_))
      · have hL : isL (b (p + j)) = false := by
          rw [← hb]
          have := (cmp_eq01 _).symm.trans c
          simpa using this
        rw [lcs_D hL, ← hb] at ih1
        exact And.intro hx.1 (e _ _ _ _ (kT_sort rfl ih1))
      · have hL : isL (b (p + j)) = true := by
          rw [← hb]
          have := (cmp_eq01 _).symm.trans c
          simpa using this
        rw [lcs_L hL, ← hb] at ih1
        refine And.intro hx.1 (e _ _ _ _ (kT_call rfl rfl rfl rfl (s_wLet _ _) trivial rfl rfl (fun rv l1 hP _ => ?_)))
        obtain ⟨rfl, rfl⟩ := hP
        exact xw_go (fun pc => pc == 14) 20 (fun K e => e _ _ _ _ (kT_sort rfl ih1))
    refine xw_go (fun pc => pc == 107 || pc == 49) 20 (fun K e => And.intro (fun c => ?_) (fun _ => And.intro hx.1 (e _ _ _ _ (kT_call rfl rfl rfl rfl (s_isL _) trivial rfl rfl (fun rv l1 hP _ => ?_)))))
    · exfalso
      have c2 := (cmp_nat (i := p + j) (j := n) (by omega) (by omega)).1.symm.trans c
      have := of_decide_eq_true c2
      omega
    · obtain ⟨rfl, rfl⟩ := hP
      refine xw_go (fun pc => pc == 107 || pc == 49) 20 (fun K e => And.intro (fun c => ?_) (fun c => And.intro hx.1 (e _ _ _ _ (kT_call rfl rfl rfl rfl (s_isD _) trivial rfl rfl (fun rv l1 hP _ => ?_)))))
      · have hL : isL (b (p + j)) = true := by rw [← hb]; exact (cmp_ne01 _).symm.trans c
        exact e _ _ _ _ (h49 (isA_or.mpr (Or.inl hL)))
      · obtain ⟨rfl, rfl⟩ := hP
        have hL : isL (b (p + j)) = false := by rw [← hb]; exact (cmp_ne01 _).symm.trans c
        refine xw_go (fun pc => pc == 107 || pc == 49) 20 (fun K e => And.intro (fun c2 => ?_) (fun c2 => ?_))
        · have hD : isD (b (p + j)) = false := by
            rw [← hb]
            have := (cmp_eq01 _).symm.trans c2
            simpa using this
          rw [hru0, if_neg (fun z => by rcases isA_or.mp z.2 with z | z <;> simp_all)] at hJ
          have e2 : j = J := by omega
          subst e2
          exact e _ _ _ _ hexit
        · have hD : isD (b (p + j)) = true := by
            rw [← hb]
            have := (cmp_eq01 _).symm.trans c2
            simpa using this
          exact e _ _ _ _ (h49 (isA_or.mpr (Or.inr hD)))
end SCN
