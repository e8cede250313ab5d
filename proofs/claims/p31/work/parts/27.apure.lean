/-! the frame's instructions by what is known -/
def aGetL (al : List (Nat × aV)) (k : Nat) : Option aV := (al.find? (fun e => e.1 == k)).map (fun e => e.2)
def aPut (al : List (Nat × aV)) (k : Nat) (x : aV) : List (Nat × aV) := (k, x) :: al.filter (fun q => !(q.1 == k) && !(q.1 + 1 == k && aCat q.2 == 2))
def aPut2 (al : List (Nat × aV)) (k : Nat) (x : aV) : List (Nat × aV) := (k, x) :: al.filter (fun q => !(q.1 == k) && (!(q.1 == k + 1) && !(q.1 + 1 == k && aCat q.2 == 2)))
theorem aGetL_ok {nu : List Int} {mu : List Nat} {al : List (Nat × aV)} {lv : nLv} (h : aLv nu mu al lv) {k : Nat} {x : aV} (hx : aGetL al k = some x) : ∃ v, nj_get lv k = some v ∧ aR nu mu x v := by
  unfold aGetL at hx
  obtain ⟨e, h1, h2⟩ := Option.map_eq_some_iff.mp hx
  have hp := List.find?_some h1
  have hm := List.mem_of_find?_eq_some h1
  obtain ⟨v, g1, g2⟩ := h e hm
  have : e.1 = k := by simpa using hp
  rw [this] at g1
  rw [h2] at g2
  exact ⟨v, g1, g2⟩
theorem nj_get_filter {lv : nLv} {k : Nat} {v : Value} {p : Nat × Value → Bool} (h : nj_get lv k = some v) (hp : p (k, v) = true) : nj_get (lv.filter p) k = some v := by
  induction lv with
  | nil => cases h
  | cons q lv ih =>
    by_cases hk : q.1 = k
    · have hv : q.2 = v := by
        simp only [nj_get, List.find?_cons, hk, beq_self_eq_true, Option.map_some] at h
        exact Option.some.inj h
      have hq : q = (k, v) := by rw [← hk, ← hv]
      rw [List.filter_cons, hq, if_pos hp]
      simp [nj_get]
    · have h2 : nj_get lv k = some v := by
        have hk2 : (q.1 == k) = false := by simpa using hk
        simp only [nj_get, List.find?_cons, hk2] at h
        exact h
      rw [List.filter_cons]
      split
      · have hk2 : (q.1 == k) = false := by simpa using hk
        simp only [nj_get, List.find?_cons, hk2]
        exact ih h2
      · exact ih h2
theorem aPut_ok {nu : List Int} {mu : List Nat} {al : List (Nat × aV)} {lv : nLv} (h : aLv nu mu al lv) {k : Nat} {x : aV} {v : Value} (hx : aR nu mu x v) : aLv nu mu (aPut al k x) (nj_put lv k v) := by
  intro e he
  rcases List.mem_cons.mp he with rfl | he
  · exact ⟨v, by simp [nj_put, nj_get], hx⟩
  · obtain ⟨h1, h2⟩ := List.mem_filter.mp he
    obtain ⟨w, g1, g2⟩ := h e h1
    simp only [Bool.and_eq_true, Bool.not_eq_true', beq_eq_false_iff_ne, ne_eq] at h2
    refine ⟨w, ?_, g2⟩
    have hne : (k == e.1) = false := by simpa using fun z => h2.1 z.symm
    have : nj_get (nj_put lv k v) e.1 = nj_get (lv.filter (fun q => !(q.1 == k) && !(q.1 + 1 == k && q.2.category == 2))) e.1 := by
      simp only [nj_put, nj_get, List.find?_cons, hne]
    rw [this]
    refine nj_get_filter g1 ?_
    simp only [Bool.and_eq_true, Bool.not_eq_true', beq_eq_false_iff_ne, ne_eq]
    refine ⟨h2.1, ?_⟩
    rw [aR_cat g2]
    exact h2.2
theorem aPut2_ok {nu : List Int} {mu : List Nat} {al : List (Nat × aV)} {lv : nLv} (h : aLv nu mu al lv) {k : Nat} {x : aV} {v : Value} (hx : aR nu mu x v) : aLv nu mu (aPut2 al k x) (nj_put2 lv k v) := by
  intro e he
  rcases List.mem_cons.mp he with rfl | he
  · exact ⟨v, by simp [nj_put2, nj_get], hx⟩
  · obtain ⟨h1, h2⟩ := List.mem_filter.mp he
    obtain ⟨w, g1, g2⟩ := h e h1
    simp only [Bool.and_eq_true, Bool.not_eq_true', beq_eq_false_iff_ne, ne_eq] at h2
    refine ⟨w, ?_, g2⟩
    have hne : (k == e.1) = false := by simpa using fun z => h2.1 z.symm
    have : nj_get (nj_put2 lv k v) e.1 = nj_get (lv.filter (fun q => !(q.1 == k) && (!(q.1 == k + 1) && !(q.1 + 1 == k && q.2.category == 2)))) e.1 := by
      simp only [nj_put2, nj_get, List.find?_cons, hne]
    rw [this]
    refine nj_get_filter g1 ?_
    simp only [Bool.and_eq_true, Bool.not_eq_true', beq_eq_false_iff_ne, ne_eq]
    refine ⟨h2.1, h2.2.1, ?_⟩
    rw [aR_cat g2]
    exact h2.2.2
def aAdd (a : aV) (n : Int) : aV := match a with
  | .inl c => .inl (c + n)
  | .inr (.inl (i, c)) => .inr (.inl (i, c + n))
  | x => x
theorem a32_add (a b : Int) : Int32.ofInt a + Int32.ofInt b = Int32.ofInt (a + b) := (Int32.ofInt_add a b).symm
theorem aAdd_ok {nu : List Int} {mu : List Nat} {a : aV} {x : Int32} (h : aR nu mu a (.int x)) (n : Int) : aR nu mu (aAdd a n) (.int (x + Int32.ofInt n)) := by
  unfold aR at h
  split at h
  · cases h
    show Value.int _ = .int _
    rw [a32_add]
  · obtain ⟨z, hz, e⟩ := h
    cases e
    refine ⟨z, hz, ?_⟩
    rw [a32_add, Int.add_assoc]
  · obtain ⟨z, -, e⟩ := h; cases e
  · cases h
  · obtain ⟨z, e⟩ := h; cases e
def aCl (r : Int × Int) : Int × Int := if aFit r = true then r else aFull
/-- the range of a result -/
def aRg (i : Instr) (ra rb : Int × Int) : Int × Int := match i with
  | .iadd => aCl (ra.1 + rb.1, ra.2 + rb.2)
  | .isub => aCl (ra.1 - rb.2, ra.2 - rb.1)
  | .imul => if ra.1 = ra.2 ∧ 0 ≤ ra.1 then aCl (ra.1 * rb.1, ra.1 * rb.2) else if rb.1 = rb.2 ∧ 0 ≤ rb.1 then aCl (rb.1 * ra.1, rb.1 * ra.2) else aFull
  | .iushr => if rb.1 = 8 ∧ rb.2 = 8 then (0, 16777215) else aFull
  | _ => aFull
def aOp (i : Instr) (x y : Int32) : Int32 := match i with
  | .iadd => x + y
  | .isub => x - y
  | .imul => x * y
  | .iand => x &&& y
  | .ior => x ||| y
  | .ixor => x ^^^ y
  | .ishl => x <<< (y &&& 31)
  | .ishr => x >>> (y &&& 31)
  | .iushr => (x.toUInt32 >>> (y.toUInt32 &&& Int32.toUInt32 31)).toInt32
  | _ => 0
theorem bm {z : Int} (h1 : -2147483648 ≤ z) (h2 : z ≤ 2147483647) : z.bmod (2 ^ 32) = z := by
  rw [Int.bmod_def]
  have : ((2 ^ 32 : Nat) : Int) = 4294967296 := rfl
  simp only [this]
  omega
theorem aCl_ok {r : Int × Int} {x : Int32} {z : Int} (hx : x.toInt = z.bmod (2 ^ 32)) (hz : r.1 ≤ z ∧ z ≤ r.2) : (aCl r).1 ≤ x.toInt ∧ x.toInt ≤ (aCl r).2 := by
  unfold aCl
  split
  · next hf =>
    simp only [aFit, Bool.and_eq_true, decide_eq_true_eq] at hf
    rw [hx, bm (by omega) (by omega)]
    exact hz
  · exact aFull_ok x
theorem aRg_ok (i : Instr) {ra rb : Int × Int} {x y : Int32} (hx : ra.1 ≤ x.toInt ∧ x.toInt ≤ ra.2) (hy : rb.1 ≤ y.toInt ∧ y.toInt ≤ rb.2) : (aRg i ra rb).1 ≤ (aOp i x y).toInt ∧ (aOp i x y).toInt ≤ (aRg i ra rb).2 := by
  unfold aRg
  split
  · exact aCl_ok (Int32.toInt_add x y) ⟨by show ra.1 + rb.1 ≤ _; omega, by show _ ≤ ra.2 + rb.2; omega⟩
  · exact aCl_ok (Int32.toInt_sub x y) ⟨by show ra.1 - rb.2 ≤ _; omega, by show _ ≤ ra.2 - rb.1; omega⟩
  · split
    · next hc =>
      have e : x.toInt = ra.1 := by omega
      refine aCl_ok (Int32.toInt_mul x y) ?_
      rw [e]
      exact ⟨Int.mul_le_mul_of_nonneg_left hy.1 hc.2, Int.mul_le_mul_of_nonneg_left hy.2 hc.2⟩
    · split
      · next hc =>
        have e : y.toInt = rb.1 := by omega
        refine aCl_ok (Int32.toInt_mul x y) ?_
        rw [e, Int.mul_comm x.toInt]
        exact ⟨Int.mul_le_mul_of_nonneg_left hx.1 hc.2, Int.mul_le_mul_of_nonneg_left hx.2 hc.2⟩
      · exact aFull_ok _
  · split
    · next hc =>
      have e : y = 8 := Int32.toInt_inj.mp (by show y.toInt = 8; omega)
      subst e
      have h1 := pk_ushr x 8 8 (by decide)
      have h2 : (aOp .iushr x 8).toInt = ((aOp .iushr x 8).toBitVec.toNat : Int) := by
        have h3 : (aOp .iushr x 8).toBitVec.toNat < 2 ^ 31 := by
          show ((x.toUInt32 >>> ((8 : Int32).toUInt32 &&& Int32.toUInt32 31)).toInt32).toBitVec.toNat < _
          rw [h1]
          have := x.toBitVec.isLt
          omega
        exact BitVec.toInt_eq_toNat_of_lt (by omega)
      rw [h2]
      have h4 : (aOp .iushr x 8).toBitVec.toNat = x.toBitVec.toNat / 2 ^ 8 := h1
      have := x.toBitVec.isLt
      rw [h4]
      show (0 : Int) ≤ _ ∧ _ ≤ (16777215 : Int)
      omega
    · exact aFull_ok _
  · exact aFull_ok _
