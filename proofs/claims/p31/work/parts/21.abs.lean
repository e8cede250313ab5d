/-! values by what is known of them: a number; a named number and an offset; a named cell; a row outside; a long -/
abbrev aV : Type := Int ⊕ ((Nat × Int) ⊕ (Nat ⊕ (Nat ⊕ Unit)))
abbrev aRho : Type := List (Int × Int)
def aR (nu : List Int) (mu : List Nat) (a : aV) (v : Value) : Prop := match a with
  | .inl c => v = .int (Int32.ofInt c)
  | .inr (.inl (i, c)) => ∃ z, nu[i]? = some z ∧ v = .int (Int32.ofInt (z + c))
  | .inr (.inr (.inl j)) => ∃ q, mu[j]? = some q ∧ v = .ref q
  | .inr (.inr (.inr (.inl k))) => v = .retAddr k
  | .inr (.inr (.inr (.inr _))) => ∃ x, v = .long x
/-- the named numbers lie in their ranges -/
def aE (rho : aRho) (nu : List Int) : Prop := rho.length = nu.length ∧ ∀ (i : Nat) (z : Int) (r : Int × Int), nu[i]? = some z → rho[i]? = some r → r.1 ≤ z ∧ z ≤ r.2
def aFull : Int × Int := (-2147483648, 2147483647)
def aFit (r : Int × Int) : Bool := decide (-2147483648 ≤ r.1) && decide (r.2 ≤ 2147483647)
/-- the range of a whole number -/
def aIv (rho : aRho) (a : aV) : Int × Int := match a with
  | .inl c => if aFit (c, c) = true then (c, c) else aFull
  | .inr (.inl (i, c)) => match rho[i]? with
    | some r => if aFit (r.1 + c, r.2 + c) = true then (r.1 + c, r.2 + c) else aFull
    | none => aFull
  | _ => aFull
def aIsI (a : aV) : Bool := match a with
  | .inl _ => true
  | .inr (.inl _) => true
  | _ => false
def aCat (a : aV) : Nat := match a with
  | .inr (.inr (.inr (.inr _))) => 2
  | _ => 1
theorem aR_cat {nu : List Int} {mu : List Nat} {a : aV} {v : Value} (h : aR nu mu a v) : v.category = aCat a := by
  unfold aR at h
  split at h
  · subst h; rfl
  · obtain ⟨z, -, rfl⟩ := h; rfl
  · obtain ⟨z, -, rfl⟩ := h; rfl
  · subst h; rfl
  · obtain ⟨z, rfl⟩ := h; rfl
theorem a32 {z : Int} (h1 : -2147483648 ≤ z) (h2 : z ≤ 2147483647) : (Int32.ofInt z).toInt = z := Int32.toInt_ofInt_of_le (by omega) (by omega)
theorem aFull_ok (x : Int32) : aFull.1 ≤ x.toInt ∧ x.toInt ≤ aFull.2 := by
  have h1 := Int32.le_toInt x
  have h2 := Int32.toInt_lt x
  simp only [aFull]
  omega
theorem aIv_ok {rho : aRho} {nu : List Int} {mu : List Nat} {a : aV} {v : Value} (hE : aE rho nu) (hi : aIsI a = true) (h : aR nu mu a v) : ∃ x : Int32, v = .int x ∧ (aIv rho a).1 ≤ x.toInt ∧ x.toInt ≤ (aIv rho a).2 := by
  unfold aIsI at hi
  split at hi
  · next c =>
    refine ⟨_, h, ?_⟩
    simp only [aIv]
    split
    · next hf =>
      simp only [aFit, Bool.and_eq_true, decide_eq_true_eq] at hf
      rw [a32 hf.1 hf.2]
      exact ⟨Int.le_refl _, Int.le_refl _⟩
    · exact aFull_ok _
  · next p =>
    obtain ⟨i, c⟩ := p
    obtain ⟨z, hz, rfl⟩ := h
    refine ⟨_, rfl, ?_⟩
    simp only [aIv]
    split
    · next r hr =>
      have hb := hE.2 i z r hz hr
      split
      · next hf =>
        simp only [aFit, Bool.and_eq_true, decide_eq_true_eq] at hf
        rw [a32 (by omega) (by omega)]
        omega
      · exact aFull_ok _
    · exact aFull_ok _
  · cases hi
/-- a new named number -/
theorem aE_push {rho : aRho} {nu : List Int} (hE : aE rho nu) {z : Int} {r : Int × Int} (hz : r.1 ≤ z ∧ z ≤ r.2) : aE (rho ++ [r]) (nu ++ [z]) := by
  refine ⟨by simp [hE.1], fun i y q hy hq => ?_⟩
  by_cases hi : i < nu.length
  · rw [List.getElem?_append_left hi] at hy
    rw [List.getElem?_append_left (by rw [hE.1]; exact hi)] at hq
    exact hE.2 i y q hy hq
  · have hl := hE.1
    rw [List.getElem?_append_right (by omega)] at hy hq
    have hz1 : i - nu.length < 1 := (List.getElem?_eq_some_iff.mp hy).1
    have e0 : i - nu.length = 0 := by omega
    have e1 : i - rho.length = 0 := by omega
    rw [e0] at hy
    rw [e1] at hq
    cases hy
    cases hq
    exact hz
theorem aR_push {nu : List Int} {mu : List Nat} {a : aV} {v : Value} (z : Int) (h : aR nu mu a v) : aR (nu ++ [z]) mu a v := by
  unfold aR at h ⊢
  split at h
  · exact h
  · obtain ⟨y, h1, h2⟩ := h
    exact ⟨y, by rw [List.getElem?_append_left (List.getElem?_eq_some_iff.mp h1).1]; exact h1, h2⟩
  · exact h
  · exact h
  · exact h
theorem aR_pushr {nu : List Int} {mu : List Nat} {a : aV} {v : Value} (q : Nat) (h : aR nu mu a v) : aR nu (mu ++ [q]) a v := by
  unfold aR at h ⊢
  split at h
  · exact h
  · exact h
  · obtain ⟨y, h1, h2⟩ := h
    exact ⟨y, by rw [List.getElem?_append_left (List.getElem?_eq_some_iff.mp h1).1]; exact h1, h2⟩
  · exact h
  · exact h
/-- what a comparison tells -/
def aLe (rho : aRho) (a : aV) (B : Int) : Option aRho := match a with
  | .inl c => if aFit (c, c) = true then (if c ≤ B then some rho else none) else some rho
  | .inr (.inl (i, c)) => match rho[i]? with
    | some r => if aFit (r.1 + c, r.2 + c) = true then (if r.1 ≤ B - c then some (rho.set i (r.1, min r.2 (B - c))) else none) else some rho
    | none => some rho
  | _ => some rho
def aGe (rho : aRho) (a : aV) (B : Int) : Option aRho := match a with
  | .inl c => if aFit (c, c) = true then (if B ≤ c then some rho else none) else some rho
  | .inr (.inl (i, c)) => match rho[i]? with
    | some r => if aFit (r.1 + c, r.2 + c) = true then (if B - c ≤ r.2 then some (rho.set i (max r.1 (B - c), r.2)) else none) else some rho
    | none => some rho
  | _ => some rho
theorem aE_set {rho : aRho} {nu : List Int} (hE : aE rho nu) {i : Nat} {z : Int} {r : Int × Int} (hz : nu[i]? = some z) (hr : r.1 ≤ z ∧ z ≤ r.2) : aE (rho.set i r) nu := by
  refine ⟨by simp [hE.1], fun j y q hy hq => ?_⟩
  by_cases hij : i = j
  · subst hij
    have hl : i < rho.length := by rw [hE.1]; exact (List.getElem?_eq_some_iff.mp hz).1
    rw [List.getElem?_set_self hl] at hq
    cases hq
    cases hz.symm.trans hy
    exact hr
  · rw [List.getElem?_set_ne hij] at hq
    exact hE.2 j y q hy hq
theorem aLe_ok {rho : aRho} {nu : List Int} {mu : List Nat} {a : aV} {x : Int32} {B : Int} (hE : aE rho nu) (h : aR nu mu a (.int x)) (hB : x.toInt ≤ B) : ∃ rho1, aLe rho a B = some rho1 ∧ aE rho1 nu := by
  unfold aLe
  split
  · next c =>
    split
    · next hf =>
      simp only [aFit, Bool.and_eq_true, decide_eq_true_eq] at hf
      have hx : x = Int32.ofInt c := by cases h; rfl
      rw [hx, a32 hf.1 hf.2] at hB
      rw [if_pos hB]
      exact ⟨rho, rfl, hE⟩
    · exact ⟨rho, rfl, hE⟩
  · next i c =>
    split
    · next r hr =>
      split
      · next hf =>
        obtain ⟨z, hz, hx⟩ := h
        have hb := hE.2 i z r hz hr
        simp only [aFit, Bool.and_eq_true, decide_eq_true_eq] at hf
        have hx : x = Int32.ofInt (z + c) := by cases hx; rfl
        rw [hx, a32 (by omega) (by omega)] at hB
        rw [if_pos (by omega)]
        exact ⟨_, rfl, aE_set hE hz ⟨hb.1, by simp only [Int.min_def]; split <;> omega⟩⟩
      · exact ⟨rho, rfl, hE⟩
    · exact ⟨rho, rfl, hE⟩
  · exact ⟨rho, rfl, hE⟩
theorem aGe_ok {rho : aRho} {nu : List Int} {mu : List Nat} {a : aV} {x : Int32} {B : Int} (hE : aE rho nu) (h : aR nu mu a (.int x)) (hB : B ≤ x.toInt) : ∃ rho1, aGe rho a B = some rho1 ∧ aE rho1 nu := by
  unfold aGe
  split
  · next c =>
    split
    · next hf =>
      simp only [aFit, Bool.and_eq_true, decide_eq_true_eq] at hf
      have hx : x = Int32.ofInt c := by cases h; rfl
      rw [hx, a32 hf.1 hf.2] at hB
      rw [if_pos hB]
      exact ⟨rho, rfl, hE⟩
    · exact ⟨rho, rfl, hE⟩
  · next i c =>
    split
    · next r hr =>
      split
      · next hf =>
        obtain ⟨z, hz, hx⟩ := h
        have hb := hE.2 i z r hz hr
        simp only [aFit, Bool.and_eq_true, decide_eq_true_eq] at hf
        have hx : x = Int32.ofInt (z + c) := by cases hx; rfl
        rw [hx, a32 (by omega) (by omega)] at hB
        rw [if_pos (by omega)]
        exact ⟨_, rfl, aE_set hE hz ⟨by simp only [Int.max_def]; split <;> omega, hb.2⟩⟩
      · exact ⟨rho, rfl, hE⟩
    · exact ⟨rho, rfl, hE⟩
  · exact ⟨rho, rfl, hE⟩
def aNe (rho : aRho) (a : aV) (ra rb : Int × Int) : Option aRho := if rb.1 = rb.2 then (if ra.1 = rb.1 then aGe rho a (rb.1 + 1) else if ra.2 = rb.1 then aLe rho a (rb.1 - 1) else some rho) else some rho
theorem aNe_ok {rho : aRho} {nu : List Int} {mu : List Nat} {a : aV} {x y : Int32} {ra rb : Int × Int} (hE : aE rho nu) (h : aR nu mu a (.int x)) (hx : ra.1 ≤ x.toInt ∧ x.toInt ≤ ra.2) (hy : rb.1 ≤ y.toInt ∧ y.toInt ≤ rb.2) (hne : ¬ x = y) : ∃ rho1, aNe rho a ra rb = some rho1 ∧ aE rho1 nu := by
  have hne2 : ¬ x.toInt = y.toInt := fun q => hne (Int32.toInt_inj.mp q)
  unfold aNe
  split
  · next hs =>
    split
    · exact aGe_ok hE h (by omega)
    · split
      · exact aLe_ok hE h (by omega)
      · exact ⟨rho, rfl, hE⟩
  · exact ⟨rho, rfl, hE⟩
def aAnd2 (rho : aRho) (a b : aV) (f : aRho → aV → Option aRho) (g : aRho → aV → Option aRho) : Option aRho := match f rho a with
  | some r1 => g r1 b
  | none => none
/-- the ranges where the comparison holds (none: it can't) -/
def aAsm (rho : aRho) (c : Jvm.ClassFile.Cond) (a b : aV) : Option aRho := let ra := aIv rho a; let rb := aIv rho b; match c with
  | .eq => aAnd2 rho a a (fun r x => aLe r x rb.2) (fun r x => aAnd2 r x b (fun r x => aGe r x rb.1) (fun r y => aAnd2 r y y (fun r y => aLe r y ra.2) (fun r y => aGe r y ra.1)))
  | .ne => aAnd2 rho a b (fun r x => aNe r x ra rb) (fun r y => aNe r y rb ra)
  | .lt => aAnd2 rho a b (fun r x => aLe r x (rb.2 - 1)) (fun r y => aGe r y (ra.1 + 1))
  | .ge => aAnd2 rho a b (fun r x => aGe r x rb.1) (fun r y => aLe r y ra.2)
  | .gt => aAnd2 rho a b (fun r x => aGe r x (rb.1 + 1)) (fun r y => aLe r y (ra.2 - 1))
  | .le => aAnd2 rho a b (fun r x => aLe r x rb.2) (fun r y => aGe r y ra.1)
theorem aAsm_ok {rho : aRho} {nu : List Int} {mu : List Nat} {a b : aV} {x y : Int32} {c : Jvm.ClassFile.Cond} (hE : aE rho nu) (ha : aR nu mu a (.int x)) (hb : aR nu mu b (.int y)) (hia : aIsI a = true) (hib : aIsI b = true) (hc : nj_cmp c x y = true) : ∃ rho1, aAsm rho c a b = some rho1 ∧ aE rho1 nu := by
  obtain ⟨x', hx', hx1, hx2⟩ := aIv_ok hE hia ha
  cases hx'
  obtain ⟨y', hy', hy1, hy2⟩ := aIv_ok hE hib hb
  cases hy'
  unfold aAsm
  cases c <;> simp only [nj_cmp, decide_eq_true_eq] at hc
  · subst hc
    obtain ⟨r1, e1, E1⟩ := aLe_ok (B := (aIv rho b).2) hE ha hy2
    obtain ⟨r2, e2, E2⟩ := aGe_ok (B := (aIv rho b).1) E1 ha hy1
    obtain ⟨r3, e3, E3⟩ := aLe_ok (B := (aIv rho a).2) E2 hb hx2
    obtain ⟨r4, e4, E4⟩ := aGe_ok (B := (aIv rho a).1) E3 hb hx1
    refine ⟨r4, ?_, E4⟩
    simp only [aAnd2, e1, e2, e3, e4]
  · obtain ⟨r1, e1, E1⟩ := aNe_ok hE ha ⟨hx1, hx2⟩ ⟨hy1, hy2⟩ hc
    obtain ⟨r2, e2, E2⟩ := aNe_ok E1 hb ⟨hy1, hy2⟩ ⟨hx1, hx2⟩ (fun q => hc q.symm)
    exact ⟨r2, by simp only [aAnd2, e1, e2], E2⟩
  · rw [Int32.lt_iff_toInt_lt] at hc
    obtain ⟨r1, e1, E1⟩ := aLe_ok (B := (aIv rho b).2 - 1) hE ha (by omega)
    obtain ⟨r2, e2, E2⟩ := aGe_ok (B := (aIv rho a).1 + 1) E1 hb (by omega)
    exact ⟨r2, by simp only [aAnd2, e1, e2], E2⟩
  · rw [Int32.le_iff_toInt_le] at hc
    obtain ⟨r1, e1, E1⟩ := aGe_ok (B := (aIv rho b).1) hE ha (by omega)
    obtain ⟨r2, e2, E2⟩ := aLe_ok (B := (aIv rho a).2) E1 hb (by omega)
    exact ⟨r2, by simp only [aAnd2, e1, e2], E2⟩
  · rw [Int32.lt_iff_toInt_lt] at hc
    obtain ⟨r1, e1, E1⟩ := aGe_ok (B := (aIv rho b).1 + 1) hE ha (by omega)
    obtain ⟨r2, e2, E2⟩ := aLe_ok (B := (aIv rho a).2 - 1) E1 hb (by omega)
    exact ⟨r2, by simp only [aAnd2, e1, e2], E2⟩
  · rw [Int32.le_iff_toInt_le] at hc
    obtain ⟨r1, e1, E1⟩ := aLe_ok (B := (aIv rho b).2) hE ha (by omega)
    obtain ⟨r2, e2, E2⟩ := aGe_ok (B := (aIv rho a).1) E1 hb (by omega)
    exact ⟨r2, by simp only [aAnd2, e1, e2], E2⟩
def aNeg (c : Jvm.ClassFile.Cond) : Jvm.ClassFile.Cond := match c with
  | .eq => .ne
  | .ne => .eq
  | .lt => .ge
  | .ge => .lt
  | .gt => .le
  | .le => .gt
theorem aNeg_ok {c : Jvm.ClassFile.Cond} {x y : Int32} (h : nj_cmp c x y = false) : nj_cmp (aNeg c) x y = true := by
  cases c <;> simp only [nj_cmp, aNeg, decide_eq_true_eq, decide_eq_false_iff_not, Int32.not_lt, Int32.not_le, Decidable.not_not] at h ⊢ <;> exact h
