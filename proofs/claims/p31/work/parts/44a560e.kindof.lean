/-! loops of the class's text -/
theorem cmp_eq0 {x y : Int64} : lg_cmp x y = 0 ↔ x = y := by
  unfold lg_cmp
  constructor
  · intro h
    split at h
    · cases h
    · split at h
      · assumption
      · cases h
  · rintro rfl
    simp
theorem i32_succ (i : Nat) : Int32.ofNat i + Int32.ofInt 1 = Int32.ofNat (i + 1) := by
  rw [show Int32.ofInt 1 = Int32.ofNat 1 from rfl, ← Int32.ofNat_add]
def kf (ky : Nat → Int64) (w : Int64) : Nat → Nat → Int32
  | 0, _ => 2
  | k + 1, i => if ky i = w then 100 + Int32.ofNat i else kf ky w k (i + 1)
section TXE
variable {L : Nat} {xs : Nat → Int32} {d : Nat} {b kd pl : Nat → Int32} {vl ky : Nat → Int64} {len tok cur tak tl fk fp : Int32}
theorem i32_small {i : Nat} (h : i < 2147483648) : (Int32.ofNat i).toInt = (i : Int) := by
  rw [Int32.toInt_ofNat_of_lt (by omega)]
theorem ix_nat {i n : Nat} (h : i < n) (hn : n < 2147483648) : nj_ix (Int32.ofNat i) n = true ∧ (Int32.ofNat i).toNatClampNeg = i := by
  have e := i32_small (i := i) (by omega)
  have e2 : (Int32.ofNat i).toNatClampNeg = i := by show (Int32.ofNat i).toInt.toNat = i; rw [e]; rfl
  refine ⟨?_, e2⟩
  unfold nj_ix
  rw [Bool.and_eq_true, decide_eq_true_eq, decide_eq_true_eq, e2]
  refine ⟨?_, h⟩
  rw [Int32.lt_iff_toInt_lt, e]
  have : (0 : Int32).toInt = 0 := rfl
  omega
theorem kindOf_loop {w : Int64} {h0 : List nC} {R : Int32} : ∀ (k i : Nat), i + k = 22 → kf ky w k i = R → kT nj_M nX0 L xs d nm_30 (mQ (txP b kd pl vl ky len tok cur tak tl fk fp) (fun rv l => rv = some (.int R) ∧ l = txP b kd pl vl ky len tok cur tak tl fk fp) h0) (hk (txP b kd pl vl ky len tok cur tak tl fk fp)) h0 2 [(3, .int (Int32.ofNat i)), (0, .ref 1), (1, .long w)] [] (txP b kd pl vl ky len tok cur tak tl fk fp) := by
  intro k
  induction k with
  | zero =>
    intro i hi hR
    have : i = 22 := by omega
    subst this
    exact xw_go nostop 5 (fun K e => And.intro (fun _ => e _ _ _ _ (kT_end rfl rfl ⟨by rw [← hR]; rfl, rfl⟩)) (fun c => nomatch (show true = false from c)))
  | succ k ih =>
    intro i hi hR
    have hx := ix_nat (i := i) (n := 22) (by omega) (by decide)
    refine xw_go (fun pc => pc == 2) 14 (fun K e => And.intro (fun c => ?_) (fun _ => And.intro hx.1 (And.intro (fun c => e _ _ _ _ ?_) (fun c => e _ _ _ _ (kT_end rfl (ret_i _) ⟨?_, rfl⟩)))))
    · exfalso
      have c2 := Int32.le_iff_toInt_le.mp (of_decide_eq_true (show decide ((22 : Int32) ≤ Int32.ofNat i) = true from c))
      rw [i32_small (by omega)] at c2
      have : (22 : Int32).toInt = 22 := rfl
      omega
    · have c2 : ¬ ky i = w := fun z => by
        have c3 := of_decide_eq_true (show decide (¬ lg_cmp (ky (Int32.ofNat i).toNatClampNeg) w = 0) = true from c)
        rw [hx.2] at c3
        exact c3 (cmp_eq0.mpr z)
      have := ih (i + 1) (by omega) (by rw [← hR]; show _ = if ky i = w then _ else _; rw [if_neg c2])
      rw [← i32_succ] at this
      exact this
    · have c2 : ky i = w := by
        have c3 := of_decide_eq_false (show decide (¬ lg_cmp (ky (Int32.ofNat i).toNatClampNeg) w = 0) = false from c)
        rw [hx.2] at c3
        exact cmp_eq0.mp (Classical.not_not.mp c3)
      rw [← hR]
      show _ = some (Value.int (if ky i = w then _ else _))
      rw [if_pos c2]
      rfl
theorem s_kindOf (w : Int64) : mS nj_M nX0 L xs d 30 [.ref 1, .long w] (txP b kd pl vl ky len tok cur tak tl fk fp) (fun rv l => rv = some (.int (kf ky w 22 0)) ∧ l = txP b kd pl vl ky len tok cur tak tl fk fp) :=
  mS_of rfl (fun h0 => xw_go (fun pc => pc == 2) 5 (fun K e => e _ _ _ _ (kindOf_loop 22 0 rfl rfl)))
end TXE
