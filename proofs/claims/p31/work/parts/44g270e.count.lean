/-! count, on both sides -/
def cA (v len : Int32) (f : Nat → Int32) : Int32 := if v = 4 then len else if 0 ≤ v.toInt ∧ v.toInt ≤ 3 then f v.toNatClampNeg else Int32.ofInt (-1)
section CNT
variable {L : Nat} {xs : Nat → Int32} {d : Nat} {b kd pl : Nat → Int32} {vl ky : Nat → Int64} {len tok cur tak tl fk fp : Int32} {z y : Ho} {x : Lf} {u : Nat → Value} {lf p1 p2 p3 p4 : Int32}
variable {o : Nat → Value} {thr sz lim : Int32} {X : Lx} {flt fat got lns crs : Int32} {hh s : Nat → Int32} {nms rsv : Nat → Int64}
theorem ix_v {v : Int32} {n : Nat} (h0 : 0 ≤ v.toInt) (h1 : v.toInt < (n : Int)) : nj_ix v n = true := by
  unfold nj_ix
  rw [Bool.and_eq_true, decide_eq_true_eq, decide_eq_true_eq, Int32.lt_iff_toInt_lt]
  have e0 : (0 : Int32).toInt = 0 := rfl
  have : v.toNatClampNeg = v.toInt.toNat := rfl
  omega
theorem c_count (v : Int32) : mS nj_M nX0 L xs d 153 [.ref 0, .int v] (fmP u lf (txP b kd pl vl ky len tok cur tak tl fk fp) y z x p1 p2 p3 p4) (fun rv l => rv = some (.int (cA v len y.1)) ∧ l = fmP u lf (txP b kd pl vl ky len tok cur tak tl fk fp) y z x p1 p2 p3 p4) := by
  have e0 : (0 : Int32).toInt = 0 := rfl
  have e4 : (4 : Int32).toInt = 4 := rfl
  refine mS_of rfl (fun h0 => xw_go nostop 30 (fun K e => And.intro (fun c => And.intro (fun c2 => e _ _ _ _ (kT_end rfl rfl ⟨?_, rfl⟩)) (fun c2 => And.intro (fun c3 => And.intro ?_ (e _ _ _ _ (kT_end rfl (ret_i _) ⟨?_, rfl⟩))) (fun c3 => e _ _ _ _ (kT_end rfl rfl ⟨?_, rfl⟩)))) (fun c => e _ _ _ _ (kT_end rfl (ret_i _) ⟨?_, rfl⟩))))
  · have h4 := of_decide_eq_true (show decide (¬ v = 4) = true from c)
    have h2 := Int32.lt_iff_toInt_lt.mp (of_decide_eq_true (show decide (v < 0) = true from c2))
    unfold cA
    rw [if_neg h4, if_neg (by omega)]
  · have h4 : ¬ v.toInt = (4 : Int32).toInt := fun w => of_decide_eq_true (show decide (¬ v = 4) = true from c) (Int32.toInt_inj.mp w)
    have h2 : ¬ v.toInt < (0 : Int32).toInt := fun w => of_decide_eq_false (show decide (v < 0) = false from c2) (Int32.lt_iff_toInt_lt.mpr w)
    have h3 := Int32.le_iff_toInt_le.mp (of_decide_eq_true (show decide (v ≤ 4) = true from c3))
    exact ix_v (by omega) (by omega)
  · have h4 := of_decide_eq_true (show decide (¬ v = 4) = true from c)
    have h4' : ¬ v.toInt = (4 : Int32).toInt := fun w => h4 (Int32.toInt_inj.mp w)
    have h2 : ¬ v.toInt < (0 : Int32).toInt := fun w => of_decide_eq_false (show decide (v < 0) = false from c2) (Int32.lt_iff_toInt_lt.mpr w)
    have h3 := Int32.le_iff_toInt_le.mp (of_decide_eq_true (show decide (v ≤ 4) = true from c3))
    unfold cA
    rw [if_neg h4, if_pos (by omega)]
  · have h4 := of_decide_eq_true (show decide (¬ v = 4) = true from c)
    have h3 : ¬ v.toInt ≤ (4 : Int32).toInt := fun w => of_decide_eq_false (show decide (v ≤ 4) = false from c3) (Int32.le_iff_toInt_le.mpr w)
    unfold cA
    rw [if_neg h4, if_neg (by omega)]
  · have h4 := Classical.not_not.mp (of_decide_eq_false (show decide (¬ v = 4) = false from c))
    unfold cA
    rw [if_pos h4]
theorem q_count (v : Int32) : mS nj_M nX0 L xs (d + 1) 264 [.ref 175, .int v] (rfS o thr len sz lim X flt fat got lns crs b hh nms rsv s) (fun rv l => rv = some (.int (cA v len s)) ∧ l = rfS o 0 len sz lim X flt fat got lns crs b hh nms rsv s) := by
  have e0 : (0 : Int32).toInt = 0 := rfl
  have e3 : (3 : Int32).toInt = 3 := rfl
  refine mS_of rfl (fun h0 => xw_go nostop 30 (fun K e => And.intro rfl (And.intro (fun c => e _ _ _ _ (kT_call rfl rfl rfl rfl (q_isIn _ _ _) trivial rfl rfl (fun rv l1 hP _ => ?_))) (fun c => e _ _ _ _ (kT_end rfl (ret_i _) ⟨?_, rfl⟩)))))
  · obtain ⟨rfl, rfl⟩ := hP
    have h4 := of_decide_eq_true (show decide (¬ v = 4) = true from c)
    by_cases hr : 0 ≤ v.toInt ∧ v.toInt ≤ 3
    · rw [show (!nj_cmp .lt v (Int32.ofInt 0) && !nj_cmp .gt v (Int32.ofInt 3)) = true from by
        rw [show nj_cmp .lt v (Int32.ofInt 0) = false from decide_eq_false (fun (w : v < 0) => by have := Int32.lt_iff_toInt_lt.mp w; omega), show nj_cmp .gt v (Int32.ofInt 3) = false from decide_eq_false (fun (w : (3 : Int32) < v) => by have := Int32.lt_iff_toInt_lt.mp w; omega)]
        rfl]
      refine xw_go nostop 20 (fun K e => And.intro (fun c2 => nomatch (show false = true from c2)) (fun _ => And.intro (ix_v (by omega) (by omega)) (e _ _ _ _ (kT_end rfl (ret_i _) ⟨?_, rfl⟩))))
      unfold cA
      rw [if_neg h4, if_pos hr]
    · rw [show (!nj_cmp .lt v (Int32.ofInt 0) && !nj_cmp .gt v (Int32.ofInt 3)) = false from by
        rcases (by omega : v.toInt < 0 ∨ 3 < v.toInt) with w | w
        · rw [show nj_cmp .lt v (Int32.ofInt 0) = true from decide_eq_true (show v < 0 from Int32.lt_iff_toInt_lt.mpr (by omega))]; rfl
        · rw [show nj_cmp .gt v (Int32.ofInt 3) = true from decide_eq_true (show (3 : Int32) < v from Int32.lt_iff_toInt_lt.mpr (by omega)), Bool.not_true, Bool.and_false]]
      refine xw_go nostop 20 (fun K e => And.intro (fun _ => e _ _ _ _ (kT_end rfl rfl ⟨?_, rfl⟩)) (fun c2 => nomatch (show true = false from c2)))
      unfold cA
      rw [if_neg h4, if_neg hr]
  · have h4 := Classical.not_not.mp (of_decide_eq_false (show decide (¬ v = 4) = false from c))
    unfold cA
    rw [if_pos h4]
end CNT
