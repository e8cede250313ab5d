/-! deed, on both sides -/
def dS (H : Hs) (v w : Int32) : Int32 := if inN v H.1.2.2.2.length then (if w = Int32.ofInt (-1) then Int32.ofNat (H.2.2.2.getD v.toInt.toNat []).length else if inN w (H.2.2.2.getD v.toInt.toNat []).length then Int32.ofNat ((H.2.2.2.getD v.toInt.toNat []).getD w.toInt.toNat 0) else Int32.ofInt (-1)) else Int32.ofInt (-1)
section DEED
variable {L : Nat} {xs : Nat → Int32} {d : Nat} {H : Hs} {y : Ho} {u : Nat → Value} {o : Nat → Value} {thr len sz lim : Int32} {X : Lx} {flt fat got lns crs : Int32} {b hh s : Nat → Int32} {nms rsv : Nat → Int64} {v w : Int32}
theorem cl_n {v : Int32} : v.toNatClampNeg = v.toInt.toNat := rfl
theorem ix12 {n m k : Nat} (hv : inN v n) (hw : inN w m) (hn : n ≤ 4) (hm : m ≤ 12) {q : Nat} (hq : k + 48 ≤ q) (hq2 : q < 2147483648) {x : Int32} (hx : x.toInt = (k : Int) + 12 * v.toInt + w.toInt) : nj_ix x q = true ∧ x.toNatClampNeg = k + 12 * v.toInt.toNat + w.toInt.toNat := by
  have h1 := hv.1
  have h2 := hv.2
  have h3 := hw.1
  have h4 := hw.2
  refine ⟨ix_v (by omega) (by omega), ?_⟩
  rw [cl_n]
  omega
theorem mul12 {n m k : Nat} (hv : inN v n) (hw : inN w m) (hn : n ≤ 4) (hm : m ≤ 12) (hk : k < 1000) : (v * Int32.ofInt 12 + w).toInt = 12 * v.toInt + w.toInt ∧ (Int32.ofInt k + Int32.ofInt 12 * v + w).toInt = (k : Int) + 12 * v.toInt + w.toInt ∧ (Int32.ofInt k + v).toInt = (k : Int) + v.toInt := by
  have h1 := hv.1
  have h2 := hv.2
  have h3 := hw.1
  have h4 := hw.2
  have e1 : v * Int32.ofInt 12 + w = Int32.ofInt (v.toInt * 12 + w.toInt) := by rw [Int32.ofInt_add, Int32.ofInt_mul, Int32.ofInt_toInt, Int32.ofInt_toInt]
  have e2 : Int32.ofInt k + Int32.ofInt 12 * v + w = Int32.ofInt ((k : Int) + 12 * v.toInt + w.toInt) := by rw [Int32.ofInt_add, Int32.ofInt_add, Int32.ofInt_mul, Int32.ofInt_toInt, Int32.ofInt_toInt]
  have e3 : Int32.ofInt k + v = Int32.ofInt ((k : Int) + v.toInt) := by rw [Int32.ofInt_add, Int32.ofInt_toInt]
  refine ⟨?_, ?_, ?_⟩
  · rw [e1, a32 (by omega) (by omega)]
    omega
  · rw [e2, a32 (by omega) (by omega)]
  · rw [e3, a32 (by omega) (by omega)]
theorem c_stepOf (hH : hW H y) (hv : inN v H.1.2.2.2.length) : mS nj_M nX0 L xs d 57 [.ref 7, .int v, .int w] (hoQ y) (fun rv l => rv = some (.int (if inN w (H.2.2.2.getD v.toInt.toNat []).length then Int32.ofNat ((H.2.2.2.getD v.toInt.toNat []).getD w.toInt.toNat 0) else Int32.ofInt (-1))) ∧ l = hoQ y) := by
  obtain ⟨n1, -, -, -, b7⟩ := hH
  obtain ⟨-, -, -, l4, -, -⟩ := id n1
  have h1 := hv.1
  have h2 := hv.2
  obtain ⟨g1, g2, g3⟩ := b7 v.toInt.toNat (by omega)
  have e0 : (0 : Int32).toInt = 0 := rfl
  have en : (Int32.ofNat (H.2.2.2.getD v.toInt.toNat []).length).toInt = ((H.2.2.2.getD v.toInt.toNat []).length : Nat) := i32_small (by omega)
  refine mS_of rfl (fun h0 => xw_go nostop 30 (fun K e => And.intro (fun c => e _ _ _ _ (kT_end rfl rfl ⟨?_, rfl⟩)) (fun c => And.intro (ix_v (by omega) (by omega)) (And.intro (fun c2 => And.intro ?_ (e _ _ _ _ (kT_end rfl (ret_i _) ⟨?_, rfl⟩))) (fun c2 => e _ _ _ _ (kT_end rfl rfl ⟨?_, rfl⟩))))))
  · have h3 := Int32.lt_iff_toInt_lt.mp (of_decide_eq_true (show decide (w < 0) = true from c))
    rw [if_neg (fun q => by have := q.1; omega)]
  · have c3 : w < y.2.2.2.2.2.2.2.2.2.2.2.2.1 v.toInt.toNat := of_decide_eq_true c2
    rw [g2] at c3
    have h3 := Int32.lt_iff_toInt_lt.mp c3
    have h4 : ¬ w.toInt < (0 : Int32).toInt := fun w2 => of_decide_eq_false (show decide (w < 0) = false from c) (Int32.lt_iff_toInt_lt.mpr w2)
    have hw : inN w (H.2.2.2.getD v.toInt.toNat []).length := ⟨by omega, by omega⟩
    exact (ix12 (k := 0) hv hw l4 g1 (q := 48) (by decide) (by decide) (x := v * Int32.ofInt 12 + w) ((mul12 (k := 0) hv hw l4 g1 (by decide)).1.trans (by omega))).1
  · have c3 : w < y.2.2.2.2.2.2.2.2.2.2.2.2.1 v.toInt.toNat := of_decide_eq_true c2
    rw [g2] at c3
    have h3 := Int32.lt_iff_toInt_lt.mp c3
    have h4 : ¬ w.toInt < (0 : Int32).toInt := fun w2 => of_decide_eq_false (show decide (w < 0) = false from c) (Int32.lt_iff_toInt_lt.mpr w2)
    have hw : inN w (H.2.2.2.getD v.toInt.toNat []).length := ⟨by omega, by omega⟩
    have hx := (ix12 (k := 0) hv hw l4 g1 (q := 48) (by decide) (by decide) (x := v * Int32.ofInt 12 + w) ((mul12 (k := 0) hv hw l4 g1 (by decide)).1.trans (by omega))).2
    rw [if_pos hw]
    show some (Value.int (y.2.2.2.2.2.2.2.2.2.2.2.2.2.1 (v * Int32.ofInt 12 + w).toNatClampNeg)) = _
    rw [hx, Nat.zero_add, g3 _ (by have := hw.1; have := hw.2; omega)]
  · have h3 : ¬ w.toInt < (y.2.2.2.2.2.2.2.2.2.2.2.2.1 v.toInt.toNat).toInt := fun w2 => of_decide_eq_false (show decide (w < y.2.2.2.2.2.2.2.2.2.2.2.2.1 v.toInt.toNat) = false from c2) (Int32.lt_iff_toInt_lt.mpr w2)
    rw [g2, en] at h3
    rw [if_neg (fun q => h3 q.2)]
theorem c_deed (hH : hW H y) (v w : Int32) : mS nj_M nX0 L xs (d + 1) 56 [.ref 0, .int v, .int w] (slI u ++ hoQ y) (fun rv l => rv = some (.int (dS H v w)) ∧ l = slI u ++ hoQ y) := by
  obtain ⟨n1, ⟨-, -, -, c3⟩, -, -, b7⟩ := id hH
  obtain ⟨-, -, -, l4, -, -⟩ := id n1
  refine mS_of rfl (fun h0 => ?_)
  refine xw_go nostop 20 (fun K e => e _ _ _ _ (kT_call rfl rfl rfl rfl (c_has3 (y := y) (v := v) (n := H.1.2.2.2.length) (by omega) c3) ⟨rfl, rfl, rfl, rfl, rfl, rfl, rfl, rfl, rfl, rfl, rfl, rfl, rfl, rfl, rfl, trivial⟩ rfl rfl (fun rv l1 hP _ => ?_)))
  obtain ⟨rfl, rfl⟩ := hP
  refine kT_pic (l2 := slI u ++ hoQ y) rfl ?_
  by_cases hv : inN v H.1.2.2.2.length
  · rw [decide_eq_true hv]
    have h1 := hv.1
    have h2 := hv.2
    obtain ⟨g1, g2, g3⟩ := b7 v.toInt.toNat (by omega)
    refine xw_go nostop 30 (fun K e => And.intro (fun _ => And.intro (fun c2 => e _ _ _ _ (kT_call rfl rfl rfl rfl (c_stepOf (y := y) (v := v) (w := w) hH hv) ⟨rfl, rfl, rfl, rfl, rfl, rfl, rfl, rfl, rfl, rfl, rfl, rfl, rfl, rfl, rfl, trivial⟩ rfl rfl (fun rv l1 hP _ => ?_))) (fun c2 => And.intro (ix_v (by omega) (by omega)) (e _ _ _ _ (kT_end rfl (ret_i _) ⟨?_, rfl⟩)))) (fun c => nomatch (show true = false from c)))
    · obtain ⟨rfl, rfl⟩ := hP
      refine kT_pic (l2 := slI u ++ hoQ y) rfl ?_
      refine xw_go nostop 20 (fun K e => e _ _ _ _ (kT_end rfl (ret_i _) ⟨?_, rfl⟩))
      have hw := of_decide_eq_true (show decide (¬ w = Int32.ofInt (-1)) = true from c2)
      unfold dS
      rw [if_pos hv, if_neg hw]
    · have hw := Classical.not_not.mp (of_decide_eq_false (show decide (¬ w = Int32.ofInt (-1)) = false from c2))
      unfold dS
      rw [if_pos hv, if_pos hw, ← g2]
      rfl
  · rw [decide_eq_false hv]
    refine xw_go nostop 20 (fun K e => And.intro (fun c => nomatch (show false = true from c)) (fun _ => e _ _ _ _ (kT_end rfl rfl ⟨?_, rfl⟩)))
    unfold dS
    rw [if_neg hv]
theorem q_deed (hn1 : nmOk H.1) (hH : rW H s) (v w : Int32) : mS nj_M nX0 L xs (d + 2) 194 [.ref 175, .int v, .int w] (rfS o thr len sz lim X flt fat got lns crs b hh nms rsv s) (fun rv l => rv = some (.int (dS H v w)) ∧ l = (rfS o 0 len sz lim X flt fat got lns crs b hh nms rsv s)) := by
  obtain ⟨⟨-, -, -, c3⟩, -, -, b7⟩ := id hH
  obtain ⟨-, -, -, l4, -, -⟩ := id hn1
  refine mS_of rfl (fun h0 => ?_)
  refine xw_go nostop 20 (fun K e => And.intro rfl (e _ _ _ _ (kT_call rfl rfl rfl rfl (q_isDeed (o := o) (thr := 0) (len := len) (sz := sz) (lim := lim) (X := X) (flt := flt) (fat := fat) (got := got) (lns := lns) (crs := crs) (b := b) (hh := hh) (nms := nms) (rsv := rsv) (s := s) (v := v) (n := H.1.2.2.2.length) (by omega) c3) ⟨rfl, rfl, rfl, rfl, rfl, rfl, trivial⟩ rfl rfl (fun rv l1 hP _ => ?_))))
  obtain ⟨rfl, rfl⟩ := hP
  refine kT_pic (l2 := (rfS o 0 len sz lim X flt fat got lns crs b hh nms rsv s)) rfl ?_
  by_cases hv : inN v H.1.2.2.2.length
  · rw [decide_eq_true hv]
    have h1 := hv.1
    have h2 := hv.2
    obtain ⟨g1, g2, g3⟩ := b7 v.toInt.toNat (by omega)
    have e80 : (Int32.ofInt 80 + v).toInt = 80 + v.toInt := (mul12 (k := 80) (w := 0) (m := 1) hv ⟨by decide, by decide⟩ l4 (by decide) (by decide)).2.2
    have i80 : nj_ix (Int32.ofInt 80 + v) 360 = true := ix_v (by omega) (by omega)
    have n80 : (Int32.ofInt 80 + v).toNatClampNeg = 80 + v.toInt.toNat := by rw [cl_n]; omega
    have ei : (!nj_cmp .lt w (Int32.ofInt 0) && !nj_cmp .gt w (s (Int32.ofInt 80 + v).toNatClampNeg - Int32.ofInt 1)) = decide (inN w (H.2.2.2.getD v.toInt.toNat []).length) := by
      rw [n80, g2]
      exact isIn_n (by omega)
    have hk1 := q_isIn (L := L) (xs := xs) (d := d + 1) w (Int32.ofInt 0) (s (Int32.ofInt 80 + v).toNatClampNeg - Int32.ofInt 1)
    rw [ei] at hk1
    refine xw_go nostop 30 (fun K e => And.intro (fun _ => And.intro (fun c2 => And.intro i80 (e _ _ _ _ (kT_call rfl rfl rfl rfl hk1 trivial rfl rfl (fun rv l1 hP _ => ?_)))) (fun c2 => And.intro i80 (e _ _ _ _ (kT_end rfl (ret_i _) ⟨?_, rfl⟩)))) (fun c => nomatch (show true = false from c)))
    · obtain ⟨rfl, rfl⟩ := hP
      have hw := of_decide_eq_true (show decide (¬ w = Int32.ofInt (-1)) = true from c2)
      by_cases hw2 : inN w (H.2.2.2.getD v.toInt.toNat []).length
      · have hx := ix12 (k := 84) hv hw2 l4 g1 (q := 360) (by decide) (by decide) (mul12 (k := 84) hv hw2 l4 g1 (by decide)).2.1
        rw [decide_eq_true hw2]
        refine xw_go nostop 30 (fun K e => And.intro (fun c => nomatch (show false = true from c)) (fun _ => And.intro hx.1 (e _ _ _ _ (kT_end rfl (ret_i _) ⟨?_, rfl⟩))))
        unfold dS
        rw [if_pos hv, if_neg hw, if_pos hw2, ← g3 _ (by have := hw2.1; have := hw2.2; omega)]
        exact congrArg (fun q => some (Value.int (s q))) hx.2
      · rw [decide_eq_false hw2]
        refine xw_go nostop 30 (fun K e => And.intro (fun _ => e _ _ _ _ (kT_end rfl rfl ⟨?_, rfl⟩)) (fun c => nomatch (show true = false from c)))
        unfold dS
        rw [if_pos hv, if_neg hw, if_neg hw2]
    · have hw := Classical.not_not.mp (of_decide_eq_false (show decide (¬ w = Int32.ofInt (-1)) = false from c2))
      unfold dS
      rw [if_pos hv, if_pos hw, ← g2, ← n80]
      rfl
  · rw [decide_eq_false hv]
    refine xw_go nostop 20 (fun K e => And.intro (fun c => nomatch (show false = true from c)) (fun _ => e _ _ _ _ (kT_end rfl rfl ⟨?_, rfl⟩)))
    unfold dS
    rw [if_neg hv]
end DEED
