/-! nots and joins -/
section RSJ
variable {L : Nat} {xs : Nat → Int32} {d : Nat} {o : Nat → Value} {thr len sz lim : Int32} {X : Lx} {flt fat got lns crs : Int32} {b hh s cd st : Nat → Int32} {nms rsv : Nat → Int64} {c39 c40 c41 c42 c43 : Int32}
theorem q_nots {l0 : List Nat} {j y w : Nat} (hlast : ∀ x, l0.getLast? = some x → ¬ x = 20) (hnum : ∀ x ∈ l0, x < 1000) (hy : y + j ≤ 44) (hl : l0.length + j ≤ 44) (hs : stk st (l0 ++ List.replicate j 20)) : mS nj_M nX0 L xs (d + 1) 252 [.ref 175] (rS o thr len sz lim X flt fat got lns crs b hh nms rsv (Int32.ofNat y) c40 (Int32.ofNat (l0.length + j)) (Int32.ofNat (w + j)) c43 cd st s) (fun rv l => rv = none ∧ ∃ cd1, l = (rS o thr len sz lim X flt fat got lns crs b hh nms rsv (Int32.ofNat (y + j)) c40 (Int32.ofNat l0.length) (Int32.ofNat w) c43 cd1 st s)) :=
  mS_of rfl (fun h0 => nots_loop (Y := y + j) (by omega) hlast hnum j y cd rfl hy (by omega) hs)
theorem stk_l {l1 l2 : List Nat} (h : stk st (l1 ++ l2)) : stk st l1 := fun i hi => by
  rw [h i (by rw [List.length_append]; omega), List.getD_eq_getElem?_getD, List.getD_eq_getElem?_getD, List.getElem?_append_left hi]
theorem stk_x {l1 : List Nat} {x : Nat} (h : stk st (l1 ++ [x])) : st l1.length = Int32.ofNat x := by
  rw [h l1.length (by rw [List.length_append]; exact Nat.lt_succ_self _), List.getD_eq_getElem?_getD, List.getElem?_append_right (Nat.le_refl _), Nat.sub_self]
  rfl
theorem stk_p {l1 : List Nat} {x : Nat} (h : stk st l1) : stk (upd st l1.length (Int32.ofNat x)) (l1 ++ [x]) := fun i hi => by
  rw [List.length_append] at hi
  have hi2 : i < l1.length + 1 := hi
  by_cases e : i = l1.length
  · rw [e, up_eq, List.getD_eq_getElem?_getD, List.getElem?_append_right (Nat.le_refl _), Nat.sub_self]
    rfl
  · rw [up_ne e, h i (by omega), List.getD_eq_getElem?_getD, List.getD_eq_getElem?_getD, List.getElem?_append_left (by omega)]
theorem m1_x {m : Nat} : Int32.ofNat (m + 1) - Int32.ofInt 1 = Int32.ofNat m := by rw [← i32_succ, Int32.add_sub_cancel]
set_option maxHeartbeats 4000000 in
theorem joins_stop {l0 : List Nat} {a Y : Nat} {h0 : List nC} {cd0 : Nat → Int32} {y0 n0 : Int32} (ha : a = 21 ∨ a = 22) (hl : l0.length ≤ 44) (hs : stk st l0) (hst : l0 = [] ∨ ∃ l1 x, l0 = l1 ++ [x] ∧ x < 1000 ∧ ¬ x = 21 ∧ (¬ x = 22 ∨ a = 21)) : kT nj_M nX0 L xs (d + 1) nm_254 (mQ (rS o thr len sz lim X flt fat got lns crs b hh nms rsv y0 c40 n0 c42 c43 cd0 st s) (fun rv l => rv = none ∧ ∃ cd1, l = (rS o thr len sz lim X flt fat got lns crs b hh nms rsv (Int32.ofNat Y) c40 (Int32.ofNat l0.length) c42 c43 cd1 st s)) h0) (hk (rS o thr len sz lim X flt fat got lns crs b hh nms rsv y0 c40 n0 c42 c43 cd0 st s)) h0 0 [(0, .ref 175), (1, .int (Int32.ofNat a))] [] (rS o thr len sz lim X flt fat got lns crs b hh nms rsv (Int32.ofNat Y) c40 (Int32.ofNat l0.length) c42 c43 cd st s) := by
  rcases hst with rfl | ⟨l1, x, rfl, hx, h21, h22⟩
  · exact xw_go nostop 30 (fun K e => And.intro (fun _ => e _ _ _ _ (kT_end rfl rfl ⟨rfl, cd, rfl⟩)) (fun c => nomatch (show true = false from c)))
  · have el : (l1 ++ [x]).length = l1.length + 1 := by rw [List.length_append]; rfl
    rw [el] at hl
    have hv := stk_x hs
    have q0 : nj_cmp .le (Int32.ofNat (l1 ++ [x]).length) 0 = false := by
      rw [el, show (0 : Int32) = Int32.ofNat 0 from rfl, (cmp_nat (by omega) (by omega)).2.2.2.1]
      exact decide_eq_false (by omega)
    have ex : Int32.ofNat (l1 ++ [x]).length - Int32.ofInt 1 = Int32.ofNat l1.length := by rw [el, m1_x]
    have hi := ix_nat (i := l1.length) (n := 45) (by omega) (by decide)
    rw [← ex] at hi
    have q1 : nj_cmp .eq (st (Int32.ofNat (l1 ++ [x]).length - Int32.ofInt 1).toNatClampNeg) (Int32.ofNat 21) = false := by
      rw [hi.2, hv, eq_of hx (by decide)]
      exact decide_eq_false h21
    have q2 : nj_cmp .ne (st (Int32.ofNat (l1 ++ [x]).length - Int32.ofInt 1).toNatClampNeg) (Int32.ofNat 22) = !decide (x = 22) := by
      rw [hi.2, hv, ne_of hx (by decide)]
    by_cases e22 : x = 22
    · rw [decide_eq_true e22] at q2
      have ea : a = 21 := by
        rcases h22 with h | h
        · exact absurd e22 h
        · exact h
      have q3 : nj_cmp .ne (Int32.ofNat a) (Int32.ofNat 22) = true := by rw [ea]; decide
      exact xw_go nostop 40 (fun K e => And.intro (fun c => nomatch (q0.symm.trans c)) (fun _ => And.intro hi.1 (And.intro (fun c => nomatch (q1.symm.trans c)) (fun _ => And.intro hi.1 (And.intro (fun c => nomatch (q2.symm.trans c)) (fun _ => And.intro (fun _ => e _ _ _ _ (kT_end rfl rfl ⟨rfl, cd, rfl⟩)) (fun c => nomatch (q3.symm.trans c))))))))
    · rw [decide_eq_false e22] at q2
      exact xw_go nostop 40 (fun K e => And.intro (fun c => nomatch (q0.symm.trans c)) (fun _ => And.intro hi.1 (And.intro (fun c => nomatch (q1.symm.trans c)) (fun _ => And.intro hi.1 (And.intro (fun _ => e _ _ _ _ (kT_end rfl rfl ⟨rfl, cd, rfl⟩)) (fun c => nomatch (q2.symm.trans c)))))))
set_option maxHeartbeats 4000000 in
theorem joins_pop {l0 l1 : List Nat} {a x y Y : Nat} {h0 : List nC} {cd0 : Nat → Int32} {y0 n0 : Int32} (hx : x = 21 ∨ (x = 22 ∧ a = 22)) (hy : y ≤ 44) (hl : l1.length ≤ 43) (hs : stk st (l1 ++ [x])) (hn : ∀ cd1 : Nat → Int32, kT nj_M nX0 L xs (d + 1) nm_254 (mQ (rS o thr len sz lim X flt fat got lns crs b hh nms rsv y0 c40 n0 c42 c43 cd0 st s) (fun rv l => rv = none ∧ ∃ cd1, l = (rS o thr len sz lim X flt fat got lns crs b hh nms rsv (Int32.ofNat Y) c40 (Int32.ofNat l0.length) c42 c43 cd1 st s)) h0) (hk (rS o thr len sz lim X flt fat got lns crs b hh nms rsv y0 c40 n0 c42 c43 cd0 st s)) h0 0 [(0, .ref 175), (1, .int (Int32.ofNat a))] [] (rS o thr len sz lim X flt fat got lns crs b hh nms rsv (Int32.ofNat (y + 1)) c40 (Int32.ofNat l1.length) c42 c43 cd1 st s)) : kT nj_M nX0 L xs (d + 1) nm_254 (mQ (rS o thr len sz lim X flt fat got lns crs b hh nms rsv y0 c40 n0 c42 c43 cd0 st s) (fun rv l => rv = none ∧ ∃ cd1, l = (rS o thr len sz lim X flt fat got lns crs b hh nms rsv (Int32.ofNat Y) c40 (Int32.ofNat l0.length) c42 c43 cd1 st s)) h0) (hk (rS o thr len sz lim X flt fat got lns crs b hh nms rsv y0 c40 n0 c42 c43 cd0 st s)) h0 0 [(0, .ref 175), (1, .int (Int32.ofNat a))] [] (rS o thr len sz lim X flt fat got lns crs b hh nms rsv (Int32.ofNat y) c40 (Int32.ofNat (l1 ++ [x]).length) c42 c43 cd st s) := by
  have el : (l1 ++ [x]).length = l1.length + 1 := by rw [List.length_append]; rfl
  have hv := stk_x hs
  have q0 : nj_cmp .le (Int32.ofNat (l1 ++ [x]).length) 0 = false := by
    rw [el, show (0 : Int32) = Int32.ofNat 0 from rfl, (cmp_nat (by omega) (by omega)).2.2.2.1]
    exact decide_eq_false (by omega)
  have ex : Int32.ofNat (l1 ++ [x]).length - Int32.ofInt 1 = Int32.ofNat l1.length := by rw [el, m1_x]
  have hi := ix_nat (i := l1.length) (n := 45) (by omega) (by decide)
  rw [← ex] at hi
  have fin : kT nj_M nX0 L xs (d + 1) nm_254 (mQ (rS o thr len sz lim X flt fat got lns crs b hh nms rsv y0 c40 n0 c42 c43 cd0 st s) (fun rv l => rv = none ∧ ∃ cd1, l = (rS o thr len sz lim X flt fat got lns crs b hh nms rsv (Int32.ofNat Y) c40 (Int32.ofNat l0.length) c42 c43 cd1 st s)) h0) (hk (rS o thr len sz lim X flt fat got lns crs b hh nms rsv y0 c40 n0 c42 c43 cd0 st s)) h0 45 [(0, .ref 175), (1, .int (Int32.ofNat a))] [] (rS o thr len sz lim X flt fat got lns crs b hh nms rsv (Int32.ofNat y) c40 (Int32.ofNat (l1 ++ [x]).length) c42 c43 cd st s) := by
    refine xw_go nostop 60 (fun K e => And.intro rfl (And.intro hi.1 (e _ _ _ _ (kT_call rfl rfl rfl rfl (q_code (L := L) (xs := xs) (d := d) (o := o) (thr := thr) (len := len) (sz := sz) (lim := lim) (X := X) (flt := flt) (fat := fat) (got := got) (lns := lns) (crs := crs) (b := b) (hh := hh) (nms := nms) (rsv := rsv) (s := s) (cd := cd) (st := st) (c40 := c40) (c41 := Int32.ofNat (l1 ++ [x]).length - Int32.ofInt 1) (c42 := c42) (c43 := c43) (y := y) (by omega) _ _ _) ⟨rfl, rfl, rfl, rfl, rfl, rfl, rfl, rfl, trivial⟩ rfl rfl (fun rv l2 hP1 _ => ?_)))))
    obtain ⟨rfl, cd1, rfl⟩ := hP1
    have h2 := hn cd1
    rw [← ex] at h2
    refine kT_pic (l2 := (rS o thr len sz lim X flt fat got lns crs b hh nms rsv (Int32.ofNat (y + 1)) c40 (Int32.ofNat (l1 ++ [x]).length - Int32.ofInt 1) c42 c43 cd1 st s)) rfl ?_
    exact xw_go (fun pc => pc == 0) 20 (fun K e => e _ _ _ _ (kT_sort rfl h2))
  have hx1 : x < 1000 := by omega
  have q1 : nj_cmp .eq (st (Int32.ofNat (l1 ++ [x]).length - Int32.ofInt 1).toNatClampNeg) (Int32.ofNat 21) = decide (x = 21) := by
    rw [hi.2, hv, eq_of hx1 (by decide)]
  by_cases e21 : x = 21
  · rw [decide_eq_true e21] at q1
    exact xw_go (fun pc => pc == 45) 40 (fun K e => And.intro (fun c => nomatch (q0.symm.trans c)) (fun _ => And.intro hi.1 (And.intro (fun _ => e _ _ _ _ (kT_sort rfl fin)) (fun c => nomatch (q1.symm.trans c)))))
  · rw [decide_eq_false e21] at q1
    have h22 : x = 22 ∧ a = 22 := by
      rcases hx with h | h
      · exact absurd h e21
      · exact h
    have q2 : nj_cmp .ne (st (Int32.ofNat (l1 ++ [x]).length - Int32.ofInt 1).toNatClampNeg) (Int32.ofNat 22) = false := by
      rw [hi.2, hv, ne_of hx1 (by decide), decide_eq_true h22.1]
      rfl
    have q3 : nj_cmp .ne (Int32.ofNat a) (Int32.ofNat 22) = false := by rw [h22.2]; decide
    exact xw_go (fun pc => pc == 45) 40 (fun K e => And.intro (fun c => nomatch (q0.symm.trans c)) (fun _ => And.intro hi.1 (And.intro (fun c => nomatch (q1.symm.trans c)) (fun _ => And.intro hi.1 (And.intro (fun c => nomatch (q2.symm.trans c)) (fun _ => And.intro (fun c => nomatch (q3.symm.trans c)) (fun _ => e _ _ _ _ (kT_sort rfl fin))))))))
end RSJ
