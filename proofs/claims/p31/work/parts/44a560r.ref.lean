/-! the reference, picture by picture: cell 175 and its rows of bytes, house, names, key words -/
abbrev Lx : Type := Int32 × Int32 × Int32 × Int32 × Int32 × Int64
abbrev rfP (o : Nat → Value) (thr len sz lim : Int32) (X : Lx) (flt fat got lns crs : Int32) (b hh : Nat → Int32) (nms rsv : Nat → Int64) : nL := [(175, .inr (9, [.int thr, .ref 176, .int len, .int sz, .int X.1, .int lim, .ref 177, .ref 178, .ref 179, .ref 180, .ref 181, .int X.2.1, .int X.2.2.1, .int X.2.2.2.1, .int X.2.2.2.2.1, .int flt, .int fat, .long X.2.2.2.2.2, .int got, .int lns, .int crs, o 21, o 22, o 23, o 24, o 25, o 26, o 27, o 28, o 29, o 30, o 31, o 32, o 33, o 34, o 35, o 36, o 37, o 38, o 39, o 40, o 41, o 42, o 43, o 44, o 45, o 46, o 47])), (176, .inl (1, 940, .inl b)), (178, .inl (0, 132, .inl hh)), (180, .inl (3, 52, .inr (.inl nms))), (181, .inl (3, 22, .inr (.inl rsv)))]
def pk (c : Int32) : Int32 := c &&& (Int16.ofInt 255).toInt32
section RFA
variable {L : Nat} {xs : Nat → Int32} {d : Nat} {o : Nat → Value} {thr len sz lim : Int32} {X : Lx} {flt fat got lns crs : Int32} {b hh : Nat → Int32} {nms rsv : Nat → Int64}
theorem q_isL (c : Int32) : mS nj_M nX0 L xs d 165 [.int c] [] (fun rv l => rv = some (.int (b01 (isL c))) ∧ l = []) :=
  mS_of rfl (fun h0 => xw_go nostop 12 (fun K e => And.intro
    (fun c1 => e _ _ _ _ (kT_end rfl rfl ⟨by rw [show isL c = false from by unfold isL; rw [show nj_cmp .lt c 97 = true from c1]; rfl]; rfl, rfl⟩))
    (fun c1 => And.intro
      (fun c2 => e _ _ _ _ (kT_end rfl rfl ⟨by rw [show isL c = false from by unfold isL; rw [show nj_cmp .gt c 122 = true from c2, Bool.not_true, Bool.and_false]]; rfl, rfl⟩))
      (fun c2 => e _ _ _ _ (kT_end rfl rfl ⟨by rw [show isL c = true from by unfold isL; rw [show nj_cmp .lt c 97 = false from c1, show nj_cmp .gt c 122 = false from c2]; rfl]; rfl, rfl⟩)))))
theorem q_isD (c : Int32) : mS nj_M nX0 L xs d 166 [.int c] [] (fun rv l => rv = some (.int (b01 (isD c))) ∧ l = []) :=
  mS_of rfl (fun h0 => xw_go nostop 12 (fun K e => And.intro
    (fun c1 => e _ _ _ _ (kT_end rfl rfl ⟨by rw [show isD c = false from by unfold isD; rw [show nj_cmp .lt c 48 = true from c1]; rfl]; rfl, rfl⟩))
    (fun c1 => And.intro
      (fun c2 => e _ _ _ _ (kT_end rfl rfl ⟨by rw [show isD c = false from by unfold isD; rw [show nj_cmp .gt c 57 = true from c2, Bool.not_true, Bool.and_false]]; rfl, rfl⟩))
      (fun c2 => e _ _ _ _ (kT_end rfl rfl ⟨by rw [show isD c = true from by unfold isD; rw [show nj_cmp .lt c 48 = false from c1, show nj_cmp .gt c 57 = false from c2]; rfl]; rfl, rfl⟩)))))
theorem q_isIn (v lo hi : Int32) : mS nj_M nX0 L xs d 176 [.int v, .int lo, .int hi] [] (fun rv l => rv = some (.int (b01 (!nj_cmp .lt v lo && !nj_cmp .gt v hi))) ∧ l = []) :=
  mS_of rfl (fun h0 => xw_go nostop 12 (fun K e => And.intro
    (fun c1 => e _ _ _ _ (kT_end rfl rfl ⟨by rw [show nj_cmp .lt v lo = true from c1]; rfl, rfl⟩))
    (fun c1 => And.intro
      (fun c2 => e _ _ _ _ (kT_end rfl rfl ⟨by rw [show nj_cmp .gt v hi = true from c2, Bool.not_true, Bool.and_false]; rfl, rfl⟩))
      (fun c2 => e _ _ _ _ (kT_end rfl rfl ⟨by rw [show nj_cmp .lt v lo = false from c1, show nj_cmp .gt v hi = false from c2]; rfl, rfl⟩)))))
theorem q_bitOf {i : Nat} (hi : i < 31) (x : Int32) : mS nj_M nX0 L xs d 183 [.int x, .int (Int32.ofNat i)] [] (fun rv l => rv = some (.int (b01 (bt x i))) ∧ l = []) := by
  have hb := bt_c (x := x) hi
  exact mS_of rfl (fun h0 => xw_go nostop 12 (fun K e => And.intro
    (fun c1 => e _ _ _ _ (kT_end rfl rfl ⟨by have c2 := hb.symm.trans c1; rw [show bt x i = false from by simpa using c2]; rfl, rfl⟩))
    (fun c1 => e _ _ _ _ (kT_end rfl rfl ⟨by have c2 := hb.symm.trans c1; rw [show bt x i = true from by simpa using c2]; rfl, rfl⟩))))
theorem q_bad (k : Int32) : mS nj_M nX0 L xs d 169 [.ref 175, .int k] (rfP o thr len sz lim X flt fat got lns crs b hh nms rsv) (fun rv l => rv = some (.int 0) ∧ l = rfP o thr len sz lim X k X.2.2.1 got lns crs b hh nms rsv) :=
  mS_of rfl (fun h0 => xw_go nostop 20 (fun K e => And.intro rfl (And.intro rfl (e _ _ _ _ (kT_end rfl rfl ⟨rfl, rfl⟩)))))
theorem q_feeds (m : Int32) : mS nj_M nX0 L xs d 162 [.ref 175, .int m] (rfP o thr len sz lim X flt fat got lns crs b hh nms rsv) (fun rv l => rv = none ∧ l = rfP o thr 0 len m (0, X.2) flt fat got lns crs b hh nms rsv) :=
  mS_of rfl (fun h0 => xw_go nostop 20 (fun K e => And.intro rfl (And.intro rfl (And.intro rfl (And.intro rfl (e _ _ _ _ (kT_end rfl rfl ⟨rfl, rfl⟩)))))))
theorem q_peek {n q : Nat} (hn : n ≤ 940) (hq : q ≤ 940) {Y : Int32 × Int32 × Int32 × Int32 × Int64} : mS nj_M nX0 L xs d 164 [.ref 175] (rfP o thr len (Int32.ofNat n) lim (Int32.ofNat q, Y) flt fat got lns crs b hh nms rsv) (fun rv l => rv = some (.int (if q < n then pk (b q) else Int32.ofInt (-1))) ∧ l = rfP o thr len (Int32.ofNat n) lim (Int32.ofNat q, Y) flt fat got lns crs b hh nms rsv) := by
  have hc := (cmp_nat (i := q) (j := n) (by omega) (by omega)).1
  refine mS_of rfl (fun h0 => xw_go nostop 20 (fun K e => And.intro (fun c1 => e _ _ _ _ (kT_end rfl rfl ⟨?_, rfl⟩)) (fun c1 => And.intro ?_ (e _ _ _ _ (kT_end rfl (ret_i _) ⟨?_, rfl⟩)))))
  · have := of_decide_eq_true (hc.symm.trans c1)
    rw [if_neg (by omega)]
  · have := of_decide_eq_false (hc.symm.trans c1)
    exact (ix_nat (by omega) (by decide)).1
  · have := of_decide_eq_false (hc.symm.trans c1)
    rw [if_pos (by omega)]
    show some (Value.int (b (Int32.ofNat q).toNatClampNeg &&& _)) = _
    rw [ofN_cl (by omega)]
    rfl
theorem q_isWord (w : Int64) : mS nj_M nX0 L xs d 168 [.ref 175, .long w] (rfP o thr len sz lim X flt fat got lns crs b hh nms rsv) (fun rv l => rv = some (.int (b01 (decide (X.2.1 = 1 ∧ X.2.2.2.2.2 = w)))) ∧ l = rfP o thr len sz lim X flt fat got lns crs b hh nms rsv) := by
  refine mS_of rfl (fun h0 => xw_go nostop 20 (fun K e => And.intro (fun c1 => e _ _ _ _ (kT_end rfl rfl ⟨?_, rfl⟩)) (fun c1 => And.intro (fun c2 => e _ _ _ _ (kT_end rfl rfl ⟨?_, rfl⟩)) (fun c2 => e _ _ _ _ (kT_end rfl rfl ⟨?_, rfl⟩)))))
  · have := of_decide_eq_true (show decide (¬ X.2.1 = 1) = true from c1)
    rw [decide_eq_false (fun z => this z.1)]
    rfl
  · have := of_decide_eq_true (show decide (¬ lg_cmp X.2.2.2.2.2 w = 0) = true from c2)
    rw [decide_eq_false (fun z => this (cmp_eq0.mpr z.2))]
    rfl
  · have h1 := of_decide_eq_false (show decide (¬ X.2.1 = 1) = false from c1)
    have h2 := of_decide_eq_false (show decide (¬ lg_cmp X.2.2.2.2.2 w = 0) = false from c2)
    rw [decide_eq_true ⟨Classical.not_not.mp h1, cmp_eq0.mp (Classical.not_not.mp h2)⟩]
    rfl
theorem q_isSign (c : Int32) : mS nj_M nX0 L xs d 182 [.ref 175, .int c] (rfP o thr len sz lim X flt fat got lns crs b hh nms rsv) (fun rv l => rv = some (.int (b01 (decide (X.2.1 = 3 ∧ X.2.2.2.2.1 = c)))) ∧ l = rfP o thr len sz lim X flt fat got lns crs b hh nms rsv) := by
  refine mS_of rfl (fun h0 => xw_go nostop 20 (fun K e => And.intro (fun c1 => e _ _ _ _ (kT_end rfl rfl ⟨?_, rfl⟩)) (fun c1 => And.intro (fun c2 => e _ _ _ _ (kT_end rfl rfl ⟨?_, rfl⟩)) (fun c2 => e _ _ _ _ (kT_end rfl rfl ⟨?_, rfl⟩)))))
  · have := of_decide_eq_true (show decide (¬ X.2.1 = 3) = true from c1)
    rw [decide_eq_false (fun z => this z.1)]
    rfl
  · have := of_decide_eq_true (show decide (¬ X.2.2.2.2.1 = c) = true from c2)
    rw [decide_eq_false (fun z => this z.2)]
    rfl
  · have h1 := of_decide_eq_false (show decide (¬ X.2.1 = 3) = false from c1)
    have h2 := of_decide_eq_false (show decide (¬ X.2.2.2.2.1 = c) = false from c2)
    rw [decide_eq_true ⟨Classical.not_not.mp h1, Classical.not_not.mp h2⟩]
    rfl
end RFA
