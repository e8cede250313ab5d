/-! the reference's sentence: its stack and its code -/
abbrev rS (o : Nat → Value) (thr len sz lim : Int32) (X : Lx) (flt fat got lns crs : Int32) (b hh : Nat → Int32) (nms rsv : Nat → Int64) (c39 c40 c41 c42 c43 : Int32) (cd st s : Nat → Int32) : nL := rfP (fun k => if k = 38 then .ref 190 else if k = 39 then .int c39 else if k = 40 then .int c40 else if k = 41 then .int c41 else if k = 42 then .int c42 else if k = 43 then .int c43 else o k) thr len sz lim X flt fat got lns crs b hh nms rsv ++ [(179, .inl (0, 135, .inl cd)), (190, .inl (0, 45, .inl st)), (177, .inl (0, 360, .inl s))]
def stk (st : Nat → Int32) (l : List Nat) : Prop := ∀ i, i < l.length → st i = Int32.ofNat (l.getD i 0)
section RSE
variable {L : Nat} {xs : Nat → Int32} {d : Nat} {o : Nat → Value} {thr len sz lim : Int32} {X : Lx} {flt fat got lns crs : Int32} {b hh s cd st : Nat → Int32} {nms rsv : Nat → Int64} {c39 c40 c41 c42 c43 : Int32}
theorem ix3 {y i : Nat} (h : 3 * y + i < 135) : nj_ix (Int32.ofInt 3 * Int32.ofNat y + Int32.ofInt i) 135 = true := by
  rw [show Int32.ofInt 3 = Int32.ofNat 3 from rfl, show Int32.ofInt i = Int32.ofNat i from Int32.ofInt_eq_ofNat, ← Int32.ofNat_mul, ← Int32.ofNat_add]
  exact (ix_nat h (by decide)).1
theorem ix30 {y : Nat} (h : 3 * y < 135) : nj_ix (Int32.ofInt 3 * Int32.ofNat y) 135 = true := by
  rw [show Int32.ofInt 3 = Int32.ofNat 3 from rfl, ← Int32.ofNat_mul]
  exact (ix_nat h (by decide)).1
theorem q_code {y : Nat} (hy : y ≤ 44) (x1 x2 x3 : Int32) : mS nj_M nX0 L xs d 253 [.ref 175, .int x1, .int x2, .int x3] (rS o thr len sz lim X flt fat got lns crs b hh nms rsv (Int32.ofNat y) c40 c41 c42 c43 cd st s) (fun rv l => rv = none ∧ ∃ cd1, l = (rS o thr len sz lim X flt fat got lns crs b hh nms rsv (Int32.ofNat (y + 1)) c40 c41 c42 c43 cd1 st s)) := by
  have h0 := ix30 (y := y) (by omega)
  have h1 := ix3 (y := y) (i := 1) (by omega)
  have h2 := ix3 (y := y) (i := 2) (by omega)
  refine mS_of rfl (fun h00 => ?_)
  rw [← i32_succ y]
  exact xw_go nostop 60 (fun K e => And.intro h0 (And.intro h1 (And.intro h2 (And.intro rfl (e _ _ _ _ (kT_end rfl rfl ⟨rfl, _, rfl⟩))))))
set_option maxHeartbeats 4000000 in
theorem nots_loop {l0 : List Nat} {w : Nat} (hl : l0.length ≤ 44) (hlast : ∀ x, l0.getLast? = some x → ¬ x = 20) (hnum : ∀ x ∈ l0, x < 1000) {h0 : List nC} {Y : Nat} {cd0 : Nat → Int32} {y0 w0 n0 : Int32} : ∀ (j y : Nat) (cd : Nat → Int32), y + j = Y → Y ≤ 44 → l0.length + j ≤ 45 → stk st (l0 ++ List.replicate j 20) → kT nj_M nX0 L xs (d + 1) nm_252 (mQ (rS o thr len sz lim X flt fat got lns crs b hh nms rsv y0 c40 n0 w0 c43 cd0 st s) (fun rv l => rv = none ∧ ∃ cd1, l = (rS o thr len sz lim X flt fat got lns crs b hh nms rsv (Int32.ofNat Y) c40 (Int32.ofNat l0.length) (Int32.ofNat w) c43 cd1 st s)) h0) (hk (rS o thr len sz lim X flt fat got lns crs b hh nms rsv y0 c40 n0 w0 c43 cd0 st s)) h0 0 [(0, .ref 175)] [] (rS o thr len sz lim X flt fat got lns crs b hh nms rsv (Int32.ofNat y) c40 (Int32.ofNat (l0.length + j)) (Int32.ofNat (w + j)) c43 cd st s) := by
  intro j
  induction j with
  | zero =>
    intro y cd hy hY hlen hs
    have e : y = Y := by omega
    subst e
    have q0 : nj_cmp .le (Int32.ofNat l0.length) 0 = decide (l0.length ≤ 0) := (cmp_nat (i := l0.length) (j := 0) (by omega) (by omega)).2.2.2.1
    by_cases c0 : l0.length ≤ 0
    · rw [decide_eq_true c0] at q0
      exact xw_go nostop 30 (fun K e => And.intro (fun _ => e _ _ _ _ (kT_end rfl rfl ⟨rfl, cd, rfl⟩)) (fun c => nomatch (q0.symm.trans c)))
    · rw [decide_eq_false c0] at q0
      have hx : Int32.ofNat l0.length - Int32.ofInt 1 = Int32.ofNat (l0.length - 1) := by
        obtain ⟨m, hm⟩ : ∃ m, l0.length = m + 1 := ⟨l0.length - 1, by omega⟩
        rw [hm, ← i32_succ, Int32.add_sub_cancel, Nat.add_sub_cancel]
      have hi := ix_nat (i := l0.length - 1) (n := 45) (by omega) (by decide)
      rw [← hx] at hi
      have hv : st (Int32.ofNat l0.length - Int32.ofInt 1).toNatClampNeg = Int32.ofNat (l0.getD (l0.length - 1) 0) := by
        rw [hi.2]
        have := hs (l0.length - 1) (by rw [List.length_append]; simp; omega)
        rw [this, List.replicate_zero, List.append_nil]
      have hgl : l0.getLast? = some (l0.getD (l0.length - 1) 0) := by
        rw [List.getLast?_eq_getElem?, List.getD_eq_getElem?_getD, List.getElem?_eq_getElem (by omega)]
        rfl
      have hne := hlast _ hgl
      have hm : l0.getD (l0.length - 1) 0 < 1000 := hnum _ (gd_mem (by omega))
      have q1 : nj_cmp .ne (st (Int32.ofNat l0.length - Int32.ofInt 1).toNatClampNeg) (Int32.ofNat 20) = true := by
        rw [hv, ne_of hm (by decide), decide_eq_false hne]
        rfl
      exact xw_go nostop 30 (fun K e => And.intro (fun c => nomatch (q0.symm.trans c)) (fun _ => And.intro hi.1 (And.intro (fun _ => e _ _ _ _ (kT_end rfl rfl ⟨rfl, cd, rfl⟩)) (fun c => nomatch (q1.symm.trans c)))))
  | succ j ih =>
    intro y cd hy hY hlen hs
    have q0 : nj_cmp .le (Int32.ofNat (l0.length + (j + 1))) 0 = false := by
      rw [show (0 : Int32) = Int32.ofNat 0 from rfl, (cmp_nat (by omega) (by omega)).2.2.2.1]
      exact decide_eq_false (by omega)
    have hx : Int32.ofNat (l0.length + (j + 1)) - Int32.ofInt 1 = Int32.ofNat (l0.length + j) := by
      rw [← Nat.add_assoc, ← i32_succ, Int32.add_sub_cancel]
    have hw : Int32.ofNat (w + (j + 1)) - Int32.ofInt 1 = Int32.ofNat (w + j) := by
      rw [← Nat.add_assoc, ← i32_succ, Int32.add_sub_cancel]
    have hi := ix_nat (i := l0.length + j) (n := 45) (by omega) (by decide)
    have hv : st (l0.length + j) = Int32.ofNat 20 := by
      rw [hs (l0.length + j) (by rw [List.length_append, List.length_replicate]; omega), List.getD_eq_getElem?_getD, List.getElem?_append_right (by omega), Nat.add_sub_cancel_left, List.getElem?_replicate, if_pos (by omega)]
      rfl
    rw [← hx] at hi
    have q1 : nj_cmp .ne (st (Int32.ofNat (l0.length + (j + 1)) - Int32.ofInt 1).toNatClampNeg) (Int32.ofNat 20) = false := by
      rw [hi.2, hv]
      decide
    have hs2 : stk st (l0 ++ List.replicate j 20) := fun i hi2 => by
      rw [List.length_append, List.length_replicate] at hi2
      rw [hs i (by rw [List.length_append, List.length_replicate]; omega), List.getD_eq_getElem?_getD, List.getD_eq_getElem?_getD]
      by_cases c : i < l0.length
      · rw [List.getElem?_append_left c, List.getElem?_append_left c]
      · rw [List.getElem?_append_right (by omega), List.getElem?_append_right (by omega), List.getElem?_replicate, List.getElem?_replicate, if_pos (by omega), if_pos (by omega)]
    refine xw_go nostop 60 (fun K e => And.intro (fun c => nomatch (q0.symm.trans c)) (fun _ => And.intro hi.1 (And.intro (fun c => nomatch (q1.symm.trans c)) (fun _ => And.intro rfl (And.intro rfl (e _ _ _ _ (kT_call rfl rfl rfl rfl (q_code (L := L) (xs := xs) (d := d) (o := o) (thr := thr) (len := len) (sz := sz) (lim := lim) (X := X) (flt := flt) (fat := fat) (got := got) (lns := lns) (crs := crs) (b := b) (hh := hh) (nms := nms) (rsv := rsv) (s := s) (cd := cd) (st := st) (c40 := c40) (c41 := Int32.ofNat (l0.length + (j + 1)) - Int32.ofInt 1) (c42 := Int32.ofNat (w + (j + 1)) - Int32.ofInt 1) (c43 := c43) (y := y) (by omega) _ _ _) ⟨rfl, rfl, rfl, rfl, rfl, rfl, rfl, rfl, trivial⟩ rfl rfl (fun rv l1 hP1 _ => ?_))))))))
    obtain ⟨rfl, cd1, rfl⟩ := hP1
    have hn := ih (y + 1) cd1 (by omega) hY (by omega) hs2
    rw [← hx, ← hw] at hn
    refine kT_pic (l2 := (rS o thr len sz lim X flt fat got lns crs b hh nms rsv (Int32.ofNat (y + 1)) c40 (Int32.ofNat (l0.length + (j + 1)) - Int32.ofInt 1) (Int32.ofNat (w + (j + 1)) - Int32.ofInt 1) c43 cd1 st s)) rfl ?_
    exact xw_go (fun pc => pc == 0) 20 (fun K e => e _ _ _ _ (kT_sort rfl hn))
end RSE
