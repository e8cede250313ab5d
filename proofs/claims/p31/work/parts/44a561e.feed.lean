/-! bytes are fed -/
def pb (v s : Int32) : Int32 := vp_nar (nj_kt 1) ((v >>> (s &&& 31)).toInt8.toInt32)
def sh (k : Nat) : Int32 := match k with
  | 0 => (Int8.ofInt 24).toInt32
  | 1 => (Int8.ofInt 24).toInt32 + Int32.ofInt (-8)
  | 2 => (Int8.ofInt 24).toInt32 + Int32.ofInt (-8) + Int32.ofInt (-8)
  | _ => (Int8.ofInt 24).toInt32 + Int32.ofInt (-8) + Int32.ofInt (-8) + Int32.ofInt (-8)
def put4 (b : Nat → Int32) (n : Nat) (v : Int32) : Nat → Int32 := upd (upd (upd (upd b n (pb v (sh 0))) (n + 1) (pb v (sh 1))) (n + 2) (pb v (sh 2))) (n + 3) (pb v (sh 3))
def feed5 (b : Nat → Int32) (n : Nat) (a1 a2 a3 a4 a5 : Int32) : Nat → Int32 := put4 (put4 (put4 (put4 (put4 b n a1) (n + 4) a2) (n + 8) a3) (n + 12) a4) (n + 16) a5
section FED
variable {L : Nat} {xs : Nat → Int32} {d : Nat} {b kd pl : Nat → Int32} {vl ky : Nat → Int64} {tok cur tak tl fk fp : Int32} {u : Nat → Value} {lf : Int32} {n : Nat} {v : Int32}
variable {o : Nat → Value} {thr len sz lim : Int32} {X : Lx} {flt fat got lns crs : Int32} {hh : Nat → Int32} {nms rsv : Nat → Int64}
theorem put_step {Q : Option Value → List nC → Prop} {ks : List Nat} {h0 : List nC} {s : Int32} (hs : nj_cmp .lt s 0 = false) (hn : n < 940) (k : kT nj_M nX0 L xs d nm_19 Q ks h0 3 [(0, .ref 1), (1, .int v), (2, .int (s + Int32.ofInt (-8)))] [] (txP (upd b n (pb v s)) kd pl vl ky (Int32.ofNat (n + 1)) tok cur tak tl fk fp)) : kT nj_M nX0 L xs d nm_19 Q ks h0 3 [(0, .ref 1), (1, .int v), (2, .int s)] [] (txP b kd pl vl ky (Int32.ofNat n) tok cur tak tl fk fp) := by
  have hx := ix_nat (i := n) (n := 940) hn (by decide)
  rw [← i32_succ, show upd b n = upd b (Int32.ofNat n).toNatClampNeg from by rw [hx.2]] at k
  exact xw_go (fun pc => pc == 3) 40 (fun K e => And.intro (fun c => by have c' : nj_cmp .lt s 0 = true := c; rw [hs] at c'; cases c') (fun _ => And.intro (fun c => absurd (of_decide_eq_true ((cmp_nat (i := n) (j := 940) (by omega) (by omega)).1.symm.trans c)) (by omega)) (fun _ => And.intro hx.1 (And.intro rfl (e _ _ _ _ (kT_sort rfl k))))))
theorem c_put (hn : n + 4 ≤ 940) : mS nj_M nX0 L xs d 19 [.ref 1, .int v] (txP b kd pl vl ky (Int32.ofNat n) tok cur tak tl fk fp) (fun rv l => rv = none ∧ l = (txP (put4 b n v) kd pl vl ky (Int32.ofNat (n + 4)) tok cur tak tl fk fp)) := by
  refine mS_of rfl (fun h0 => ?_)
  refine xw_go (fun pc => pc == 3) 10 (fun K e => e _ _ _ _ (kT_sort rfl ?_))
  refine put_step (by decide) (by omega) (put_step (n := n + 1) (by decide) (by omega) (put_step (n := n + 2) (by decide) (by omega) (put_step (n := n + 3) (by decide) (by omega) ?_)))
  exact xw_go nostop 10 (fun K e => And.intro (fun _ => e _ _ _ _ (kT_end rfl rfl ⟨rfl, rfl⟩)) (fun c => nomatch (show true = false from c)))
theorem four_step {Q : Option Value → List nC → Prop} {ks : List Nat} {h0 : List nC} {s : Int32} (hs : nj_cmp .lt s 0 = false) (hn : n < 940) (k : kT nj_M nX0 L xs d nm_157 Q ks h0 3 [(0, .ref 175), (1, .int v), (2, .int (s + Int32.ofInt (-8)))] [] (rfP o thr (Int32.ofNat (n + 1)) sz lim X flt fat got lns crs (upd b n (pb v s)) hh nms rsv)) : kT nj_M nX0 L xs d nm_157 Q ks h0 3 [(0, .ref 175), (1, .int v), (2, .int s)] [] (rfP o thr (Int32.ofNat n) sz lim X flt fat got lns crs b hh nms rsv) := by
  have hx := ix_nat (i := n) (n := 940) hn (by decide)
  rw [← i32_succ, show upd b n = upd b (Int32.ofNat n).toNatClampNeg from by rw [hx.2]] at k
  exact xw_go (fun pc => pc == 3) 40 (fun K e => And.intro (fun c => by have c' : nj_cmp .lt s 0 = true := c; rw [hs] at c'; cases c') (fun _ => And.intro hx.1 (And.intro rfl (e _ _ _ _ (kT_sort rfl k)))))
theorem q_four (hn : n + 4 ≤ 940) : mS nj_M nX0 L xs d 157 [.ref 175, .int v] (rfP o thr (Int32.ofNat n) sz lim X flt fat got lns crs b hh nms rsv) (fun rv l => rv = none ∧ l = (rfP o thr (Int32.ofNat (n + 4)) sz lim X flt fat got lns crs (put4 b n v) hh nms rsv)) := by
  refine mS_of rfl (fun h0 => ?_)
  refine xw_go (fun pc => pc == 3) 10 (fun K e => e _ _ _ _ (kT_sort rfl ?_))
  refine four_step (by decide) (by omega) (four_step (n := n + 1) (by decide) (by omega) (four_step (n := n + 2) (by decide) (by omega) (four_step (n := n + 3) (by decide) (by omega) ?_)))
  exact xw_go nostop 10 (fun K e => And.intro (fun _ => e _ _ _ _ (kT_end rfl rfl ⟨rfl, rfl⟩)) (fun c => nomatch (show true = false from c)))
theorem cmp_20 (hn : n ≤ 940) : nj_cmp .le (Int32.ofNat n + (Int8.ofInt 20).toInt32) (Int16.ofInt 940).toInt32 = decide (n + 20 ≤ 940) := by
  have e : Int32.ofNat n + (Int8.ofInt 20).toInt32 = Int32.ofNat (n + 20) := by rw [Int32.ofNat_add]; rfl
  rw [e]
  exact (cmp_nat (i := n + 20) (j := 940) (by omega) (by omega)).2.2.2.1
theorem c_feed (hn : n ≤ 940) (a1 a2 a3 a4 a5 : Int32) : mS nj_M nX0 L xs (d + 1) 18 [.ref 0, .int a1, .int a2, .int a3, .int a4, .int a5] (slP u lf ++ (txP b kd pl vl ky (Int32.ofNat n) tok cur tak tl fk fp)) (fun rv l => (n + 20 ≤ 940 ∧ rv = some (.int (Int32.ofNat (n + 20))) ∧ l = slP u lf ++ (txP (feed5 b n a1 a2 a3 a4 a5) kd pl vl ky (Int32.ofNat (n + 20)) tok cur tak tl fk fp)) ∨ (¬ n + 20 ≤ 940 ∧ rv = some (.int (Int32.ofInt (-1))) ∧ l = slP u lf ++ (txP b kd pl vl ky (Int32.ofNat n) tok cur tak tl fk fp))) := by
  refine mS_of rfl (fun h0 => ?_)
  refine xw_go nostop 20 (fun K e => And.intro (fun c => ?_) (fun c => e _ _ _ _ (kT_end rfl rfl (Or.inr ⟨of_decide_eq_false ((cmp_20 hn).symm.trans c), rfl, rfl⟩))))
  have hc := of_decide_eq_true ((cmp_20 hn).symm.trans c)
  refine e _ _ _ _ (kT_call rfl rfl rfl rfl (c_put (n := n) (by omega)) ⟨rfl, rfl, rfl, rfl, rfl, rfl, trivial⟩ rfl rfl (fun rv l1 hP _ => ?_))
  obtain ⟨rfl, rfl⟩ := hP
  refine xw_go nostop 20 (fun K e => e _ _ _ _ (kT_call rfl rfl rfl rfl (c_put (n := n + 4) (by omega)) ⟨rfl, rfl, rfl, rfl, rfl, rfl, trivial⟩ rfl rfl (fun rv l1 hP _ => ?_)))
  obtain ⟨rfl, rfl⟩ := hP
  refine xw_go nostop 20 (fun K e => e _ _ _ _ (kT_call rfl rfl rfl rfl (c_put (n := n + 8) (by omega)) ⟨rfl, rfl, rfl, rfl, rfl, rfl, trivial⟩ rfl rfl (fun rv l1 hP _ => ?_)))
  obtain ⟨rfl, rfl⟩ := hP
  refine xw_go nostop 20 (fun K e => e _ _ _ _ (kT_call rfl rfl rfl rfl (c_put (n := n + 12) (by omega)) ⟨rfl, rfl, rfl, rfl, rfl, rfl, trivial⟩ rfl rfl (fun rv l1 hP _ => ?_)))
  obtain ⟨rfl, rfl⟩ := hP
  refine xw_go nostop 20 (fun K e => e _ _ _ _ (kT_call rfl rfl rfl rfl (c_put (n := n + 16) (by omega)) ⟨rfl, rfl, rfl, rfl, rfl, rfl, trivial⟩ rfl rfl (fun rv l1 hP _ => ?_)))
  obtain ⟨rfl, rfl⟩ := hP
  exact xw_go nostop 20 (fun K e => e _ _ _ _ (kT_end rfl (ret_i _) (Or.inl ⟨hc, rfl, rfl⟩)))
theorem q_feed (hn : n ≤ 940) (a1 a2 a3 a4 a5 : Int32) : mS nj_M nX0 L xs (d + 1) 156 [.ref 175, .int a1, .int a2, .int a3, .int a4, .int a5] (rfP o thr (Int32.ofNat n) sz lim X flt fat got lns crs b hh nms rsv) (fun rv l => (n + 20 ≤ 940 ∧ rv = some (.int (Int32.ofNat (n + 20))) ∧ l = (rfP o (Int32.ofInt 0) (Int32.ofNat (n + 20)) sz lim X flt fat got lns crs (feed5 b n a1 a2 a3 a4 a5) hh nms rsv)) ∨ (¬ n + 20 ≤ 940 ∧ rv = some (.int (Int32.ofInt (-1))) ∧ l = (rfP o (Int32.ofInt 0) (Int32.ofNat n) sz lim X flt fat got lns crs b hh nms rsv))) := by
  refine mS_of rfl (fun h0 => ?_)
  refine xw_go nostop 20 (fun K e => And.intro rfl (And.intro (fun c => ?_) (fun c => e _ _ _ _ (kT_end rfl rfl (Or.inr ⟨of_decide_eq_false ((cmp_20 hn).symm.trans c), rfl, rfl⟩)))))
  have hc := of_decide_eq_true ((cmp_20 hn).symm.trans c)
  refine e _ _ _ _ (kT_call rfl rfl rfl rfl (q_four (n := n) (thr := Int32.ofInt 0) (by omega)) ⟨rfl, rfl, rfl, rfl, rfl, trivial⟩ rfl rfl (fun rv l1 hP _ => ?_))
  obtain ⟨rfl, rfl⟩ := hP
  refine xw_go nostop 20 (fun K e => e _ _ _ _ (kT_call rfl rfl rfl rfl (q_four (n := n + 4) (by omega)) ⟨rfl, rfl, rfl, rfl, rfl, trivial⟩ rfl rfl (fun rv l1 hP _ => ?_)))
  obtain ⟨rfl, rfl⟩ := hP
  refine xw_go nostop 20 (fun K e => e _ _ _ _ (kT_call rfl rfl rfl rfl (q_four (n := n + 8) (by omega)) ⟨rfl, rfl, rfl, rfl, rfl, trivial⟩ rfl rfl (fun rv l1 hP _ => ?_)))
  obtain ⟨rfl, rfl⟩ := hP
  refine xw_go nostop 20 (fun K e => e _ _ _ _ (kT_call rfl rfl rfl rfl (q_four (n := n + 12) (by omega)) ⟨rfl, rfl, rfl, rfl, rfl, trivial⟩ rfl rfl (fun rv l1 hP _ => ?_)))
  obtain ⟨rfl, rfl⟩ := hP
  refine xw_go nostop 20 (fun K e => e _ _ _ _ (kT_call rfl rfl rfl rfl (q_four (n := n + 16) (by omega)) ⟨rfl, rfl, rfl, rfl, rfl, trivial⟩ rfl rfl (fun rv l1 hP _ => ?_)))
  obtain ⟨rfl, rfl⟩ := hP
  exact xw_go nostop 20 (fun K e => e _ _ _ _ (kT_end rfl (ret_i _) (Or.inl ⟨hc, rfl, rfl⟩)))
end FED
