/-! names in the house itself -/
section HS7
variable {L : Nat} {xs : Nat → Int32} {d : Nat} {b kd pl : Nat → Int32} {vl ky : Nat → Int64} {len tok cur tak tl fk fp : Int32} {T : Nat → Tk} {p : Nat} {z : Ho}
theorem slotOf7_loop {w : Int64} {h0 : List nC} {R : Int32} : ∀ (k i : Nat), i + k = 26 → sf z.2.1 w k i = R → kT nj_M nX0 L xs d nm_37 (mQ (hoQ z) (fun rv l => rv = some (.int R) ∧ l = hoQ z) h0) (hk (hoQ z)) h0 2 [(0, .ref 7), (1, .long w), (3, .int (Int32.ofNat i))] [] (hoQ z) := by
  intro k
  induction k with
  | zero =>
    intro i hi hR
    have : i = 26 := by omega
    subst this
    exact xw_go nostop 10 (fun K e => And.intro (fun _ => e _ _ _ _ (kT_end rfl rfl ⟨by rw [← hR]; rfl, rfl⟩)) (fun c => nomatch (show true = false from c)))
  | succ k ih =>
    intro i hi hR
    have hx := ix_nat (i := i) (n := 26) (by omega) (by decide)
    refine xw_go (fun pc => pc == 2) 20 (fun K e => And.intro (fun c => ?_) (fun _ => And.intro hx.1 (And.intro (fun c => e _ _ _ _ (kT_sort rfl ?_)) (fun c => e _ _ _ _ (kT_end rfl (ret_i _) ⟨?_, rfl⟩)))))
    · exfalso
      have := of_decide_eq_true ((cmp_nat (i := i) (j := 26) (by omega) (by omega)).1.symm.trans c)
      omega
    · have c2 : ¬ z.2.1 i = w := fun y => by
        have c3 := of_decide_eq_true (show decide (¬ lg_cmp (z.2.1 (Int32.ofNat i).toNatClampNeg) w = 0) = true from c)
        rw [hx.2] at c3
        exact c3 (cmp_eq0.mpr y)
      have h := ih (i + 1) (by omega) (by rw [← hR]; show _ = if z.2.1 i = w then _ else _; rw [if_neg c2])
      rw [← i32_succ] at h
      exact h
    · have c2 : z.2.1 i = w := by
        have c3 := of_decide_eq_false (show decide (¬ lg_cmp (z.2.1 (Int32.ofNat i).toNatClampNeg) w = 0) = false from c)
        rw [hx.2] at c3
        exact cmp_eq0.mp (Classical.not_not.mp c3)
      rw [← hR]
      show _ = some (Value.int (if z.2.1 i = w then _ else _))
      rw [if_pos c2]
theorem s_slotOf7 (w : Int64) : mS nj_M nX0 L xs d 37 [.ref 7, .long w] (hoQ z) (fun rv l => rv = some (.int (sf z.2.1 w 26 0)) ∧ l = hoQ z) :=
  mS_of rfl (fun h0 => xw_go (fun pc => pc == 2) 5 (fun K e => e _ _ _ _ (kT_sort rfl (slotOf7_loop 26 0 rfl rfl))))
abbrev th7 (b kd pl : Nat → Int32) (vl ky : Nat → Int64) (len tok cur tak tl fk fp : Int32) (z : Ho) : nL := txP b kd pl vl ky len tok cur tak tl fk fp ++ hoQ z
theorem sub7_t : subl (th7 b kd pl vl ky len tok cur tak tl fk fp z) (txP b kd pl vl ky len tok cur tak tl fk fp) := ⟨rfl, rfl, rfl, rfl, rfl, rfl, trivial⟩
theorem sub7_h : subl (th7 b kd pl vl ky len tok cur tak tl fk fp z) (hoQ z) := ⟨rfl, rfl, rfl, rfl, rfl, rfl, rfl, rfl, rfl, rfl, rfl, rfl, rfl, rfl, rfl, trivial⟩
theorem sub7_th : subl (th7 b kd pl vl ky len tok cur tak tl fk fp z) (th7 b kd pl vl ky len tok cur tak tl fk fp z) := ⟨rfl, rfl, rfl, rfl, rfl, rfl, rfl, rfl, rfl, rfl, rfl, rfl, rfl, rfl, rfl, rfl, rfl, rfl, rfl, rfl, rfl, trivial⟩
theorem r_known7 (hT : tkOk T) (h : txR T kd pl vl tok cur p) {ns : List (List Nat)} (hn : nmR z.2.1 ns) {s lo hi : Nat} (hs : s < 4) (f0 : nj_fs.getD s 0 = Int32.ofNat lo) (f1 : nj_fs.getD (s + 1) 0 = Int32.ofNat hi) (hhi : hi ≤ 26) (hlo : lo ≤ hi) : mS nj_M nX0 L xs (d + 1) 40 [.ref 7, .ref 1, .int (Int32.ofNat s)] (th7 b kd pl vl ky len tok cur tak tl fk fp z) (fun rv l => (∃ k, sKn T p ns lo hi = .inr k ∧ k < hi - lo ∧ rv = some (.int (Int32.ofNat k)) ∧ l = th7 b kd pl vl ky len tok cur tak tl fk fp z) ∨ (∃ e q, sKn T p ns lo hi = .inl (e, q) ∧ rv = some (.int (Int32.ofInt (-1))) ∧ l = th7 b kd pl vl ky len tok cur tak tl (Int32.ofNat e) (Int32.ofNat q) z)) := by
  have b3 := hT.2.2.1 p
  have hx0 := ix_nat (i := s) (n := 5) (by omega) (by decide)
  have hx1 : nj_ix (Int32.ofNat s + Int32.ofInt 1) 5 = true ∧ (Int32.ofNat s + Int32.ofInt 1).toNatClampNeg = s + 1 := by rw [i32_succ]; exact ix_nat (by omega) (by decide)
  have hc : nj_cmp .eq (Int32.ofNat (T p).1) 2 = decide ((T p).1 = 2) := (cmp_nat (i := (T p).1) (j := 2) (by omega) (by omega)).2.2.2.2.1
  refine mS_of rfl (fun h0 => ?_)
  refine xw_go nostop 10 (fun K e => e _ _ _ _ (kT_call rfl rfl rfl rfl (r_kind hT h) ⟨rfl, rfl, rfl, rfl, rfl, rfl, trivial⟩ rfl rfl (fun rv l1 hP _ => ?_)))
  obtain ⟨rfl, rfl⟩ := hP
  refine xw_go nostop 10 (fun K e => And.intro (fun c => e _ _ _ _ (kT_call rfl rfl rfl rfl (r_value hT h) ⟨rfl, rfl, rfl, rfl, rfl, rfl, trivial⟩ rfl rfl (fun rv l1 hP _ => ?_))) (fun c => e _ _ _ _ (kT_call rfl rfl rfl rfl (r_fails hT h _) ⟨rfl, rfl, rfl, rfl, rfl, rfl, trivial⟩ rfl rfl (fun rv l1 hP _ => ?_))))
  · obtain ⟨rfl, rfl⟩ := hP
    have e2 : (T p).1 = 2 := of_decide_eq_true (hc.symm.trans c)
    obtain ⟨w1, w2, w3⟩ := hT.2.2.2.1 p e2
    have etv : tv (T p) = e32 (T p).2.2.1 0 := by unfold tv; rw [if_neg (by omega)]
    have hsf := sf_ok hn w1 w2
    rw [← etv] at hsf
    refine xw_go nostop 10 (fun K e => e _ _ _ _ (kT_call rfl rfl rfl rfl (s_slotOf7 _) sub7_h rfl rfl (fun rv l1 hP _ => ?_)))
    obtain ⟨rfl, rfl⟩ := hP
    rw [hsf]
    have hfail : (∃ q, sKn T p ns lo hi = .inl (3, q) ∧ q = (T p).2.1) → kT nj_M nX0 L xs (d + 1) nm_40 (mQ (th7 b kd pl vl ky len tok cur tak tl fk fp z) (fun rv l => (∃ k, sKn T p ns lo hi = .inr k ∧ k < hi - lo ∧ rv = some (.int (Int32.ofNat k)) ∧ l = th7 b kd pl vl ky len tok cur tak tl fk fp z) ∨ (∃ e q, sKn T p ns lo hi = .inl (e, q) ∧ rv = some (.int (Int32.ofInt (-1))) ∧ l = th7 b kd pl vl ky len tok cur tak tl (Int32.ofNat e) (Int32.ofNat q) z)) h0) (hk (th7 b kd pl vl ky len tok cur tak tl fk fp z)) h0 45 [(0, .ref 7), (1, .ref 1), (2, .int (Int32.ofNat s)), (3, .int (oI (ns.findIdx? (fun k => k == (T p).2.2.1))))] [] (th7 b kd pl vl ky len tok cur tak tl fk fp z) := by
      rintro ⟨q, hq, rfl⟩
      refine xw_go nostop 10 (fun K e => e _ _ _ _ (kT_call rfl rfl rfl rfl (r_fails hT h _) ⟨rfl, rfl, rfl, rfl, rfl, rfl, trivial⟩ rfl rfl (fun rv l1 hP _ => ?_)))
      obtain ⟨rfl, rfl⟩ := hP
      exact xw_go nostop 10 (fun K e => e _ _ _ _ (kT_end rfl rfl (Or.inr ⟨3, _, hq, rfl, rfl⟩)))
    refine xw_go (fun pc => pc == 45) 20 (fun K e => And.intro hx0.1 (And.intro (fun c1 => e _ _ _ _ (kT_sort rfl (hfail ?_))) (fun c1 => And.intro hx1.1 (And.intro (fun c2 => And.intro hx0.1 (e _ _ _ _ (kT_end rfl (ret_i _) (Or.inl ?_)))) (fun c2 => e _ _ _ _ (kT_sort rfl (hfail ?_)))))))
    · have c' : nj_cmp .lt (oI (ns.findIdx? (fun k => k == (T p).2.2.1))) (nj_fs.getD (Int32.ofNat s).toNatClampNeg 0) = true := c1
      rw [hx0.2, f0] at c'
      refine ⟨_, ?_, rfl⟩
      unfold sKn
      rw [if_neg (fun y => y e2)]
      cases hfi : ns.findIdx? (fun k => k == (T p).2.2.1) with
      | none => rfl
      | some k =>
        rw [hfi] at c'
        have hk26 : k < ns.length := (List.findIdx?_eq_some_iff_findIdx_eq.mp hfi).1
        rw [hn.1] at hk26
        have := of_decide_eq_true ((cmp_nat (i := k) (j := lo) (by omega) (by omega)).2.1.symm.trans c')
        show (if lo ≤ k ∧ k < hi then _ else _) = _
        rw [if_neg (by omega)]
    · have c' : nj_cmp .lt (oI (ns.findIdx? (fun k => k == (T p).2.2.1))) (nj_fs.getD (Int32.ofNat s).toNatClampNeg 0) = false := c1
      have c'' : nj_cmp .lt (oI (ns.findIdx? (fun k => k == (T p).2.2.1))) (nj_fs.getD (Int32.ofNat s + Int32.ofInt 1).toNatClampNeg 0) = true := c2
      rw [hx0.2, f0] at c'
      rw [hx1.2, f1] at c''
      show ∃ k, _
      cases hfi : ns.findIdx? (fun k => k == (T p).2.2.1) with
      | none =>
        rw [hfi] at c'
        exfalso
        have y := of_decide_eq_false (show decide (Int32.ofInt (-1) < Int32.ofNat lo) = false from c')
        apply y
        rw [Int32.lt_iff_toInt_lt, i32_small (by omega)]
        have : (Int32.ofInt (-1)).toInt = -1 := rfl
        omega
      | some k =>
        rw [hfi] at c' c''
        have hk26 : k < ns.length := (List.findIdx?_eq_some_iff_findIdx_eq.mp hfi).1
        rw [hn.1] at hk26
        have y1 := of_decide_eq_false ((cmp_nat (i := k) (j := lo) (by omega) (by omega)).2.1.symm.trans c')
        have y2 := of_decide_eq_true ((cmp_nat (i := k) (j := hi) (by omega) (by omega)).2.1.symm.trans c'')
        refine ⟨k - lo, ?_, by omega, ?_, rfl⟩
        · unfold sKn
          rw [if_neg (fun y => y e2), hfi]
          show (if lo ≤ k ∧ k < hi then _ else _) = _
          rw [if_pos ⟨by omega, y2⟩]
        · show some (Value.int (Int32.ofNat k - nj_fs.getD (Int32.ofNat s).toNatClampNeg 0)) = _
          rw [hx0.2, f0]
          congr 2
          apply Int32.toInt_inj.mp
          rw [Int32.toInt_sub, i32_small (by omega), i32_small (by omega), i32_small (by omega)]
          rw [Int.bmod_eq_of_le (by omega) (by omega)]
          omega
    · have c'' : nj_cmp .lt (oI (ns.findIdx? (fun k => k == (T p).2.2.1))) (nj_fs.getD (Int32.ofNat s + Int32.ofInt 1).toNatClampNeg 0) = false := c2
      rw [hx1.2, f1] at c''
      refine ⟨_, ?_, rfl⟩
      unfold sKn
      rw [if_neg (fun y => y e2)]
      cases hfi : ns.findIdx? (fun k => k == (T p).2.2.1) with
      | none => rfl
      | some k =>
        rw [hfi] at c''
        have hk26 : k < ns.length := (List.findIdx?_eq_some_iff_findIdx_eq.mp hfi).1
        rw [hn.1] at hk26
        have := of_decide_eq_false ((cmp_nat (i := k) (j := hi) (by omega) (by omega)).2.1.symm.trans c'')
        show (if lo ≤ k ∧ k < hi then _ else _) = _
        rw [if_neg (by omega)]
  · obtain ⟨rfl, rfl⟩ := hP
    have e2 : ¬ (T p).1 = 2 := of_decide_eq_false (hc.symm.trans c)
    refine xw_go nostop 10 (fun K e => e _ _ _ _ (kT_end rfl rfl (Or.inr ⟨1, _, ?_, rfl, rfl⟩)))
    unfold sKn
    rw [if_pos e2]
theorem sKn_3 {N : List (List Nat) × List (List Nat) × List (List Nat) × List (List Nat)} (hT : tkOk T) (h : nmOk N) : sKn T p (nsl N) 16 22 = kn3 T p N.2.2.1 := by
  unfold sKn kn3
  by_cases e : (T p).1 = 2
  · rw [if_neg (fun y => y e), if_neg (fun y => y e)]
    have hw := (hT.2.2.2.1 p e).2.2
    obtain ⟨l1, l2, l3, l4, hnd, -⟩ := id h
    have nd1 := List.nodup_append.mp (show (N.1 ++ (N.2.1 ++ (N.2.2.1 ++ N.2.2.2))).Nodup from hnd)
    have nd2 := List.nodup_append.mp nd1.2.1
    show (match fi (nsl N) (T p).2.2.1 with | some k => _ | none => _) = _
    rw [fi_nsl h hw]
    cases h1 : fi N.1 (T p).2.2.1 with
    | some i =>
      have k1 := (fi_some h1).1
      have m1 := (fi_some h1).2.1
      have h3 : fi N.2.2.1 (T p).2.2.1 = none := fi_none.mpr (fun m2 => nd1.2.2 _ m1 _ (List.mem_append.mpr (Or.inr (List.mem_append.mpr (Or.inl m2)))) rfl)
      show (if 16 ≤ i ∧ i < 22 then _ else _) = (match fi N.2.2.1 (T p).2.2.1 with | some k => _ | none => _)
      rw [h3, if_neg (by omega)]
    | none =>
      cases h2 : fi N.2.1 (T p).2.2.1 with
      | some i =>
        have k1 := (fi_some h2).1
        have m1 := (fi_some h2).2.1
        have h3 : fi N.2.2.1 (T p).2.2.1 = none := fi_none.mpr (fun m2 => nd2.2.2 _ m1 _ (List.mem_append.mpr (Or.inl m2)) rfl)
        show (if 16 ≤ i + 6 ∧ i + 6 < 22 then _ else _) = (match fi N.2.2.1 (T p).2.2.1 with | some k => _ | none => _)
        rw [h3, if_neg (by omega)]
      | none =>
        cases h3 : fi N.2.2.1 (T p).2.2.1 with
        | some i =>
          have k1 := (fi_some h3).1
          show (if 16 ≤ i + 16 ∧ i + 16 < 22 then Sum.inr (i + 16 - 16) else _) = Sum.inr i
          rw [if_pos (by omega), Nat.add_sub_cancel]
        | none =>
          cases h4 : fi N.2.2.2 (T p).2.2.1 with
          | some i =>
            show (if 16 ≤ i + 22 ∧ i + 22 < 22 then _ else _) = _
            rw [if_neg (by omega)]
          | none => rfl
  · rw [if_pos e, if_pos e]
theorem r_pers7 (hT : tkOk T) (h : txR T kd pl vl tok cur p) {N : List (List Nat) × List (List Nat) × List (List Nat) × List (List Nat)} (hN : nmOk N) (hn : nmR z.2.1 (nsl N)) : mS nj_M nX0 L xs (d + 1) 40 [.ref 7, .ref 1, .int (Int32.ofNat 1)] (th7 b kd pl vl ky len tok cur tak tl fk fp z) (fun rv l => (∃ k, sKno T p N.2.1 = .inr (p, k) ∧ k < N.2.1.length ∧ rv = some (.int (Int32.ofNat k)) ∧ l = th7 b kd pl vl ky len tok cur tak tl fk fp z) ∨ (∃ e q, sKno T p N.2.1 = .inl (e, q) ∧ rv = some (.int (Int32.ofInt (-1))) ∧ l = th7 b kd pl vl ky len tok cur tak tl (Int32.ofNat e) (Int32.ofNat q) z)) := by
  refine mS_mono (r_known7 (s := 1) (lo := 6) (hi := 16) hT h hn (by decide) rfl rfl (by decide) (by decide)) ?_
  have e1 := sKn_2 (p := p) hT hN
  have e2 := sKno_ok (T := T) (p := p) N.2.1
  rw [← e1] at e2
  rintro rv l (⟨k, e3, hk, rfl, rfl⟩ | ⟨e, q, e3, rfl, rfl⟩)
  · exact Or.inl ⟨k, by rw [e2, e3]; rfl, kn3_lt (e1.symm.trans e3), rfl, rfl⟩
  · exact Or.inr ⟨e, q, by rw [e2, e3]; rfl, rfl, rfl⟩
theorem r_errs7 (hT : tkOk T) (h : txR T kd pl vl tok cur p) {N : List (List Nat) × List (List Nat) × List (List Nat) × List (List Nat)} (hN : nmOk N) (hn : nmR z.2.1 (nsl N)) : mS nj_M nX0 L xs (d + 1) 40 [.ref 7, .ref 1, .int (Int32.ofNat 2)] (th7 b kd pl vl ky len tok cur tak tl fk fp z) (fun rv l => (∃ k, sKno T p N.2.2.1 = .inr (p, k) ∧ k < N.2.2.1.length ∧ rv = some (.int (Int32.ofNat k)) ∧ l = th7 b kd pl vl ky len tok cur tak tl fk fp z) ∨ (∃ e q, sKno T p N.2.2.1 = .inl (e, q) ∧ rv = some (.int (Int32.ofInt (-1))) ∧ l = th7 b kd pl vl ky len tok cur tak tl (Int32.ofNat e) (Int32.ofNat q) z)) := by
  refine mS_mono (r_known7 (s := 2) (lo := 16) (hi := 22) hT h hn (by decide) rfl rfl (by decide) (by decide)) ?_
  have e1 := sKn_3 (p := p) hT hN
  have e2 := sKno_ok (T := T) (p := p) N.2.2.1
  rw [← e1] at e2
  rintro rv l (⟨k, e3, hk, rfl, rfl⟩ | ⟨e, q, e3, rfl, rfl⟩)
  · exact Or.inl ⟨k, by rw [e2, e3]; rfl, kn3_lt (e1.symm.trans e3), rfl, rfl⟩
  · exact Or.inr ⟨e, q, by rw [e2, e3]; rfl, rfl, rfl⟩
end HS7
