/-! the class begins a life, closes the text, and tells a family -/
abbrev Lf : Type := (Nat → Int32) × (Nat → Int32) × (Nat → Int32) × (Nat → Int32) × (Nat → Int32) × Int32 × Int32 × Int32 × Int32 × Int32 × Int32 × Int32
abbrev lfP (x : Lf) : nL := [(37, .inr (2, [.ref 38, .ref 39, .ref 40, .ref 41, .ref 42, .int x.2.2.2.2.2.1, .int x.2.2.2.2.2.2.1, .int x.2.2.2.2.2.2.2.1, .int x.2.2.2.2.2.2.2.2.1, .int x.2.2.2.2.2.2.2.2.2.1, .int x.2.2.2.2.2.2.2.2.2.2.1, .int x.2.2.2.2.2.2.2.2.2.2.2])), (38, .inl (0, 6, .inl x.1)), (39, .inl (0, 6, .inl x.2.1)), (40, .inl (0, 6, .inl x.2.2.1)), (41, .inl (0, 10, .inl x.2.2.2.1)), (42, .inl (0, 12, .inl x.2.2.2.2.1))]
abbrev slP (u : Nat → Value) (lf : Int32) : nL := [(0, .inr (8, [.ref 1, .ref 7, .ref 22, .ref 37, u 4, .ref 49, u 6, u 7, .ref 63, u 9, u 10, u 11, u 12, u 13, .int lf, u 15, u 16]))]
abbrev phP (u : Nat → Value) (pl po : Int32) : nL := [(49, .inr (4, [u 20, u 21, u 22, u 23, .int pl, .int po]))]
abbrev paP (u : Nat → Value) (pc pn : Int32) : nL := [(63, .inr (3, [u 24, .int pc, .int pn]))]
abbrev fmP (u : Nat → Value) (lf : Int32) (tx : nL) (y z : Ho) (x : Lf) (pl po pc pn : Int32) : nL := slP u lf ++ (tx ++ (hoQ y ++ (hoP z ++ (lfP x ++ (phP u pl po ++ paP u pc pn)))))
section CFN
variable {L : Nat} {xs : Nat → Int32} {d : Nat} {b kd pl : Nat → Int32} {vl ky : Nat → Int64} {len tok cur tak tl fk fp : Int32} {z y : Ho} {x : Lf} {u : Nat → Value} {lf p1 p2 p3 p4 : Int32}
theorem f_40_loop {v : Int32} {f0 : Nat → Int32} {h0 : List nC} : ∀ (r i : Nat) (f : Nat → Int32), i + r = 6 → (∀ j, j < i → f j = v) → kT nj_M nX0 L xs d nm_17 (mQ [(40, .inl (0, 6, .inl f0))] (fun rv l => rv = none ∧ ∃ g : Nat → Int32, (∀ j, j < 6 → g j = v) ∧ l = [(40, .inl (0, 6, .inl g))]) h0) (hk [(40, .inl (0, 6, .inl f0))]) h0 5 [(0, .ref 40), (1, .int v), (2, .int (Int32.ofNat i)), (3, .int (Int32.ofNat 6))] [] [(40, .inl (0, 6, .inl f))] := by
  intro r
  induction r with
  | zero =>
    intro i f hi hf
    have e : i = 6 := by omega
    subst e
    exact xw_go nostop 10 (fun K e => And.intro (fun _ => e _ _ _ _ (kT_end rfl rfl ⟨rfl, f, hf, rfl⟩)) (fun c => nomatch (show true = false from c)))
  | succ r ih =>
    intro i f hi hf
    have hx := ix_nat (i := i) (n := 6) (by omega) (by decide)
    have h := ih (i + 1) (upd f (Int32.ofNat i).toNatClampNeg v) (by omega) (fun j hj => by
      rw [hx.2]
      by_cases e : j = i
      · exact if_pos e
      · exact (if_neg e).trans (hf j (by omega)))
    rw [← i32_succ] at h
    exact xw_go (fun pc => pc == 5) 12 (fun K e => And.intro (fun c => absurd (of_decide_eq_true ((cmp_nat (i := i) (j := 6) (by omega) (by omega)).1.symm.trans c)) (by omega)) (fun _ => And.intro hx.1 (e _ _ _ _ (kT_sort rfl h))))
theorem f_40 {v : Int32} {f : Nat → Int32} : mS nj_M nX0 L xs d 17 [.ref 40, .int v] [(40, .inl (0, 6, .inl f))] (fun rv l => rv = none ∧ ∃ g : Nat → Int32, (∀ j, j < 6 → g j = v) ∧ l = [(40, .inl (0, 6, .inl g))]) :=
  mS_of rfl (fun h0 => xw_go (fun pc => pc == 5) 8 (fun K e => e _ _ _ _ (kT_sort rfl (f_40_loop 6 0 f rfl (fun j hj => absurd hj (Nat.not_lt_zero j))))))
theorem f_41_loop {v : Int32} {f0 : Nat → Int32} {h0 : List nC} : ∀ (r i : Nat) (f : Nat → Int32), i + r = 10 → (∀ j, j < i → f j = v) → kT nj_M nX0 L xs d nm_17 (mQ [(41, .inl (0, 10, .inl f0))] (fun rv l => rv = none ∧ ∃ g : Nat → Int32, (∀ j, j < 10 → g j = v) ∧ l = [(41, .inl (0, 10, .inl g))]) h0) (hk [(41, .inl (0, 10, .inl f0))]) h0 5 [(0, .ref 41), (1, .int v), (2, .int (Int32.ofNat i)), (3, .int (Int32.ofNat 10))] [] [(41, .inl (0, 10, .inl f))] := by
  intro r
  induction r with
  | zero =>
    intro i f hi hf
    have e : i = 10 := by omega
    subst e
    exact xw_go nostop 10 (fun K e => And.intro (fun _ => e _ _ _ _ (kT_end rfl rfl ⟨rfl, f, hf, rfl⟩)) (fun c => nomatch (show true = false from c)))
  | succ r ih =>
    intro i f hi hf
    have hx := ix_nat (i := i) (n := 10) (by omega) (by decide)
    have h := ih (i + 1) (upd f (Int32.ofNat i).toNatClampNeg v) (by omega) (fun j hj => by
      rw [hx.2]
      by_cases e : j = i
      · exact if_pos e
      · exact (if_neg e).trans (hf j (by omega)))
    rw [← i32_succ] at h
    exact xw_go (fun pc => pc == 5) 12 (fun K e => And.intro (fun c => absurd (of_decide_eq_true ((cmp_nat (i := i) (j := 10) (by omega) (by omega)).1.symm.trans c)) (by omega)) (fun _ => And.intro hx.1 (e _ _ _ _ (kT_sort rfl h))))
theorem f_41 {v : Int32} {f : Nat → Int32} : mS nj_M nX0 L xs d 17 [.ref 41, .int v] [(41, .inl (0, 10, .inl f))] (fun rv l => rv = none ∧ ∃ g : Nat → Int32, (∀ j, j < 10 → g j = v) ∧ l = [(41, .inl (0, 10, .inl g))]) :=
  mS_of rfl (fun h0 => xw_go (fun pc => pc == 5) 8 (fun K e => e _ _ _ _ (kT_sort rfl (f_41_loop 10 0 f rfl (fun j hj => absurd hj (Nat.not_lt_zero j))))))
theorem c_begin : mS nj_M nX0 L xs (d + 1) 50 [.ref 37, .ref 7] (lfP x ++ hoQ y) (fun rv l => rv = none ∧ ∃ g2 g3 : Nat → Int32, (∀ j, j < 6 → g2 j = Int32.ofInt 0) ∧ (∀ j, j < 10 → g3 j = Int32.ofInt 0) ∧ l = lfP (va_cpy y.2.2.2.2.2.2.1 x.1 0 0 6, va_cpy y.2.2.2.2.2.2.2.2.2.1 x.2.1 0 0 6, g2, g3, x.2.2.2.2.1, Int32.ofInt 0, Int32.ofNat 300, Int32.ofNat 1000, Int32.ofInt 0, Int32.ofInt 0, Int32.ofInt 0, Int32.ofInt (-1)) ++ hoQ y) := by
  refine mS_of rfl (fun h0 => ?_)
  refine xw_go nostop 20 (fun K e => e _ _ _ _ (kT_cpI rfl rfl rfl rfl rfl ?_))
  refine kT_pic (l2 := lfP (va_cpy y.2.2.2.2.2.2.1 x.1 0 0 6, x.2) ++ hoQ y) rfl ?_
  refine xw_go nostop 20 (fun K e => e _ _ _ _ (kT_cpI rfl rfl rfl rfl rfl ?_))
  refine kT_pic (l2 := lfP (va_cpy y.2.2.2.2.2.2.1 x.1 0 0 6, va_cpy y.2.2.2.2.2.2.2.2.2.1 x.2.1 0 0 6, x.2.2) ++ hoQ y) rfl ?_
  refine xw_go nostop 20 (fun K e => e _ _ _ _ (kT_call rfl rfl rfl rfl f_40 ⟨rfl, trivial⟩ rfl rfl (fun rv l1 hP _ => ?_)))
  obtain ⟨rfl, g2, h2, rfl⟩ := hP
  refine xw_go nostop 20 (fun K e => e _ _ _ _ (kT_call rfl rfl rfl rfl f_41 ⟨rfl, trivial⟩ rfl rfl (fun rv l1 hP _ => ?_)))
  obtain ⟨rfl, g3, h3, rfl⟩ := hP
  refine kT_pic (l2 := lfP (va_cpy y.2.2.2.2.2.2.1 x.1 0 0 6, va_cpy y.2.2.2.2.2.2.2.2.2.1 x.2.1 0 0 6, g2, g3, x.2.2.2.2) ++ hoQ y) rfl ?_
  exact xw_go nostop 40 (fun K e => And.intro rfl (And.intro rfl (And.intro rfl (And.intro rfl (And.intro rfl (And.intro rfl (And.intro rfl (e _ _ _ _ (kT_end rfl rfl ⟨rfl, g2, g3, h2, h3, rfl⟩)))))))))
theorem c_close : mS nj_M nX0 L xs d 48 [.ref 0] (slP u lf ++ txP b kd pl vl ky len tok cur tak tl fk fp) (fun rv l => rv = none ∧ l = slP u fk ++ txP b kd pl vl ky 0 tok cur tak tl fk fp) :=
  mS_of rfl (fun h0 => xw_go nostop 20 (fun K e => And.intro rfl (And.intro rfl (e _ _ _ _ (kT_end rfl rfl ⟨rfl, rfl⟩)))))
theorem c_clear1 : mS nj_M nX0 L xs d 51 [.ref 49] (phP u p1 p2) (fun rv l => rv = none ∧ l = phP u 0 0) :=
  mS_of rfl (fun h0 => xw_go nostop 20 (fun K e => And.intro rfl (And.intro rfl (e _ _ _ _ (kT_end rfl rfl ⟨rfl, rfl⟩)))))
theorem c_clear2 : mS nj_M nX0 L xs d 52 [.ref 63] (paP u p3 p4) (fun rv l => rv = none ∧ l = paP u 0 p4) :=
  mS_of rfl (fun h0 => xw_go nostop 20 (fun K e => And.intro rfl (e _ _ _ _ (kT_end rfl rfl ⟨rfl, rfl⟩))))
/-- what family leaves in the class -/
abbrev pCf (u : Nat → Value) (b : Nat → Int32) (ky : Nat → Int64) (tl : Int32) (y : Ho) (x : Lf) (p1 p2 p3 p4 : Int32) (R : (Nat × Nat) ⊕ (Hs × Nat)) : Option Value → nL → Prop := fun rv l => rv = some (.int (fAns R)) ∧ ∃ kd pl vl tok cur tak fp z, ((∃ e p, R = .inl (e, p) ∧ l = fmP u (Int32.ofNat e) (txP b kd pl vl ky 0 tok cur tak tl (Int32.ofNat e) fp) y z x p1 p2 p3 p4) ∨ (∃ H ln g2 g3, R = .inr (H, ln) ∧ hoR H z ∧ hLi z = Int32.ofNat ln ∧ (∀ j, j < 6 → g2 j = Int32.ofInt 0) ∧ (∀ j, j < 10 → g3 j = Int32.ofInt 0) ∧ l = fmP u 0 (txP b kd pl vl ky 0 tok cur tak tl 0 fp) (cpH z y) z (va_cpy (cpH z y).2.2.2.2.2.2.1 x.1 0 0 6, va_cpy (cpH z y).2.2.2.2.2.2.2.2.2.1 x.2.1 0 0 6, g2, g3, x.2.2.2.2.1, Int32.ofInt 0, Int32.ofNat 300, Int32.ofNat 1000, Int32.ofInt 0, Int32.ofInt 0, Int32.ofInt 0, Int32.ofInt (-1)) 0 0 0 p4))
set_option maxHeartbeats 4000000 in
theorem c_family {n : Nat} (hn : n ≤ 940) (hky : keysOk ky) : mS nj_M nX0 L xs (d + 6) 21 [.ref 0] (fmP u lf (txP b kd pl vl ky (Int32.ofNat n) tok cur tak tl fk fp) y z x p1 p2 p3 p4) (pCf u b ky (b01 (decide (900 < n))) y x p1 p2 p3 p4 (sFam (tk b n 900) (decide (900 < n)) 901 0 Hs0 0)) := by
  refine mS_of rfl (fun h0 => ?_)
  refine xw_go nostop 20 (fun K e => e _ _ _ _ (kT_call rfl rfl rfl rfl (r_read (b := b) (kd := kd) (pl := pl) (vl := vl) (tok := tok) (cur := cur) (tak := tak) (tl := tl) (fk := fk) (fp := fp) (z := z) hn hky) ⟨rfl, rfl, rfl, rfl, rfl, rfl, rfl, rfl, rfl, rfl, rfl, rfl, rfl, rfl, rfl, rfl, rfl, rfl, rfl, rfl, rfl, trivial⟩ rfl rfl (fun rv l1 hP _ => ?_)))
  obtain ⟨kd1, pl1, vl1, tok1, cur1, tak1, fk1, fp1, z1, rfl, hR⟩ := hP
  refine kT_pic (l2 := fmP u lf (txP b kd1 pl1 vl1 ky (Int32.ofNat n) tok1 cur1 tak1 (b01 (decide (900 < n))) fk1 fp1) y z1 x p1 p2 p3 p4) rfl ?_
  rcases hR with ⟨H, ln, e1, hln, rfl, hH, hli, rfl⟩ | ⟨e, p, e1, rfl, rfl, rfl⟩
  · refine xw_go nostop 20 (fun K e => e _ _ _ _ (kT_call rfl rfl rfl rfl (c_close (u := u) (lf := lf) (b := b) (kd := kd1) (pl := pl1) (vl := vl1) (ky := ky) (len := Int32.ofNat n) (tok := tok1) (cur := cur1) (tak := tak1) (tl := b01 (decide (900 < n))) (fk := 0) (fp := fp1)) ⟨rfl, rfl, rfl, rfl, rfl, rfl, rfl, trivial⟩ rfl rfl (fun rv l1 hP _ => ?_)))
    obtain ⟨rfl, rfl⟩ := hP
    refine kT_pic (l2 := fmP u 0 (txP b kd1 pl1 vl1 ky 0 tok1 cur1 tak1 (b01 (decide (900 < n))) 0 fp1) y z1 x p1 p2 p3 p4) rfl ?_
    refine xw_go nostop 20 (fun K e => And.intro (fun _ => e _ _ _ _ (kT_call rfl rfl rfl rfl (c_copy (z := z1) (y := y)) ⟨rfl, rfl, rfl, rfl, rfl, rfl, rfl, rfl, rfl, rfl, rfl, rfl, rfl, rfl, rfl, rfl, rfl, rfl, rfl, rfl, rfl, rfl, rfl, rfl, rfl, rfl, rfl, rfl, rfl, rfl, trivial⟩ rfl rfl (fun rv l1 hP _ => ?_))) (fun c => nomatch (show true = false from c)))
    obtain ⟨rfl, rfl⟩ := hP
    refine kT_pic (l2 := fmP u 0 (txP b kd1 pl1 vl1 ky 0 tok1 cur1 tak1 (b01 (decide (900 < n))) 0 fp1) (cpH z1 y) z1 x p1 p2 p3 p4) rfl ?_
    refine xw_go nostop 20 (fun K e => e _ _ _ _ (kT_call rfl rfl rfl rfl (c_begin (x := x) (y := cpH z1 y)) ⟨rfl, rfl, rfl, rfl, rfl, rfl, rfl, rfl, rfl, rfl, rfl, rfl, rfl, rfl, rfl, rfl, rfl, rfl, rfl, rfl, rfl, trivial⟩ rfl rfl (fun rv l1 hP _ => ?_)))
    obtain ⟨rfl, g2, g3, h2, h3, rfl⟩ := hP
    refine xw_go nostop 20 (fun K e => e _ _ _ _ (kT_call rfl rfl rfl rfl (c_clear1 (u := u) (p1 := p1) (p2 := p2)) ⟨rfl, trivial⟩ rfl rfl (fun rv l1 hP _ => ?_)))
    obtain ⟨rfl, rfl⟩ := hP
    refine xw_go nostop 20 (fun K e => e _ _ _ _ (kT_call rfl rfl rfl rfl (c_clear2 (u := u) (p3 := p3) (p4 := p4)) ⟨rfl, trivial⟩ rfl rfl (fun rv l1 hP _ => ?_)))
    obtain ⟨rfl, rfl⟩ := hP
    refine xw_go nostop 20 (fun K e => e _ _ _ _ (kT_end rfl (ret_i _) ⟨?_, kd1, pl1, vl1, tok1, cur1, tak1, fp1, z1, Or.inr ⟨H, ln, g2, g3, e1, hH, hli, h2, h3, rfl⟩⟩))
    rw [e1]
    exact congrArg (fun v => some (Value.int v)) hli
  · refine xw_go nostop 20 (fun K e9 => e9 _ _ _ _ (kT_call rfl rfl rfl rfl (c_close (u := u) (lf := lf) (b := b) (kd := kd1) (pl := pl1) (vl := vl1) (ky := ky) (len := Int32.ofNat n) (tok := tok1) (cur := cur1) (tak := tak1) (tl := b01 (decide (900 < n))) (fk := Int32.ofNat e) (fp := Int32.ofNat p)) ⟨rfl, rfl, rfl, rfl, rfl, rfl, rfl, trivial⟩ rfl rfl (fun rv l1 hP _ => ?_)))
    obtain ⟨rfl, rfl⟩ := hP
    refine kT_pic (l2 := fmP u (Int32.ofNat e) (txP b kd1 pl1 vl1 ky 0 tok1 cur1 tak1 (b01 (decide (900 < n))) (Int32.ofNat e) (Int32.ofNat p)) y z1 x p1 p2 p3 p4) rfl ?_
    refine xw_go nostop 20 (fun K e9 => And.intro (fun c => nomatch (show false = true from c)) (fun _ => e9 _ _ _ _ (kT_end rfl (ret_i _) ⟨?_, kd1, pl1, vl1, tok1, cur1, tak1, Int32.ofNat p, z1, Or.inl ⟨e, p, e1, rfl⟩⟩)))
    rw [e1]
    rfl
end CFN
