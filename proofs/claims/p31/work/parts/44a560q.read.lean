/-! the class reads a line, and a whole family -/
theorem kT_pure {M : Nat → Option nM} {X : nX} {L : Nat} {xs : Nat → Int32} {d : Nat} {mt : nM} {Q : Option Value → List nC → Prop} {ks : List Nat} {h0 : List nC} {pc : Nat} {lv : nLv} {st : List Value} {l : nL} {q : Nat} {i : Instr} {a b : Nat} {v : Int} {pos pc1 : Nat} {lv1 : nLv} {st1 : List Value} (hf : mt.2.2.2.2.2.find? (fun q => q.1 == pc) = some (q, i, a, b, v, pos)) (hr : nj_ret mt.2.2.2.1 i st = none) (hp : nj_pure lv mt.2.2.1 pc st i = some (pc1, lv1, st1)) (k : kT M X L xs d mt Q ks h0 pc1 lv1 st1 l) : kT M X L xs d mt Q ks h0 pc lv st l := fun hks h hh hfr => nT_pure hf hr hp (k hks h hh hfr)
section RDL
variable {L : Nat} {xs : Nat → Int32} {d : Nat} {b kd pl : Nat → Int32} {vl ky : Nat → Int64} {len tok cur tak tl fk fp : Int32} {T : Nat → Tk} {p : Nat} {z : Ho} {H : Hs}
theorem r_line (hT : tkOk T) (h : txR T kd pl vl tok cur p) (hH : hoR H z) : mS nj_M nX0 L xs (d + 4) 32 [.ref 22, .ref 1] (th b kd pl vl ky len tok cur tak tl fk fp z) (pLn T b kd pl vl ky len tok tl fk fp z (sLine T p H)) := by
  have b3 := hT.2.2.1 p
  refine mS_of rfl (fun h0 => ?_)
  refine xw_go nostop 20 (fun K e => e _ _ _ _ (kT_call rfl rfl rfl rfl (r_kind hT h) ⟨rfl, rfl, rfl, rfl, rfl, rfl, trivial⟩ rfl rfl (fun rv l1 hP _ => ?_)))
  obtain ⟨rfl, rfl⟩ := hP
  have hdef : sLine T p H = .inl (1, (T p).2.1) → kT nj_M nX0 L xs (d + 4) nm_32 (mQ (th b kd pl vl ky len tok cur tak tl fk fp z) (pLn T b kd pl vl ky len tok tl fk fp z (sLine T p H)) h0) (hk (th b kd pl vl ky len tok cur tak tl fk fp z)) h0 85 [(0, .ref 22), (1, .ref 1)] [] (th b kd pl vl ky len tok cur tak tl fk fp z) := by
    intro hs
    refine xw_go nostop 20 (fun K e => e _ _ _ _ (kT_call rfl rfl rfl rfl (r_fails hT h _) ⟨rfl, rfl, rfl, rfl, rfl, rfl, trivial⟩ rfl rfl (fun rv l1 hP _ => ?_)))
    obtain ⟨rfl, rfl⟩ := hP
    exact xw_go nostop 20 (fun K e => e _ _ _ _ (kT_end rfl rfl (Or.inr ⟨1, _, z, cur, tak, hs, rfl, rfl⟩)))
  by_cases k100 : (T p).1 = 100
  · rw [k100]
    have hs : sLine T p H = sStep T p H := by
      unfold sLine
      rw [if_pos k100]
    rw [hs]
    refine kT_pure rfl rfl (show nj_pure _ _ _ _ _ = some (48, [(0, .ref 22), (1, .ref 1)], []) from rfl) ?_
    refine xw_go nostop 20 (fun K e => e _ _ _ _ (kT_call rfl rfl rfl rfl (r_step hT h hH) ⟨rfl, rfl, rfl, rfl, rfl, rfl, rfl, rfl, rfl, rfl, rfl, rfl, rfl, rfl, rfl, rfl, rfl, rfl, rfl, rfl, rfl, trivial⟩ rfl rfl (fun rv l1 hP _ => ?_)))
    rcases hP with ⟨q, H1, z1, cur1, tak1, e1, rfl, h1, hH1, hl1, rfl⟩ | ⟨e, q, z1, cur1, tak1, e1, rfl, rfl⟩
    · exact xw_go nostop 20 (fun K e => e _ _ _ _ (kT_end rfl rfl (Or.inl ⟨q, H1, z1, cur1, tak1, e1, rfl, h1, hH1, hl1, rfl⟩)))
    · exact xw_go nostop 20 (fun K e2 => e2 _ _ _ _ (kT_end rfl rfl (Or.inr ⟨e, q, z1, cur1, tak1, e1, rfl, rfl⟩)))
  by_cases k101 : (T p).1 = 101
  · rw [k101]
    have hs : sLine T p H = sPers T p H := by
      unfold sLine
      rw [if_neg k100, if_pos k101]
    rw [hs]
    refine kT_pure rfl rfl (show nj_pure _ _ _ _ _ = some (55, [(0, .ref 22), (1, .ref 1)], []) from rfl) ?_
    refine xw_go nostop 20 (fun K e => e _ _ _ _ (kT_call rfl rfl rfl rfl (r_person hT h hH) ⟨rfl, rfl, rfl, rfl, rfl, rfl, rfl, rfl, rfl, rfl, rfl, rfl, rfl, rfl, rfl, rfl, rfl, rfl, rfl, rfl, rfl, trivial⟩ rfl rfl (fun rv l1 hP _ => ?_)))
    rcases hP with ⟨q, H1, z1, cur1, tak1, e1, rfl, h1, hH1, hl1, rfl⟩ | ⟨e, q, z1, cur1, tak1, e1, rfl, rfl⟩
    · exact xw_go nostop 20 (fun K e => e _ _ _ _ (kT_end rfl rfl (Or.inl ⟨q, H1, z1, cur1, tak1, e1, rfl, h1, hH1, hl1, rfl⟩)))
    · exact xw_go nostop 20 (fun K e2 => e2 _ _ _ _ (kT_end rfl rfl (Or.inr ⟨e, q, z1, cur1, tak1, e1, rfl, rfl⟩)))
  by_cases k103 : (T p).1 = 103
  · rw [k103]
    have hs : sLine T p H = sGod T p H := by
      unfold sLine
      rw [if_neg k100, if_neg k101, if_pos k103]
    rw [hs]
    refine kT_pure rfl rfl (show nj_pure _ _ _ _ _ = some (61, [(0, .ref 22), (1, .ref 1)], []) from rfl) ?_
    refine xw_go nostop 20 (fun K e => e _ _ _ _ (kT_call rfl rfl rfl rfl (r_god hT h hH) ⟨rfl, rfl, rfl, rfl, rfl, rfl, rfl, rfl, rfl, rfl, rfl, rfl, rfl, rfl, rfl, rfl, rfl, rfl, rfl, rfl, rfl, trivial⟩ rfl rfl (fun rv l1 hP _ => ?_)))
    rcases hP with ⟨q, H1, z1, cur1, tak1, e1, rfl, h1, hH1, hl1, rfl⟩ | ⟨e, q, z1, cur1, tak1, e1, rfl, rfl⟩
    · exact xw_go nostop 20 (fun K e => e _ _ _ _ (kT_end rfl rfl (Or.inl ⟨q, H1, z1, cur1, tak1, e1, rfl, h1, hH1, hl1, rfl⟩)))
    · exact xw_go nostop 20 (fun K e2 => e2 _ _ _ _ (kT_end rfl rfl (Or.inr ⟨e, q, z1, cur1, tak1, e1, rfl, rfl⟩)))
  by_cases k104 : (T p).1 = 104
  · rw [k104]
    have hs : sLine T p H = sCare T p H := by
      unfold sLine
      rw [if_neg k100, if_neg k101, if_neg k103, if_pos k104]
    rw [hs]
    refine kT_pure rfl rfl (show nj_pure _ _ _ _ _ = some (67, [(0, .ref 22), (1, .ref 1)], []) from rfl) ?_
    refine xw_go nostop 20 (fun K e => e _ _ _ _ (kT_call rfl rfl rfl rfl (r_care hT h hH) ⟨rfl, rfl, rfl, rfl, rfl, rfl, rfl, rfl, rfl, rfl, rfl, rfl, rfl, rfl, rfl, rfl, rfl, rfl, rfl, rfl, rfl, trivial⟩ rfl rfl (fun rv l1 hP _ => ?_)))
    rcases hP with ⟨q, H1, z1, cur1, tak1, e1, rfl, h1, hH1, hl1, rfl⟩ | ⟨e, q, z1, cur1, tak1, e1, rfl, rfl⟩
    · exact xw_go nostop 20 (fun K e => e _ _ _ _ (kT_end rfl rfl (Or.inl ⟨q, H1, z1, cur1, tak1, e1, rfl, h1, hH1, hl1, rfl⟩)))
    · exact xw_go nostop 20 (fun K e2 => e2 _ _ _ _ (kT_end rfl rfl (Or.inr ⟨e, q, z1, cur1, tak1, e1, rfl, rfl⟩)))
  by_cases k105 : (T p).1 = 105
  · rw [k105]
    have hs : sLine T p H = sErr T p H := by
      unfold sLine
      rw [if_neg k100, if_neg k101, if_neg k103, if_neg k104, if_pos k105]
    rw [hs]
    refine kT_pure rfl rfl (show nj_pure _ _ _ _ _ = some (73, [(0, .ref 22), (1, .ref 1)], []) from rfl) ?_
    refine xw_go nostop 20 (fun K e => e _ _ _ _ (kT_call rfl rfl rfl rfl (r_error hT h hH) ⟨rfl, rfl, rfl, rfl, rfl, rfl, rfl, rfl, rfl, rfl, rfl, rfl, rfl, rfl, rfl, rfl, rfl, rfl, rfl, rfl, rfl, trivial⟩ rfl rfl (fun rv l1 hP _ => ?_)))
    rcases hP with ⟨q, H1, z1, cur1, tak1, e1, rfl, h1, hH1, hl1, rfl⟩ | ⟨e, q, z1, cur1, tak1, e1, rfl, rfl⟩
    · exact xw_go nostop 20 (fun K e => e _ _ _ _ (kT_end rfl rfl (Or.inl ⟨q, H1, z1, cur1, tak1, e1, rfl, h1, hH1, hl1, rfl⟩)))
    · exact xw_go nostop 20 (fun K e2 => e2 _ _ _ _ (kT_end rfl rfl (Or.inr ⟨e, q, z1, cur1, tak1, e1, rfl, rfl⟩)))
  by_cases k106 : (T p).1 = 106
  · rw [k106]
    have hs : sLine T p H = sDeed T p H := by
      unfold sLine
      rw [if_neg k100, if_neg k101, if_neg k103, if_neg k104, if_neg k105, if_pos k106]
    rw [hs]
    refine kT_pure rfl rfl (show nj_pure _ _ _ _ _ = some (79, [(0, .ref 22), (1, .ref 1)], []) from rfl) ?_
    refine xw_go nostop 20 (fun K e => e _ _ _ _ (kT_call rfl rfl rfl rfl (r_deed hT h hH) ⟨rfl, rfl, rfl, rfl, rfl, rfl, rfl, rfl, rfl, rfl, rfl, rfl, rfl, rfl, rfl, rfl, rfl, rfl, rfl, rfl, rfl, trivial⟩ rfl rfl (fun rv l1 hP _ => ?_)))
    rcases hP with ⟨q, H1, z1, cur1, tak1, e1, rfl, h1, hH1, hl1, rfl⟩ | ⟨e, q, z1, cur1, tak1, e1, rfl, rfl⟩
    · exact xw_go nostop 20 (fun K e => e _ _ _ _ (kT_end rfl rfl (Or.inl ⟨q, H1, z1, cur1, tak1, e1, rfl, h1, hH1, hl1, rfl⟩)))
    · exact xw_go nostop 20 (fun K e2 => e2 _ _ _ _ (kT_end rfl rfl (Or.inr ⟨e, q, z1, cur1, tak1, e1, rfl, rfl⟩)))
  have hs : sLine T p H = .inl (1, (T p).2.1) := by
    unfold sLine
    rw [if_neg k100, if_neg k101, if_neg k103, if_neg k104, if_neg k105, if_neg k106]
  by_cases k102 : (T p).1 = 102
  · have hd := hdef hs
    rw [k102]
    exact kT_pure rfl rfl (show nj_pure _ _ _ _ _ = some (85, [(0, .ref 22), (1, .ref 1)], []) from rfl) hd
  · have hi := i32_small (i := (T p).1) (by omega)
    refine kT_pure rfl rfl (pc1 := 85) (lv1 := [(0, .ref 22), (1, .ref 1)]) (st1 := []) ?_ (hdef hs)
    show nj_tab _ _ _ _ _ _ _ _ = _
    unfold nj_tab
    rw [if_pos (by rw [hi]; omega)]
    rfl
theorem f_23_loop {v : Int32} {f0 : Nat → Int32} {h0 : List nC} : ∀ (r i : Nat) (f : Nat → Int32), i + r = 4 → (∀ j, j < i → f j = v) → kT nj_M nX0 L xs d nm_17 (mQ [(23, .inl (0, 4, .inl f0))] (fun rv l => rv = none ∧ ∃ g : Nat → Int32, (∀ j, j < 4 → g j = v) ∧ l = [(23, .inl (0, 4, .inl g))]) h0) (hk [(23, .inl (0, 4, .inl f0))]) h0 5 [(0, .ref 23), (1, .int v), (2, .int (Int32.ofNat i)), (3, .int (Int32.ofNat 4))] [] [(23, .inl (0, 4, .inl f))] := by
  intro r
  induction r with
  | zero =>
    intro i f hi hf
    have e : i = 4 := by omega
    subst e
    exact xw_go nostop 10 (fun K e => And.intro (fun _ => e _ _ _ _ (kT_end rfl rfl ⟨rfl, f, hf, rfl⟩)) (fun c => nomatch (show true = false from c)))
  | succ r ih =>
    intro i f hi hf
    have hx := ix_nat (i := i) (n := 4) (by omega) (by decide)
    have h := ih (i + 1) (upd f (Int32.ofNat i).toNatClampNeg v) (by omega) (fun j hj => by
      rw [hx.2]
      by_cases e : j = i
      · exact if_pos e
      · exact (if_neg e).trans (hf j (by omega)))
    rw [← i32_succ] at h
    exact xw_go (fun pc => pc == 5) 12 (fun K e => And.intro (fun c => absurd (of_decide_eq_true ((cmp_nat (i := i) (j := 4) (by omega) (by omega)).1.symm.trans c)) (by omega)) (fun _ => And.intro hx.1 (e _ _ _ _ (kT_sort rfl h))))
theorem f_23 {v : Int32} {f : Nat → Int32} : mS nj_M nX0 L xs d 17 [.ref 23, .int v] [(23, .inl (0, 4, .inl f))] (fun rv l => rv = none ∧ ∃ g : Nat → Int32, (∀ j, j < 4 → g j = v) ∧ l = [(23, .inl (0, 4, .inl g))]) :=
  mS_of rfl (fun h0 => xw_go (fun pc => pc == 5) 8 (fun K e => e _ _ _ _ (kT_sort rfl (f_23_loop 4 0 f rfl (fun j hj => absurd hj (Nat.not_lt_zero j))))))
theorem f_24_loop {v : Int64} {f0 : Nat → Int64} {h0 : List nC} : ∀ (r i : Nat) (f : Nat → Int64), i + r = 26 → (∀ j, j < i → f j = v) → kT nj_M nX0 L xs d nm_23 (mQ [(24, .inl (3, 26, .inr (.inl f0)))] (fun rv l => rv = none ∧ ∃ g : Nat → Int64, (∀ j, j < 26 → g j = v) ∧ l = [(24, .inl (3, 26, .inr (.inl g)))]) h0) (hk [(24, .inl (3, 26, .inr (.inl f0)))]) h0 6 [(0, .ref 24), (1, .long v), (3, .int (Int32.ofNat i)), (4, .int (Int32.ofNat 26))] [] [(24, .inl (3, 26, .inr (.inl f)))] := by
  intro r
  induction r with
  | zero =>
    intro i f hi hf
    have e : i = 26 := by omega
    subst e
    exact xw_go nostop 10 (fun K e => And.intro (fun _ => e _ _ _ _ (kT_end rfl rfl ⟨rfl, f, hf, rfl⟩)) (fun c => nomatch (show true = false from c)))
  | succ r ih =>
    intro i f hi hf
    have hx := ix_nat (i := i) (n := 26) (by omega) (by decide)
    have h := ih (i + 1) (vp_updL f (Int32.ofNat i).toNatClampNeg v) (by omega) (fun j hj => by
      rw [hx.2]
      by_cases e : j = i
      · exact if_pos e
      · exact (if_neg e).trans (hf j (by omega)))
    rw [← i32_succ] at h
    exact xw_go (fun pc => pc == 6) 12 (fun K e => And.intro (fun c => absurd (of_decide_eq_true ((cmp_nat (i := i) (j := 26) (by omega) (by omega)).1.symm.trans c)) (by omega)) (fun _ => And.intro hx.1 (e _ _ _ _ (kT_sort rfl h))))
theorem f_24 {v : Int64} {f : Nat → Int64} : mS nj_M nX0 L xs d 23 [.ref 24, .long v] [(24, .inl (3, 26, .inr (.inl f)))] (fun rv l => rv = none ∧ ∃ g : Nat → Int64, (∀ j, j < 26 → g j = v) ∧ l = [(24, .inl (3, 26, .inr (.inl g)))]) :=
  mS_of rfl (fun h0 => xw_go (fun pc => pc == 6) 8 (fun K e => e _ _ _ _ (kT_sort rfl (f_24_loop 26 0 f rfl (fun j hj => absurd hj (Nat.not_lt_zero j))))))
theorem f_26_loop {v : Int32} {f0 : Nat → Int32} {h0 : List nC} : ∀ (r i : Nat) (f : Nat → Int32), i + r = 10 → (∀ j, j < i → f j = v) → kT nj_M nX0 L xs d nm_17 (mQ [(26, .inl (0, 10, .inl f0))] (fun rv l => rv = none ∧ ∃ g : Nat → Int32, (∀ j, j < 10 → g j = v) ∧ l = [(26, .inl (0, 10, .inl g))]) h0) (hk [(26, .inl (0, 10, .inl f0))]) h0 5 [(0, .ref 26), (1, .int v), (2, .int (Int32.ofNat i)), (3, .int (Int32.ofNat 10))] [] [(26, .inl (0, 10, .inl f))] := by
  intro r
  induction r with
  | zero =>
    intro i f hi hf
    have e : i = 10 := by omega
    subst e
    exact xw_go nostop 10 (fun K e => And.intro (fun _ => e _ _ _ _ (kT_end rfl rfl ⟨rfl, f, hf, rfl⟩)) (fun c => nomatch (show true = false from c)))
  | succ r ih =>
    intro i f hi hf
    have hx := ix_nat (i := i) (n := 10) (by omega) (by decide)
    have h := ih (i + 1) (upd f (Int32.ofNat i).toNatClampNeg v) (by omega) (fun j hj => by
      rw [hx.2]
      by_cases e : j = i
      · exact if_pos e
      · exact (if_neg e).trans (hf j (by omega)))
    rw [← i32_succ] at h
    exact xw_go (fun pc => pc == 5) 12 (fun K e => And.intro (fun c => absurd (of_decide_eq_true ((cmp_nat (i := i) (j := 10) (by omega) (by omega)).1.symm.trans c)) (by omega)) (fun _ => And.intro hx.1 (e _ _ _ _ (kT_sort rfl h))))
theorem f_26 {v : Int32} {f : Nat → Int32} : mS nj_M nX0 L xs d 17 [.ref 26, .int v] [(26, .inl (0, 10, .inl f))] (fun rv l => rv = none ∧ ∃ g : Nat → Int32, (∀ j, j < 10 → g j = v) ∧ l = [(26, .inl (0, 10, .inl g))]) :=
  mS_of rfl (fun h0 => xw_go (fun pc => pc == 5) 8 (fun K e => e _ _ _ _ (kT_sort rfl (f_26_loop 10 0 f rfl (fun j hj => absurd hj (Nat.not_lt_zero j))))))
theorem f_27_loop {v : Int32} {f0 : Nat → Int32} {h0 : List nC} : ∀ (r i : Nat) (f : Nat → Int32), i + r = 10 → (∀ j, j < i → f j = v) → kT nj_M nX0 L xs d nm_17 (mQ [(27, .inl (0, 10, .inl f0))] (fun rv l => rv = none ∧ ∃ g : Nat → Int32, (∀ j, j < 10 → g j = v) ∧ l = [(27, .inl (0, 10, .inl g))]) h0) (hk [(27, .inl (0, 10, .inl f0))]) h0 5 [(0, .ref 27), (1, .int v), (2, .int (Int32.ofNat i)), (3, .int (Int32.ofNat 10))] [] [(27, .inl (0, 10, .inl f))] := by
  intro r
  induction r with
  | zero =>
    intro i f hi hf
    have e : i = 10 := by omega
    subst e
    exact xw_go nostop 10 (fun K e => And.intro (fun _ => e _ _ _ _ (kT_end rfl rfl ⟨rfl, f, hf, rfl⟩)) (fun c => nomatch (show true = false from c)))
  | succ r ih =>
    intro i f hi hf
    have hx := ix_nat (i := i) (n := 10) (by omega) (by decide)
    have h := ih (i + 1) (upd f (Int32.ofNat i).toNatClampNeg v) (by omega) (fun j hj => by
      rw [hx.2]
      by_cases e : j = i
      · exact if_pos e
      · exact (if_neg e).trans (hf j (by omega)))
    rw [← i32_succ] at h
    exact xw_go (fun pc => pc == 5) 12 (fun K e => And.intro (fun c => absurd (of_decide_eq_true ((cmp_nat (i := i) (j := 10) (by omega) (by omega)).1.symm.trans c)) (by omega)) (fun _ => And.intro hx.1 (e _ _ _ _ (kT_sort rfl h))))
theorem f_27 {v : Int32} {f : Nat → Int32} : mS nj_M nX0 L xs d 17 [.ref 27, .int v] [(27, .inl (0, 10, .inl f))] (fun rv l => rv = none ∧ ∃ g : Nat → Int32, (∀ j, j < 10 → g j = v) ∧ l = [(27, .inl (0, 10, .inl g))]) :=
  mS_of rfl (fun h0 => xw_go (fun pc => pc == 5) 8 (fun K e => e _ _ _ _ (kT_sort rfl (f_27_loop 10 0 f rfl (fun j hj => absurd hj (Nat.not_lt_zero j))))))
theorem f_28_loop {v : Int32} {f0 : Nat → Int32} {h0 : List nC} : ∀ (r i : Nat) (f : Nat → Int32), i + r = 10 → (∀ j, j < i → f j = v) → kT nj_M nX0 L xs d nm_17 (mQ [(28, .inl (0, 10, .inl f0))] (fun rv l => rv = none ∧ ∃ g : Nat → Int32, (∀ j, j < 10 → g j = v) ∧ l = [(28, .inl (0, 10, .inl g))]) h0) (hk [(28, .inl (0, 10, .inl f0))]) h0 5 [(0, .ref 28), (1, .int v), (2, .int (Int32.ofNat i)), (3, .int (Int32.ofNat 10))] [] [(28, .inl (0, 10, .inl f))] := by
  intro r
  induction r with
  | zero =>
    intro i f hi hf
    have e : i = 10 := by omega
    subst e
    exact xw_go nostop 10 (fun K e => And.intro (fun _ => e _ _ _ _ (kT_end rfl rfl ⟨rfl, f, hf, rfl⟩)) (fun c => nomatch (show true = false from c)))
  | succ r ih =>
    intro i f hi hf
    have hx := ix_nat (i := i) (n := 10) (by omega) (by decide)
    have h := ih (i + 1) (upd f (Int32.ofNat i).toNatClampNeg v) (by omega) (fun j hj => by
      rw [hx.2]
      by_cases e : j = i
      · exact if_pos e
      · exact (if_neg e).trans (hf j (by omega)))
    rw [← i32_succ] at h
    exact xw_go (fun pc => pc == 5) 12 (fun K e => And.intro (fun c => absurd (of_decide_eq_true ((cmp_nat (i := i) (j := 10) (by omega) (by omega)).1.symm.trans c)) (by omega)) (fun _ => And.intro hx.1 (e _ _ _ _ (kT_sort rfl h))))
theorem f_28 {v : Int32} {f : Nat → Int32} : mS nj_M nX0 L xs d 17 [.ref 28, .int v] [(28, .inl (0, 10, .inl f))] (fun rv l => rv = none ∧ ∃ g : Nat → Int32, (∀ j, j < 10 → g j = v) ∧ l = [(28, .inl (0, 10, .inl g))]) :=
  mS_of rfl (fun h0 => xw_go (fun pc => pc == 5) 8 (fun K e => e _ _ _ _ (kT_sort rfl (f_28_loop 10 0 f rfl (fun j hj => absurd hj (Nat.not_lt_zero j))))))
theorem hoR_0 {g0 g3 g4 g5 : Nat → Int32} {g1 : Nat → Int64} (h0 : ∀ j, j < 4 → g0 j = Int32.ofInt 0) (h1 : ∀ j, j < 26 → g1 j = Int64.ofNat 0) (h3 : ∀ j, j < 10 → g3 j = Int32.ofInt (-1)) (h4 : ∀ j, j < 10 → g4 j = Int32.ofInt (-1)) (h5 : ∀ j, j < 10 → g5 j = Int32.ofInt 1) : hoR Hs0 (g0, g1, z.2.2.1, g3, g4, g5, z.2.2.2.2.2.2.1, z.2.2.2.2.2.2.2.1, z.2.2.2.2.2.2.2.2.1, z.2.2.2.2.2.2.2.2.2.1, z.2.2.2.2.2.2.2.2.2.2.1, z.2.2.2.2.2.2.2.2.2.2.2.1, z.2.2.2.2.2.2.2.2.2.2.2.2.1, z.2.2.2.2.2.2.2.2.2.2.2.2.2.1, Int32.ofInt 0, Int32.ofInt 0) := by
  refine ⟨⟨by decide, by decide, by decide, by decide, List.nodup_nil, fun w hw => nomatch hw⟩, ⟨rfl, ?_, ?_⟩, ⟨h0 0 (by decide), h0 1 (by decide), h0 2 (by decide), h0 3 (by decide)⟩, ⟨rfl, rfl, rfl, rfl, rfl, rfl⟩, fun i hi => absurd hi (Nat.not_lt_zero i), fun i hi => ?_, fun i hi => ⟨?_, fun j hj => ?_⟩, fun i hi => ⟨?_, ?_⟩, fun i hi => absurd hi (Nat.not_lt_zero i), fun i hi => absurd hi (Nat.not_lt_zero i)⟩
  · have hr : ∀ k, k < 26 → (nsl Hs0.1).getD k [] = [] := by decide
    intro k hk
    rw [hr k hk]
    exact h1 k hk
  · have hr : ∀ w ∈ nsl Hs0.1, w = [] := by decide
    intro w hw
    rw [hr w hw]
    exact ⟨(fun c hc => nomatch hc), by decide⟩
  · rw [gd_out (Nat.zero_le i)]; exact h3 i hi
  · rw [gd_out (Nat.zero_le i)]; exact h4 i hi
  · rw [gd_out (Nat.zero_le i)] at hj; cases hj
  · rw [gd_out (Nat.zero_le i)]; exact h5 i hi
  · rw [gd_out (Nat.zero_le i)]
    show (BitVec.ofInt 32 0).getLsbD i = false
    rw [show BitVec.ofInt 32 0 = 0#32 from rfl]
    simp
/-- what the reader of a family leaves -/
abbrev pFm (b : Nat → Int32) (ky : Nat → Int64) (len tl : Int32) (R : (Nat × Nat) ⊕ (Hs × Nat)) : Option Value → nL → Prop := fun rv l => ∃ kd pl vl tok cur tak fk fp z, l = th b kd pl vl ky len tok cur tak tl fk fp z ∧ ((∃ H ln, R = .inr (H, ln) ∧ ln ≤ 900 ∧ rv = some (.int 1) ∧ hoR H z ∧ hLi z = Int32.ofNat ln ∧ fk = 0) ∨ (∃ e q, R = .inl (e, q) ∧ rv = some (.int 0) ∧ fk = Int32.ofNat e ∧ fp = Int32.ofNat q))
def Mon {α : Type} (p : Nat) (R : Rs α) : Prop := ∀ q a, R = .inr (q, a) → p ≤ q
theorem Mon.bd {α β : Type} {R : Rs α} {f : Nat → α → Rs β} (h : Mon p R) (hf : ∀ q a, p ≤ q → Mon p (f q a)) : Mon p (sBind R f) := by
  intro q a e
  cases R with
  | inl x => cases e
  | inr x =>
    obtain ⟨q1, a1⟩ := x
    exact hf q1 a1 (h q1 a1 rfl) q a e
theorem Mon.l {α : Type} {x : Nat × Nat} : Mon p (.inl x : Rs α) := fun _ _ e => nomatch e
theorem Mon.r {α : Type} {q : Nat} {a : α} (h : p ≤ q) : Mon p (.inr (q, a) : Rs α) := fun _ _ e => by cases e; exact h
theorem Mon.beg (hT : tkOk T) {c most : Nat} : Mon p (sBeg T c most p H) := by
  have h1 := hT.2.2.2.2.2 p
  have h2 := hT.2.2.2.2.2 (T p).2.2.2.2
  unfold sBeg
  split
  · exact Mon.l
  · dsimp only
    split
    · exact Mon.l
    · split
      · exact Mon.l
      · exact Mon.r (by omega)
theorem Mon.kno {q : Nat} {ns : List (List Nat)} (h : p ≤ q) : Mon p (sKno T q ns) := by
  unfold sKno
  split
  · exact Mon.l
  · split
    · exact Mon.r h
    · exact Mon.l
theorem Mon.num (hT : tkOk T) {q lo hi : Nat} (h : p ≤ q) : Mon p (sNum T q lo hi) := by
  have h1 := hT.2.2.2.2.2 q
  unfold sNum
  split
  · exact Mon.l
  · split
    · exact Mon.l
    · exact Mon.r (by omega)
theorem Mon.sts (hT : tkOk T) {ns : List (List Nat)} : ∀ (k q : Nat) (acc : List Nat), p ≤ q → Mon p (sSts T k q acc ns) := by
  intro k
  induction k with
  | zero => intro q acc _; exact Mon.l
  | succ k ih =>
    intro q acc h
    unfold sSts
    split
    · exact Mon.r h
    · refine Mon.bd (Mon.kno h) (fun q1 a h1 => ?_)
      have h2 := hT.2.2.2.2.2 q1
      split
      · exact Mon.l
      · exact ih _ _ (by omega)
theorem Mon.line (hT : tkOk T) : Mon p (sLine T p H) := by
  have tr : ∀ {q}, p ≤ q → p ≤ (T q).2.2.2.2 := fun {q} h => Nat.le_trans h (hT.2.2.2.2.2 q)
  have t0 := tr (Nat.le_refl p)
  unfold sLine
  split
  · unfold sStep
    exact Mon.bd (Mon.beg hT) (fun q a h => Mon.r h)
  · split
    · unfold sPers
      refine Mon.bd (Mon.beg hT) (fun q a h => Mon.bd (Mon.num hT h) (fun q2 y h2 => ?_))
      dsimp only
      split
      · refine Mon.bd (Mon.kno (tr h2)) (fun q3 i h3 => ?_)
        split
        · exact Mon.l
        · exact Mon.r (tr h3)
      · exact Mon.r h2
    · split
      · unfold sGod
        refine Mon.bd (Mon.kno t0) (fun q a h => ?_)
        split
        · exact Mon.l
        · refine Mon.bd (Mon.kno (tr h)) (fun q2 j h2 => ?_)
          split
          · exact Mon.l
          · exact Mon.r (tr h2)
      · split
        · unfold sCare
          refine Mon.bd (Mon.kno t0) (fun q a h => ?_)
          split
          · exact Mon.l
          · exact Mon.bd (Mon.num hT (tr h)) (fun q2 j h2 => Mon.r h2)
        · split
          · unfold sErr
            refine Mon.bd (Mon.beg hT) (fun q a h => Mon.bd (Mon.kno h) (fun q2 o h2 => Mon.bd (Mon.kno (tr h2)) (fun q3 f h3 => Mon.bd (Mon.kno (tr h3)) (fun q4 t h4 => ?_))))
            split
            · exact Mon.l
            · exact Mon.bd (Mon.num hT (tr h4)) (fun q5 x h5 => Mon.bd (Mon.num hT h5) (fun q6 y h6 => Mon.bd (Mon.num hT h6) (fun q7 v h7 => Mon.r h7)))
          · split
            · unfold sDeed
              exact Mon.bd (Mon.beg hT) (fun q a h => Mon.bd (Mon.sts hT 14 q [] h) (fun q2 ss h2 => Mon.r h2))
            · exact Mon.l
theorem read_loop {l0 : nL} {h0 : List nC} {lng : Bool} {R : (Nat × Nat) ⊕ (Hs × Nat)} (hT : tkOk T) (htl : tl = b01 lng) : ∀ (r i p : Nat) (H : Hs) (z : Ho) (cur tak fp : Int32), i + r = 900 → i ≤ p → R = sFam T lng (r + 1) p H i → txR T kd pl vl tok cur p → hoR H z → hLi z = Int32.ofNat i → kT nj_M nX0 L xs (d + 5) nm_22 (mQ l0 (pFm b ky len tl R) h0) (hk l0) h0 59 [(0, .ref 22), (1, .ref 1), (2, .int (Int32.ofNat i))] [] (th b kd pl vl ky len tok cur tak tl 0 fp z) := by
  have h108 : ∀ (r i p : Nat) (H : Hs) (z : Ho) (cur tak fp : Int32), i ≤ 900 → (T p).1 = 0 → R = sFam T lng (r + 1) p H i → txR T kd pl vl tok cur p → hoR H z → hLi z = Int32.ofNat i → kT nj_M nX0 L xs (d + 5) nm_22 (mQ l0 (pFm b ky len tl R) h0) (hk l0) h0 108 [(0, .ref 22), (1, .ref 1), (2, .int (Int32.ofNat i))] [] (th b kd pl vl ky len tok cur tak tl 0 fp z) := by
    intro r i p H z cur tak fp hi hE hR h hH hli
    have hR2 : R = if lng = true then .inl (1, (T p).2.1) else .inr (H, i) := by
      rw [hR]
      show (if (T p).1 = 0 then _ else _) = _
      rw [if_pos hE]
    refine xw_go nostop 20 (fun K e => e _ _ _ _ (kT_call rfl rfl rfl rfl (r_closes hT h lng htl) ⟨rfl, rfl, rfl, rfl, rfl, rfl, trivial⟩ rfl rfl (fun rv l1 hP _ => ?_)))
    rcases hP with ⟨_, e1, rfl, rfl⟩ | ⟨e1, rfl, rfl⟩
    · rw [e1, if_neg (by decide)] at hR2
      exact xw_go nostop 20 (fun K e => e _ _ _ _ (kT_end rfl rfl ⟨kd, pl, vl, tok, cur, tak, 0, fp, z, rfl, Or.inl ⟨H, i, hR2, hi, rfl, hH, hli, rfl⟩⟩))
    · have e2 : lng = true := by
        cases lng with
        | true => rfl
        | false => exact absurd ⟨hE, rfl⟩ e1
      rw [e2, if_pos rfl] at hR2
      exact xw_go nostop 20 (fun K e => e _ _ _ _ (kT_end rfl rfl ⟨kd, pl, vl, tok, cur, tak, _, _, z, rfl, Or.inr ⟨1, _, hR2, rfl, rfl, rfl⟩⟩))
  intro r
  induction r with
  | zero =>
    intro i p H z cur tak fp hir hip hR h hH hli
    have hi : i = 900 := by omega
    have hE : (T p).1 = 0 := by
      apply Classical.byContradiction
      intro y
      have := (hT.2.2.2.2.1 p y).2
      omega
    have h8 := h108 0 i p H z cur tak fp (by omega) hE hR h hH hli
    subst hi
    exact xw_go (fun pc => pc == 108) 10 (fun K e => And.intro (fun _ => e _ _ _ _ h8) (fun c => nomatch (show true = false from c)))
  | succ r ih =>
    intro i p H z cur tak fp hir hip hR h hH hli
    have b3 := hT.2.2.1 p
    have hc0 : nj_cmp .eq (Int32.ofNat (T p).1) 0 = decide ((T p).1 = 0) := (cmp_nat (i := (T p).1) (j := 0) (by omega) (by omega)).2.2.2.2.1
    refine xw_go (fun pc => pc == 108) 10 (fun K e => And.intro (fun c => absurd (of_decide_eq_true ((cmp_nat (i := i) (j := 900) (by omega) (by omega)).1.symm.trans c)) (by omega)) (fun _ => e _ _ _ _ (kT_call rfl rfl rfl rfl (r_kind hT h) ⟨rfl, rfl, rfl, rfl, rfl, rfl, trivial⟩ rfl rfl (fun rv l1 hP _ => ?_))))
    obtain ⟨rfl, rfl⟩ := hP
    refine xw_go (fun pc => pc == 108) 10 (fun K e => And.intro (fun c => e _ _ _ _ (h108 (r + 1) i p H z cur tak fp (by omega) (of_decide_eq_true (hc0.symm.trans c)) hR h hH hli)) (fun c => e _ _ _ _ (kT_call rfl rfl rfl rfl (r_line hT h hH) ⟨rfl, rfl, rfl, rfl, rfl, rfl, rfl, rfl, rfl, rfl, rfl, rfl, rfl, rfl, rfl, rfl, rfl, rfl, rfl, rfl, rfl, trivial⟩ rfl rfl (fun rv l1 hP _ => ?_))))
    have hne := of_decide_eq_false (hc0.symm.trans c)
    have hR2 : R = match sLine T p H with
      | .inl e => .inl e
      | .inr (p1, H1) => if (T p1).1 = 59 then sFam T lng (r + 1) (T p1).2.2.2.2 H1 (i + 1) else .inl (1, (T p1).2.1) := by
      rw [hR]
      show (if (T p).1 = 0 then _ else _) = _
      rw [if_neg hne]
      cases sLine T p H <;> rfl
    rcases hP with ⟨q, H1, z1, cur1, tak1, e1, rfl, h1, hH1, hl1, rfl⟩ | ⟨e, q, z1, cur1, tak1, e1, rfl, rfl⟩
    · rw [e1] at hR2
      have hR3 : R = if (T q).1 = 59 then sFam T lng (r + 1) (T q).2.2.2.2 H1 (i + 1) else .inl (1, (T q).2.1) := hR2
      have hpq := Mon.line (H := H) hT q H1 e1
      refine xw_go nostop 10 (fun K e => And.intro (fun c => nomatch (show false = true from c)) (fun _ => e _ _ _ _ (kT_call rfl rfl rfl rfl (r_takes (k := 59) hT h1 (by decide)) ⟨rfl, rfl, rfl, rfl, rfl, rfl, trivial⟩ rfl rfl (fun rv l1 hP _ => ?_))))
      rcases hP with ⟨e2, rfl, cur2, h2, rfl⟩ | ⟨e2, rfl, rfl⟩
      · rw [if_pos e2] at hR3
        have hlt := (hT.2.2.2.2.1 q (by omega)).1
        have hli2 : hLi z1 + Int32.ofInt 1 = Int32.ofNat (i + 1) := by rw [hl1, hli, i32_succ]
        have ih1 := ih (i + 1) _ H1 (z1.1, z1.2.1, z1.2.2.1, z1.2.2.2.1, z1.2.2.2.2.1, z1.2.2.2.2.2.1, z1.2.2.2.2.2.2.1, z1.2.2.2.2.2.2.2.1, z1.2.2.2.2.2.2.2.2.1, z1.2.2.2.2.2.2.2.2.2.1, z1.2.2.2.2.2.2.2.2.2.2.1, z1.2.2.2.2.2.2.2.2.2.2.2.1, z1.2.2.2.2.2.2.2.2.2.2.2.2.1, z1.2.2.2.2.2.2.2.2.2.2.2.2.2.1, z1.2.2.2.2.2.2.2.2.2.2.2.2.2.2.1, z1.2.2.2.2.2.2.2.2.2.2.2.2.2.2.2 + Int32.ofInt 1) cur2 tak1 fp (by omega) (by omega) hR3 h2 hH1 hli2
        rw [← i32_succ] at ih1
        exact xw_go (fun pc => pc == 59) 20 (fun K e => And.intro (fun _ => And.intro rfl (e _ _ _ _ (kT_sort rfl ih1))) (fun c => nomatch (show true = false from c)))
      · rw [if_neg e2] at hR3
        exact xw_go nostop 10 (fun K e => And.intro (fun c => nomatch (show false = true from c)) (fun _ => e _ _ _ _ (kT_end rfl rfl ⟨kd, pl, vl, tok, cur1, tak1, _, _, z1, rfl, Or.inr ⟨1, _, hR3, rfl, rfl, rfl⟩⟩)))
    · rw [e1] at hR2
      exact xw_go nostop 10 (fun K e2 => And.intro (fun _ => e2 _ _ _ _ (kT_end rfl rfl ⟨kd, pl, vl, tok, cur1, tak1, _, _, z1, rfl, Or.inr ⟨e, q, hR2, rfl, rfl, rfl⟩⟩)) (fun c => nomatch (show true = false from c)))
theorem r_read {n : Nat} (hn : n ≤ 940) (hky : keysOk ky) : mS nj_M nX0 L xs (d + 5) 22 [.ref 22, .ref 1] (th b kd pl vl ky (Int32.ofNat n) tok cur tak tl fk fp z) (pFm b ky (Int32.ofNat n) (b01 (decide (900 < n))) (sFam (tk b n 900) (decide (900 < n)) 901 0 Hs0 0)) := by
  refine mS_of rfl (fun h0 => ?_)
  refine xw_go nostop 10 (fun K e => e _ _ _ _ (kT_call rfl rfl rfl rfl f_23 ⟨rfl, trivial⟩ rfl rfl (fun rv l1 hP _ => ?_)))
  obtain ⟨rfl, g0, hg0, rfl⟩ := hP
  refine xw_go nostop 10 (fun K e => e _ _ _ _ (kT_call rfl rfl rfl rfl f_24 ⟨rfl, trivial⟩ rfl rfl (fun rv l1 hP _ => ?_)))
  obtain ⟨rfl, g1, hg1, rfl⟩ := hP
  refine xw_go nostop 10 (fun K e => e _ _ _ _ (kT_call rfl rfl rfl rfl f_26 ⟨rfl, trivial⟩ rfl rfl (fun rv l1 hP _ => ?_)))
  obtain ⟨rfl, g3, hg3, rfl⟩ := hP
  refine xw_go nostop 10 (fun K e => e _ _ _ _ (kT_call rfl rfl rfl rfl f_27 ⟨rfl, trivial⟩ rfl rfl (fun rv l1 hP _ => ?_)))
  obtain ⟨rfl, g4, hg4, rfl⟩ := hP
  refine xw_go nostop 10 (fun K e => e _ _ _ _ (kT_call rfl rfl rfl rfl f_28 ⟨rfl, trivial⟩ rfl rfl (fun rv l1 hP _ => ?_)))
  obtain ⟨rfl, g5, hg5, rfl⟩ := hP
  refine xw_go nostop 20 (fun K e => And.intro rfl (And.intro rfl (e _ _ _ _ (kT_call rfl rfl rfl rfl (s_open (m := 900) hn (by decide) hky) ⟨rfl, rfl, rfl, rfl, rfl, rfl, trivial⟩ rfl rfl (fun rv l1 hP _ => ?_)))))
  obtain ⟨rfl, kd1, pl1, vl1, k, hk9, ht, hne, hE, rfl⟩ := hP
  refine xw_go (fun pc => pc == 59) 10 (fun K e => e _ _ _ _ (kT_sort rfl (read_loop (b := b) (kd := kd1) (pl := pl1) (vl := vl1) (tok := Int32.ofNat (k + 1)) (tk_ok hn (by decide)) rfl 900 0 0 Hs0 (g0, g1, z.2.2.1, g3, g4, g5, z.2.2.2.2.2.2.1, z.2.2.2.2.2.2.2.1, z.2.2.2.2.2.2.2.2.1, z.2.2.2.2.2.2.2.2.2.1, z.2.2.2.2.2.2.2.2.2.2.1, z.2.2.2.2.2.2.2.2.2.2.2.1, z.2.2.2.2.2.2.2.2.2.2.2.2.1, z.2.2.2.2.2.2.2.2.2.2.2.2.2.1, Int32.ofInt 0, Int32.ofInt 0) 0 tak 0 rfl (Nat.zero_le _) rfl ⟨k, 0, rfl, rfl, Nat.zero_le _, hk9, ht, hne, hE, Or.inl rfl⟩ (hoR_0 hg0 hg1 hg3 hg4 hg5) rfl)))
end RDL
