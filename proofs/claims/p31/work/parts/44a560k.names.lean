/-! the class's house: names looked for and told -/
abbrev Ho : Type := (Nat → Int32) × (Nat → Int64) × (Nat → Int32) × (Nat → Int32) × (Nat → Int32) × (Nat → Int32) × (Nat → Int32) × (Nat → Int32) × (Nat → Int32) × (Nat → Int32) × (Nat → Int32) × (Nat → Int32) × (Nat → Int32) × (Nat → Int32) × Int32 × Int32
abbrev hoP (z : Ho) : nL := [(22, .inr (0, [.ref 23, .ref 24, .ref 25, .ref 26, .ref 27, .ref 28, .ref 29, .ref 30, .ref 31, .ref 32, .ref 33, .ref 34, .ref 35, .ref 36, .int z.2.2.2.2.2.2.2.2.2.2.2.2.2.2.1, .int z.2.2.2.2.2.2.2.2.2.2.2.2.2.2.2])), (23, .inl (0, 4, .inl z.1)), (24, .inl (3, 26, .inr (.inl z.2.1))), (25, .inl (0, 10, .inl z.2.2.1)), (26, .inl (0, 10, .inl z.2.2.2.1)), (27, .inl (0, 10, .inl z.2.2.2.2.1)), (28, .inl (0, 10, .inl z.2.2.2.2.2.1)), (29, .inl (0, 6, .inl z.2.2.2.2.2.2.1)), (30, .inl (0, 6, .inl z.2.2.2.2.2.2.2.1)), (31, .inl (0, 6, .inl z.2.2.2.2.2.2.2.2.1)), (32, .inl (0, 6, .inl z.2.2.2.2.2.2.2.2.2.1)), (33, .inl (0, 6, .inl z.2.2.2.2.2.2.2.2.2.2.1)), (34, .inl (0, 6, .inl z.2.2.2.2.2.2.2.2.2.2.2.1)), (35, .inl (0, 4, .inl z.2.2.2.2.2.2.2.2.2.2.2.2.1)), (36, .inl (0, 48, .inl z.2.2.2.2.2.2.2.2.2.2.2.2.2.1))]
def sf (nm : Nat → Int64) (w : Int64) : Nat → Nat → Int32
  | 0, _ => Int32.ofInt (-1)
  | k + 1, i => if nm i = w then Int32.ofNat i else sf nm w k (i + 1)
def oI (o : Option Nat) : Int32 := match o with
  | some k => Int32.ofNat k
  | none => Int32.ofInt (-1)
/-- the row of names says this list -/
def nmR (nm : Nat → Int64) (ns : List (List Nat)) : Prop := ns.length = 26 ∧ (∀ k, k < 26 → nm k = Int64.ofNat (e32 (ns.getD k []) 0)) ∧ (∀ w ∈ ns, (∀ c ∈ w, let26 c) ∧ w.length ≤ 7)
theorem sf_go {nm : Nat → Int64} {w : List Nat} (hw : ∀ c ∈ w, let26 c) (h7 : w.length ≤ 7) : ∀ (ks : List (List Nat)) (i : Nat), (∀ j, j < ks.length → nm (i + j) = Int64.ofNat (e32 (ks.getD j []) 0)) → (∀ k ∈ ks, (∀ c ∈ k, let26 c) ∧ k.length ≤ 7) → sf nm (Int64.ofNat (e32 w 0)) ks.length i = oI ((ks.findIdx? (fun k => k == w)).map (fun j => i + j)) := by
  intro ks
  induction ks with
  | nil => intro i _ _; rfl
  | cons k ks ih =>
    intro i h1 h2
    have hk := h2 k (List.mem_cons_self ..)
    have e0 : nm i = Int64.ofNat (e32 k 0) := h1 0 (Nat.succ_pos _)
    show (if nm i = Int64.ofNat (e32 w 0) then Int32.ofNat i else sf nm (Int64.ofNat (e32 w 0)) ks.length (i + 1)) = _
    rw [List.findIdx?_cons]
    by_cases e : k = w
    · subst e
      rw [if_pos e0, if_pos (by simp)]
      rfl
    · have hne : ¬ nm i = Int64.ofNat (e32 w 0) := by
        rw [e0]
        intro z
        have s1 := e32_s hk.1 hk.2
        have s2 := e32_s hw h7
        exact e (e32_inj hk.1 hw (i64_inj (by omega) (by omega) z))
      rw [if_neg hne, if_neg (by simpa using e), ih (i + 1) (fun j hj => by
        have := h1 (j + 1) (Nat.succ_lt_succ hj)
        rw [show i + 1 + j = i + (j + 1) from by omega]
        exact this) (fun k hk => h2 k (List.mem_cons_of_mem _ hk))]
      cases ks.findIdx? (fun k => k == w) with
      | none => rfl
      | some j =>
        show Int32.ofNat (i + 1 + j) = Int32.ofNat (i + (j + 1))
        rw [show i + 1 + j = i + (j + 1) from by omega]
theorem sf_ok {nm : Nat → Int64} {ns : List (List Nat)} (hn : nmR nm ns) {w : List Nat} (hw : ∀ c ∈ w, let26 c) (h7 : w.length ≤ 7) : sf nm (Int64.ofNat (e32 w 0)) 26 0 = oI (ns.findIdx? (fun k => k == w)) := by
  have h := sf_go (nm := nm) hw h7 ns 0 (fun j hj => by rw [Nat.zero_add]; exact hn.2.1 j (by rw [← hn.1]; exact hj)) hn.2.2
  rw [hn.1] at h
  rw [h]
  cases ns.findIdx? (fun k => k == w) with
  | none => rfl
  | some j => show Int32.ofNat (0 + j) = Int32.ofNat j; rw [Nat.zero_add]
section HSE
variable {L : Nat} {xs : Nat → Int32} {d : Nat} {b kd pl : Nat → Int32} {vl ky : Nat → Int64} {len tok cur tak tl fk fp : Int32} {T : Nat → Tk} {p : Nat} {z : Ho}
theorem slotOf_loop {w : Int64} {h0 : List nC} {R : Int32} : ∀ (k i : Nat), i + k = 26 → sf z.2.1 w k i = R → kT nj_M nX0 L xs d nm_37 (mQ (hoP z) (fun rv l => rv = some (.int R) ∧ l = hoP z) h0) (hk (hoP z)) h0 2 [(0, .ref 22), (1, .long w), (3, .int (Int32.ofNat i))] [] (hoP z) := by
  intro k
  induction k with
  | zero =>
    intro i hi hR
    have : i = 26 := by omega
    subst this
    exact xw_go nostop 10 (fun K e => And.intro (fun _ => e _ _ _ _ (kT_end rfl rfl ⟨by rw [← hR]; rfl, rfl⟩)) (fun c => nomatch (show true = false from c)))
  | succ k ih =>
    intro i hi hR
    have hx := ix_nat (i := i) (n := 26) (by omega) (by decide)
    refine xw_go (fun pc => pc == 2) 20 (fun K e => And.intro (fun c => ?_) (fun _ => And.intro hx.1 (And.intro (fun c => e _ _ _ _ (kT_sort rfl ?_)) (fun c => e _ _ _ _ (kT_end rfl (ret_i _) ⟨?_, rfl⟩)))))
    · exfalso
      have := of_decide_eq_true ((cmp_nat (i := i) (j := 26) (by omega) (by omega)).1.symm.trans c)
      omega
    · have c2 : ¬ z.2.1 i = w := fun y => by
        have c3 := of_decide_eq_true (show decide (¬ lg_cmp (z.2.1 (Int32.ofNat i).toNatClampNeg) w = 0) = true from c)
        rw [hx.2] at c3
        exact c3 (cmp_eq0.mpr y)
      have h := ih (i + 1) (by omega) (by rw [← hR]; show _ = if z.2.1 i = w then _ else _; rw [if_neg c2])
      rw [← i32_succ] at h
      exact h
    · have c2 : z.2.1 i = w := by
        have c3 := of_decide_eq_false (show decide (¬ lg_cmp (z.2.1 (Int32.ofNat i).toNatClampNeg) w = 0) = false from c)
        rw [hx.2] at c3
        exact cmp_eq0.mp (Classical.not_not.mp c3)
      rw [← hR]
      show _ = some (Value.int (if z.2.1 i = w then _ else _))
      rw [if_pos c2]
theorem s_slotOf (w : Int64) : mS nj_M nX0 L xs d 37 [.ref 22, .long w] (hoP z) (fun rv l => rv = some (.int (sf z.2.1 w 26 0)) ∧ l = hoP z) :=
  mS_of rfl (fun h0 => xw_go (fun pc => pc == 2) 5 (fun K e => e _ _ _ _ (kT_sort rfl (slotOf_loop 26 0 rfl rfl))))
abbrev th (b kd pl : Nat → Int32) (vl ky : Nat → Int64) (len tok cur tak tl fk fp : Int32) (z : Ho) : nL := txP b kd pl vl ky len tok cur tak tl fk fp ++ hoP z
theorem sub_t : subl (th b kd pl vl ky len tok cur tak tl fk fp z) (txP b kd pl vl ky len tok cur tak tl fk fp) := ⟨rfl, rfl, rfl, rfl, rfl, rfl, trivial⟩
theorem sub_h : subl (th b kd pl vl ky len tok cur tak tl fk fp z) (hoP z) := ⟨rfl, rfl, rfl, rfl, rfl, rfl, rfl, rfl, rfl, rfl, rfl, rfl, rfl, rfl, rfl, trivial⟩
theorem sub_th : subl (th b kd pl vl ky len tok cur tak tl fk fp z) (th b kd pl vl ky len tok cur tak tl fk fp z) := ⟨rfl, rfl, rfl, rfl, rfl, rfl, rfl, rfl, rfl, rfl, rfl, rfl, rfl, rfl, rfl, rfl, rfl, rfl, rfl, rfl, rfl, trivial⟩
/-- a name that is told, by the list of names -/
def sKn (T : Nat → Tk) (p : Nat) (ns : List (List Nat)) (lo hi : Nat) : (Nat × Nat) ⊕ Nat := if ¬ (T p).1 = 2 then .inl (1, (T p).2.1) else match ns.findIdx? (fun k => k == (T p).2.2.1) with
  | some k => if lo ≤ k ∧ k < hi then .inr (k - lo) else .inl (3, (T p).2.1)
  | none => .inl (3, (T p).2.1)
theorem r_known (hT : tkOk T) (h : txR T kd pl vl tok cur p) {ns : List (List Nat)} (hn : nmR z.2.1 ns) {s lo hi : Nat} (hs : s < 4) (f0 : nj_fs.getD s 0 = Int32.ofNat lo) (f1 : nj_fs.getD (s + 1) 0 = Int32.ofNat hi) (hhi : hi ≤ 26) (hlo : lo ≤ hi) : mS nj_M nX0 L xs (d + 1) 40 [.ref 22, .ref 1, .int (Int32.ofNat s)] (th b kd pl vl ky len tok cur tak tl fk fp z) (fun rv l => (∃ k, sKn T p ns lo hi = .inr k ∧ k < hi - lo ∧ rv = some (.int (Int32.ofNat k)) ∧ l = th b kd pl vl ky len tok cur tak tl fk fp z) ∨ (∃ e q, sKn T p ns lo hi = .inl (e, q) ∧ rv = some (.int (Int32.ofInt (-1))) ∧ l = th b kd pl vl ky len tok cur tak tl (Int32.ofNat e) (Int32.ofNat q) z)) := by
  have b3 := hT.2.2.1 p
  have hx0 := ix_nat (i := s) (n := 5) (by omega) (by decide)
  have hx1 : nj_ix (Int32.ofNat s + Int32.ofInt 1) 5 = true ∧ (Int32.ofNat s + Int32.ofInt 1).toNatClampNeg = s + 1 := by rw [i32_succ]; exact ix_nat (by omega) (by decide)
  have hc : nj_cmp .eq (Int32.ofNat (T p).1) 2 = decide ((T p).1 = 2) := (cmp_nat (i := (T p).1) (j := 2) (by omega) (by omega)).2.2.2.2.1
  refine mS_of rfl (fun h0 => ?_)
  refine xw_go nostop 10 (fun K e => e _ _ _ _ (kT_call rfl rfl rfl rfl (r_kind hT h) ⟨rfl, rfl, rfl, rfl, rfl, rfl, trivial⟩ rfl rfl (fun rv l1 hP _ => ?_)))
  obtain ⟨rfl, rfl⟩ := hP
  refine xw_go nostop 10 (fun K e => And.intro (fun c => e _ _ _ _ (kT_call rfl rfl rfl rfl (r_value hT h) ⟨rfl, rfl, rfl, rfl, rfl, rfl, trivial⟩ rfl rfl (fun rv l1 hP _ => ?_))) (fun c => e _ _ _ _ (kT_call rfl rfl rfl rfl (r_fails hT h _) ⟨rfl, rfl, rfl, rfl, rfl, rfl, trivial⟩ rfl rfl (fun rv l1 hP _ => ?_))))
  · obtain ⟨rfl, rfl⟩ := hP
    have e2 : (T p).1 = 2 := of_decide_eq_true (hc.symm.trans c)
    obtain ⟨w1, w2, w3⟩ := hT.2.2.2.1 p e2
    have etv : tv (T p) = e32 (T p).2.2.1 0 := by unfold tv; rw [if_neg (by omega)]
    have hsf := sf_ok hn w1 w2
    rw [← etv] at hsf
    refine xw_go nostop 10 (fun K e => e _ _ _ _ (kT_call rfl rfl rfl rfl (s_slotOf _) sub_h rfl rfl (fun rv l1 hP _ => ?_)))
    obtain ⟨rfl, rfl⟩ := hP
    rw [hsf]
    have hfail : (∃ q, sKn T p ns lo hi = .inl (3, q) ∧ q = (T p).2.1) → kT nj_M nX0 L xs (d + 1) nm_40 (mQ (th b kd pl vl ky len tok cur tak tl fk fp z) (fun rv l => (∃ k, sKn T p ns lo hi = .inr k ∧ k < hi - lo ∧ rv = some (.int (Int32.ofNat k)) ∧ l = th b kd pl vl ky len tok cur tak tl fk fp z) ∨ (∃ e q, sKn T p ns lo hi = .inl (e, q) ∧ rv = some (.int (Int32.ofInt (-1))) ∧ l = th b kd pl vl ky len tok cur tak tl (Int32.ofNat e) (Int32.ofNat q) z)) h0) (hk (th b kd pl vl ky len tok cur tak tl fk fp z)) h0 45 [(0, .ref 22), (1, .ref 1), (2, .int (Int32.ofNat s)), (3, .int (oI (ns.findIdx? (fun k => k == (T p).2.2.1))))] [] (th b kd pl vl ky len tok cur tak tl fk fp z) := by
      rintro ⟨q, hq, rfl⟩
      refine xw_go nostop 10 (fun K e => e _ _ _ _ (kT_call rfl rfl rfl rfl (r_fails hT h _) ⟨rfl, rfl, rfl, rfl, rfl, rfl, trivial⟩ rfl rfl (fun rv l1 hP _ => ?_)))
      obtain ⟨rfl, rfl⟩ := hP
      exact xw_go nostop 10 (fun K e => e _ _ _ _ (kT_end rfl rfl (Or.inr ⟨3, _, hq, rfl, rfl⟩)))
    refine xw_go (fun pc => pc == 45) 20 (fun K e => And.intro hx0.1 (And.intro (fun c1 => e _ _ _ _ (kT_sort rfl (hfail ?_))) (fun c1 => And.intro hx1.1 (And.intro (fun c2 => And.intro hx0.1 (e _ _ _ _ (kT_end rfl (ret_i _) (Or.inl ?_)))) (fun c2 => e _ _ _ _ (kT_sort rfl (hfail ?_)))))))
    · have c' : nj_cmp .lt (oI (ns.findIdx? (fun k => k == (T p).2.2.1))) (nj_fs.getD (Int32.ofNat s).toNatClampNeg 0) = true := c1
      rw [hx0.2, f0] at c'
      refine ⟨_, ?_, rfl⟩
      unfold sKn
      rw [if_neg (fun y => y e2)]
      cases hfi : ns.findIdx? (fun k => k == (T p).2.2.1) with
      | none => rfl
      | some k =>
        rw [hfi] at c'
        have hk26 : k < ns.length := (List.findIdx?_eq_some_iff_findIdx_eq.mp hfi).1
        rw [hn.1] at hk26
        have := of_decide_eq_true ((cmp_nat (i := k) (j := lo) (by omega) (by omega)).2.1.symm.trans c')
        show (if lo ≤ k ∧ k < hi then _ else _) = _
        rw [if_neg (by omega)]
    · have c' : nj_cmp .lt (oI (ns.findIdx? (fun k => k == (T p).2.2.1))) (nj_fs.getD (Int32.ofNat s).toNatClampNeg 0) = false := c1
      have c'' : nj_cmp .lt (oI (ns.findIdx? (fun k => k == (T p).2.2.1))) (nj_fs.getD (Int32.ofNat s + Int32.ofInt 1).toNatClampNeg 0) = true := c2
      rw [hx0.2, f0] at c'
      rw [hx1.2, f1] at c''
      show ∃ k, _
      cases hfi : ns.findIdx? (fun k => k == (T p).2.2.1) with
      | none =>
        rw [hfi] at c'
        exfalso
        have y := of_decide_eq_false (show decide (Int32.ofInt (-1) < Int32.ofNat lo) = false from c')
        apply y
        rw [Int32.lt_iff_toInt_lt, i32_small (by omega)]
        have : (Int32.ofInt (-1)).toInt = -1 := rfl
        omega
      | some k =>
        rw [hfi] at c' c''
        have hk26 : k < ns.length := (List.findIdx?_eq_some_iff_findIdx_eq.mp hfi).1
        rw [hn.1] at hk26
        have y1 := of_decide_eq_false ((cmp_nat (i := k) (j := lo) (by omega) (by omega)).2.1.symm.trans c')
        have y2 := of_decide_eq_true ((cmp_nat (i := k) (j := hi) (by omega) (by omega)).2.1.symm.trans c'')
        refine ⟨k - lo, ?_, by omega, ?_, rfl⟩
        · unfold sKn
          rw [if_neg (fun y => y e2), hfi]
          show (if lo ≤ k ∧ k < hi then _ else _) = _
          rw [if_pos ⟨by omega, y2⟩]
        · show some (Value.int (Int32.ofNat k - nj_fs.getD (Int32.ofNat s).toNatClampNeg 0)) = _
          rw [hx0.2, f0]
          congr 2
          apply Int32.toInt_inj.mp
          rw [Int32.toInt_sub, i32_small (by omega), i32_small (by omega), i32_small (by omega)]
          rw [Int.bmod_eq_of_le (by omega) (by omega)]
          omega
    · have c'' : nj_cmp .lt (oI (ns.findIdx? (fun k => k == (T p).2.2.1))) (nj_fs.getD (Int32.ofNat s + Int32.ofInt 1).toNatClampNeg 0) = false := c2
      rw [hx1.2, f1] at c''
      refine ⟨_, ?_, rfl⟩
      unfold sKn
      rw [if_neg (fun y => y e2)]
      cases hfi : ns.findIdx? (fun k => k == (T p).2.2.1) with
      | none => rfl
      | some k =>
        rw [hfi] at c''
        have hk26 : k < ns.length := (List.findIdx?_eq_some_iff_findIdx_eq.mp hfi).1
        rw [hn.1] at hk26
        have := of_decide_eq_false ((cmp_nat (i := k) (j := hi) (by omega) (by omega)).2.1.symm.trans c'')
        show (if lo ≤ k ∧ k < hi then _ else _) = _
        rw [if_neg (by omega)]
  · obtain ⟨rfl, rfl⟩ := hP
    have e2 : ¬ (T p).1 = 2 := of_decide_eq_false (hc.symm.trans c)
    refine xw_go nostop 10 (fun K e => e _ _ _ _ (kT_end rfl rfl (Or.inr ⟨1, _, ?_, rfl, rfl⟩)))
    unfold sKn
    rw [if_pos e2]
/-- a line's first word and the name that it tells, by the list of names -/
def sBe (T : Nat → Tk) (c most p : Nat) (ns : List (List Nat)) : Rs (List Nat) :=
  if c = most then .inl (4, (T p).2.1)
  else if ¬ (T (T p).2.2.2.2).1 = 2 then .inl (1, (T (T p).2.2.2.2).2.1)
  else match ns.findIdx? (fun k => k == (T (T p).2.2.2.2).2.2.1) with
    | some _ => .inl (3, (T (T p).2.2.2.2).2.1)
    | none => .inr ((T (T p).2.2.2.2).2.2.2.2, (T (T p).2.2.2.2).2.2.1)
theorem r_begins (hT : tkOk T) (h : txR T kd pl vl tok cur p) {ns : List (List Nat)} (hn : nmR z.2.1 ns) {s lo hi c : Nat} (hs : s < 4) (f0 : nj_fs.getD s 0 = Int32.ofNat lo) (f1 : nj_fs.getD (s + 1) 0 = Int32.ofNat hi) (hhi : hi ≤ 26) (hlo : lo + c ≤ hi) (hcn : z.1 s = Int32.ofNat c) : mS nj_M nX0 L xs (d + 1) 33 [.ref 22, .ref 1, .int (Int32.ofNat s)] (th b kd pl vl ky len tok cur tak tl fk fp z) (fun rv l => (∃ q w cur1, sBe T c (hi - lo) p ns = .inr (q, w) ∧ lo + c < hi ∧ (∀ x ∈ w, let26 x) ∧ w.length ≤ 7 ∧ ¬ w = [] ∧ rv = some (.int 1) ∧ txR T kd pl vl tok cur1 q ∧ l = th b kd pl vl ky len tok cur1 tak tl fk fp (upd z.1 s (Int32.ofNat (c + 1)), vp_updL z.2.1 (lo + c) (Int64.ofNat (e32 w 0)), z.2.2)) ∨ (∃ e q cur1, sBe T c (hi - lo) p ns = .inl (e, q) ∧ rv = some (.int 0) ∧ l = th b kd pl vl ky len tok cur1 tak tl (Int32.ofNat e) (Int32.ofNat q) z)) := by
  have hx0 := ix_nat (i := s) (n := 5) (by omega) (by decide)
  have hx4 := ix_nat (i := s) (n := 4) (by omega) (by decide)
  have hx1 : nj_ix (Int32.ofNat s + Int32.ofInt 1) 5 = true ∧ (Int32.ofNat s + Int32.ofInt 1).toNatClampNeg = s + 1 := by rw [i32_succ]; exact ix_nat (by omega) (by decide)
  have hslot : nj_fs.getD (Int32.ofNat s).toNatClampNeg 0 + z.1 (Int32.ofNat s).toNatClampNeg = Int32.ofNat (lo + c) := by rw [hx0.2, f0, hcn, Int32.ofNat_add]
  refine mS_of rfl (fun h0 => ?_)
  refine xw_go nostop 40 (fun K e => And.intro hx0.1 (And.intro hx4.1 (And.intro hx1.1 (And.intro (fun c1 => e _ _ _ _ (kT_call rfl rfl rfl rfl (r_adv hT h) ⟨rfl, rfl, rfl, rfl, rfl, rfl, trivial⟩ rfl rfl (fun rv l1 hP _ => ?_))) (fun c1 => e _ _ _ _ (kT_call rfl rfl rfl rfl (r_fails hT h _) ⟨rfl, rfl, rfl, rfl, rfl, rfl, trivial⟩ rfl rfl (fun rv l1 hP _ => ?_)))))))
  · obtain ⟨rfl, cur1, h1, rfl⟩ := hP
    have c' : nj_cmp .lt (nj_fs.getD (Int32.ofNat s).toNatClampNeg 0 + z.1 (Int32.ofNat s).toNatClampNeg) (nj_fs.getD (Int32.ofNat s + Int32.ofInt 1).toNatClampNeg 0) = true := c1
    rw [hslot, hx1.2, f1] at c'
    have hlt := of_decide_eq_true ((cmp_nat (i := lo + c) (j := hi) (by omega) (by omega)).2.1.symm.trans c')
    have hs26 : nj_ix (nj_fs.getD (Int32.ofNat s).toNatClampNeg 0 + z.1 (Int32.ofNat s).toNatClampNeg) 26 = true ∧ (nj_fs.getD (Int32.ofNat s).toNatClampNeg 0 + z.1 (Int32.ofNat s).toNatClampNeg).toNatClampNeg = lo + c := by rw [hslot]; exact ix_nat (by omega) (by decide)
    have b3 := hT.2.2.1 (T p).2.2.2.2
    have hc : nj_cmp .eq (Int32.ofNat (T (T p).2.2.2.2).1) 2 = decide ((T (T p).2.2.2.2).1 = 2) := (cmp_nat (i := (T (T p).2.2.2.2).1) (j := 2) (by omega) (by omega)).2.2.2.2.1
    refine xw_go nostop 10 (fun K e => e _ _ _ _ (kT_call rfl rfl rfl rfl (r_kind hT h1) ⟨rfl, rfl, rfl, rfl, rfl, rfl, trivial⟩ rfl rfl (fun rv l1 hP _ => ?_)))
    obtain ⟨rfl, rfl⟩ := hP
    refine xw_go nostop 10 (fun K e => And.intro (fun c2 => e _ _ _ _ (kT_call rfl rfl rfl rfl (r_value hT h1) ⟨rfl, rfl, rfl, rfl, rfl, rfl, trivial⟩ rfl rfl (fun rv l1 hP _ => ?_))) (fun c2 => e _ _ _ _ (kT_call rfl rfl rfl rfl (r_fails hT h1 _) ⟨rfl, rfl, rfl, rfl, rfl, rfl, trivial⟩ rfl rfl (fun rv l1 hP _ => ?_))))
    · obtain ⟨rfl, rfl⟩ := hP
      have e2 : (T (T p).2.2.2.2).1 = 2 := of_decide_eq_true (hc.symm.trans c2)
      obtain ⟨w1, w2, w3⟩ := hT.2.2.2.1 _ e2
      have etv : tv (T (T p).2.2.2.2) = e32 (T (T p).2.2.2.2).2.2.1 0 := by unfold tv; rw [if_neg (by omega)]
      have hsf := sf_ok hn w1 w2
      rw [← etv] at hsf
      refine xw_go nostop 10 (fun K e => e _ _ _ _ (kT_call rfl rfl rfl rfl (s_slotOf _) sub_h rfl rfl (fun rv l1 hP _ => ?_)))
      obtain ⟨rfl, rfl⟩ := hP
      rw [hsf]
      refine xw_go nostop 20 (fun K e => And.intro (fun c3 => e _ _ _ _ (kT_call rfl rfl rfl rfl (r_value hT h1) ⟨rfl, rfl, rfl, rfl, rfl, rfl, trivial⟩ rfl rfl (fun rv l1 hP _ => ?_))) (fun c3 => e _ _ _ _ (kT_call rfl rfl rfl rfl (r_fails hT h1 _) ⟨rfl, rfl, rfl, rfl, rfl, rfl, trivial⟩ rfl rfl (fun rv l1 hP _ => ?_))))
      · obtain ⟨rfl, rfl⟩ := hP
        have c4 : nj_cmp .eq (oI (ns.findIdx? (fun k => k == (T (T p).2.2.2.2).2.2.1))) (Int32.ofInt (-1)) = true := c3
        have hfi : ns.findIdx? (fun k => k == (T (T p).2.2.2.2).2.2.1) = none := by
          cases hfi : ns.findIdx? (fun k => k == (T (T p).2.2.2.2).2.2.1) with
          | none => rfl
          | some k =>
            rw [hfi] at c4
            exfalso
            have hk26 : k < ns.length := (List.findIdx?_eq_some_iff_findIdx_eq.mp hfi).1
            rw [hn.1] at hk26
            have y := congrArg Int32.toInt (of_decide_eq_true (show decide (Int32.ofNat k = Int32.ofInt (-1)) = true from c4))
            rw [i32_small (by omega)] at y
            have : (Int32.ofInt (-1)).toInt = -1 := rfl
            omega
        refine xw_go nostop 20 (fun K e => And.intro hs26.1 (And.intro hx4.1 (And.intro hx4.1 (e _ _ _ _ (kT_call rfl rfl rfl rfl (r_adv hT h1) ⟨rfl, rfl, rfl, rfl, rfl, rfl, trivial⟩ rfl rfl (fun rv l1 hP _ => ?_))))))
        obtain ⟨rfl, cur2, h2, rfl⟩ := hP
        refine xw_go nostop 20 (fun K e => e _ _ _ _ (kT_end rfl rfl (Or.inl ⟨(T (T p).2.2.2.2).2.2.2.2, (T (T p).2.2.2.2).2.2.1, cur2, ?_, hlt, w1, w2, w3, rfl, h2, ?_⟩)))
        · unfold sBe
          rw [if_neg (by omega), if_neg (fun y => y e2), hfi]
        · rw [← etv, ← hs26.2, ← i32_succ c, ← hcn]
          rw [show z.1 s = z.1 (Int32.ofNat s).toNatClampNeg from by rw [hx4.2]]
          rw [show upd z.1 s = upd z.1 (Int32.ofNat s).toNatClampNeg from by rw [hx4.2]]
          rfl
      · obtain ⟨rfl, rfl⟩ := hP
        have c4 : nj_cmp .eq (oI (ns.findIdx? (fun k => k == (T (T p).2.2.2.2).2.2.1))) (Int32.ofInt (-1)) = false := c3
        refine xw_go nostop 20 (fun K e => e _ _ _ _ (kT_end rfl rfl (Or.inr ⟨3, _, cur1, ?_, rfl, rfl⟩)))
        unfold sBe
        rw [if_neg (by omega), if_neg (fun y => y e2)]
        cases hfi : ns.findIdx? (fun k => k == (T (T p).2.2.2.2).2.2.1) with
        | none =>
          rw [hfi] at c4
          exact nomatch (show true = false from c4)
        | some k => rfl
    · obtain ⟨rfl, rfl⟩ := hP
      have e2 : ¬ (T (T p).2.2.2.2).1 = 2 := of_decide_eq_false (hc.symm.trans c2)
      refine xw_go nostop 20 (fun K e => e _ _ _ _ (kT_end rfl rfl (Or.inr ⟨1, _, cur1, ?_, rfl, rfl⟩)))
      unfold sBe
      rw [if_neg (by omega), if_pos e2]
  · obtain ⟨rfl, rfl⟩ := hP
    have c' : nj_cmp .lt (nj_fs.getD (Int32.ofNat s).toNatClampNeg 0 + z.1 (Int32.ofNat s).toNatClampNeg) (nj_fs.getD (Int32.ofNat s + Int32.ofInt 1).toNatClampNeg 0) = false := c1
    rw [hslot, hx1.2, f1] at c'
    have hge := of_decide_eq_false ((cmp_nat (i := lo + c) (j := hi) (by omega) (by omega)).2.1.symm.trans c')
    refine xw_go nostop 20 (fun K e => e _ _ _ _ (kT_end rfl rfl (Or.inr ⟨4, _, cur, ?_, rfl, rfl⟩)))
    unfold sBe
    rw [if_pos (by omega)]
end HSE
