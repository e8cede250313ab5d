/-! the reference looks for names, takes numbers, tells names -/
def sfo (nms : Nat → Int64) (w : Int64) (f : Nat) : Nat → Nat → Int32
  | 0, _ => Int32.ofInt (-1)
  | k + 1, i => if nms (f + i) = w then Int32.ofNat i else sfo nms w f k (i + 1)
theorem sfo_go {nms : Nat → Int64} {f : Nat} {w : List Nat} (hw : (∀ c ∈ w, let26 c) ∧ w.length ≤ 7) : ∀ (ks : List (List Nat)) (i : Nat), (∀ j, j < ks.length → nms (f + (i + j)) = Int64.ofNat (e256 (ks.getD j []) 0)) → (∀ k ∈ ks, (∀ c ∈ k, let26 c) ∧ k.length ≤ 7) → sfo nms (Int64.ofNat (e256 w 0)) f ks.length i = oI ((fi ks w).map (fun j => i + j)) := by
  intro ks
  induction ks with
  | nil => intro i _ _; rfl
  | cons k ks ih =>
    intro i h1 h2
    have hk := h2 k (List.mem_cons_self ..)
    have e0 : nms (f + i) = Int64.ofNat (e256 k 0) := h1 0 (Nat.succ_pos _)
    show (if nms (f + i) = Int64.ofNat (e256 w 0) then Int32.ofNat i else sfo nms (Int64.ofNat (e256 w 0)) f ks.length (i + 1)) = _
    unfold fi
    rw [List.findIdx?_cons]
    by_cases e : k = w
    · subst e
      rw [if_pos e0, if_pos (by simp)]
      rfl
    · have hne : ¬ nms (f + i) = Int64.ofNat (e256 w 0) := by
        rw [e0]
        intro z
        exact e ((e256_q hk hw).mp z)
      rw [if_neg hne, if_neg (by simpa using e), ih (i + 1) (fun j hj => by
        have := h1 (j + 1) (Nat.succ_lt_succ hj)
        rw [show i + 1 + j = i + (j + 1) from by omega]
        exact this) (fun k hk => h2 k (List.mem_cons_of_mem _ hk))]
      unfold fi
      cases ks.findIdx? (fun k => k == w) with
      | none => rfl
      | some j =>
        show Int32.ofNat (i + 1 + j) = Int32.ofNat (i + (j + 1))
        rw [show i + 1 + j = i + (j + 1) from by omega]
section RFE
variable {L : Nat} {xs : Nat → Int32} {d : Nat} {o : Nat → Value} {thr len sz lim : Int32} {X : Lx} {flt fat got lns crs : Int32} {b hh : Nat → Int32} {nms rsv : Nat → Int64} {n m q : Nat}
theorem find_loop {h0 : List nC} {f c : Nat} {R : Int32} (hf : f + c ≤ 52) : ∀ (k i : Nat), i + k = c → sfo nms X.2.2.2.2.2 f k i = R → kT nj_M nX0 L xs d nm_172 (mQ (rfP o thr len (Int32.ofNat n) (Int32.ofNat m) X flt fat got lns crs b hh nms rsv) (fun rv l => rv = some (.int R) ∧ l = (rfP o thr len (Int32.ofNat n) (Int32.ofNat m) X flt fat got lns crs b hh nms rsv)) h0) (hk (rfP o thr len (Int32.ofNat n) (Int32.ofNat m) X flt fat got lns crs b hh nms rsv)) h0 2 [(0, .ref 175), (1, .int (Int32.ofNat f)), (2, .int (Int32.ofNat c)), (3, .int (Int32.ofNat i))] [] (rfP o thr len (Int32.ofNat n) (Int32.ofNat m) X flt fat got lns crs b hh nms rsv) := by
  intro k
  induction k with
  | zero =>
    intro i hi hR
    refine xw_go nostop 10 (fun K e => And.intro (fun _ => e _ _ _ _ (kT_end rfl rfl ⟨by rw [← hR]; rfl, rfl⟩)) (fun c1 => absurd (of_decide_eq_false ((cmp_nat (i := i) (j := c) (by omega) (by omega)).1.symm.trans c1)) (by omega)))
  | succ k ih =>
    intro i hi hR
    have hx : nj_ix (Int32.ofNat f + Int32.ofNat i) 52 = true ∧ (Int32.ofNat f + Int32.ofNat i).toNatClampNeg = f + i := by
      rw [← Int32.ofNat_add]
      exact ix_nat (by omega) (by decide)
    refine xw_go (fun pc => pc == 2) 20 (fun K e => And.intro (fun c1 => absurd (of_decide_eq_true ((cmp_nat (i := i) (j := c) (by omega) (by omega)).1.symm.trans c1)) (by omega)) (fun _ => And.intro hx.1 (And.intro (fun c1 => e _ _ _ _ (kT_sort rfl ?_)) (fun c1 => e _ _ _ _ (kT_end rfl (ret_i _) ⟨?_, rfl⟩)))))
    · have c2 : ¬ nms (f + i) = X.2.2.2.2.2 := fun y => by
        have c3 := of_decide_eq_true (show decide (¬ lg_cmp (nms (Int32.ofNat f + Int32.ofNat i).toNatClampNeg) X.2.2.2.2.2 = 0) = true from c1)
        rw [hx.2] at c3
        exact c3 (cmp_eq0.mpr y)
      have h := ih (i + 1) (by omega) (by rw [← hR]; show _ = if nms (f + i) = X.2.2.2.2.2 then _ else _; rw [if_neg c2])
      rw [← i32_succ] at h
      exact h
    · have c2 : nms (f + i) = X.2.2.2.2.2 := by
        have c3 := of_decide_eq_false (show decide (¬ lg_cmp (nms (Int32.ofNat f + Int32.ofNat i).toNatClampNeg) X.2.2.2.2.2 = 0) = false from c1)
        rw [hx.2] at c3
        exact cmp_eq0.mp (Classical.not_not.mp c3)
      rw [← hR]
      show _ = some (Value.int (if nms (f + i) = X.2.2.2.2.2 then _ else _))
      rw [if_pos c2]
/-- names from f on -/
def nmF (nms : Nat → Int64) (f : Nat) (ns : List (List Nat)) : Prop := ∀ i, i < ns.length → nms (f + i) = Int64.ofNat (e256 (ns.getD i []) 0)
theorem k_find (h : rX b n m q X) (hk2 : (tk b n m q).1 = 2) {f : Nat} {ns : List (List Nat)} (hf : f + ns.length ≤ 52) (hns : nmF nms f ns) (hok : ∀ w ∈ ns, wOk w) {c : Int32} (hc : c = Int32.ofNat ns.length) : mS nj_M nX0 L xs d 172 [.ref 175, .int (Int32.ofNat f), .int c] (rfP o thr len (Int32.ofNat n) (Int32.ofNat m) X flt fat got lns crs b hh nms rsv) (fun rv l => rv = some (.int (oI (fi ns (tk b n m q).2.2.1))) ∧ l = (rfP o thr len (Int32.ofNat n) (Int32.ofNat m) X flt fat got lns crs b hh nms rsv)) := by
  subst hc
  rcases rX_w h with ⟨t, k, wd, ok⟩ | ⟨t, k1, k2⟩
  · have hs := sfo_go (nms := nms) (f := f) ⟨ok.1, ok.2.1⟩ ns 0 (fun j hj => by rw [Nat.zero_add]; exact hns j hj) (fun k hk => ⟨(hok k hk).1, (hok k hk).2.1⟩)
    rw [← wd] at hs
    have hs2 : sfo nms X.2.2.2.2.2 f ns.length 0 = oI (fi ns (tk b n m q).2.2.1) := by
      rw [hs]
      cases fi ns (tk b n m q).2.2.1 with
      | none => rfl
      | some j => show Int32.ofNat (0 + j) = Int32.ofNat j; rw [Nat.zero_add]
    exact mS_of rfl (fun h0 => xw_go (fun pc => pc == 2) 5 (fun K e => e _ _ _ _ (kT_sort rfl (find_loop hf ns.length 0 (Nat.zero_add _) hs2))))
  · exact absurd hk2 k1
theorem k_takes (hn : n ≤ 940) (hm : m ≤ 900) (hby : ∀ i, i < 940 → -128 ≤ (b i).toInt ∧ (b i).toInt ≤ 127) (h : rX b n m q X) {lo hi : Nat} (hlo : lo < 1000) (hhi : hi < 1000) : mS nj_M nX0 L xs (d + 2) 175 [.ref 175, .int (Int32.ofNat lo), .int (Int32.ofNat hi)] (rfP o thr len (Int32.ofNat n) (Int32.ofNat m) X flt fat got lns crs b hh nms rsv) (fun rv l => (∃ q1 y X1, sNum (tk b n m) q lo hi = .inr (q1, y) ∧ y ≤ hi ∧ rv = some (.int 1) ∧ rX b n m q1 X1 ∧ l = (rfP o thr len (Int32.ofNat n) (Int32.ofNat m) X1 flt fat (Int32.ofNat y) lns crs b hh nms rsv)) ∨ (∃ e p, sNum (tk b n m) q lo hi = .inl (e, p) ∧ rv = some (.int 0) ∧ l = (rfP o thr len (Int32.ofNat n) (Int32.ofNat m) X (Int32.ofNat e) (Int32.ofNat p) got lns crs b hh nms rsv))) := by
  have b3 := (tk_ok (b := b) hn hm).2.2.1 q
  refine mS_of rfl (fun h0 => ?_)
  refine xw_go nostop 10 (fun K e => And.intro (fun c => e _ _ _ _ (kT_call rfl rfl rfl rfl (q_isIn _ _ _) trivial rfl rfl (fun rv l1 hP _ => ?_))) (fun c => e _ _ _ _ (kT_call rfl rfl rfl rfl (k_bad h _) ⟨rfl, rfl, rfl, rfl, rfl, trivial⟩ rfl rfl (fun rv l1 hP _ => ?_))))
  · obtain ⟨rfl, rfl⟩ := hP
    have c1 := of_decide_eq_true (show decide (X.2.1 = 2) = true from c)
    rcases rX_n h with ⟨t, k, nu⟩ | ⟨t, k⟩
    · have cl := (cmp_nat (i := (tk b n m q).2.2.2.1) (j := lo) (by omega) (by omega)).2.1
      have cg := (cmp_nat (i := (tk b n m q).2.2.2.1) (j := hi) (by omega) (by omega)).2.2.1
      rw [nu, cl, cg]
      refine xw_go nostop 20 (fun K e => And.intro (fun c2 => And.intro rfl (e _ _ _ _ (kT_call rfl rfl rfl rfl (k_next hn hm hby h) ⟨rfl, rfl, rfl, rfl, rfl, trivial⟩ rfl rfl (fun rv l1 hP _ => ?_)))) (fun c2 => e _ _ _ _ (kT_call rfl rfl rfl rfl (k_bad h _) ⟨rfl, rfl, rfl, rfl, rfl, trivial⟩ rfl rfl (fun rv l1 hP _ => ?_))))
      · obtain ⟨rfl, X1, hX1, rfl⟩ := hP
        have c3 := (cmp_ne01 _).symm.trans c2
        rw [Bool.and_eq_true, Bool.not_eq_true', Bool.not_eq_true', decide_eq_false_iff_not, decide_eq_false_iff_not] at c3
        refine xw_go nostop 10 (fun K e => e _ _ _ _ (kT_end rfl rfl (Or.inl ⟨(tk b n m q).2.2.2.2, (tk b n m q).2.2.2.1, X1, ?_, by omega, rfl, hX1, by rw [← nu]; rfl⟩)))
        unfold sNum
        rw [if_neg (fun z => z k), if_neg (by omega)]
      · obtain ⟨rfl, rfl⟩ := hP
        have c3 := (cmp_ne01 _).symm.trans c2
        refine xw_go nostop 10 (fun K e => e _ _ _ _ (kT_end rfl rfl (Or.inr ⟨2, (tk b n m q).2.1, ?_, rfl, rfl⟩)))
        have c4 : (tk b n m q).2.2.2.1 < lo ∨ hi < (tk b n m q).2.2.2.1 := by
          apply Classical.byContradiction
          intro z
          rw [decide_eq_false (show ¬ (tk b n m q).2.2.2.1 < lo by omega), decide_eq_false (show ¬ hi < (tk b n m q).2.2.2.1 by omega)] at c3
          cases c3
        unfold sNum
        rw [if_neg (fun z => z k), if_pos c4]
    · exact absurd c1 t
  · obtain ⟨rfl, rfl⟩ := hP
    have c1 := of_decide_eq_false (show decide (X.2.1 = 2) = false from c)
    rcases rX_n h with ⟨t, k, nu⟩ | ⟨t, k⟩
    · exact absurd t c1
    · refine xw_go nostop 10 (fun K e => e _ _ _ _ (kT_end rfl rfl (Or.inr ⟨1, (tk b n m q).2.1, ?_, rfl, rfl⟩)))
      unfold sNum
      rw [if_pos k]
theorem k_puts (hn : n ≤ 940) (hm : m ≤ 900) (hby : ∀ i, i < 940 → -128 ≤ (b i).toInt ∧ (b i).toInt ≤ 127) (h : rX b n m q X) {lo hi : Nat} (hlo : lo < 1000) (hhi : hi < 1000) {t : Int32} {t0 : Nat} (ht : t = Int32.ofNat t0) (ht0 : t0 < 132) : mS nj_M nX0 L xs (d + 3) 174 [.ref 175, .int t, .int (Int32.ofNat lo), .int (Int32.ofNat hi)] (rfP o thr len (Int32.ofNat n) (Int32.ofNat m) X flt fat got lns crs b hh nms rsv) (fun rv l => (∃ q1 y X1, sNum (tk b n m) q lo hi = .inr (q1, y) ∧ y ≤ hi ∧ rv = some (.int 1) ∧ rX b n m q1 X1 ∧ l = (rfP o thr len (Int32.ofNat n) (Int32.ofNat m) X1 flt fat (Int32.ofNat y) lns crs b (upd hh t0 (Int32.ofNat y)) nms rsv)) ∨ (∃ e p, sNum (tk b n m) q lo hi = .inl (e, p) ∧ rv = some (.int 0) ∧ l = (rfP o thr len (Int32.ofNat n) (Int32.ofNat m) X (Int32.ofNat e) (Int32.ofNat p) got lns crs b hh nms rsv))) := by
  subst ht
  have hx := ix_nat (i := t0) (n := 132) ht0 (by decide)
  refine mS_of rfl (fun h0 => ?_)
  refine xw_go nostop 10 (fun K e => e _ _ _ _ (kT_call rfl rfl rfl rfl (k_takes hn hm hby h hlo hhi) ⟨rfl, rfl, rfl, rfl, rfl, trivial⟩ rfl rfl (fun rv l1 hP _ => ?_)))
  rcases hP with ⟨q1, y, X1, e1, hy, rfl, hX1, rfl⟩ | ⟨e, p, e1, rfl, rfl⟩
  · refine xw_go nostop 20 (fun K e => And.intro (fun _ => And.intro hx.1 (e _ _ _ _ (kT_end rfl rfl (Or.inl ⟨q1, y, X1, e1, hy, rfl, hX1, ?_⟩)))) (fun c => nomatch (show true = false from c)))
    rw [show upd hh t0 = upd hh (Int32.ofNat t0).toNatClampNeg from by rw [hx.2]]
    rfl
  · exact xw_go nostop 20 (fun K e2 => And.intro (fun c => nomatch (show false = true from c)) (fun _ => e2 _ _ _ _ (kT_end rfl rfl (Or.inr ⟨e, p, e1, rfl, rfl⟩))))
/-- a name that is told: looked for in a list -/
theorem k_looks (hn : n ≤ 940) (hm : m ≤ 900) (hby : ∀ i, i < 940 → -128 ≤ (b i).toInt ∧ (b i).toInt ≤ 127) (hrs : rsvOk rsv) (h : rX b n m q X) {f : Nat} {ns : List (List Nat)} (hf : f + ns.length ≤ 52) (hns : nmF nms f ns) (hok : ∀ w ∈ ns, wOk w) {c : Int32} (hc : c = Int32.ofNat ns.length) : mS nj_M nX0 L xs (d + 1) 178 [.ref 175, .int (Int32.ofNat f), .int c] (rfP o thr len (Int32.ofNat n) (Int32.ofNat m) X flt fat got lns crs b hh nms rsv) (fun rv l => (∃ k, sKno (tk b n m) q ns = .inr (q, k) ∧ k < ns.length ∧ rv = some (.int 1) ∧ l = (rfP o thr len (Int32.ofNat n) (Int32.ofNat m) X flt fat (Int32.ofNat k) lns crs b hh nms rsv)) ∨ (∃ e p g, sKno (tk b n m) q ns = .inl (e, p) ∧ rv = some (.int 0) ∧ l = (rfP o thr len (Int32.ofNat n) (Int32.ofNat m) X (Int32.ofNat e) (Int32.ofNat p) g lns crs b hh nms rsv))) := by
  refine mS_of rfl (fun h0 => ?_)
  refine xw_go nostop 10 (fun K e => e _ _ _ _ (kT_call rfl rfl rfl rfl (k_isName hrs h) ⟨rfl, rfl, rfl, rfl, rfl, trivial⟩ rfl rfl (fun rv l1 hP _ => ?_)))
  obtain ⟨rfl, rfl⟩ := hP
  have hl52 : ns.length ≤ 52 := by omega
  refine xw_go nostop 10 (fun K e => And.intro (fun c1 => e _ _ _ _ (kT_call rfl rfl rfl rfl (k_find h (of_decide_eq_true ((cmp_ne01 _).symm.trans c1)) hf hns hok hc) ⟨rfl, rfl, rfl, rfl, rfl, trivial⟩ rfl rfl (fun rv l1 hP _ => ?_))) (fun c1 => e _ _ _ _ (kT_call rfl rfl rfl rfl (k_bad h _) ⟨rfl, rfl, rfl, rfl, rfl, trivial⟩ rfl rfl (fun rv l1 hP _ => ?_))))
  · obtain ⟨rfl, rfl⟩ := hP
    have hk2 := of_decide_eq_true ((cmp_ne01 _).symm.trans c1)
    have hS : sKno (tk b n m) q ns = knR q (kn3 (tk b n m) q ns) := sKno_ok ns
    unfold kn3 at hS
    rw [if_neg (fun z => z hk2)] at hS
    cases hfi : fi ns (tk b n m q).2.2.1 with
    | some k =>
      rw [hfi] at hS
      have hkl := (fi_some hfi).1
      refine xw_go nostop 20 (fun K e => And.intro rfl (And.intro (fun _ => e _ _ _ _ (kT_end rfl rfl (Or.inl ⟨k, hS, hkl, rfl, rfl⟩))) (fun c2 => ?_)))
      exact absurd (of_decide_eq_false ((cmp_nat (i := k) (j := 0) (by omega) (by omega)).1.symm.trans c2)) (by omega)
    | none =>
      rw [hfi] at hS
      refine xw_go nostop 20 (fun K e => And.intro rfl (And.intro (fun c2 => nomatch (show false = true from c2)) (fun _ => e _ _ _ _ (kT_call rfl rfl rfl rfl (k_bad h _) ⟨rfl, rfl, rfl, rfl, rfl, trivial⟩ rfl rfl (fun rv l1 hP _ => ?_)))))
      obtain ⟨rfl, rfl⟩ := hP
      exact xw_go nostop 20 (fun K e => And.intro (fun _ => e _ _ _ _ (kT_end rfl rfl (Or.inr ⟨3, _, _, hS, rfl, rfl⟩))) (fun c2 => nomatch (show true = false from c2)))
  · obtain ⟨rfl, rfl⟩ := hP
    have hk2 := of_decide_eq_false ((cmp_ne01 _).symm.trans c1)
    refine xw_go nostop 20 (fun K e => e _ _ _ _ (kT_end rfl rfl (Or.inr ⟨1, _, got, ?_, rfl, rfl⟩)))
    rw [sKno_ok]
    unfold kn3
    rw [if_pos hk2]
    rfl
end RFE
