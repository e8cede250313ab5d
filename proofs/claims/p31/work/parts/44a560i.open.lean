/-! the class opens a text: its tokens in a row -/
theorem kT_min {M : Nat → Option nM} {X : nX} {L : Nat} {xs : Nat → Int32} {d : Nat} {mt : nM} {Q : Option Value → List nC → Prop} {ks : List Nat} {h0 : List nC} {pc : Nat} {lv : nLv} {r : List Value} {l : nL} {q : Nat} {idx a b pos : Nat} {x y : Int32} (hf : mt.2.2.2.2.2.find? (fun q => q.1 == pc) = some (q, .invokestatic idx, a, b, 7, pos)) (hr : decide (nj_sum r ≤ 8) = true) (k : kT M X L xs d mt Q ks h0 (pc + 3) lv (.int (if y < x then y else x) :: r) l) : kT M X L xs d mt Q ks h0 pc lv (.int y :: .int x :: r) l := fun hks h hh hfr =>
  nT_c0 hf rfl (fun run => by
    unfold nj_calls
    rw [if_neg (show ¬ nj_isinv (Instr.invokestatic idx) = false from fun z => nomatch (show true = false from z)), if_neg (by decide), if_neg (by decide), if_neg (by decide), if_pos rfl]
    show (if nj_sum r ≤ 8 then _ else none) = _
    rw [if_pos (of_decide_eq_true hr)]) (k hks h hh hfr)
def ps (T : Nat → Tk) : Nat → Nat
  | 0 => 0
  | i + 1 => (T (ps T i)).2.2.2.2
def tbl (T : Nat → Tk) (k : Nat) (kd pl : Nat → Int32) (vl : Nat → Int64) : Prop := ∀ i, i < k → kd i = Int32.ofNat (T (ps T i)).1 ∧ pl i = Int32.ofNat (T (ps T i)).2.1 ∧ vl i = Int64.ofNat (tv (T (ps T i)))
theorem tbl_add {T : Nat → Tk} {k : Nat} {kd pl : Nat → Int32} {vl : Nat → Int64} (h : tbl T k kd pl vl) : tbl T (k + 1) (upd kd k (Int32.ofNat (T (ps T k)).1)) (upd pl k (Int32.ofNat (T (ps T k)).2.1)) (vp_updL vl k (Int64.ofNat (tv (T (ps T k))))) := by
  intro i hi
  by_cases e : i = k
  · subst e
    exact ⟨if_pos rfl, if_pos rfl, if_pos rfl⟩
  · have h1 := h i (by omega)
    exact ⟨(if_neg e).trans h1.1, (if_neg e).trans h1.2.1, (if_neg e).trans h1.2.2⟩
section OPN
variable {L : Nat} {xs : Nat → Int32} {d : Nat} {b kd pl : Nat → Int32} {vl ky : Nat → Int64} {len tok cur tak tl fk fp : Int32}
theorem tk_end {n m p : Nat} (h : min n m ≤ sk b n 941 p) : tk b n m p = (0, min n m, [], 0, sk b n 941 p) := by
  unfold tk
  rw [if_pos h]
theorem tk_tq {n m p : Nat} (h : sk b n 941 p < min n m) : tk b n m p = tq b n (sk b n 941 p) := by
  unfold tk
  rw [if_neg (by omega)]
theorem open_loop {Q : Option Value → List nC → Prop} {ks : List Nat} {h0 : List nC} {n m : Nat} (hn : n ≤ 940) (hm : m ≤ 900) (hky : keysOk ky)
    (hexit : ∀ (k : Nat) (kd pl : Nat → Int32) (vl : Nat → Int64) (a c : Int32), k ≤ 900 → tbl (tk b n m) k kd pl vl → (∀ i, i < k → ¬ (tk b n m (ps (tk b n m) i)).1 = 0) → min n m ≤ sk b n 941 (ps (tk b n m) k) → kT nj_M nX0 L xs (d + 3) nm_24 Q ks h0 68 [(0, .ref 1), (1, .int (Int32.ofNat m)), (2, .int (Int32.ofNat (min n m))), (3, .int a), (4, .int c)] [] (txP b kd pl vl ky (Int32.ofNat n) (Int32.ofNat k) cur tak tl fk fp)) : ∀ (r place k : Nat) (kd pl : Nat → Int32) (vl : Nat → Int64), place + r = min n m → k ≤ place → tbl (tk b n m) k kd pl vl → (∀ i, i < k → ¬ (tk b n m (ps (tk b n m) i)).1 = 0) → (∀ i, ps (tk b n m) k ≤ i → i < place → isB (b i) = true) → ps (tk b n m) k ≤ 940 → kT nj_M nX0 L xs (d + 3) nm_24 Q ks h0 19 [(0, .ref 1), (1, .int (Int32.ofNat m)), (2, .int (Int32.ofNat (min n m))), (3, .int (Int32.ofNat (ps (tk b n m) k))), (4, .int (Int32.ofNat place))] [] (txP b kd pl vl ky (Int32.ofNat n) (Int32.ofNat k) cur tak tl fk fp) := by
  intro r
  induction r with
  | zero =>
    intro place k kd pl vl h1 h2 h3 h4 h5 h6
    refine xw_go (fun pc => pc == 68) 8 (fun K e => And.intro (fun _ => e _ _ _ _ (hexit k kd pl vl _ _ (by omega) h3 h4 ?_)) (fun c => ?_))
    · by_cases hc : place ≤ ps (tk b n m) k
      · have := sk_ge (b := b) (n := n) 941 (ps (tk b n m) k)
        omega
      · have h7 := sk_to (b := b) hn (place - ps (tk b n m) k) (ps (tk b n m) k) (by omega) (fun i a c => h5 i a (by omega))
        rw [h7, show ps (tk b n m) k + (place - ps (tk b n m) k) = place from by omega]
        have := sk_ge (b := b) (n := n) 941 place
        omega
    · exfalso
      have := of_decide_eq_false ((cmp_nat (i := place) (j := min n m) (by omega) (by omega)).1.symm.trans c)
      omega
  | succ r ih =>
    intro place k kd pl vl h1 h2 h3 h4 h5 h6
    have hx := ix_nat (i := place) (n := 940) (by omega) (by decide)
    have hb : b (Int32.ofNat place).toNatClampNeg = b place := by rw [hx.2]
    have hstay : (∀ i, ps (tk b n m) k ≤ i → i < place + 1 → isB (b i) = true) → kT nj_M nX0 L xs (d + 3) nm_24 Q ks h0 62 [(0, .ref 1), (1, .int (Int32.ofNat m)), (2, .int (Int32.ofNat (min n m))), (3, .int (Int32.ofNat (ps (tk b n m) k))), (4, .int (Int32.ofNat place))] [] (txP b kd pl vl ky (Int32.ofNat n) (Int32.ofNat k) cur tak tl fk fp) := by
      intro z
      have h := ih (place + 1) k kd pl vl (by omega) (by omega) h3 h4 z h6
      rw [← i32_succ] at h
      exact xw_go (fun pc => pc == 19) 8 (fun K e => e _ _ _ _ (kT_sort rfl h))
    refine xw_go (fun pc => pc == 62) 30 (fun K e => And.intro (fun c => ?_) (fun _ => And.intro (fun c => e _ _ _ _ (hstay ?_)) (fun c => And.intro hx.1 (And.intro (fun c2 => e _ _ _ _ (hstay ?_)) (fun c2 => And.intro hx.1 (And.intro (fun c3 => e _ _ _ _ (hstay ?_)) (fun c3 => e _ _ _ _ (kT_call rfl rfl rfl rfl (s_scan (p := place) hn (by omega) hky (by omega)) ⟨rfl, rfl, rfl, rfl, rfl, rfl, trivial⟩ rfl rfl (fun rv l1 hP _ => ?_)))))))))
    · exfalso
      have := of_decide_eq_true ((cmp_nat (i := place) (j := min n m) (by omega) (by omega)).1.symm.trans c)
      omega
    · have := of_decide_eq_true ((cmp_nat (i := place) (j := ps (tk b n m) k) (by omega) (by omega)).2.1.symm.trans c)
      intro i a z
      omega
    · intro i a z
      by_cases ei : i = place
      · rw [ei, ← hb]
        unfold isB
        rw [show nj_cmp .eq (b (Int32.ofNat place).toNatClampNeg) 32 = true from c2]
        rfl
      · exact h5 i a (by omega)
    · intro i a z
      by_cases ei : i = place
      · rw [ei, ← hb]
        unfold isB
        rw [show nj_cmp .eq (b (Int32.ofNat place).toNatClampNeg) 10 = true from c3, Bool.or_true]
      · exact h5 i a (by omega)
    · obtain ⟨rfl, rfl⟩ := hP
      have hge := of_decide_eq_false ((cmp_nat (i := place) (j := ps (tk b n m) k) (by omega) (by omega)).2.1.symm.trans c)
      have hnb : isB (b place) = false := by
        rw [← hb]
        unfold isB
        rw [show nj_cmp .eq (b (Int32.ofNat place).toNatClampNeg) 32 = false from c2, show nj_cmp .eq (b (Int32.ofNat place).toNatClampNeg) 10 = false from c3]
        rfl
      have hsk : sk b n 941 (ps (tk b n m) k) = place := by
        have h7 := sk_to (b := b) hn (place - ps (tk b n m) k) (ps (tk b n m) k) (by omega) (fun i a c => h5 i a (by omega))
        rw [h7, show ps (tk b n m) k + (place - ps (tk b n m) k) = place from by omega]
        exact sk_no (fun z => by rw [hnb] at z; exact nomatch z.2)
      have hT : tk b n m (ps (tk b n m) k) = tq b n place := by
        rw [tk_tq (by rw [hsk]; omega), hsk]
      have hps : ps (tk b n m) (k + 1) = (tq b n place).2.2.2.2 := by
        show (tk b n m (ps (tk b n m) k)).2.2.2.2 = _
        rw [hT]
      have t1 := tbl_add h3
      rw [hT] at t1
      have hlt := tq_end (b := b) (n := n) (q := place) (by omega)
      have hle := tq_le (b := b) (n := n) (q := place) (by omega)
      have h := ih (place + 1) (k + 1) _ _ _ (by omega) (by omega) t1 (fun i hi => by
        by_cases e : i = k
        · rw [e, hT]; exact tq_ne0
        · exact h4 i (by omega)) (fun i a z => by rw [hps] at a; omega) (by rw [hps]; omega)
      rw [hps, ← i32_succ (i := place)] at h
      exact xw_go (fun pc => pc == 19) 8 (fun K e => e _ _ _ _ (kT_sort rfl h))
theorem s_open {n m : Nat} (hn : n ≤ 940) (hm : m ≤ 900) (hky : keysOk ky) : mS nj_M nX0 L xs (d + 3) 24 [.ref 1, .int (Int32.ofNat m)] (txP b kd pl vl ky (Int32.ofNat n) tok cur tak tl fk fp) (fun rv l => rv = none ∧ ∃ (kd1 pl1 : Nat → Int32) (vl1 : Nat → Int64) (k : Nat), k ≤ 900 ∧ tbl (tk b n m) (k + 1) kd1 pl1 vl1 ∧ (∀ i, i < k → ¬ (tk b n m (ps (tk b n m) i)).1 = 0) ∧ (tk b n m (ps (tk b n m) k)).1 = 0 ∧ l = txP b kd1 pl1 vl1 ky (Int32.ofNat n) (Int32.ofNat (k + 1)) 0 tak (b01 (decide (m < n))) 0 0) := by
  refine mS_of rfl (fun h0 => ?_)
  have hmin : (if Int32.ofNat m < Int32.ofNat n then Int32.ofNat m else Int32.ofNat n) = Int32.ofNat (min n m) := by
    have h1 : (Int32.ofNat m < Int32.ofNat n) ↔ m < n := by rw [Int32.lt_iff_toInt_lt, i32_small (by omega), i32_small (by omega)]; omega
    by_cases hc : m < n
    · rw [if_pos (h1.mpr hc), Nat.min_eq_right (by omega)]
    · rw [if_neg (fun z => hc (h1.mp z)), Nat.min_eq_left (by omega)]
  refine xw_go nostop 8 (fun K e => e _ _ _ _ (kT_min rfl rfl ?_))
  rw [hmin]
  refine xw_go (fun pc => pc == 19) 20 (fun K e => And.intro rfl (e _ _ _ _ (kT_sort rfl (open_loop hn hm hky ?_ (min n m) 0 0 kd pl vl (by omega) (by omega) (fun i hi => absurd hi (Nat.not_lt_zero i)) (fun i hi => absurd hi (Nat.not_lt_zero i)) (fun i _ hi => absurd hi (Nat.not_lt_zero i)) (Nat.zero_le _)))))
  intro k kd1 pl1 vl1 a c hk9 ht hne hE
  have hT := tk_end hE
  have t1 := tbl_add ht
  rw [hT] at t1
  refine xw_go nostop 20 (fun K e => e _ _ _ _ (kT_call rfl rfl rfl rfl (s_addN (k := k) (by omega) _ _ _) ⟨rfl, rfl, rfl, rfl, rfl, rfl, trivial⟩ rfl rfl (fun rv l1 hP _ => ?_)))
  obtain ⟨rfl, rfl⟩ := hP
  refine xw_go nostop 40 (fun K e => And.intro (fun c2 => ?_) (fun c2 => ?_))
  · have c3 := of_decide_eq_true ((cmp_nat (i := n) (j := m) (by omega) (by omega)).2.2.2.1.symm.trans c2)
    refine And.intro rfl (And.intro rfl (And.intro rfl (And.intro rfl (e _ _ _ _ (kT_end rfl rfl ⟨rfl, _, _, _, k, hk9, t1, hne, (by rw [hT]), ?_⟩)))))
    rw [show decide (m < n) = false from decide_eq_false (by omega)]
    rfl
  · have c3 := of_decide_eq_false ((cmp_nat (i := n) (j := m) (by omega) (by omega)).2.2.2.1.symm.trans c2)
    refine And.intro rfl (And.intro rfl (And.intro rfl (And.intro rfl (e _ _ _ _ (kT_end rfl rfl ⟨rfl, _, _, _, k, hk9, t1, hne, (by rw [hT]), ?_⟩)))))
    rw [show decide (m < n) = true from decide_eq_true (by omega)]
    rfl
end OPN
