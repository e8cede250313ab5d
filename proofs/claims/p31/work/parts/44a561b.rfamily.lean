/-! the reference's family -/
abbrev rfS (o : Nat → Value) (thr len sz lim : Int32) (X : Lx) (flt fat got lns crs : Int32) (b hh : Nat → Int32) (nms rsv : Nat → Int64) (s : Nat → Int32) : nL := rfP o thr len sz lim X flt fat got lns crs b hh nms rsv ++ [(177, .inl (0, 360, .inl s))]
/-- the house as it stands after a family -/
def sBg (hh s : Nat → Int32) : Prop := (∀ k, k < 132 → s k = hh k) ∧ s 132 = Int32.ofNat 300 ∧ s 133 = Int32.ofNat 1000 ∧ s 166 = Int32.ofInt (-1) ∧ (∀ e, e < 6 → s (138 + e) = hh (74 + e) ∧ s (144 + e) = hh (56 + e)) ∧ (∀ k, 134 ≤ k → k < 138 → s k = 0) ∧ (∀ k, 150 ≤ k → k < 166 → s k = 0) ∧ (∀ k, 167 ≤ k → k < 360 → s k = 0)
def fAns (R : (Nat × Nat) ⊕ (Hs × Nat)) : Int32 := match R with
  | .inl (_, p) => Int32.ofInt (-1) - Int32.ofNat p
  | .inr (_, ln) => Int32.ofNat ln
section RFT
variable {L : Nat} {xs : Nat → Int32} {d : Nat} {o : Nat → Value} {thr len sz lim : Int32} {X : Lx} {flt fat got lns crs : Int32} {b hh s : Nat → Int32} {nms rsv : Nat → Int64} {n m q : Nat} {H : Hs}
theorem ix_s {k c : Nat} (h : k + c < 360) : nj_ix (Int32.ofNat k + Int32.ofNat c) 360 = true ∧ (Int32.ofNat k + Int32.ofNat c).toNatClampNeg = k + c := by
  rw [← Int32.ofNat_add]
  exact ix_nat h (by decide)
theorem bgn_loop {h0 : List nC} {s0 : Nat → Int32} {l0 : nL} (hks : hk l0 = hk (rfS o thr len (Int32.ofNat n) (Int32.ofNat m) X flt fat got lns crs b hh nms rsv s)) (h1 : ∀ k, ¬ (138 ≤ k ∧ k < 150) → s0 k = s k) : ∀ (r i : Nat) (sx : Nat → Int32), i + r = 6 → (∀ k, ¬ (138 ≤ k ∧ k < 150) → sx k = s0 k) → (∀ e, e < i → sx (138 + e) = s0 (74 + e) ∧ sx (144 + e) = s0 (56 + e)) → kT nj_M nX0 L xs d nm_160 (mQ l0 (fun rv l => rv = none ∧ ∃ s1 : Nat → Int32, (∀ k, ¬ (138 ≤ k ∧ k < 150) → s1 k = s0 k) ∧ (∀ e, e < 6 → s1 (138 + e) = s0 (74 + e) ∧ s1 (144 + e) = s0 (56 + e)) ∧ l = (rfS o thr len (Int32.ofNat n) (Int32.ofNat m) X flt fat got lns crs b hh nms rsv s1)) h0) (hk l0) h0 33 [(0, .ref 175), (1, .int (Int32.ofNat i))] [] (rfS o thr len (Int32.ofNat n) (Int32.ofNat m) X flt fat got lns crs b hh nms rsv sx) := by
  intro r
  induction r with
  | zero =>
    intro i sx hi h2 h3
    have e : i = 6 := by omega
    subst e
    exact xw_go nostop 10 (fun K e => And.intro (fun _ => e _ _ _ _ (kT_end rfl rfl ⟨rfl, sx, h2, h3, rfl⟩)) (fun c => nomatch (show true = false from c)))
  | succ r ih =>
    intro i sx hi h2 h3
    have i138 := ix_s (k := 138) (c := i) (by omega)
    have i74 := ix_s (k := 74) (c := i) (by omega)
    have i144 := ix_s (k := 144) (c := i) (by omega)
    have i56 := ix_s (k := 56) (c := i) (by omega)
    have hb := ih (i + 1) (upd (upd sx (138 + i) (sx (74 + i))) (144 + i) (upd sx (138 + i) (sx (74 + i)) (56 + i))) (by omega) (fun k hk1 => by rw [up_ne (by omega), up_ne (by omega)]; exact h2 k hk1) (fun e he => ?_)
    · rw [← i32_succ, ← i138.2, ← i144.2, ← i74.2, ← i56.2] at hb
      exact xw_go (fun pc => pc == 33) 40 (fun K e => And.intro (fun c => absurd (of_decide_eq_true ((cmp_nat (i := i) (j := 6) (by omega) (by omega)).1.symm.trans c)) (by omega)) (fun _ => And.intro i74.1 (And.intro i138.1 (And.intro i56.1 (And.intro i144.1 (e _ _ _ _ (kT_sort rfl hb)))))))
    · by_cases ee : e = i
      · subst ee
        rw [up_eq, up_ne (by omega), up_eq, up_ne (by omega), h2 (74 + e) (by omega), h2 (56 + e) (by omega)]
        exact ⟨rfl, rfl⟩
      · rw [up_ne (by omega), up_ne (by omega), up_ne (by omega), up_ne (by omega)]
        exact h3 e (by omega)
theorem k_begins : mS nj_M nX0 L xs d 160 [.ref 175] (rfS o thr len (Int32.ofNat n) (Int32.ofNat m) X flt fat got lns crs b hh nms rsv s) (fun rv l => rv = none ∧ ∃ s1 : Nat → Int32, (∀ k, ¬ (138 ≤ k ∧ k < 150) → s1 k = upd (upd (upd s 132 (Int32.ofNat 300)) 133 (Int32.ofNat 1000)) 166 (Int32.ofInt (-1)) k) ∧ (∀ e, e < 6 → s1 (138 + e) = s (74 + e) ∧ s1 (144 + e) = s (56 + e)) ∧ l = (rfS o thr len (Int32.ofNat n) (Int32.ofNat m) X flt fat got lns crs b hh nms rsv s1)) := by
  refine mS_of rfl (fun h0 => ?_)
  refine xw_go (fun pc => pc == 33) 40 (fun K e => And.intro rfl (And.intro rfl (And.intro rfl (e _ _ _ _ (kT_sort rfl ?_)))))
  have h := bgn_loop (L := L) (xs := xs) (d := d) (o := o) (thr := thr) (len := len) (n := n) (m := m) (X := X) (flt := flt) (fat := fat) (got := got) (lns := lns) (crs := crs) (b := b) (hh := hh) (nms := nms) (rsv := rsv) (h0 := h0) (s0 := upd (upd (upd s 132 (Int32.ofNat 300)) 133 (Int32.ofNat 1000)) 166 (Int32.ofInt (-1))) (s := upd (upd (upd s 132 (Int32.ofNat 300)) 133 (Int32.ofNat 1000)) 166 (Int32.ofInt (-1))) (l0 := (rfS o thr len (Int32.ofNat n) (Int32.ofNat m) X flt fat got lns crs b hh nms rsv s)) rfl (fun k _ => rfl) 6 0 (upd (upd (upd s 132 (Int32.ofNat 300)) 133 (Int32.ofNat 1000)) 166 (Int32.ofInt (-1))) rfl (fun k _ => rfl) (fun e he => absurd he (Nat.not_lt_zero e))
  intro hks hp hv1 hf1
  refine nT.mono ?_ (h hks hp hv1 hf1)
  rintro rv h2 ⟨l1, ⟨z1, s1, z2, z3, z4⟩, z5⟩
  refine ⟨l1, ⟨z1, s1, z2, fun e he => ?_, z4⟩, z5⟩
  have := z3 e he
  rw [up_ne (by omega), up_ne (by omega), up_ne (by omega), up_ne (by omega), up_ne (by omega), up_ne (by omega)] at this
  exact this
/-- what family leaves in the reference -/
abbrev pRf (n m : Nat) (b : Nat → Int32) (rsv : Nat → Int64) (s : Nat → Int32) (R : (Nat × Nat) ⊕ (Hs × Nat)) : Option Value → nL → Prop := (fun rv l => ∃ (o1 : Nat → Value) (X1 : Lx) (fat1 got1 lns1 crs1 : Int32) (hh1 : Nat → Int32) (nms1 : Nat → Int64) (s1 : Nat → Int32), rv = some (.int (fAns R)) ∧ ((∃ e p, R = .inl (e, p) ∧ s1 = s ∧ l = (rfS o1 0 0 (Int32.ofNat n) (Int32.ofNat m) X1 (Int32.ofNat e) fat1 got1 lns1 crs1 b hh1 nms1 rsv s1)) ∨ (∃ H ln nmsB, R = .inr (H, ln) ∧ rfR H hh1 nmsB crs1 ∧ (∀ k, k < 26 → nms1 k = nmsB (26 + k)) ∧ (∀ k, k < 26 → nms1 (26 + k) = nmsB (26 + k)) ∧ sBg hh1 s1 ∧ l = (rfS o1 0 0 (Int32.ofNat n) (Int32.ofNat m) X1 0 fat1 got1 lns1 crs1 b hh1 nms1 rsv s1))))
theorem fz_loop {Q : Option Value → List nC → Prop} {ks : List Nat} {h0 : List nC} (hexit : ∀ hx : Nat → Int32, (∀ k, k < 132 → hx k = Int32.ofInt 0) → kT nj_M nX0 L xs d nm_161 Q ks h0 49 [(0, .ref 175), (1, .int (Int32.ofNat 132))] [] (rfS o thr len (Int32.ofNat n) (Int32.ofNat m) X flt fat got lns crs b hx nms rsv s)) : ∀ (r i : Nat) (hx : Nat → Int32), i + r = 132 → (∀ k, k < i → hx k = Int32.ofInt 0) → kT nj_M nX0 L xs d nm_161 Q ks h0 29 [(0, .ref 175), (1, .int (Int32.ofNat i))] [] (rfS o thr len (Int32.ofNat n) (Int32.ofNat m) X flt fat got lns crs b hx nms rsv s) := by
  intro r
  induction r with
  | zero =>
    intro i hx hi h1
    have e : i = 132 := by omega
    subst e
    exact xw_go (fun pc => pc == 49) 10 (fun K e => And.intro (fun _ => e _ _ _ _ (hexit hx h1)) (fun c => nomatch (show true = false from c)))
  | succ r ih =>
    intro i hx hi h1
    have hxi := ix_nat (i := i) (n := 132) (by omega) (by decide)
    have hb := ih (i + 1) (upd hx i (Int32.ofInt 0)) (by omega) (fun k hk1 => by
      by_cases e : k = i
      · rw [e, up_eq]
      · rw [up_ne e]; exact h1 k (by omega))
    rw [← i32_succ, show upd hx i = upd hx (Int32.ofNat i).toNatClampNeg from by rw [hxi.2]] at hb
    exact xw_go (fun pc => pc == 29) 20 (fun K e => And.intro (fun c => absurd (of_decide_eq_true ((cmp_nat (i := i) (j := 132) (by omega) (by omega)).1.symm.trans c)) (by omega)) (fun _ => And.intro hxi.1 (e _ _ _ _ (kT_sort rfl hb))))
theorem fs_loop {Q : Option Value → List nC → Prop} {ks : List Nat} {h0 : List nC} (hexit : ∀ sx : Nat → Int32, (∀ k, k < 360 → sx k = if k < 132 then hh k else Int32.ofInt 0) → kT nj_M nX0 L xs d nm_161 Q ks h0 134 [(0, .ref 175), (1, .int (Int32.ofNat 360))] [] (rfS o thr len (Int32.ofNat n) (Int32.ofNat m) X flt fat got lns crs b hh nms rsv sx)) : ∀ (r i : Nat) (sx : Nat → Int32), i + r = 360 → (∀ k, k < i → sx k = if k < 132 then hh k else Int32.ofInt 0) → kT nj_M nX0 L xs d nm_161 Q ks h0 98 [(0, .ref 175), (1, .int (Int32.ofNat i))] [] (rfS o thr len (Int32.ofNat n) (Int32.ofNat m) X flt fat got lns crs b hh nms rsv sx) := by
  intro r
  induction r with
  | zero =>
    intro i sx hi h1
    have e : i = 360 := by omega
    subst e
    exact xw_go (fun pc => pc == 134) 10 (fun K e => And.intro (fun _ => e _ _ _ _ (hexit sx h1)) (fun c => nomatch (show true = false from c)))
  | succ r ih =>
    intro i sx hi h1
    have hxi := ix_nat (i := i) (n := 360) (by omega) (by decide)
    have hb := ih (i + 1) (upd sx i (if i < 132 then hh i else Int32.ofInt 0)) (by omega) (fun k hk1 => by
      by_cases e : k = i
      · rw [e, up_eq]
      · rw [up_ne e]; exact h1 k (by omega))
    have hc2 := (cmp_nat (i := i) (j := 132) (by omega) (by omega)).1
    rw [← i32_succ, show upd sx i = upd sx (Int32.ofNat i).toNatClampNeg from by rw [hxi.2]] at hb
    refine xw_go (fun pc => pc == 98) 30 (fun K e => And.intro (fun c => absurd (of_decide_eq_true ((cmp_nat (i := i) (j := 360) (by omega) (by omega)).1.symm.trans c)) (by omega)) (fun _ => And.intro (fun c => And.intro hxi.1 (e _ _ _ _ (kT_sort rfl ?_))) (fun c => And.intro ?_ (And.intro hxi.1 (e _ _ _ _ (kT_sort rfl ?_))))))
    · have := of_decide_eq_true (hc2.symm.trans c)
      rw [if_neg (by omega)] at hb
      exact hb
    · have := of_decide_eq_false (hc2.symm.trans c)
      exact (ix_nat (by omega) (by decide)).1
    · have := of_decide_eq_false (hc2.symm.trans c)
      rw [if_pos (by omega), show hh i = hh (Int32.ofNat i).toNatClampNeg from by rw [hxi.2]] at hb
      exact hb
theorem fn_loop {Q : Option Value → List nC → Prop} {ks : List Nat} {h0 : List nC} (hexit : ∀ nx : Nat → Int64, (∀ k, k < 26 → nx k = nms (26 + k)) → (∀ k, 26 ≤ k → nx k = nms k) → kT nj_M nX0 L xs d nm_161 Q ks h0 163 [(0, .ref 175), (1, .int (Int32.ofNat 26))] [] (rfS o thr len (Int32.ofNat n) (Int32.ofNat m) X flt fat got lns crs b hh nx rsv s)) : ∀ (r i : Nat) (nx : Nat → Int64), i + r = 26 → (∀ k, k < i → nx k = nms (26 + k)) → (∀ k, 26 ≤ k → nx k = nms k) → kT nj_M nX0 L xs d nm_161 Q ks h0 136 [(0, .ref 175), (1, .int (Int32.ofNat i))] [] (rfS o thr len (Int32.ofNat n) (Int32.ofNat m) X flt fat got lns crs b hh nx rsv s) := by
  intro r
  induction r with
  | zero =>
    intro i nx hi h1 h2
    have e : i = 26 := by omega
    subst e
    exact xw_go (fun pc => pc == 163) 10 (fun K e => And.intro (fun _ => e _ _ _ _ (hexit nx h1 h2)) (fun c => nomatch (show true = false from c)))
  | succ r ih =>
    intro i nx hi h1 h2
    have hxi := ix_nat (i := i) (n := 52) (by omega) (by decide)
    have hx2 : nj_ix (Int32.ofNat 26 + Int32.ofNat i) 52 = true ∧ (Int32.ofNat 26 + Int32.ofNat i).toNatClampNeg = 26 + i := by
      rw [← Int32.ofNat_add]
      exact ix_nat (by omega) (by decide)
    have hb := ih (i + 1) (vp_updL nx i (nx (26 + i))) (by omega) (fun k hk1 => by
      by_cases e : k = i
      · subst e
        rw [← h2 (26 + k) (by omega)]
        exact if_pos rfl
      · exact (if_neg e).trans (h1 k (by omega))) (fun k hk1 => (if_neg (by omega)).trans (h2 k hk1))
    rw [← i32_succ, show vp_updL nx i = vp_updL nx (Int32.ofNat i).toNatClampNeg from by rw [hxi.2], ← hx2.2] at hb
    exact xw_go (fun pc => pc == 136) 30 (fun K e => And.intro (fun c => absurd (of_decide_eq_true ((cmp_nat (i := i) (j := 26) (by omega) (by omega)).1.symm.trans c)) (by omega)) (fun _ => And.intro hx2.1 (And.intro hxi.1 (e _ _ _ _ (kT_sort rfl hb)))))
/-- the end of a family that was told -/
theorem fam_tail {l0 : nL} {h0 : List nC} {R : (Nat × Nat) ⊕ (Hs × Nat)} {ln : Nat} {v1 : Int32} (hR : R = .inr (H, ln)) (hl : lns = Int32.ofNat ln) (hH : rfR H hh nms crs) : kT nj_M nX0 L xs (d + 1) nm_161 (mQ l0 (pRf n m b rsv s R) h0) (hk l0) h0 96 [(0, .ref 175), (1, .int v1)] [] (rfS o 0 0 (Int32.ofNat n) (Int32.ofNat m) X 0 fat got lns crs b hh nms rsv s) := by
  have hans : fAns R = lns := by rw [hR, hl]; rfl
  refine xw_go (fun pc => pc == 98) 10 (fun K e => e _ _ _ _ (kT_sort rfl (fs_loop (fun sx hs => ?_) 360 0 s rfl (fun k hk1 => absurd hk1 (Nat.not_lt_zero k)))))
  refine xw_go (fun pc => pc == 136) 10 (fun K e => e _ _ _ _ (kT_sort rfl (fn_loop (fun nx h1 h2 => ?_) 26 0 nms rfl (fun k hk1 => absurd hk1 (Nat.not_lt_zero k)) (fun k _ => rfl))))
  refine xw_go nostop 10 (fun K e => e _ _ _ _ (kT_call rfl rfl rfl rfl k_begins ⟨rfl, rfl, rfl, rfl, rfl, rfl, trivial⟩ rfl rfl (fun rv l1 hP _ => ?_)))
  obtain ⟨rfl, s1, hs1, hs2, rfl⟩ := hP
  refine kT_pic (l2 := (rfS o 0 0 (Int32.ofNat n) (Int32.ofNat m) X 0 fat got lns crs b hh nx rsv s1)) rfl ?_
  refine xw_go nostop 20 (fun K e => And.intro rfl (e _ _ _ _ (kT_end rfl (ret_i _) ⟨fun k => if k = 24 then .int (Int32.ofInt 0) else o k, X, fat, got, lns, crs, hh, nx, s1, by rw [hans], Or.inr ⟨H, ln, nms, hR, hH, h1, fun k hk1 => h2 (26 + k) (by omega), ?_, rfl⟩⟩)))
  refine ⟨?_, ?_, ?_, ?_, ?_, ?_, ?_, ?_⟩
  · intro k hk1
    rw [hs1 k (by omega), up_ne (by omega), up_ne (by omega), up_ne (by omega), hs k (by omega), if_pos hk1]
  · rw [hs1 132 (by omega), up_ne (by omega), up_ne (by omega), up_eq]
  · rw [hs1 133 (by omega), up_ne (by omega), up_eq]
  · rw [hs1 166 (by omega), up_eq]
  · intro e he
    have := hs2 e he
    rw [hs (74 + e) (by omega), hs (56 + e) (by omega), if_pos (by omega), if_pos (by omega)] at this
    exact this
  · intro k k1 k2
    rw [hs1 k (by omega), up_ne (by omega), up_ne (by omega), up_ne (by omega), hs k (by omega), if_neg (by omega)]
    rfl
  · intro k k1 k2
    rw [hs1 k (by omega), up_ne (by omega), up_ne (by omega), up_ne (by omega), hs k (by omega), if_neg (by omega)]
    rfl
  · intro k k1 k2
    rw [hs1 k (by omega), up_ne (by omega), up_ne (by omega), up_ne (by omega), hs k (by omega), if_neg (by omega)]
    rfl
theorem fam_loop (hn : n ≤ 940) (hm : m ≤ 900) (hby : ∀ i, i < 940 → -128 ≤ (b i).toInt ∧ (b i).toInt ≤ 127) (hrs : rsvOk rsv) {l0 : nL} {h0 : List nC} {R : (Nat × Nat) ⊕ (Hs × Nat)} {v1 : Int32} : ∀ (r q ln : Nat) (H : Hs) (X : Lx) (fat got crs : Int32) (hh : Nat → Int32) (nms : Nat → Int64), 900 ≤ q + r → R = sFam (tk b n m) (decide (m < n)) (r + 1) q H ln → rX b n m q X → rfR H hh nms crs → kT nj_M nX0 L xs (d + 6) nm_161 (mQ l0 (pRf n m b rsv s R) h0) (hk l0) h0 53 [(0, .ref 175), (1, .int v1)] [] (rfS o 0 0 (Int32.ofNat n) (Int32.ofNat m) X 0 fat got (Int32.ofNat ln) crs b hh nms rsv s) := by
  intro r
  induction r with
  | zero =>
    intro q ln H X fat got crs hh nms hq hR h hH
    have hE : ((tk b n m) q).1 = 0 := by
      apply Classical.byContradiction
      intro y
      have := ((tk_ok (b := b) hn hm).2.2.2.2.1 q y).2
      omega
    have hR2 : R = if (decide (m < n)) = true then .inl (1, ((tk b n m) q).2.1) else .inr (H, ln) := by
      rw [hR]
      show (if ((tk b n m) q).1 = 0 then _ else _) = _
      rw [if_pos hE]
    cases hlng : decide (m < n) with
    | false =>
      rw [hlng, if_neg (by decide)] at hR2
      have htk : X.2.1 = 0 := by
        obtain ⟨⟨_, _, h1⟩, _⟩ := h
        rcases h1 with ⟨k, t⟩ | ⟨k, t⟩ | ⟨k, t, w, ok⟩ | ⟨k, t, w⟩ | ⟨k1, k2, t, w⟩
        · rw [t, hlng]; rfl
        · omega
        · have := kOf_ge ((tk b n m) q).2.2.1
          omega
        · omega
        · omega
      have ht := fam_tail (L := L) (xs := xs) (d := d + 5) (o := o) (n := n) (m := m) (X := X) (fat := fat) (got := got) (crs := crs) (b := b) (hh := hh) (s := s) (nms := nms) (rsv := rsv) (l0 := l0) (h0 := h0) (v1 := v1) hR2 rfl hH
      exact xw_go (fun pc => pc == 96) 10 (fun K e => And.intro (fun _ => e _ _ _ _ ht) (fun c => by
        have c2 : nj_cmp .eq X.2.1 0 = false := c
        rw [htk] at c2
        exact nomatch (show true = false from c2)))
    | true =>
      rw [hlng, if_pos rfl] at hR2
      have htk : X.2.1 = 4 := by
        obtain ⟨⟨_, _, h1⟩, _⟩ := h
        rcases h1 with ⟨k, t⟩ | ⟨k, t⟩ | ⟨k, t, w, ok⟩ | ⟨k, t, w⟩ | ⟨k1, k2, t, w⟩
        · rw [t, hlng]; rfl
        · omega
        · have := kOf_ge ((tk b n m) q).2.2.1
          omega
        · omega
        · omega
      refine xw_go nostop 10 (fun K e => And.intro (fun c => by
        have c2 : nj_cmp .eq X.2.1 0 = true := c
        rw [htk] at c2
        exact nomatch (show false = true from c2)) (fun _ => e _ _ _ _ (kT_call rfl rfl rfl rfl (k_line hn hm hby hrs h hH) ⟨rfl, rfl, rfl, rfl, rfl, trivial⟩ rfl rfl (fun rv l1 hP _ => ?_))))
      have hsl : sLine (tk b n m) q H = .inl (1, ((tk b n m) q).2.1) := by
        unfold sLine
        rw [if_neg (by omega), if_neg (by omega), if_neg (by omega), if_neg (by omega), if_neg (by omega), if_neg (by omega)]
      rcases hP with ⟨q1, H1, X1, g1, c1, h1, m1, e1, rfl, hX1, hH1, rfl⟩ | ⟨e, p, X1, g1, c1, h1, m1, e1, rfl, rfl⟩
      · rw [hsl] at e1
        cases e1
      · have hR3 : R = .inl (e, p) := by
          rw [hR2, show (1, (tk b n m q).2.1) = (e, p) from Sum.inl.inj (hsl.symm.trans e1)]
        refine xw_go nostop 10 (fun K e9 => And.intro (fun _ => e9 _ _ _ _ (kT_end rfl (ret_i _) ⟨o, X1, _, g1, _, c1, h1, m1, s, ?_, Or.inl ⟨e, p, hR3, rfl, rfl⟩⟩)) (fun c => nomatch (show true = false from c)))
        rw [hR3]
        rfl
  | succ r ih =>
    intro q ln H X fat got crs hh nms hq hR h hH
    by_cases hE : ((tk b n m) q).1 = 0
    · have hR2 : R = if (decide (m < n)) = true then .inl (1, ((tk b n m) q).2.1) else .inr (H, ln) := by
        rw [hR]
        show (if ((tk b n m) q).1 = 0 then _ else _) = _
        rw [if_pos hE]
      cases hlng : decide (m < n) with
      | false =>
        rw [hlng, if_neg (by decide)] at hR2
        have htk : X.2.1 = 0 := by
          obtain ⟨⟨_, _, h1⟩, _⟩ := h
          rcases h1 with ⟨k, t⟩ | ⟨k, t⟩ | ⟨k, t, w, ok⟩ | ⟨k, t, w⟩ | ⟨k1, k2, t, w⟩
          · rw [t, hlng]; rfl
          · omega
          · have := kOf_ge ((tk b n m) q).2.2.1
            omega
          · omega
          · omega
        have ht := fam_tail (L := L) (xs := xs) (d := d + 5) (o := o) (n := n) (m := m) (X := X) (fat := fat) (got := got) (crs := crs) (b := b) (hh := hh) (s := s) (nms := nms) (rsv := rsv) (l0 := l0) (h0 := h0) (v1 := v1) hR2 rfl hH
        exact xw_go (fun pc => pc == 96) 10 (fun K e => And.intro (fun _ => e _ _ _ _ ht) (fun c => by
          have c2 : nj_cmp .eq X.2.1 0 = false := c
          rw [htk] at c2
          exact nomatch (show true = false from c2)))
      | true =>
        rw [hlng, if_pos rfl] at hR2
        have htk : X.2.1 = 4 := by
          obtain ⟨⟨_, _, h1⟩, _⟩ := h
          rcases h1 with ⟨k, t⟩ | ⟨k, t⟩ | ⟨k, t, w, ok⟩ | ⟨k, t, w⟩ | ⟨k1, k2, t, w⟩
          · rw [t, hlng]; rfl
          · omega
          · have := kOf_ge ((tk b n m) q).2.2.1
            omega
          · omega
          · omega
        refine xw_go nostop 10 (fun K e => And.intro (fun c => by
          have c2 : nj_cmp .eq X.2.1 0 = true := c
          rw [htk] at c2
          exact nomatch (show false = true from c2)) (fun _ => e _ _ _ _ (kT_call rfl rfl rfl rfl (k_line hn hm hby hrs h hH) ⟨rfl, rfl, rfl, rfl, rfl, trivial⟩ rfl rfl (fun rv l1 hP _ => ?_))))
        have hsl : sLine (tk b n m) q H = .inl (1, ((tk b n m) q).2.1) := by
          unfold sLine
          rw [if_neg (by omega), if_neg (by omega), if_neg (by omega), if_neg (by omega), if_neg (by omega), if_neg (by omega)]
        rcases hP with ⟨q1, H1, X1, g1, c1, h1, m1, e1, rfl, hX1, hH1, rfl⟩ | ⟨e, p, X1, g1, c1, h1, m1, e1, rfl, rfl⟩
        · rw [hsl] at e1
          cases e1
        · have hR3 : R = .inl (e, p) := by
            rw [hR2, show (1, (tk b n m q).2.1) = (e, p) from Sum.inl.inj (hsl.symm.trans e1)]
          refine xw_go nostop 10 (fun K e9 => And.intro (fun _ => e9 _ _ _ _ (kT_end rfl (ret_i _) ⟨o, X1, _, g1, _, c1, h1, m1, s, ?_, Or.inl ⟨e, p, hR3, rfl, rfl⟩⟩)) (fun c => nomatch (show true = false from c)))
          rw [hR3]
          rfl
    · have htk : ¬ X.2.1 = 0 := by
        obtain ⟨⟨_, _, h1⟩, _⟩ := h
        rcases h1 with ⟨k, t⟩ | ⟨k, t⟩ | ⟨k, t, w, ok⟩ | ⟨k, t, w⟩ | ⟨k1, k2, t, w⟩
        · exact absurd k hE
        · rw [t]; decide
        · rw [t]; decide
        · rw [t]; decide
        · rw [t]; decide
      have hq9 := ((tk_ok (b := b) hn hm).2.2.2.2.1 q hE).2
      refine xw_go nostop 10 (fun K e => And.intro (fun c => absurd (of_decide_eq_true (show decide (X.2.1 = 0) = true from c)) htk) (fun _ => e _ _ _ _ (kT_call rfl rfl rfl rfl (k_line hn hm hby hrs h hH) ⟨rfl, rfl, rfl, rfl, rfl, trivial⟩ rfl rfl (fun rv l1 hP _ => ?_))))
      have hR2 : R = match sLine (tk b n m) q H with
        | .inl e => .inl e
        | .inr (p1, H1) => if ((tk b n m) p1).1 = 59 then sFam (tk b n m) (decide (m < n)) (r + 1) ((tk b n m) p1).2.2.2.2 H1 (ln + 1) else .inl (1, ((tk b n m) p1).2.1) := by
        rw [hR]
        show (if ((tk b n m) q).1 = 0 then _ else _) = _
        rw [if_neg hE]
        cases sLine (tk b n m) q H <;> rfl
      rcases hP with ⟨q1, H1, X1, g1, c1, h1, m1, e1, rfl, hX1, hH1, rfl⟩ | ⟨e, p, X1, g1, c1, h1, m1, e1, rfl, rfl⟩
      · rw [e1] at hR2
        have hR3 : R = if ((tk b n m) q1).1 = 59 then sFam (tk b n m) (decide (m < n)) (r + 1) ((tk b n m) q1).2.2.2.2 H1 (ln + 1) else .inl (1, ((tk b n m) q1).2.1) := hR2
        have hpq := Mon.line (H := H) (tk_ok (b := b) hn hm) q1 H1 e1
        refine kT_pic (l2 := (rfS o 0 0 (Int32.ofNat n) (Int32.ofNat m) X1 0 fat g1 (Int32.ofNat ln) c1 b h1 m1 rsv s)) rfl ?_
        refine xw_go nostop 10 (fun K e => And.intro (fun c => nomatch (show false = true from c)) (fun _ => e _ _ _ _ (kT_call rfl rfl rfl rfl (k_sign (c := 59) hn hm hby hX1 (by decide)) ⟨rfl, rfl, rfl, rfl, rfl, trivial⟩ rfl rfl (fun rv l1 hP _ => ?_))))
        rcases hP with ⟨e2, rfl, X2, hX2, rfl⟩ | ⟨e2, rfl, rfl⟩
        · rw [if_pos e2] at hR3
          have hlt := ((tk_ok (b := b) hn hm).2.2.2.2.1 q1 (by omega)).1
          have ih1 := ih _ (ln + 1) H1 X2 fat g1 c1 h1 m1 (by omega) hR3 hX2 hH1
          rw [← i32_succ] at ih1
          exact xw_go (fun pc => pc == 53) 20 (fun K e => And.intro (fun _ => And.intro rfl (e _ _ _ _ ih1)) (fun c => nomatch (show true = false from c)))
        · rw [if_neg e2] at hR3
          refine xw_go nostop 10 (fun K e9 => And.intro (fun c => nomatch (show false = true from c)) (fun _ => e9 _ _ _ _ (kT_end rfl (ret_i _) ⟨o, X1, _, g1, _, c1, h1, m1, s, ?_, Or.inl ⟨1, _, hR3, rfl, rfl⟩⟩)))
          rw [hR3]
          rfl
      · rw [e1] at hR2
        have hR3 : R = .inl (e, p) := hR2
        refine xw_go nostop 10 (fun K e9 => And.intro (fun _ => e9 _ _ _ _ (kT_end rfl (ret_i _) ⟨o, X1, _, g1, _, c1, h1, m1, s, ?_, Or.inl ⟨e, p, hR3, rfl, rfl⟩⟩)) (fun c => nomatch (show true = false from c)))
        rw [hR3]
        rfl
theorem rfR_0 {g : Nat → Int32} (h : ∀ k, k < 132 → g k = Int32.ofInt 0) : rfR Hs0 g nms (Int32.ofInt 0) := by
  refine ⟨⟨by decide, by decide, by decide, by decide, List.nodup_nil, fun w hw => nomatch hw⟩, ⟨fun i hi => absurd hi (Nat.not_lt_zero i), fun i hi => absurd hi (Nat.not_lt_zero i), fun i hi => absurd hi (Nat.not_lt_zero i), fun i hi => absurd hi (Nat.not_lt_zero i)⟩, ⟨h 0 (by decide), h 1 (by decide), h 2 (by decide), h 3 (by decide)⟩, ⟨rfl, rfl, rfl, rfl, rfl, rfl⟩, fun i hi => absurd hi (Nat.not_lt_zero i), fun i hi => absurd hi (Nat.not_lt_zero i), fun i hi => ⟨?_, fun j hj => ?_⟩, fun i hi => absurd hi (Nat.not_lt_zero i), fun i hi => ?_, fun i hi => absurd hi (Nat.not_lt_zero i), fun i hi => absurd hi (Nat.not_lt_zero i)⟩
  · rw [gd_out (Nat.zero_le i)]; exact h (24 + i) (by omega)
  · rw [gd_out (Nat.zero_le i)] at hj; cases hj
  · rw [gd_out (Nat.zero_le i)]
    show (BitVec.ofInt 32 0).getLsbD i = false
    rw [show BitVec.ofInt 32 0 = 0#32 from rfl]
    simp
theorem k_family (hn : n ≤ 940) (hby : ∀ i, i < 940 → -128 ≤ (b i).toInt ∧ (b i).toInt ≤ 127) (hrs : rsvOk rsv) : mS nj_M nX0 L xs (d + 6) 161 [.ref 175] (rfS o thr (Int32.ofNat n) sz lim X flt fat got lns crs b hh nms rsv s) (pRf n 900 b rsv s (sFam (tk b n 900) (decide (900 < n)) 901 0 Hs0 0)) := by
  refine mS_of rfl (fun h0 => ?_)
  refine xw_go nostop 10 (fun K e => And.intro rfl (e _ _ _ _ (kT_call rfl rfl rfl rfl (q_feeds _) ⟨rfl, rfl, rfl, rfl, rfl, trivial⟩ rfl rfl (fun rv l1 hP _ => ?_))))
  obtain ⟨rfl, rfl⟩ := hP
  refine kT_pic (l2 := (rfS o (Int32.ofInt 0) 0 (Int32.ofNat n) (Int32.ofNat 900) (Int32.ofNat 0, X.2) flt fat got lns crs b hh nms rsv s)) rfl ?_
  refine xw_go (fun pc => pc == 29) 20 (fun K e => And.intro rfl (And.intro rfl (And.intro rfl (e _ _ _ _ (kT_sort rfl (fz_loop (fun hx h1 => ?_) 132 0 hh rfl (fun k hk1 => absurd hk1 (Nat.not_lt_zero k))))))))
  refine xw_go nostop 10 (fun K e => e _ _ _ _ (kT_call rfl rfl rfl rfl (q_next (m := 900) hn (by decide) hby (Nat.zero_le n)) ⟨rfl, rfl, rfl, rfl, rfl, trivial⟩ rfl rfl (fun rv l1 hP _ => ?_)))
  obtain ⟨rfl, X1, hX1, rfl⟩ := hP
  have hl := fam_loop (L := L) (xs := xs) (d := d) (o := o) (n := n) (m := 900) (b := b) (s := s) (rsv := rsv) (l0 := (rfS o thr (Int32.ofNat n) sz lim X flt fat got lns crs b hh nms rsv s)) (h0 := h0) (v1 := Int32.ofNat 132) (R := sFam (tk b n 900) (decide (900 < n)) 901 0 Hs0 0) hn (by decide) hby hrs 900 0 0 Hs0 X1 fat got (Int32.ofInt 0) hx nms (by decide) rfl ⟨hX1, tk_le (Nat.zero_le n)⟩ (rfR_0 h1)
  exact kT_pic rfl hl
end RFT
