/-! the chronicle read by the reference -/
/-- what a faulty chronicle leaves in the reference -/
def pCf9 (o : Nat → Value) (thr : Int32) (n m : Nat) (lns crs : Int32) (b hh : Nat → Int32) (nms rsv : Nat → Int64) (s : Nat → Int32) (R : Rs Nat) : Option Value → nL → Prop := fun rv l => ∃ (e pl : Nat) (X1 : Lx) (got1 c35 : Int32) (cd1 : Nat → Int32), R = .inl (e, pl) ∧ rv = some (.int (Int32.ofInt (-2) - Int32.ofNat pl)) ∧ l = (rC o thr 0 (Int32.ofNat n) (Int32.ofNat m) X1 (Int32.ofNat e) (Int32.ofNat pl) got1 lns crs b hh nms rsv c35 cd1 s)
/-- .. and one without a fault, ahead of its being lived -/
def pCg9 (o : Nat → Value) (thr : Int32) (n m : Nat) (lns crs : Int32) (b hh : Nat → Int32) (nms rsv : Nat → Int64) (s : Nat → Int32) : Option Value → nL → Prop := fun rv l => rv = none ∧ ∃ (X1 : Lx) (fat1 got1 c35 : Int32) (cd1 : Nat → Int32), l = (rC o thr 0 (Int32.ofNat n) (Int32.ofNat m) X1 (Int32.ofNat 0) fat1 got1 lns crs b hh nms rsv c35 cd1 s)
abbrev nm_g9 : nM := nvV nm_247 83
theorem rX_e0 {b : Nat → Int32} {n m q : Nat} {X : Lx} (h : rX b n m q X) : X.2.1 = 0 ↔ (tk b n m q).1 = 0 ∧ decide (m < n) = false := by
  obtain ⟨⟨_, _, h1⟩, _⟩ := h
  rcases h1 with ⟨k, t⟩ | ⟨k, t⟩ | ⟨k, t, w, ok⟩ | ⟨k, t, w⟩ | ⟨k1, k2, t, w⟩
  · rw [t]
    cases decide (m < n) with
    | true => exact ⟨fun z => absurd z (by decide), fun z => nomatch z.2⟩
    | false => exact ⟨fun _ => ⟨k, rfl⟩, fun _ => rfl⟩
  · exact ⟨fun z => absurd (t.symm.trans z) (by decide), fun z => by omega⟩
  · have := kOf_ge (tk b n m q).2.2.1
    exact ⟨fun z => absurd (t.symm.trans z) (by decide), fun z => by omega⟩
  · exact ⟨fun z => absurd (t.symm.trans z) (by decide), fun z => by omega⟩
  · exact ⟨fun z => absurd (t.symm.trans z) (by decide), fun z => by omega⟩
section CHR
variable {L : Nat} {xs : Nat → Int32} {d n m q : Nat} {o : Nat → Value} {thr len sz lim : Int32} {X : Lx} {flt fat got lns crs : Int32} {b hh s cd : Nat → Int32} {nms rsv : Nat → Int64} {c35 : Int32} {k : Nat}
set_option maxHeartbeats 4000000 in
theorem chr_f (hn : n ≤ 940) (hm : m ≤ 900) (hby : ∀ i, i < 940 → -128 ≤ (b i).toInt ∧ (b i).toInt ≤ 127) {N : List (List Nat) × List (List Nat) × List (List Nat) × List (List Nat)} (hrs : rsvOk rsv) (hL : N.2.1.length ≤ 10 ∧ N.2.2.1.length ≤ 6 ∧ N.2.2.2.length ≤ 4) (hok : (∀ w ∈ N.2.1, wOk w) ∧ (∀ w ∈ N.2.2.1, wOk w) ∧ ∀ w ∈ N.2.2.2, wOk w) (hnm : nmF nms 6 N.2.1 ∧ nmF nms 16 N.2.2.1 ∧ nmF nms 22 N.2.2.2) (hs1 : s 1 = Int32.ofNat N.2.1.length) (hs2 : s 2 = Int32.ofNat N.2.2.1.length) (hs3 : s 3 = Int32.ofNat N.2.2.2.length) {R : Rs Nat} {e0 pl0 : Nat} (hE : R = .inl (e0, pl0)) {u : Int32} {l0 : nL} {h0 : List nC} : ∀ (r k q : Nat) (X : Lx) (fat got : Int32) (cd : Nat → Int32), k + r = 40 → R = cCh (tk b n m) N (decide (m < n)) (r + 2) q k → rX b n m q X → kT nj_M nX0 L xs (d + 4) nm_247 (mQ l0 (pCf9 o thr n m lns crs b hh nms rsv s R) h0) (hk l0) h0 39 [(0, .ref 175), (1, .int u)] [] (rC o thr 0 (Int32.ofNat n) (Int32.ofNat m) X (Int32.ofNat 0) fat got lns crs b hh nms rsv (Int32.ofNat k) cd s) := by
  intro r
  induction r with
  | zero =>
    intro k q X fat got cd hk hR h
    have hR2 : R = (if (tk b n m q).1 = 0 then (if decide (m < n) = true then .inl (1, (tk b n m q).2.1) else .inr (q, k)) else sBind (cLn (tk b n m) N q k) (fun p1 _ => if (tk b n m p1).1 = 59 then cCh (tk b n m) N (decide (m < n)) (1) (nx (tk b n m) p1) (k + 1) else .inl (1, (tk b n m p1).2.1))) := hR
    by_cases a0 : (tk b n m q).1 = 0 ∧ decide (m < n) = false
    · have q0 : nj_cmp .eq X.2.1 0 = true := decide_eq_true ((rX_e0 h).mpr a0)
      rw [if_pos a0.1, if_neg (by rw [a0.2]; decide)] at hR2
      rw [hE] at hR2
      cases hR2
    · have q0 : nj_cmp .eq X.2.1 0 = false := decide_eq_false (fun z => a0 ((rX_e0 h).mp z))
      refine xw_go nostop 30 (fun K e => And.intro (fun c => nomatch (q0.symm.trans c)) (fun _ => e _ _ _ _ (kT_call rfl rfl rfl rfl (t_line (L := L) (xs := xs) (d := d) (o := o) (thr := thr) (len := 0) (flt := Int32.ofNat 0) (fat := fat) (got := got) (lns := lns) (crs := crs) (hh := hh) (cd := cd) (k := k) hn hm hby hrs hL hok hnm hs1 hs2 hs3 h (by omega)) ⟨rfl, rfl, rfl, rfl, rfl, rfl, rfl, trivial⟩ rfl rfl (fun rv l1 hP1 _ => ?_))))
      have hR3 : R = sBind (cLn (tk b n m) N q k) (fun p1 _ => if (tk b n m p1).1 = 59 then cCh (tk b n m) N (decide (m < n)) (1) (nx (tk b n m) p1) (k + 1) else .inl (1, (tk b n m p1).2.1)) := by
        by_cases b0 : (tk b n m q).1 = 0
        · have b1 : decide (m < n) = true := by
            cases c : decide (m < n) with
            | true => rfl
            | false => exact absurd ⟨b0, c⟩ a0
          rw [if_pos b0, if_pos b1] at hR2
          have e1 : cLn (tk b n m) N q k = .inl (1, (tk b n m q).2.1) := by
            have e2 : sKno (tk b n m) q N.2.1 = .inl (1, (tk b n m q).2.1) := by
              unfold sKno
              rw [if_pos (by omega)]
            rw [cLn, if_neg (by omega), if_neg (by omega), e2]
            rfl
          rw [hR2, e1]
          rfl
        · rw [if_neg b0] at hR2
          exact hR2
      rcases hP1 with ⟨q1, a, X1, got1, cd1, e9, rfl, h1, rfl⟩ | ⟨e8, q1, X1, got1, cd1, e9, rfl, rfl⟩
      · refine kT_pic (l2 := (rC o thr 0 (Int32.ofNat n) (Int32.ofNat m) X1 (Int32.ofNat 0) fat got1 lns crs b hh nms rsv (Int32.ofNat k) cd1 s)) rfl ?_
        rw [e9] at hR3
        have e40 : k = 40 := by omega
        subst e40
        exact absurd e9 cLn_40
      · rw [e9] at hR3
        refine kT_pic (l2 := (rC o thr 0 (Int32.ofNat n) (Int32.ofNat m) X1 (Int32.ofNat e8) (Int32.ofNat q1) got1 lns crs b hh nms rsv (Int32.ofNat k) cd1 s)) rfl ?_
        exact xw_go nostop 30 (fun K e => And.intro (fun _ => e _ _ _ _ (kT_end rfl (ret_i _) (show pCf9 o thr n m lns crs b hh nms rsv s R _ _ from ⟨e8, q1, X1, got1, _, cd1, hR3, rfl, rfl⟩))) (fun c => nomatch (show true = false from c)))
  | succ r ih =>
    intro k q X fat got cd hk hR h
    have hR2 : R = (if (tk b n m q).1 = 0 then (if decide (m < n) = true then .inl (1, (tk b n m q).2.1) else .inr (q, k)) else sBind (cLn (tk b n m) N q k) (fun p1 _ => if (tk b n m p1).1 = 59 then cCh (tk b n m) N (decide (m < n)) (r + 2) (nx (tk b n m) p1) (k + 1) else .inl (1, (tk b n m p1).2.1))) := hR
    by_cases a0 : (tk b n m q).1 = 0 ∧ decide (m < n) = false
    · have q0 : nj_cmp .eq X.2.1 0 = true := decide_eq_true ((rX_e0 h).mpr a0)
      rw [if_pos a0.1, if_neg (by rw [a0.2]; decide)] at hR2
      rw [hE] at hR2
      cases hR2
    · have q0 : nj_cmp .eq X.2.1 0 = false := decide_eq_false (fun z => a0 ((rX_e0 h).mp z))
      refine xw_go nostop 30 (fun K e => And.intro (fun c => nomatch (q0.symm.trans c)) (fun _ => e _ _ _ _ (kT_call rfl rfl rfl rfl (t_line (L := L) (xs := xs) (d := d) (o := o) (thr := thr) (len := 0) (flt := Int32.ofNat 0) (fat := fat) (got := got) (lns := lns) (crs := crs) (hh := hh) (cd := cd) (k := k) hn hm hby hrs hL hok hnm hs1 hs2 hs3 h (by omega)) ⟨rfl, rfl, rfl, rfl, rfl, rfl, rfl, trivial⟩ rfl rfl (fun rv l1 hP1 _ => ?_))))
      have hR3 : R = sBind (cLn (tk b n m) N q k) (fun p1 _ => if (tk b n m p1).1 = 59 then cCh (tk b n m) N (decide (m < n)) (r + 2) (nx (tk b n m) p1) (k + 1) else .inl (1, (tk b n m p1).2.1)) := by
        by_cases b0 : (tk b n m q).1 = 0
        · have b1 : decide (m < n) = true := by
            cases c : decide (m < n) with
            | true => rfl
            | false => exact absurd ⟨b0, c⟩ a0
          rw [if_pos b0, if_pos b1] at hR2
          have e1 : cLn (tk b n m) N q k = .inl (1, (tk b n m q).2.1) := by
            have e2 : sKno (tk b n m) q N.2.1 = .inl (1, (tk b n m q).2.1) := by
              unfold sKno
              rw [if_pos (by omega)]
            rw [cLn, if_neg (by omega), if_neg (by omega), e2]
            rfl
          rw [hR2, e1]
          rfl
        · rw [if_neg b0] at hR2
          exact hR2
      rcases hP1 with ⟨q1, a, X1, got1, cd1, e9, rfl, h1, rfl⟩ | ⟨e8, q1, X1, got1, cd1, e9, rfl, rfl⟩
      · refine kT_pic (l2 := (rC o thr 0 (Int32.ofNat n) (Int32.ofNat m) X1 (Int32.ofNat 0) fat got1 lns crs b hh nms rsv (Int32.ofNat k) cd1 s)) rfl ?_
        rw [e9] at hR3
        have hR4 : R = (if (tk b n m q1).1 = 59 then cCh (tk b n m) N (decide (m < n)) (r + 2) (nx (tk b n m) q1) (k + 1) else .inl (1, (tk b n m q1).2.1)) := hR3
        refine xw_go nostop 30 (fun K e => And.intro (fun c => nomatch (show false = true from c)) (fun _ => e _ _ _ _ (kT_call rfl rfl rfl rfl (k_sign (L := L) (xs := xs) (thr := thr) (len := 0) (got := got1) (lns := lns) (crs := crs) (hh := hh) (nms := nms) (rsv := rsv) (o := (fun j9 => if j9 = 35 then .int (Int32.ofNat k) else o j9)) (flt := (Int32.ofNat 0)) (fat := fat) (d := d + 1) hn hm hby h1 (c := 59) (by decide)) ⟨rfl, rfl, rfl, rfl, rfl, trivial⟩ rfl rfl (fun rv l1 hP1 _ => ?_))))
        rcases hP1 with ⟨e59, rfl, X2, h2, rfl⟩ | ⟨e59, rfl, rfl⟩
        · rw [if_pos e59] at hR4
          have hn2 := ih (k + 1) (nx (tk b n m) q1) X2 fat got1 cd1 (by omega) hR4 h2
          rw [← i32_succ] at hn2
          refine kT_pic (l2 := (rC o thr 0 (Int32.ofNat n) (Int32.ofNat m) X2 (Int32.ofNat 0) fat got1 lns crs b hh nms rsv (Int32.ofNat k) cd1 s)) rfl ?_
          exact xw_go (fun pc => pc == 39) 30 (fun K e => And.intro (fun _ => And.intro rfl (e _ _ _ _ (kT_sort rfl hn2))) (fun c => nomatch (show true = false from c)))
        · rw [if_neg e59] at hR4
          refine kT_pic (l2 := (rC o thr 0 (Int32.ofNat n) (Int32.ofNat m) X1 (Int32.ofNat 1) (Int32.ofNat (tk b n m q1).2.1) got1 lns crs b hh nms rsv (Int32.ofNat k) cd1 s)) rfl ?_
          exact xw_go nostop 30 (fun K e => And.intro (fun c => nomatch (show false = true from c)) (fun _ => e _ _ _ _ (kT_end rfl (ret_i _) (show pCf9 o thr n m lns crs b hh nms rsv s R _ _ from ⟨1, (tk b n m q1).2.1, X1, got1, _, cd1, hR4, rfl, rfl⟩))))
      · rw [e9] at hR3
        refine kT_pic (l2 := (rC o thr 0 (Int32.ofNat n) (Int32.ofNat m) X1 (Int32.ofNat e8) (Int32.ofNat q1) got1 lns crs b hh nms rsv (Int32.ofNat k) cd1 s)) rfl ?_
        exact xw_go nostop 30 (fun K e => And.intro (fun _ => e _ _ _ _ (kT_end rfl (ret_i _) (show pCf9 o thr n m lns crs b hh nms rsv s R _ _ from ⟨e8, q1, X1, got1, _, cd1, hR3, rfl, rfl⟩))) (fun c => nomatch (show true = false from c)))
set_option maxHeartbeats 4000000 in
theorem chr0_f (hn : n ≤ 940) (hby : ∀ i, i < 940 → -128 ≤ (b i).toInt ∧ (b i).toInt ≤ 127) {N : List (List Nat) × List (List Nat) × List (List Nat) × List (List Nat)} (hrs : rsvOk rsv) (hL : N.2.1.length ≤ 10 ∧ N.2.2.1.length ≤ 6 ∧ N.2.2.2.length ≤ 4) (hok : (∀ w ∈ N.2.1, wOk w) ∧ (∀ w ∈ N.2.2.1, wOk w) ∧ ∀ w ∈ N.2.2.2, wOk w) (hnm : nmF nms 6 N.2.1 ∧ nmF nms 16 N.2.2.1 ∧ nmF nms 22 N.2.2.2) (hs1 : s 1 = Int32.ofNat N.2.1.length) (hs2 : s 2 = Int32.ofNat N.2.2.1.length) (hs3 : s 3 = Int32.ofNat N.2.2.2.length) {R : Rs Nat} {e0 pl0 : Nat} (hE : R = .inl (e0, pl0)) (hR : R = cCh (tk b n 400) N (decide (400 < n)) 42 0 0) {u : Int32} (hu : u = Int32.ofInt 0 ∨ u = Int32.ofInt 1) (h0 : List nC) : kT nj_M nX0 L xs (d + 4) nm_247 (mQ (rC o thr (Int32.ofNat n) sz lim X flt fat got lns crs b hh nms rsv c35 cd s) (pCf9 o (Int32.ofInt 0) n 400 lns crs b hh nms rsv s R) h0) (hk (rC o thr (Int32.ofNat n) sz lim X flt fat got lns crs b hh nms rsv c35 cd s)) h0 0 (lv_args 0 [.ref 175, .int u]) [] (rC o thr (Int32.ofNat n) sz lim X flt fat got lns crs b hh nms rsv c35 cd s) := by
  have hIn : (!nj_cmp .lt u (Int32.ofInt 0) && !nj_cmp .gt u (Int32.ofInt 1)) = true := by
    rcases hu with rfl | rfl
    · decide
    · decide
  refine xw_go nostop 20 (fun K e => And.intro rfl (e _ _ _ _ (kT_call rfl rfl rfl rfl (q_isIn (L := L) (xs := xs) u (Int32.ofInt 0) (Int32.ofInt 1)) trivial rfl rfl (fun rv l1 hP1 _ => ?_))))
  obtain ⟨rfl, rfl⟩ := hP1
  rw [hIn]
  refine kT_pic (l2 := (rC o (Int32.ofInt 0) (Int32.ofNat n) sz lim X flt fat got lns crs b hh nms rsv c35 cd s)) rfl ?_
  refine xw_go nostop 20 (fun K e => And.intro (fun _ => e _ _ _ _ (kT_call rfl rfl rfl rfl (q_feeds (L := L) (xs := xs) (o := (fun j9 => if j9 = 35 then .int c35 else o j9)) (thr := Int32.ofInt 0) (len := Int32.ofNat n) (sz := sz) (lim := lim) (X := X) (flt := flt) (fat := fat) (got := got) (lns := lns) (crs := crs) (b := b) (hh := hh) (nms := nms) (rsv := rsv) _) ⟨rfl, rfl, rfl, rfl, rfl, trivial⟩ rfl rfl (fun rv l1 hP1 _ => ?_))) (fun c => nomatch (show true = false from c)))
  obtain ⟨rfl, rfl⟩ := hP1
  refine kT_pic (l2 := (rC o (Int32.ofInt 0) 0 (Int32.ofNat n) (Int32.ofNat 400) (Int32.ofNat 0, X.2) flt fat got lns crs b hh nms rsv c35 cd s)) rfl ?_
  refine xw_go nostop 60 (fun K e => And.intro rfl (And.intro rfl (e _ _ _ _ (kT_call rfl rfl rfl rfl (q_next (L := L) (xs := xs) (d := d + 2) (o := (fun j9 => if j9 = 35 then .int (Int32.ofInt 0) else o j9)) (thr := Int32.ofInt 0) (len := 0) (flt := Int32.ofInt 0) (fat := fat) (got := got) (lns := lns) (crs := crs) (hh := hh) (nms := nms) (rsv := rsv) (Y := X.2) (m := 400) hn (by decide) hby (Nat.zero_le n)) ⟨rfl, rfl, rfl, rfl, rfl, trivial⟩ rfl rfl (fun rv l1 hP1 _ => ?_)))))
  obtain ⟨rfl, X1, hX1, rfl⟩ := hP1
  have hl := chr_f (L := L) (xs := xs) (d := d) (o := o) (thr := Int32.ofInt 0) (lns := lns) (crs := crs) (hh := hh) (u := u) (l0 := (rC o thr (Int32.ofNat n) sz lim X flt fat got lns crs b hh nms rsv c35 cd s)) (h0 := h0) hn (by decide) hby hrs hL hok hnm hs1 hs2 hs3 hE 40 0 0 X1 fat got cd rfl hR ⟨hX1, tk_le (Nat.zero_le n)⟩
  refine kT_pic (l2 := (rC o (Int32.ofInt 0) 0 (Int32.ofNat n) (Int32.ofNat 400) X1 (Int32.ofNat 0) fat got lns crs b hh nms rsv (Int32.ofNat 0) cd s)) rfl ?_
  exact kT_sort rfl hl
set_option maxHeartbeats 4000000 in
theorem chr_g (hn : n ≤ 940) (hm : m ≤ 900) (hby : ∀ i, i < 940 → -128 ≤ (b i).toInt ∧ (b i).toInt ≤ 127) {N : List (List Nat) × List (List Nat) × List (List Nat) × List (List Nat)} (hrs : rsvOk rsv) (hL : N.2.1.length ≤ 10 ∧ N.2.2.1.length ≤ 6 ∧ N.2.2.2.length ≤ 4) (hok : (∀ w ∈ N.2.1, wOk w) ∧ (∀ w ∈ N.2.2.1, wOk w) ∧ ∀ w ∈ N.2.2.2, wOk w) (hnm : nmF nms 6 N.2.1 ∧ nmF nms 16 N.2.2.1 ∧ nmF nms 22 N.2.2.2) (hs1 : s 1 = Int32.ofNat N.2.1.length) (hs2 : s 2 = Int32.ofNat N.2.2.1.length) (hs3 : s 3 = Int32.ofNat N.2.2.2.length) {R : Rs Nat} {qe ke : Nat} (hE : R = .inr (qe, ke)) {u : Int32} {l0 : nL} {h0 : List nC} : ∀ (r k q : Nat) (X : Lx) (fat got : Int32) (cd : Nat → Int32), k + r = 40 → R = cCh (tk b n m) N (decide (m < n)) (r + 2) q k → rX b n m q X → kT nj_M nX0 L xs (d + 4) nm_g9 (mQ l0 (pCg9 o thr n m lns crs b hh nms rsv s) h0) (hk l0) h0 39 [(0, .ref 175), (1, .int u)] [] (rC o thr 0 (Int32.ofNat n) (Int32.ofNat m) X (Int32.ofNat 0) fat got lns crs b hh nms rsv (Int32.ofNat k) cd s) := by
  intro r
  induction r with
  | zero =>
    intro k q X fat got cd hk hR h
    have hR2 : R = (if (tk b n m q).1 = 0 then (if decide (m < n) = true then .inl (1, (tk b n m q).2.1) else .inr (q, k)) else sBind (cLn (tk b n m) N q k) (fun p1 _ => if (tk b n m p1).1 = 59 then cCh (tk b n m) N (decide (m < n)) (1) (nx (tk b n m) p1) (k + 1) else .inl (1, (tk b n m p1).2.1))) := hR
    by_cases a0 : (tk b n m q).1 = 0 ∧ decide (m < n) = false
    · have q0 : nj_cmp .eq X.2.1 0 = true := decide_eq_true ((rX_e0 h).mpr a0)
      rw [if_pos a0.1, if_neg (by rw [a0.2]; decide)] at hR2
      exact xw_go (fun pc => pc == 83) 10 (fun K e => And.intro (fun _ => e _ _ _ _ (kT_end rfl rfl (show pCg9 o thr n m lns crs b hh nms rsv s _ _ from ⟨rfl, X, fat, got, _, cd, rfl⟩))) (fun c => nomatch (q0.symm.trans c)))
    · have q0 : nj_cmp .eq X.2.1 0 = false := decide_eq_false (fun z => a0 ((rX_e0 h).mp z))
      refine xw_go nostop 30 (fun K e => And.intro (fun c => nomatch (q0.symm.trans c)) (fun _ => e _ _ _ _ (kT_call rfl rfl rfl rfl (t_line (L := L) (xs := xs) (d := d) (o := o) (thr := thr) (len := 0) (flt := Int32.ofNat 0) (fat := fat) (got := got) (lns := lns) (crs := crs) (hh := hh) (cd := cd) (k := k) hn hm hby hrs hL hok hnm hs1 hs2 hs3 h (by omega)) ⟨rfl, rfl, rfl, rfl, rfl, rfl, rfl, trivial⟩ rfl rfl (fun rv l1 hP1 _ => ?_))))
      have hR3 : R = sBind (cLn (tk b n m) N q k) (fun p1 _ => if (tk b n m p1).1 = 59 then cCh (tk b n m) N (decide (m < n)) (1) (nx (tk b n m) p1) (k + 1) else .inl (1, (tk b n m p1).2.1)) := by
        by_cases b0 : (tk b n m q).1 = 0
        · have b1 : decide (m < n) = true := by
            cases c : decide (m < n) with
            | true => rfl
            | false => exact absurd ⟨b0, c⟩ a0
          rw [if_pos b0, if_pos b1] at hR2
          have e1 : cLn (tk b n m) N q k = .inl (1, (tk b n m q).2.1) := by
            have e2 : sKno (tk b n m) q N.2.1 = .inl (1, (tk b n m q).2.1) := by
              unfold sKno
              rw [if_pos (by omega)]
            rw [cLn, if_neg (by omega), if_neg (by omega), e2]
            rfl
          rw [hR2, e1]
          rfl
        · rw [if_neg b0] at hR2
          exact hR2
      rcases hP1 with ⟨q1, a, X1, got1, cd1, e9, rfl, h1, rfl⟩ | ⟨e8, q1, X1, got1, cd1, e9, rfl, rfl⟩
      · refine kT_pic (l2 := (rC o thr 0 (Int32.ofNat n) (Int32.ofNat m) X1 (Int32.ofNat 0) fat got1 lns crs b hh nms rsv (Int32.ofNat k) cd1 s)) rfl ?_
        rw [e9] at hR3
        have e40 : k = 40 := by omega
        subst e40
        exact absurd e9 cLn_40
      · rw [e9] at hR3
        rw [hE] at hR3
        cases hR3
  | succ r ih =>
    intro k q X fat got cd hk hR h
    have hR2 : R = (if (tk b n m q).1 = 0 then (if decide (m < n) = true then .inl (1, (tk b n m q).2.1) else .inr (q, k)) else sBind (cLn (tk b n m) N q k) (fun p1 _ => if (tk b n m p1).1 = 59 then cCh (tk b n m) N (decide (m < n)) (r + 2) (nx (tk b n m) p1) (k + 1) else .inl (1, (tk b n m p1).2.1))) := hR
    by_cases a0 : (tk b n m q).1 = 0 ∧ decide (m < n) = false
    · have q0 : nj_cmp .eq X.2.1 0 = true := decide_eq_true ((rX_e0 h).mpr a0)
      rw [if_pos a0.1, if_neg (by rw [a0.2]; decide)] at hR2
      exact xw_go (fun pc => pc == 83) 10 (fun K e => And.intro (fun _ => e _ _ _ _ (kT_end rfl rfl (show pCg9 o thr n m lns crs b hh nms rsv s _ _ from ⟨rfl, X, fat, got, _, cd, rfl⟩))) (fun c => nomatch (q0.symm.trans c)))
    · have q0 : nj_cmp .eq X.2.1 0 = false := decide_eq_false (fun z => a0 ((rX_e0 h).mp z))
      refine xw_go nostop 30 (fun K e => And.intro (fun c => nomatch (q0.symm.trans c)) (fun _ => e _ _ _ _ (kT_call rfl rfl rfl rfl (t_line (L := L) (xs := xs) (d := d) (o := o) (thr := thr) (len := 0) (flt := Int32.ofNat 0) (fat := fat) (got := got) (lns := lns) (crs := crs) (hh := hh) (cd := cd) (k := k) hn hm hby hrs hL hok hnm hs1 hs2 hs3 h (by omega)) ⟨rfl, rfl, rfl, rfl, rfl, rfl, rfl, trivial⟩ rfl rfl (fun rv l1 hP1 _ => ?_))))
      have hR3 : R = sBind (cLn (tk b n m) N q k) (fun p1 _ => if (tk b n m p1).1 = 59 then cCh (tk b n m) N (decide (m < n)) (r + 2) (nx (tk b n m) p1) (k + 1) else .inl (1, (tk b n m p1).2.1)) := by
        by_cases b0 : (tk b n m q).1 = 0
        · have b1 : decide (m < n) = true := by
            cases c : decide (m < n) with
            | true => rfl
            | false => exact absurd ⟨b0, c⟩ a0
          rw [if_pos b0, if_pos b1] at hR2
          have e1 : cLn (tk b n m) N q k = .inl (1, (tk b n m q).2.1) := by
            have e2 : sKno (tk b n m) q N.2.1 = .inl (1, (tk b n m q).2.1) := by
              unfold sKno
              rw [if_pos (by omega)]
            rw [cLn, if_neg (by omega), if_neg (by omega), e2]
            rfl
          rw [hR2, e1]
          rfl
        · rw [if_neg b0] at hR2
          exact hR2
      rcases hP1 with ⟨q1, a, X1, got1, cd1, e9, rfl, h1, rfl⟩ | ⟨e8, q1, X1, got1, cd1, e9, rfl, rfl⟩
      · refine kT_pic (l2 := (rC o thr 0 (Int32.ofNat n) (Int32.ofNat m) X1 (Int32.ofNat 0) fat got1 lns crs b hh nms rsv (Int32.ofNat k) cd1 s)) rfl ?_
        rw [e9] at hR3
        have hR4 : R = (if (tk b n m q1).1 = 59 then cCh (tk b n m) N (decide (m < n)) (r + 2) (nx (tk b n m) q1) (k + 1) else .inl (1, (tk b n m q1).2.1)) := hR3
        refine xw_go nostop 30 (fun K e => And.intro (fun c => nomatch (show false = true from c)) (fun _ => e _ _ _ _ (kT_call rfl rfl rfl rfl (k_sign (L := L) (xs := xs) (thr := thr) (len := 0) (got := got1) (lns := lns) (crs := crs) (hh := hh) (nms := nms) (rsv := rsv) (o := (fun j9 => if j9 = 35 then .int (Int32.ofNat k) else o j9)) (flt := (Int32.ofNat 0)) (fat := fat) (d := d + 1) hn hm hby h1 (c := 59) (by decide)) ⟨rfl, rfl, rfl, rfl, rfl, trivial⟩ rfl rfl (fun rv l1 hP1 _ => ?_))))
        rcases hP1 with ⟨e59, rfl, X2, h2, rfl⟩ | ⟨e59, rfl, rfl⟩
        · rw [if_pos e59] at hR4
          have hn2 := ih (k + 1) (nx (tk b n m) q1) X2 fat got1 cd1 (by omega) hR4 h2
          rw [← i32_succ] at hn2
          refine kT_pic (l2 := (rC o thr 0 (Int32.ofNat n) (Int32.ofNat m) X2 (Int32.ofNat 0) fat got1 lns crs b hh nms rsv (Int32.ofNat k) cd1 s)) rfl ?_
          exact xw_go (fun pc => pc == 39) 30 (fun K e => And.intro (fun _ => And.intro rfl (e _ _ _ _ (kT_sort rfl hn2))) (fun c => nomatch (show true = false from c)))
        · rw [if_neg e59] at hR4
          rw [hE] at hR4
          cases hR4
      · rw [e9] at hR3
        rw [hE] at hR3
        cases hR3
set_option maxHeartbeats 4000000 in
theorem chr0_g (hn : n ≤ 940) (hby : ∀ i, i < 940 → -128 ≤ (b i).toInt ∧ (b i).toInt ≤ 127) {N : List (List Nat) × List (List Nat) × List (List Nat) × List (List Nat)} (hrs : rsvOk rsv) (hL : N.2.1.length ≤ 10 ∧ N.2.2.1.length ≤ 6 ∧ N.2.2.2.length ≤ 4) (hok : (∀ w ∈ N.2.1, wOk w) ∧ (∀ w ∈ N.2.2.1, wOk w) ∧ ∀ w ∈ N.2.2.2, wOk w) (hnm : nmF nms 6 N.2.1 ∧ nmF nms 16 N.2.2.1 ∧ nmF nms 22 N.2.2.2) (hs1 : s 1 = Int32.ofNat N.2.1.length) (hs2 : s 2 = Int32.ofNat N.2.2.1.length) (hs3 : s 3 = Int32.ofNat N.2.2.2.length) {R : Rs Nat} {qe ke : Nat} (hE : R = .inr (qe, ke)) (hR : R = cCh (tk b n 400) N (decide (400 < n)) 42 0 0) {u : Int32} (hu : u = Int32.ofInt 0 ∨ u = Int32.ofInt 1) (h0 : List nC) : kT nj_M nX0 L xs (d + 4) nm_g9 (mQ (rC o thr (Int32.ofNat n) sz lim X flt fat got lns crs b hh nms rsv c35 cd s) (pCg9 o (Int32.ofInt 0) n 400 lns crs b hh nms rsv s) h0) (hk (rC o thr (Int32.ofNat n) sz lim X flt fat got lns crs b hh nms rsv c35 cd s)) h0 0 (lv_args 0 [.ref 175, .int u]) [] (rC o thr (Int32.ofNat n) sz lim X flt fat got lns crs b hh nms rsv c35 cd s) := by
  have hIn : (!nj_cmp .lt u (Int32.ofInt 0) && !nj_cmp .gt u (Int32.ofInt 1)) = true := by
    rcases hu with rfl | rfl
    · decide
    · decide
  refine xw_go nostop 20 (fun K e => And.intro rfl (e _ _ _ _ (kT_call rfl rfl rfl rfl (q_isIn (L := L) (xs := xs) u (Int32.ofInt 0) (Int32.ofInt 1)) trivial rfl rfl (fun rv l1 hP1 _ => ?_))))
  obtain ⟨rfl, rfl⟩ := hP1
  rw [hIn]
  refine kT_pic (l2 := (rC o (Int32.ofInt 0) (Int32.ofNat n) sz lim X flt fat got lns crs b hh nms rsv c35 cd s)) rfl ?_
  refine xw_go nostop 20 (fun K e => And.intro (fun _ => e _ _ _ _ (kT_call rfl rfl rfl rfl (q_feeds (L := L) (xs := xs) (o := (fun j9 => if j9 = 35 then .int c35 else o j9)) (thr := Int32.ofInt 0) (len := Int32.ofNat n) (sz := sz) (lim := lim) (X := X) (flt := flt) (fat := fat) (got := got) (lns := lns) (crs := crs) (b := b) (hh := hh) (nms := nms) (rsv := rsv) _) ⟨rfl, rfl, rfl, rfl, rfl, trivial⟩ rfl rfl (fun rv l1 hP1 _ => ?_))) (fun c => nomatch (show true = false from c)))
  obtain ⟨rfl, rfl⟩ := hP1
  refine kT_pic (l2 := (rC o (Int32.ofInt 0) 0 (Int32.ofNat n) (Int32.ofNat 400) (Int32.ofNat 0, X.2) flt fat got lns crs b hh nms rsv c35 cd s)) rfl ?_
  refine xw_go nostop 60 (fun K e => And.intro rfl (And.intro rfl (e _ _ _ _ (kT_call rfl rfl rfl rfl (q_next (L := L) (xs := xs) (d := d + 2) (o := (fun j9 => if j9 = 35 then .int (Int32.ofInt 0) else o j9)) (thr := Int32.ofInt 0) (len := 0) (flt := Int32.ofInt 0) (fat := fat) (got := got) (lns := lns) (crs := crs) (hh := hh) (nms := nms) (rsv := rsv) (Y := X.2) (m := 400) hn (by decide) hby (Nat.zero_le n)) ⟨rfl, rfl, rfl, rfl, rfl, trivial⟩ rfl rfl (fun rv l1 hP1 _ => ?_)))))
  obtain ⟨rfl, X1, hX1, rfl⟩ := hP1
  have hl := chr_g (L := L) (xs := xs) (d := d) (o := o) (thr := Int32.ofInt 0) (lns := lns) (crs := crs) (hh := hh) (u := u) (l0 := (rC o thr (Int32.ofNat n) sz lim X flt fat got lns crs b hh nms rsv c35 cd s)) (h0 := h0) hn (by decide) hby hrs hL hok hnm hs1 hs2 hs3 hE 40 0 0 X1 fat got cd rfl hR ⟨hX1, tk_le (Nat.zero_le n)⟩
  refine kT_pic (l2 := (rC o (Int32.ofInt 0) 0 (Int32.ofNat n) (Int32.ofNat 400) X1 (Int32.ofNat 0) fat got lns crs b hh nms rsv (Int32.ofNat 0) cd s)) rfl ?_
  exact kT_sort rfl hl
end CHR
