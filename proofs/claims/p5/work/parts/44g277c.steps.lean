/-! the main loop: its steps -/
def aT (L : Nat) (xs : Nat → Int32) (d : Nat) (o : Nat → Value) (thr len : Int32) (n m : Nat) (flt fat lns crs : Int32) (b hh : Nat → Int32) (nms rsv : Nat → Int64) (s : Nat → Int32) (l00 : nL) (P : Option Value → nL → Prop) (h0 : List nC) (fl : Int32) (l : List Nat) (w y q k : Nat) : Prop := ∀ (X : Lx) (got : Int32) (cd st : Nat → Int32), rX b n m q X → stk st l → kT nj_M nX0 L xs (d + 3) nm_251 (mQ l00 P h0) (hk l00) h0 48 [(0, .ref 175), (1, .int (Int32.ofInt 1))] [] (rS o thr len (Int32.ofNat n) (Int32.ofNat m) X flt fat got lns crs b hh nms rsv (Int32.ofNat y) (Int32.ofNat k) (Int32.ofNat l.length) (Int32.ofNat w) fl cd st s)
/-- what the sentence leaves -/
def pFin (o : Nat → Value) (thr len : Int32) (n m : Nat) (lns crs : Int32) (b hh : Nat → Int32) (nms rsv : Nat → Int64) (s : Nat → Int32) (R : Rs Nat) : Option Value → nL → Prop := fun rv l => rv = some (.int (sAns R)) ∧ ∃ (X1 : Lx) (flt1 fat1 got1 x39 x40 x41 x42 x43 : Int32) (cd1 st1 s1 : Nat → Int32), flt1 = Int32.ofNat (rK R) ∧ (∀ i, i < 132 → s1 i = s i) ∧ l = (rS o thr len (Int32.ofNat n) (Int32.ofNat m) X1 flt1 fat1 got1 lns crs b hh nms rsv x39 x40 x41 x42 x43 cd1 st1 s1)
theorem rX_ne {b : Nat → Int32} {n m q : Nat} {X : Lx} (h : rX b n m q X) (hc : ¬ (tk b n m q).1 = 0 ∨ decide (m < n) = true) : ¬ X.2.1 = 0 := by
  obtain ⟨⟨_, _, h1⟩, _⟩ := h
  rcases h1 with ⟨k, t⟩ | ⟨k, t⟩ | ⟨k, t, w, ok⟩ | ⟨k, t, w⟩ | ⟨k1, k2, t, w⟩
  · rcases hc with hc | hc
    · exact absurd k hc
    · rw [t, hc]; decide
  · rw [t]; decide
  · rw [t]; decide
  · rw [t]; decide
  · rw [t]; decide
theorem rX_e {b : Nat → Int32} {n m q : Nat} {X : Lx} (h : rX b n m q X) (hc : (tk b n m q).1 = 0 ∧ decide (m < n) = false) : X.2.1 = 0 := by
  obtain ⟨⟨_, _, h1⟩, _⟩ := h
  rcases h1 with ⟨k, t⟩ | ⟨k, t⟩ | ⟨k, t, w, ok⟩ | ⟨k, t, w⟩ | ⟨k1, k2, t, w⟩
  · rw [t, hc.2]; rfl
  · omega
  · have := kOf_ge (tk b n m q).2.2.1
    omega
  · omega
  · omega
theorem rX_0 {b : Nat → Int32} {n m q : Nat} {X : Lx} (h : rX b n m q X) (h0 : X.2.1 = 0) : (tk b n m q).1 = 0 ∧ decide (m < n) = false := by
  apply Classical.byContradiction
  intro hn
  refine rX_ne h ?_ h0
  by_cases a : (tk b n m q).1 = 0
  · refine Or.inr ?_
    cases c : decide (m < n) with
    | true => rfl
    | false => exact absurd ⟨a, c⟩ hn
  · exact Or.inl a
section RSS
variable {L : Nat} {xs : Nat → Int32} {d : Nat} {o : Nat → Value} {thr len : Int32} {n m : Nat} {flt fat lns crs : Int32} {b hh : Nat → Int32} {nms rsv : Nat → Int64} {s : Nat → Int32} {l00 : nL} {P : Option Value → nL → Prop} {h0 : List nC}
variable {q k w y : Nat} {R : Rs Nat} {X : Lx} {got : Int32} {cd st : Nat → Int32}
theorem a_118 {l : List Nat} (hN : kT nj_M nX0 L xs (d + 3) nm_251 (mQ l00 P h0) (hk l00) h0 118 [(0, .ref 175), (1, .int (Int32.ofInt 1))] [] (rS o thr len (Int32.ofNat n) (Int32.ofNat m) X flt fat got lns crs b hh nms rsv (Int32.ofNat (y)) (Int32.ofNat (k)) (Int32.ofNat (l).length) (Int32.ofNat (w)) (Int32.ofInt 0) cd st s)) : kT nj_M nX0 L xs (d + 3) nm_251 (mQ l00 P h0) (hk l00) h0 48 [(0, .ref 175), (1, .int (Int32.ofInt 1))] [] (rS o thr len (Int32.ofNat n) (Int32.ofNat m) X flt fat got lns crs b hh nms rsv (Int32.ofNat (y)) (Int32.ofNat (k)) (Int32.ofNat (l).length) (Int32.ofNat (w)) (Int32.ofInt 0) cd st s) :=
  xw_go (fun pc => pc == 118) 30 (fun K e => And.intro (fun c => nomatch (show false = true from c)) (fun _ => And.intro (fun _ => And.intro (fun _ => e _ _ _ _ (kT_sort rfl hN)) (fun c => nomatch (show true = false from c))) (fun c => nomatch (show true = false from c))))
theorem a_108 {l : List Nat} (hX : ¬ X.2.1 = 0) (hN : kT nj_M nX0 L xs (d + 3) nm_251 (mQ l00 P h0) (hk l00) h0 108 [(0, .ref 175), (1, .int (Int32.ofInt 1))] [] (rS o thr len (Int32.ofNat n) (Int32.ofNat m) X flt fat got lns crs b hh nms rsv (Int32.ofNat (y)) (Int32.ofNat (k)) (Int32.ofNat (l).length) (Int32.ofNat (w)) (Int32.ofInt 1) cd st s)) : kT nj_M nX0 L xs (d + 3) nm_251 (mQ l00 P h0) (hk l00) h0 48 [(0, .ref 175), (1, .int (Int32.ofInt 1))] [] (rS o thr len (Int32.ofNat n) (Int32.ofNat m) X flt fat got lns crs b hh nms rsv (Int32.ofNat (y)) (Int32.ofNat (k)) (Int32.ofNat (l).length) (Int32.ofNat (w)) (Int32.ofInt 1) cd st s) := by
  have q1 : nj_cmp .ne X.2.1 0 = true := decide_eq_true hX
  exact xw_go (fun pc => pc == 108) 30 (fun K e => And.intro (fun c => nomatch (show false = true from c)) (fun _ => And.intro (fun c => nomatch (show false = true from c)) (fun _ => And.intro (fun _ => And.intro (fun c => nomatch (show false = true from c)) (fun _ => e _ _ _ _ (kT_sort rfl hN))) (fun c => nomatch (q1.symm.trans c)))))
theorem a_66 {l : List Nat} (hX : X.2.1 = 0) (hN : kT nj_M nX0 L xs (d + 3) nm_251 (mQ l00 P h0) (hk l00) h0 66 [(0, .ref 175), (1, .int (Int32.ofInt 1))] [] (rS o thr len (Int32.ofNat n) (Int32.ofNat m) X flt fat got lns crs b hh nms rsv (Int32.ofNat (y)) (Int32.ofNat (k)) (Int32.ofNat (l).length) (Int32.ofNat (w)) (Int32.ofInt 1) cd st s)) : kT nj_M nX0 L xs (d + 3) nm_251 (mQ l00 P h0) (hk l00) h0 48 [(0, .ref 175), (1, .int (Int32.ofInt 1))] [] (rS o thr len (Int32.ofNat n) (Int32.ofNat m) X flt fat got lns crs b hh nms rsv (Int32.ofNat (y)) (Int32.ofNat (k)) (Int32.ofNat (l).length) (Int32.ofNat (w)) (Int32.ofInt 1) cd st s) := by
  have q1 : nj_cmp .ne X.2.1 0 = false := by rw [hX]; decide
  exact xw_go (fun pc => pc == 66) 30 (fun K e => And.intro (fun c => nomatch (show false = true from c)) (fun _ => And.intro (fun c => nomatch (show false = true from c)) (fun _ => And.intro (fun c => nomatch (q1.symm.trans c)) (fun _ => e _ _ _ _ (kT_sort rfl hN)))))
/-- a fault: the answer -/
theorem a_bad {e pl : Nat} {got1 x39 x40 x41 x42 x43 : Int32} {cd1 st1 : Nat → Int32} (hP : P = pFin o thr len n m lns crs b hh nms rsv s R) (hR : R = .inl (e, pl)) : kT nj_M nX0 L xs (d + 3) nm_251 (mQ l00 P h0) (hk l00) h0 125 [(0, .ref 175), (1, .int (Int32.ofInt 1))] [] (rS o thr len (Int32.ofNat n) (Int32.ofNat m) X (Int32.ofNat e) (Int32.ofNat pl) got1 lns crs b hh nms rsv x39 x40 x41 x42 x43 cd1 st1 s) := by
  subst hP
  exact xw_go nostop 20 (fun K e => e _ _ _ _ (kT_end rfl (ret_i _) ⟨by rw [hR]; rfl, X, _, _, got1, x39, x40, x41, x42, x43, cd1, st1, s, by rw [hR]; rfl, fun _ _ => rfl, rfl⟩))
set_option maxHeartbeats 4000000 in
theorem st_not (hn : n ≤ 940) (hm : m ≤ 900) (hby : ∀ i, i < 940 → -128 ≤ (b i).toInt ∧ (b i).toInt ≤ 127) (hc : (tk b n m q).1 = 113) (hk2 : k < 20) (hw : w ≤ 8) {l : List Nat} (hl : l.length < 45) (hN : aT L xs d o thr len n m flt fat lns crs b hh nms rsv s l00 P h0 (Int32.ofInt 0) (l ++ [20]) (w + 1) (y) ((tk b n m q).2.2.2.2) (k + 1)) : aT L xs d o thr len n m flt fat lns crs b hh nms rsv s l00 P h0 (Int32.ofInt 0) (l) (w) (y) (q) (k) := by
  intro X got cd st hX hs
  refine a_118 ?_
  refine xw_go nostop 20 (fun K e => e _ _ _ _ (kT_call rfl rfl rfl rfl (op_not (d := d) (L := L) (xs := xs) (o := o) (thr := thr) (len := len) (flt := flt) (fat := fat) (got := got) (lns := lns) (crs := crs) (b := b) (hh := hh) (nms := nms) (rsv := rsv) (s := s) (cd := cd) (st := st) (n := n) (m := m) (q := q) (X := X) (c39 := Int32.ofNat y) (c43 := Int32.ofInt 0) hn hm hby hX (k := k) (w := w) (y := l.length) hk2 hw hl hc) ⟨rfl, rfl, rfl, rfl, rfl, rfl, rfl, rfl, trivial⟩ rfl rfl (fun rv l1 hP1 _ => ?_)))
  obtain ⟨rfl, X1, h1, rfl⟩ := hP1
  have el : (l ++ [20]).length = l.length + 1 := by rw [List.length_append]; rfl
  have h2 := hN X1 got cd _ h1 (stk_p hs)
  rw [el] at h2
  refine kT_pic (l2 := (rS o thr len (Int32.ofNat n) (Int32.ofNat m) X1 flt fat got lns crs b hh nms rsv (Int32.ofNat y) (Int32.ofNat (k + 1)) (Int32.ofNat (l.length + 1)) (Int32.ofNat (w + 1)) (Int32.ofInt 0) cd (upd st l.length (Int32.ofNat 20)) s)) rfl ?_
  exact xw_go (fun pc => pc == 48) 20 (fun K e => And.intro (fun _ => e _ _ _ _ (kT_sort rfl h2)) (fun c => nomatch (show true = false from c)))
set_option maxHeartbeats 4000000 in
theorem st_par (hn : n ≤ 940) (hm : m ≤ 900) (hby : ∀ i, i < 940 → -128 ≤ (b i).toInt ∧ (b i).toInt ≤ 127) (hc : (tk b n m q).1 = 40) (hk2 : k < 20) (hw : w ≤ 8) {l : List Nat} (hl : l.length < 45) (hN : aT L xs d o thr len n m flt fat lns crs b hh nms rsv s l00 P h0 (Int32.ofInt 0) (l ++ [23]) (w + 1) (y) ((tk b n m q).2.2.2.2) (k + 1)) : aT L xs d o thr len n m flt fat lns crs b hh nms rsv s l00 P h0 (Int32.ofInt 0) (l) (w) (y) (q) (k) := by
  intro X got cd st hX hs
  refine a_118 ?_
  refine xw_go nostop 20 (fun K e => e _ _ _ _ (kT_call rfl rfl rfl rfl (op_par (d := d) (L := L) (xs := xs) (o := o) (thr := thr) (len := len) (flt := flt) (fat := fat) (got := got) (lns := lns) (crs := crs) (b := b) (hh := hh) (nms := nms) (rsv := rsv) (s := s) (cd := cd) (st := st) (n := n) (m := m) (q := q) (X := X) (c39 := Int32.ofNat y) (c43 := Int32.ofInt 0) hn hm hby hX (k := k) (w := w) (y := l.length) hk2 hw hl hc) ⟨rfl, rfl, rfl, rfl, rfl, rfl, rfl, rfl, trivial⟩ rfl rfl (fun rv l1 hP1 _ => ?_)))
  obtain ⟨rfl, X1, h1, rfl⟩ := hP1
  have el : (l ++ [23]).length = l.length + 1 := by rw [List.length_append]; rfl
  have h2 := hN X1 got cd _ h1 (stk_p hs)
  rw [el] at h2
  refine kT_pic (l2 := (rS o thr len (Int32.ofNat n) (Int32.ofNat m) X1 flt fat got lns crs b hh nms rsv (Int32.ofNat y) (Int32.ofNat (k + 1)) (Int32.ofNat (l.length + 1)) (Int32.ofNat (w + 1)) (Int32.ofInt 0) cd (upd st l.length (Int32.ofNat 23)) s)) rfl ?_
  exact xw_go (fun pc => pc == 48) 20 (fun K e => And.intro (fun _ => e _ _ _ _ (kT_sort rfl h2)) (fun c => nomatch (show true = false from c)))
set_option maxHeartbeats 4000000 in
theorem st_114 (hn : n ≤ 940) (hm : m ≤ 900) (hby : ∀ i, i < 940 → -128 ≤ (b i).toInt ∧ (b i).toInt ≤ 127) (hc : (tk b n m q).1 = 114) (hk2 : k < 20) (hw : w ≤ 8) {l : List Nat} (hy : y ≤ 44) (hN : aT L xs d o thr len n m flt fat lns crs b hh nms rsv s l00 P h0 (Int32.ofInt 1) (l) (w) (y + 1) ((tk b n m q).2.2.2.2) (k + 1)) : aT L xs d o thr len n m flt fat lns crs b hh nms rsv s l00 P h0 (Int32.ofInt 0) (l) (w) (y) (q) (k) := by
  intro X got cd st hX hs
  refine a_118 ?_
  refine xw_go nostop 20 (fun K e => e _ _ _ _ (kT_call rfl rfl rfl rfl (op_114 (d := d) (L := L) (xs := xs) (o := o) (thr := thr) (len := len) (flt := flt) (fat := fat) (got := got) (lns := lns) (crs := crs) (b := b) (hh := hh) (nms := nms) (rsv := rsv) (s := s) (cd := cd) (st := st) (n := n) (m := m) (q := q) (X := X) (c41 := Int32.ofNat l.length) (c43 := Int32.ofInt 0) hn hm hby hX (k := k) (w := w) (y := y) hk2 hw hy hc) ⟨rfl, rfl, rfl, rfl, rfl, rfl, rfl, rfl, trivial⟩ rfl rfl (fun rv l1 hP1 _ => ?_)))
  obtain ⟨rfl, X1, cd1, h1, rfl⟩ := hP1
  have h2 := hN X1 got cd1 st h1 hs
  refine kT_pic (l2 := (rS o thr len (Int32.ofNat n) (Int32.ofNat m) X1 flt fat got lns crs b hh nms rsv (Int32.ofNat (y + 1)) (Int32.ofNat (k + 1)) (Int32.ofNat (l).length) (Int32.ofNat (w)) (Int32.ofInt 1) cd1 st s)) rfl ?_
  exact xw_go (fun pc => pc == 48) 20 (fun K e => And.intro (fun _ => e _ _ _ _ (kT_sort rfl h2)) (fun c => nomatch (show true = false from c)))
set_option maxHeartbeats 4000000 in
theorem st_115 (hn : n ≤ 940) (hm : m ≤ 900) (hby : ∀ i, i < 940 → -128 ≤ (b i).toInt ∧ (b i).toInt ≤ 127) (hc : (tk b n m q).1 = 115) (hk2 : k < 20) (hw : w ≤ 8) {l : List Nat} (hy : y ≤ 44) (hN : aT L xs d o thr len n m flt fat lns crs b hh nms rsv s l00 P h0 (Int32.ofInt 1) (l) (w) (y + 1) ((tk b n m q).2.2.2.2) (k + 1)) : aT L xs d o thr len n m flt fat lns crs b hh nms rsv s l00 P h0 (Int32.ofInt 0) (l) (w) (y) (q) (k) := by
  intro X got cd st hX hs
  refine a_118 ?_
  refine xw_go nostop 20 (fun K e => e _ _ _ _ (kT_call rfl rfl rfl rfl (op_115 (d := d) (L := L) (xs := xs) (o := o) (thr := thr) (len := len) (flt := flt) (fat := fat) (got := got) (lns := lns) (crs := crs) (b := b) (hh := hh) (nms := nms) (rsv := rsv) (s := s) (cd := cd) (st := st) (n := n) (m := m) (q := q) (X := X) (c41 := Int32.ofNat l.length) (c43 := Int32.ofInt 0) hn hm hby hX (k := k) (w := w) (y := y) hk2 hw hy hc) ⟨rfl, rfl, rfl, rfl, rfl, rfl, rfl, rfl, trivial⟩ rfl rfl (fun rv l1 hP1 _ => ?_)))
  obtain ⟨rfl, X1, cd1, h1, rfl⟩ := hP1
  have h2 := hN X1 got cd1 st h1 hs
  refine kT_pic (l2 := (rS o thr len (Int32.ofNat n) (Int32.ofNat m) X1 flt fat got lns crs b hh nms rsv (Int32.ofNat (y + 1)) (Int32.ofNat (k + 1)) (Int32.ofNat (l).length) (Int32.ofNat (w)) (Int32.ofInt 1) cd1 st s)) rfl ?_
  exact xw_go (fun pc => pc == 48) 20 (fun K e => And.intro (fun _ => e _ _ _ _ (kT_sort rfl h2)) (fun c => nomatch (show true = false from c)))
set_option maxHeartbeats 4000000 in
theorem st_116 (hn : n ≤ 940) (hm : m ≤ 900) (hby : ∀ i, i < 940 → -128 ≤ (b i).toInt ∧ (b i).toInt ≤ 127) (hrs : rsvOk rsv) (hc : (tk b n m q).1 = 116) {ns : List (List Nat)} (hf : 16 + ns.length ≤ 52) (hns : nmF nms 16 ns) (hok : ∀ x ∈ ns, wOk x) (hs2 : s 2 = Int32.ofNat ns.length) (hk2 : k < 20) (hw : w ≤ 8) {l : List Nat} (hy : y ≤ 44) (hP : P = pFin o thr len n m lns crs b hh nms rsv s R) (hF : ∀ e pl, pK (tk b n m) (tk b n m q).2.2.2.2 (k + 1) ns = .inl (e, pl) → R = .inl (e, pl)) (hN : ∀ p1, pK (tk b n m) (tk b n m q).2.2.2.2 (k + 1) ns = .inr (p1, k + 1) → aT L xs d o thr len n m flt fat lns crs b hh nms rsv s l00 P h0 (Int32.ofInt 1) (l) (w) (y + 1) (p1) (k + 1)) : aT L xs d o thr len n m flt fat lns crs b hh nms rsv s l00 P h0 (Int32.ofInt 0) (l) (w) (y) (q) (k) := by
  intro X got cd st hX hs
  refine a_118 ?_
  refine xw_go nostop 20 (fun K e => e _ _ _ _ (kT_call rfl rfl rfl rfl (op_116 (d := d) (L := L) (xs := xs) (o := o) (thr := thr) (len := len) (flt := flt) (fat := fat) (got := got) (lns := lns) (crs := crs) (b := b) (hh := hh) (nms := nms) (rsv := rsv) (s := s) (cd := cd) (st := st) (n := n) (m := m) (q := q) (X := X) (c41 := Int32.ofNat l.length) (c43 := Int32.ofInt 0) hn hm hby hrs hX (k := k) (w := w) (y := y) hk2 hw hy hc hf hns hok hs2) ⟨rfl, rfl, rfl, rfl, rfl, rfl, rfl, rfl, trivial⟩ rfl rfl (fun rv l1 hP1 _ => ?_)))
  rcases hP1 with ⟨p1, X1, cd1, got1, e1, rfl, h1, rfl⟩ | ⟨e2, pl, X1, got1, e1, rfl, rfl⟩
  · have h2 := hN p1 e1 X1 got1 cd1 st h1 hs
    refine kT_pic (l2 := (rS o thr len (Int32.ofNat n) (Int32.ofNat m) X1 flt fat got1 lns crs b hh nms rsv (Int32.ofNat (y + 1)) (Int32.ofNat (k + 1)) (Int32.ofNat (l).length) (Int32.ofNat (w)) (Int32.ofInt 1) cd1 st s)) rfl ?_
    exact xw_go (fun pc => pc == 48) 20 (fun K e => And.intro (fun _ => e _ _ _ _ (kT_sort rfl h2)) (fun c => nomatch (show true = false from c)))
  · refine kT_pic (l2 := (rS o thr len (Int32.ofNat n) (Int32.ofNat m) X1 (Int32.ofNat e2) (Int32.ofNat pl) got1 lns crs b hh nms rsv (Int32.ofNat (y)) (Int32.ofNat (k + 1)) (Int32.ofNat (l).length) (Int32.ofNat (w)) (Int32.ofInt 1) cd st s)) rfl ?_
    exact xw_go (fun pc => pc == 125) 20 (fun K e => And.intro (fun c => nomatch (show false = true from c)) (fun _ => e _ _ _ _ (kT_sort rfl (a_bad hP (hF e2 pl e1)))))
set_option maxHeartbeats 4000000 in
theorem st_117 (hn : n ≤ 940) (hm : m ≤ 900) (hby : ∀ i, i < 940 → -128 ≤ (b i).toInt ∧ (b i).toInt ≤ 127) (hrs : rsvOk rsv) (hc : (tk b n m q).1 = 117) {ns : List (List Nat)} (hf : 6 + ns.length ≤ 52) (hns : nmF nms 6 ns) (hok : ∀ x ∈ ns, wOk x) (hs2 : s 1 = Int32.ofNat ns.length) (hk2 : k < 20) (hw : w ≤ 8) {l : List Nat} (hy : y ≤ 44) (hP : P = pFin o thr len n m lns crs b hh nms rsv s R) (hF : ∀ e pl, pK (tk b n m) (tk b n m q).2.2.2.2 (k + 1) ns = .inl (e, pl) → R = .inl (e, pl)) (hN : ∀ p1, pK (tk b n m) (tk b n m q).2.2.2.2 (k + 1) ns = .inr (p1, k + 1) → aT L xs d o thr len n m flt fat lns crs b hh nms rsv s l00 P h0 (Int32.ofInt 1) (l) (w) (y + 1) (p1) (k + 1)) : aT L xs d o thr len n m flt fat lns crs b hh nms rsv s l00 P h0 (Int32.ofInt 0) (l) (w) (y) (q) (k) := by
  intro X got cd st hX hs
  refine a_118 ?_
  refine xw_go nostop 20 (fun K e => e _ _ _ _ (kT_call rfl rfl rfl rfl (op_117 (d := d) (L := L) (xs := xs) (o := o) (thr := thr) (len := len) (flt := flt) (fat := fat) (got := got) (lns := lns) (crs := crs) (b := b) (hh := hh) (nms := nms) (rsv := rsv) (s := s) (cd := cd) (st := st) (n := n) (m := m) (q := q) (X := X) (c41 := Int32.ofNat l.length) (c43 := Int32.ofInt 0) hn hm hby hrs hX (k := k) (w := w) (y := y) hk2 hw hy hc hf hns hok hs2) ⟨rfl, rfl, rfl, rfl, rfl, rfl, rfl, rfl, trivial⟩ rfl rfl (fun rv l1 hP1 _ => ?_)))
  rcases hP1 with ⟨p1, X1, cd1, got1, e1, rfl, h1, rfl⟩ | ⟨e2, pl, X1, got1, e1, rfl, rfl⟩
  · have h2 := hN p1 e1 X1 got1 cd1 st h1 hs
    refine kT_pic (l2 := (rS o thr len (Int32.ofNat n) (Int32.ofNat m) X1 flt fat got1 lns crs b hh nms rsv (Int32.ofNat (y + 1)) (Int32.ofNat (k + 1)) (Int32.ofNat (l).length) (Int32.ofNat (w)) (Int32.ofInt 1) cd1 st s)) rfl ?_
    exact xw_go (fun pc => pc == 48) 20 (fun K e => And.intro (fun _ => e _ _ _ _ (kT_sort rfl h2)) (fun c => nomatch (show true = false from c)))
  · refine kT_pic (l2 := (rS o thr len (Int32.ofNat n) (Int32.ofNat m) X1 (Int32.ofNat e2) (Int32.ofNat pl) got1 lns crs b hh nms rsv (Int32.ofNat (y)) (Int32.ofNat (k + 1)) (Int32.ofNat (l).length) (Int32.ofNat (w)) (Int32.ofInt 1) cd st s)) rfl ?_
    exact xw_go (fun pc => pc == 125) 20 (fun K e => And.intro (fun c => nomatch (show false = true from c)) (fun _ => e _ _ _ _ (kT_sort rfl (a_bad hP (hF e2 pl e1)))))
set_option maxHeartbeats 4000000 in
theorem st_118 (hn : n ≤ 940) (hm : m ≤ 900) (hby : ∀ i, i < 940 → -128 ≤ (b i).toInt ∧ (b i).toInt ≤ 127) (hc : (tk b n m q).1 = 118) (hk2 : k < 20) (hw : w ≤ 8) {l : List Nat} (hy : y ≤ 44) (hP : P = pFin o thr len n m lns crs b hh nms rsv s R) (hF : ∀ e pl, pM (tk b n m) (tk b n m q).2.2.2.2 (k + 1) = .inl (e, pl) → R = .inl (e, pl)) (hN : ∀ p1, pM (tk b n m) (tk b n m q).2.2.2.2 (k + 1) = .inr (p1, k + 1) → aT L xs d o thr len n m flt fat lns crs b hh nms rsv s l00 P h0 (Int32.ofInt 1) (l) (w) (y + 1) (p1) (k + 1)) : aT L xs d o thr len n m flt fat lns crs b hh nms rsv s l00 P h0 (Int32.ofInt 0) (l) (w) (y) (q) (k) := by
  intro X got cd st hX hs
  refine a_118 ?_
  refine xw_go nostop 20 (fun K e => e _ _ _ _ (kT_call rfl rfl rfl rfl (op_118 (d := d) (L := L) (xs := xs) (o := o) (thr := thr) (len := len) (flt := flt) (fat := fat) (got := got) (lns := lns) (crs := crs) (b := b) (hh := hh) (nms := nms) (rsv := rsv) (s := s) (cd := cd) (st := st) (n := n) (m := m) (q := q) (X := X) (c41 := Int32.ofNat l.length) (c43 := Int32.ofInt 0) hn hm hby hX (k := k) (w := w) (y := y) hk2 hw hy hc) ⟨rfl, rfl, rfl, rfl, rfl, rfl, rfl, rfl, trivial⟩ rfl rfl (fun rv l1 hP1 _ => ?_)))
  rcases hP1 with ⟨p1, X1, cd1, got1, e1, rfl, h1, rfl⟩ | ⟨e2, pl, X1, got1, e1, rfl, rfl⟩
  · have h2 := hN p1 e1 X1 got1 cd1 st h1 hs
    refine kT_pic (l2 := (rS o thr len (Int32.ofNat n) (Int32.ofNat m) X1 flt fat got1 lns crs b hh nms rsv (Int32.ofNat (y + 1)) (Int32.ofNat (k + 1)) (Int32.ofNat (l).length) (Int32.ofNat (w)) (Int32.ofInt 1) cd1 st s)) rfl ?_
    exact xw_go (fun pc => pc == 48) 20 (fun K e => And.intro (fun _ => e _ _ _ _ (kT_sort rfl h2)) (fun c => nomatch (show true = false from c)))
  · refine kT_pic (l2 := (rS o thr len (Int32.ofNat n) (Int32.ofNat m) X1 (Int32.ofNat e2) (Int32.ofNat pl) got1 lns crs b hh nms rsv (Int32.ofNat (y)) (Int32.ofNat (k + 1)) (Int32.ofNat (l).length) (Int32.ofNat (w)) (Int32.ofInt 1) cd st s)) rfl ?_
    exact xw_go (fun pc => pc == 125) 20 (fun K e => And.intro (fun c => nomatch (show false = true from c)) (fun _ => e _ _ _ _ (kT_sort rfl (a_bad hP (hF e2 pl e1)))))
set_option maxHeartbeats 4000000 in
theorem st_119 (hn : n ≤ 940) (hm : m ≤ 900) (hby : ∀ i, i < 940 → -128 ≤ (b i).toInt ∧ (b i).toInt ≤ 127) (hc : (tk b n m q).1 = 119) (hk2 : k < 20) (hw : w ≤ 8) {l : List Nat} (hy : y ≤ 44) (hP : P = pFin o thr len n m lns crs b hh nms rsv s R) (hF : ∀ e pl, pM (tk b n m) (tk b n m q).2.2.2.2 (k + 1) = .inl (e, pl) → R = .inl (e, pl)) (hN : ∀ p1, pM (tk b n m) (tk b n m q).2.2.2.2 (k + 1) = .inr (p1, k + 1) → aT L xs d o thr len n m flt fat lns crs b hh nms rsv s l00 P h0 (Int32.ofInt 1) (l) (w) (y + 1) (p1) (k + 1)) : aT L xs d o thr len n m flt fat lns crs b hh nms rsv s l00 P h0 (Int32.ofInt 0) (l) (w) (y) (q) (k) := by
  intro X got cd st hX hs
  refine a_118 ?_
  refine xw_go nostop 20 (fun K e => e _ _ _ _ (kT_call rfl rfl rfl rfl (op_119 (d := d) (L := L) (xs := xs) (o := o) (thr := thr) (len := len) (flt := flt) (fat := fat) (got := got) (lns := lns) (crs := crs) (b := b) (hh := hh) (nms := nms) (rsv := rsv) (s := s) (cd := cd) (st := st) (n := n) (m := m) (q := q) (X := X) (c41 := Int32.ofNat l.length) (c43 := Int32.ofInt 0) hn hm hby hX (k := k) (w := w) (y := y) hk2 hw hy hc) ⟨rfl, rfl, rfl, rfl, rfl, rfl, rfl, rfl, trivial⟩ rfl rfl (fun rv l1 hP1 _ => ?_)))
  rcases hP1 with ⟨p1, X1, cd1, got1, e1, rfl, h1, rfl⟩ | ⟨e2, pl, X1, got1, e1, rfl, rfl⟩
  · have h2 := hN p1 e1 X1 got1 cd1 st h1 hs
    refine kT_pic (l2 := (rS o thr len (Int32.ofNat n) (Int32.ofNat m) X1 flt fat got1 lns crs b hh nms rsv (Int32.ofNat (y + 1)) (Int32.ofNat (k + 1)) (Int32.ofNat (l).length) (Int32.ofNat (w)) (Int32.ofInt 1) cd1 st s)) rfl ?_
    exact xw_go (fun pc => pc == 48) 20 (fun K e => And.intro (fun _ => e _ _ _ _ (kT_sort rfl h2)) (fun c => nomatch (show true = false from c)))
  · refine kT_pic (l2 := (rS o thr len (Int32.ofNat n) (Int32.ofNat m) X1 (Int32.ofNat e2) (Int32.ofNat pl) got1 lns crs b hh nms rsv (Int32.ofNat (y)) (Int32.ofNat (k + 1)) (Int32.ofNat (l).length) (Int32.ofNat (w)) (Int32.ofInt 1) cd st s)) rfl ?_
    exact xw_go (fun pc => pc == 125) 20 (fun K e => And.intro (fun c => nomatch (show false = true from c)) (fun _ => e _ _ _ _ (kT_sort rfl (a_bad hP (hF e2 pl e1)))))
set_option maxHeartbeats 4000000 in
theorem st_120 (hn : n ≤ 940) (hm : m ≤ 900) (hby : ∀ i, i < 940 → -128 ≤ (b i).toInt ∧ (b i).toInt ≤ 127) (hc : (tk b n m q).1 = 120) (hk2 : k < 20) (hw : w ≤ 8) {l : List Nat} (hy : y ≤ 44) (hP : P = pFin o thr len n m lns crs b hh nms rsv s R) (hF : ∀ e pl, pM (tk b n m) (tk b n m q).2.2.2.2 (k + 1) = .inl (e, pl) → R = .inl (e, pl)) (hN : ∀ p1, pM (tk b n m) (tk b n m q).2.2.2.2 (k + 1) = .inr (p1, k + 1) → aT L xs d o thr len n m flt fat lns crs b hh nms rsv s l00 P h0 (Int32.ofInt 1) (l) (w) (y + 1) (p1) (k + 1)) : aT L xs d o thr len n m flt fat lns crs b hh nms rsv s l00 P h0 (Int32.ofInt 0) (l) (w) (y) (q) (k) := by
  intro X got cd st hX hs
  refine a_118 ?_
  refine xw_go nostop 20 (fun K e => e _ _ _ _ (kT_call rfl rfl rfl rfl (op_120 (d := d) (L := L) (xs := xs) (o := o) (thr := thr) (len := len) (flt := flt) (fat := fat) (got := got) (lns := lns) (crs := crs) (b := b) (hh := hh) (nms := nms) (rsv := rsv) (s := s) (cd := cd) (st := st) (n := n) (m := m) (q := q) (X := X) (c41 := Int32.ofNat l.length) (c43 := Int32.ofInt 0) hn hm hby hX (k := k) (w := w) (y := y) hk2 hw hy hc) ⟨rfl, rfl, rfl, rfl, rfl, rfl, rfl, rfl, trivial⟩ rfl rfl (fun rv l1 hP1 _ => ?_)))
  rcases hP1 with ⟨p1, X1, cd1, got1, e1, rfl, h1, rfl⟩ | ⟨e2, pl, X1, got1, e1, rfl, rfl⟩
  · have h2 := hN p1 e1 X1 got1 cd1 st h1 hs
    refine kT_pic (l2 := (rS o thr len (Int32.ofNat n) (Int32.ofNat m) X1 flt fat got1 lns crs b hh nms rsv (Int32.ofNat (y + 1)) (Int32.ofNat (k + 1)) (Int32.ofNat (l).length) (Int32.ofNat (w)) (Int32.ofInt 1) cd1 st s)) rfl ?_
    exact xw_go (fun pc => pc == 48) 20 (fun K e => And.intro (fun _ => e _ _ _ _ (kT_sort rfl h2)) (fun c => nomatch (show true = false from c)))
  · refine kT_pic (l2 := (rS o thr len (Int32.ofNat n) (Int32.ofNat m) X1 (Int32.ofNat e2) (Int32.ofNat pl) got1 lns crs b hh nms rsv (Int32.ofNat (y)) (Int32.ofNat (k + 1)) (Int32.ofNat (l).length) (Int32.ofNat (w)) (Int32.ofInt 1) cd st s)) rfl ?_
    exact xw_go (fun pc => pc == 125) 20 (fun K e => And.intro (fun c => nomatch (show false = true from c)) (fun _ => e _ _ _ _ (kT_sort rfl (a_bad hP (hF e2 pl e1)))))
set_option maxHeartbeats 4000000 in
theorem st_121 (hn : n ≤ 940) (hm : m ≤ 900) (hby : ∀ i, i < 940 → -128 ≤ (b i).toInt ∧ (b i).toInt ≤ 127) (hc : (tk b n m q).1 = 121) (hk2 : k < 20) (hw : w ≤ 8) {l : List Nat} (hy : y ≤ 44) (hP : P = pFin o thr len n m lns crs b hh nms rsv s R) (hF : ∀ e pl, pM (tk b n m) (tk b n m q).2.2.2.2 (k + 1) = .inl (e, pl) → R = .inl (e, pl)) (hN : ∀ p1, pM (tk b n m) (tk b n m q).2.2.2.2 (k + 1) = .inr (p1, k + 1) → aT L xs d o thr len n m flt fat lns crs b hh nms rsv s l00 P h0 (Int32.ofInt 1) (l) (w) (y + 1) (p1) (k + 1)) : aT L xs d o thr len n m flt fat lns crs b hh nms rsv s l00 P h0 (Int32.ofInt 0) (l) (w) (y) (q) (k) := by
  intro X got cd st hX hs
  refine a_118 ?_
  refine xw_go nostop 20 (fun K e => e _ _ _ _ (kT_call rfl rfl rfl rfl (op_121 (d := d) (L := L) (xs := xs) (o := o) (thr := thr) (len := len) (flt := flt) (fat := fat) (got := got) (lns := lns) (crs := crs) (b := b) (hh := hh) (nms := nms) (rsv := rsv) (s := s) (cd := cd) (st := st) (n := n) (m := m) (q := q) (X := X) (c41 := Int32.ofNat l.length) (c43 := Int32.ofInt 0) hn hm hby hX (k := k) (w := w) (y := y) hk2 hw hy hc) ⟨rfl, rfl, rfl, rfl, rfl, rfl, rfl, rfl, trivial⟩ rfl rfl (fun rv l1 hP1 _ => ?_)))
  rcases hP1 with ⟨p1, X1, cd1, got1, e1, rfl, h1, rfl⟩ | ⟨e2, pl, X1, got1, e1, rfl, rfl⟩
  · have h2 := hN p1 e1 X1 got1 cd1 st h1 hs
    refine kT_pic (l2 := (rS o thr len (Int32.ofNat n) (Int32.ofNat m) X1 flt fat got1 lns crs b hh nms rsv (Int32.ofNat (y + 1)) (Int32.ofNat (k + 1)) (Int32.ofNat (l).length) (Int32.ofNat (w)) (Int32.ofInt 1) cd1 st s)) rfl ?_
    exact xw_go (fun pc => pc == 48) 20 (fun K e => And.intro (fun _ => e _ _ _ _ (kT_sort rfl h2)) (fun c => nomatch (show true = false from c)))
  · refine kT_pic (l2 := (rS o thr len (Int32.ofNat n) (Int32.ofNat m) X1 (Int32.ofNat e2) (Int32.ofNat pl) got1 lns crs b hh nms rsv (Int32.ofNat (y)) (Int32.ofNat (k + 1)) (Int32.ofNat (l).length) (Int32.ofNat (w)) (Int32.ofInt 1) cd st s)) rfl ?_
    exact xw_go (fun pc => pc == 125) 20 (fun K e => And.intro (fun c => nomatch (show false = true from c)) (fun _ => e _ _ _ _ (kT_sort rfl (a_bad hP (hF e2 pl e1)))))
set_option maxHeartbeats 4000000 in
theorem st_none {l : List Nat} (hg : (¬ (tk b n m q).1 = 40 ∧ ((tk b n m q).1 < 113 ∨ 121 < (tk b n m q).1))) (hP : P = pFin o thr len n m lns crs b hh nms rsv s R) (hR : R = .inl (1, (tk b n m q).2.1)) : aT L xs d o thr len n m flt fat lns crs b hh nms rsv s l00 P h0 (Int32.ofInt 0) (l) (w) (y) (q) (k) := by
  intro X got cd st hX hs
  refine a_118 ?_
  refine xw_go nostop 20 (fun K e => e _ _ _ _ (kT_call rfl rfl rfl rfl (op_none (d := d) (L := L) (xs := xs) (o := o) (thr := thr) (len := len) (flt := flt) (fat := fat) (got := got) (lns := lns) (crs := crs) (b := b) (hh := hh) (nms := nms) (rsv := rsv) (s := s) (cd := cd) (st := st) (n := n) (m := m) (q := q) (X := X) (c39 := Int32.ofNat y) (c41 := Int32.ofNat l.length) (c43 := Int32.ofInt 0) (c40 := Int32.ofNat k) (c42 := Int32.ofNat w) hX hg) ⟨rfl, rfl, rfl, rfl, rfl, rfl, rfl, rfl, trivial⟩ rfl rfl (fun rv l1 hP1 _ => ?_)))
  obtain ⟨rfl, rfl⟩ := hP1
  refine kT_pic (l2 := (rS o thr len (Int32.ofNat n) (Int32.ofNat m) X (Int32.ofNat 1) (Int32.ofNat (tk b n m q).2.1) got lns crs b hh nms rsv (Int32.ofNat (y)) (Int32.ofNat (k)) (Int32.ofNat (l).length) (Int32.ofNat (w)) (Int32.ofInt 0) cd st s)) rfl ?_
  exact xw_go (fun pc => pc == 125) 20 (fun K e => And.intro (fun c => nomatch (show false = true from c)) (fun _ => e _ _ _ _ (kT_sort rfl (a_bad hP hR))))
set_option maxHeartbeats 4000000 in
theorem st_many {l : List Nat} (hk2 : k ≤ 20) (hw : w ≤ 9) (hg : ¬ (¬ (tk b n m q).1 = 40 ∧ ((tk b n m q).1 < 113 ∨ 121 < (tk b n m q).1))) (ht : 20 ≤ k ∨ 8 < w) (hP : P = pFin o thr len n m lns crs b hh nms rsv s R) (hR : R = .inl (4, (tk b n m q).2.1)) : aT L xs d o thr len n m flt fat lns crs b hh nms rsv s l00 P h0 (Int32.ofInt 0) (l) (w) (y) (q) (k) := by
  intro X got cd st hX hs
  refine a_118 ?_
  refine xw_go nostop 20 (fun K e => e _ _ _ _ (kT_call rfl rfl rfl rfl (op_many (d := d) (L := L) (xs := xs) (o := o) (thr := thr) (len := len) (flt := flt) (fat := fat) (got := got) (lns := lns) (crs := crs) (b := b) (hh := hh) (nms := nms) (rsv := rsv) (s := s) (cd := cd) (st := st) (n := n) (m := m) (q := q) (X := X) (c39 := Int32.ofNat y) (c41 := Int32.ofNat l.length) (c43 := Int32.ofInt 0) (k := k) (w := w) hX hk2 hw hg ht) ⟨rfl, rfl, rfl, rfl, rfl, rfl, rfl, rfl, trivial⟩ rfl rfl (fun rv l1 hP1 _ => ?_)))
  obtain ⟨rfl, rfl⟩ := hP1
  refine kT_pic (l2 := (rS o thr len (Int32.ofNat n) (Int32.ofNat m) X (Int32.ofNat 4) (Int32.ofNat (tk b n m q).2.1) got lns crs b hh nms rsv (Int32.ofNat (y)) (Int32.ofNat (k)) (Int32.ofNat (l).length) (Int32.ofNat (w)) (Int32.ofInt 0) cd st s)) rfl ?_
  exact xw_go (fun pc => pc == 125) 20 (fun K e => And.intro (fun c => nomatch (show false = true from c)) (fun _ => e _ _ _ _ (kT_sort rfl (a_bad hP hR))))
set_option maxHeartbeats 4000000 in
theorem st_and (hn : n ≤ 940) (hm : m ≤ 900) (hby : ∀ i, i < 940 → -128 ≤ (b i).toInt ∧ (b i).toInt ≤ 127) (hc : (tk b n m q).1 = 112) {l0 u : List Nat} {j : Nat} (hb0 : bs 21 l0) (hu : tops 21 u) (hbl : bs 20 (l0 ++ u)) (hl : y + l0.length + u.length + j ≤ 44) (hN : aT L xs d o thr len n m flt fat lns crs b hh nms rsv s l00 P h0 (Int32.ofInt 0) (l0 ++ [21]) (w) (y + j + u.length) ((tk b n m q).2.2.2.2) (k)) : aT L xs d o thr len n m flt fat lns crs b hh nms rsv s l00 P h0 (Int32.ofInt 1) ((l0 ++ u) ++ List.replicate j 20) (w + j) (y) (q) (k) := by
  intro X got cd st hX hs
  refine a_108 (rX_ne hX (Or.inl (by omega))) ?_
  refine xw_go nostop 20 (fun K e => e _ _ _ _ (kT_call rfl rfl rfl rfl (bh_and (L := L) (xs := xs) (o := o) (thr := thr) (len := len) (flt := flt) (fat := fat) (got := got) (lns := lns) (crs := crs) (b := b) (hh := hh) (nms := nms) (rsv := rsv) (s := s) (cd := cd) (st := st) (d := d) (n := n) (m := m) (q := q) (X := X) (c40 := Int32.ofNat k) hn hm hby hX hc hb0 hu hbl hl hs) ⟨rfl, rfl, rfl, rfl, rfl, rfl, rfl, rfl, trivial⟩ rfl rfl (fun rv l1 hP1 _ => ?_)))
  obtain ⟨rfl, X1, cd1, h1, rfl⟩ := hP1
  have el : (l0 ++ [21]).length = l0.length + 1 := by rw [List.length_append]; rfl
  have h2 := hN X1 got cd1 _ h1 (stk_p (stk_l (stk_l hs)))
  rw [el] at h2
  refine kT_pic (l2 := (rS o thr len (Int32.ofNat n) (Int32.ofNat m) X1 flt fat got lns crs b hh nms rsv (Int32.ofNat (y + j + u.length)) (Int32.ofNat k) (Int32.ofNat (l0.length + 1)) (Int32.ofNat w) (Int32.ofInt 0) cd1 (upd st l0.length (Int32.ofNat 21)) s)) rfl ?_
  exact xw_go (fun pc => pc == 48) 20 (fun K e => And.intro (fun _ => e _ _ _ _ (kT_sort rfl h2)) (fun c => nomatch (show true = false from c)))
set_option maxHeartbeats 4000000 in
theorem st_or (hn : n ≤ 940) (hm : m ≤ 900) (hby : ∀ i, i < 940 → -128 ≤ (b i).toInt ∧ (b i).toInt ≤ 127) (hc : (tk b n m q).1 = 111) {l0 u : List Nat} {j : Nat} (hb0 : bs 22 l0) (hu : tops 22 u) (hbl : bs 20 (l0 ++ u)) (hl : y + l0.length + u.length + j ≤ 44) (hN : aT L xs d o thr len n m flt fat lns crs b hh nms rsv s l00 P h0 (Int32.ofInt 0) (l0 ++ [22]) (w) (y + j + u.length) ((tk b n m q).2.2.2.2) (k)) : aT L xs d o thr len n m flt fat lns crs b hh nms rsv s l00 P h0 (Int32.ofInt 1) ((l0 ++ u) ++ List.replicate j 20) (w + j) (y) (q) (k) := by
  intro X got cd st hX hs
  refine a_108 (rX_ne hX (Or.inl (by omega))) ?_
  refine xw_go nostop 20 (fun K e => e _ _ _ _ (kT_call rfl rfl rfl rfl (bh_or (L := L) (xs := xs) (o := o) (thr := thr) (len := len) (flt := flt) (fat := fat) (got := got) (lns := lns) (crs := crs) (b := b) (hh := hh) (nms := nms) (rsv := rsv) (s := s) (cd := cd) (st := st) (d := d) (n := n) (m := m) (q := q) (X := X) (c40 := Int32.ofNat k) hn hm hby hX hc hb0 hu hbl hl hs) ⟨rfl, rfl, rfl, rfl, rfl, rfl, rfl, rfl, trivial⟩ rfl rfl (fun rv l1 hP1 _ => ?_)))
  obtain ⟨rfl, X1, cd1, h1, rfl⟩ := hP1
  have el : (l0 ++ [22]).length = l0.length + 1 := by rw [List.length_append]; rfl
  have h2 := hN X1 got cd1 _ h1 (stk_p (stk_l (stk_l hs)))
  rw [el] at h2
  refine kT_pic (l2 := (rS o thr len (Int32.ofNat n) (Int32.ofNat m) X1 flt fat got lns crs b hh nms rsv (Int32.ofNat (y + j + u.length)) (Int32.ofNat k) (Int32.ofNat (l0.length + 1)) (Int32.ofNat w) (Int32.ofInt 0) cd1 (upd st l0.length (Int32.ofNat 22)) s)) rfl ?_
  exact xw_go (fun pc => pc == 48) 20 (fun K e => And.intro (fun _ => e _ _ _ _ (kT_sort rfl h2)) (fun c => nomatch (show true = false from c)))
set_option maxHeartbeats 4000000 in
theorem st_close (hn : n ≤ 940) (hm : m ≤ 900) (hby : ∀ i, i < 940 → -128 ≤ (b i).toInt ∧ (b i).toInt ≤ 127) (hc : (tk b n m q).1 = 41) {l1 u : List Nat} {j : Nat} (hb0 : bs 22 (l1 ++ [23])) (hu : tops 22 u) (hbl : bs 20 ((l1 ++ [23]) ++ u)) (hl : y + l1.length + 1 + u.length + j ≤ 44) (hN : aT L xs d o thr len n m flt fat lns crs b hh nms rsv s l00 P h0 (Int32.ofInt 1) (l1) (w) (y + j + u.length) ((tk b n m q).2.2.2.2) (k)) : aT L xs d o thr len n m flt fat lns crs b hh nms rsv s l00 P h0 (Int32.ofInt 1) (((l1 ++ [23]) ++ u) ++ List.replicate j 20) (w + 1 + j) (y) (q) (k) := by
  intro X got cd st hX hs
  refine a_108 (rX_ne hX (Or.inl (by omega))) ?_
  refine xw_go nostop 20 (fun K e => e _ _ _ _ (kT_call rfl rfl rfl rfl (bh_close (L := L) (xs := xs) (o := o) (thr := thr) (len := len) (flt := flt) (fat := fat) (got := got) (lns := lns) (crs := crs) (b := b) (hh := hh) (nms := nms) (rsv := rsv) (s := s) (cd := cd) (st := st) (d := d) (n := n) (m := m) (q := q) (X := X) (c40 := Int32.ofNat k) hn hm hby hX hc hb0 hu hbl hl hs) ⟨rfl, rfl, rfl, rfl, rfl, rfl, rfl, rfl, trivial⟩ rfl rfl (fun rv l1 hP1 _ => ?_)))
  obtain ⟨rfl, X1, cd1, h1, rfl⟩ := hP1
  have h2 := hN X1 got cd1 st h1 (stk_l (stk_l (stk_l hs)))
  refine kT_pic (l2 := (rS o thr len (Int32.ofNat n) (Int32.ofNat m) X1 flt fat got lns crs b hh nms rsv (Int32.ofNat (y + j + u.length)) (Int32.ofNat (k)) (Int32.ofNat (l1).length) (Int32.ofNat (w)) (Int32.ofInt 1) cd1 st s)) rfl ?_
  exact xw_go (fun pc => pc == 48) 20 (fun K e => And.intro (fun _ => e _ _ _ _ (kT_sort rfl h2)) (fun c => nomatch (show true = false from c)))
set_option maxHeartbeats 4000000 in
theorem a_76 {l0 u : List Nat} {j : Nat} (hb0 : bs 22 l0) (hu : tops 22 u) (hbl : bs 20 (l0 ++ u)) (hl : y + l0.length + u.length + j ≤ 44) (hs : stk st ((l0 ++ u) ++ List.replicate j 20)) (hN : ∀ cd2, kT nj_M nX0 L xs (d + 3) nm_251 (mQ l00 P h0) (hk l00) h0 76 [(0, .ref 175), (1, .int (Int32.ofInt 1))] [] (rS o thr len (Int32.ofNat n) (Int32.ofNat m) X flt fat got lns crs b hh nms rsv (Int32.ofNat (y + j + u.length)) (Int32.ofNat k) (Int32.ofNat l0.length) (Int32.ofNat w) (Int32.ofInt 1) cd2 st s)) : kT nj_M nX0 L xs (d + 3) nm_251 (mQ l00 P h0) (hk l00) h0 66 [(0, .ref 175), (1, .int (Int32.ofInt 1))] [] (rS o thr len (Int32.ofNat n) (Int32.ofNat m) X flt fat got lns crs b hh nms rsv (Int32.ofNat (y)) (Int32.ofNat (k)) (Int32.ofNat ((l0 ++ u) ++ List.replicate j 20).length) (Int32.ofNat (w + j)) (Int32.ofInt 1) cd st s) := by
  have elu : (l0 ++ u).length = l0.length + u.length := List.length_append
  have elen9 : ((l0 ++ u) ++ List.replicate j 20).length = (l0 ++ u).length + j := by rw [List.length_append (bs := List.replicate j 20), List.length_replicate]
  rw [elen9]
  refine xw_go nostop 20 (fun K e => e _ _ _ _ (kT_call rfl rfl rfl rfl (q_nots (d := d + 1) (L := L) (xs := xs) (o := o) (thr := thr) (len := len) (sz := Int32.ofNat n) (lim := Int32.ofNat m) (X := X) (flt := flt) (fat := fat) (got := got) (lns := lns) (crs := crs) (b := b) (hh := hh) (nms := nms) (rsv := rsv) (s := s) (c40 := Int32.ofNat k) (c43 := Int32.ofInt 1) (cd := cd) (l0 := l0 ++ u) (j := j) (y := y) (w := w) (bs_last hbl) hbl.1 (by omega) (by omega) hs) ⟨rfl, rfl, rfl, rfl, rfl, rfl, rfl, rfl, trivial⟩ rfl rfl (fun rv l1 hP1 _ => ?_)))
  obtain ⟨rfl, cd1, rfl⟩ := hP1
  refine kT_pic (l2 := (rS o thr len (Int32.ofNat n) (Int32.ofNat m) X flt fat got lns crs b hh nms rsv (Int32.ofNat (y + j)) (Int32.ofNat k) (Int32.ofNat (l0 ++ u).length) (Int32.ofNat w) (Int32.ofInt 1) cd1 st s)) rfl ?_
  refine xw_go nostop 20 (fun K e => e _ _ _ _ (kT_call rfl rfl rfl rfl (q_joins (d := d + 1) (L := L) (xs := xs) (o := o) (thr := thr) (len := len) (sz := Int32.ofNat n) (lim := Int32.ofNat m) (X := X) (flt := flt) (fat := fat) (got := got) (lns := lns) (crs := crs) (b := b) (hh := hh) (nms := nms) (rsv := rsv) (s := s) (c40 := Int32.ofNat k) (c43 := Int32.ofInt 1) (cd := cd1) (c42 := Int32.ofNat w) (l0 := l0) (u := u) (a := 22) (y := y + j) (Y := y + j + u.length) (by decide) hb0 hu rfl (by omega) (by omega) (stk_l hs)) ⟨rfl, rfl, rfl, rfl, rfl, rfl, rfl, rfl, trivial⟩ rfl rfl (fun rv l1 hP1 _ => ?_)))
  obtain ⟨rfl, cd2, rfl⟩ := hP1
  refine kT_pic (l2 := (rS o thr len (Int32.ofNat n) (Int32.ofNat m) X flt fat got lns crs b hh nms rsv (Int32.ofNat (y + j + u.length)) (Int32.ofNat k) (Int32.ofNat l0.length) (Int32.ofNat w) (Int32.ofInt 1) cd2 st s)) rfl ?_
  exact hN cd2
set_option maxHeartbeats 4000000 in
theorem st_bad {l0 u : List Nat} {j : Nat} (hc : ¬ (tk b n m q).1 = 111 ∧ ¬ (tk b n m q).1 = 112) (h41 : ¬ (tk b n m q).1 = 41 ∨ l0 = []) (hE : ¬ (((tk b n m q).1 = 0 ∧ decide (m < n) = false) ∧ l0 = [])) (hb0 : bs 22 l0) (hu : tops 22 u) (hbl : bs 20 (l0 ++ u)) (hl : y + l0.length + u.length + j ≤ 44) (hP : P = pFin o thr len n m lns crs b hh nms rsv s R) (hR : R = .inl (1, (tk b n m q).2.1)) : aT L xs d o thr len n m flt fat lns crs b hh nms rsv s l00 P h0 (Int32.ofInt 1) ((l0 ++ u) ++ List.replicate j 20) (w + j) (y) (q) (k) := by
  intro X got cd st hX hs
  by_cases c0 : X.2.1 = 0
  · refine a_66 c0 (a_76 hb0 hu hbl hl hs (fun cd2 => ?_))
    have e0 := rX_0 hX c0
    have hpos : 0 < l0.length := by
      cases l0 with
      | nil => exact absurd ⟨e0, rfl⟩ hE
      | cons x l => exact Nat.succ_pos _
    have q1 : nj_cmp .le (Int32.ofNat l0.length) 0 = false := by
      rw [show (0 : Int32) = Int32.ofNat 0 from rfl, (cmp_nat (by omega) (by omega)).2.2.2.1]
      exact decide_eq_false (by omega)
    refine xw_go nostop 30 (fun K e => And.intro (fun c => nomatch (q1.symm.trans c)) (fun _ => e _ _ _ _ (kT_call rfl rfl rfl rfl (k_bad (d := d + 2) (L := L) (xs := xs) (thr := thr) (len := len) (got := got) (lns := lns) (crs := crs) (hh := hh) (nms := nms) (rsv := rsv) (o := (fun j9 => if j9 = 38 then .ref 190 else if j9 = 39 then .int (Int32.ofNat (y + j + u.length)) else if j9 = 40 then .int (Int32.ofNat k) else if j9 = 41 then .int (Int32.ofNat l0.length) else if j9 = 42 then .int (Int32.ofNat w) else if j9 = 43 then .int (Int32.ofInt 1) else o j9)) (flt := flt) (fat := fat) hX _) ⟨rfl, rfl, rfl, rfl, rfl, trivial⟩ rfl rfl (fun rv l1 hP1 _ => ?_))))
    obtain ⟨rfl, rfl⟩ := hP1
    refine kT_pic (l2 := (rS o thr len (Int32.ofNat n) (Int32.ofNat m) X (Int32.ofNat 1) (Int32.ofNat (tk b n m q).2.1) got lns crs b hh nms rsv (Int32.ofNat (y + j + u.length)) (Int32.ofNat k) (Int32.ofNat l0.length) (Int32.ofNat w) (Int32.ofInt 1) cd2 st s)) rfl ?_
    subst hP
    exact xw_go nostop 20 (fun K e => e _ _ _ _ (kT_end rfl (ret_i _) ⟨by rw [hR]; rfl, X, _, _, got, _, _, _, _, _, cd2, st, s, by rw [hR]; rfl, fun _ _ => rfl, rfl⟩))
  · refine a_108 c0 ?_
    refine xw_go nostop 20 (fun K e => e _ _ _ _ (kT_call rfl rfl rfl rfl (bh_bad (L := L) (xs := xs) (o := o) (thr := thr) (len := len) (flt := flt) (fat := fat) (got := got) (lns := lns) (crs := crs) (b := b) (hh := hh) (nms := nms) (rsv := rsv) (s := s) (cd := cd) (st := st) (d := d) (n := n) (m := m) (q := q) (X := X) (c40 := Int32.ofNat k) hX hc h41 hb0 hu hbl hl hs) ⟨rfl, rfl, rfl, rfl, rfl, rfl, rfl, rfl, trivial⟩ rfl rfl (fun rv l1 hP1 _ => ?_)))
    obtain ⟨rfl, cd1, rfl⟩ := hP1
    refine kT_pic (l2 := (rS o thr len (Int32.ofNat n) (Int32.ofNat m) X (Int32.ofNat 1) (Int32.ofNat (tk b n m q).2.1) got lns crs b hh nms rsv (Int32.ofNat (y + j + u.length)) (Int32.ofNat k) (Int32.ofNat l0.length) (Int32.ofNat w) (Int32.ofInt 1) cd1 st s)) rfl ?_
    exact xw_go (fun pc => pc == 125) 20 (fun K e => And.intro (fun c => nomatch (show false = true from c)) (fun _ => e _ _ _ _ (kT_sort rfl (a_bad hP hR))))
/-- the answer is written: places 179 and on -/
theorem wr_loop {Y : Nat} {x40 x41 x42 x43 : Int32} (hY : Y ≤ 44) (hP : P = pFin o thr len n m lns crs b hh nms rsv s R) (hR : sAns R = x40) (hq : flt = Int32.ofNat (rK R)) : ∀ (r i : Nat) (s1 : Nat → Int32), i + r = 3 * Y → (∀ i, i < 132 → s1 i = s i) → kT nj_M nX0 L xs (d + 3) nm_251 (mQ l00 P h0) (hk l00) h0 146 [(0, .ref 175), (1, .int (Int32.ofInt 0)), (2, .int (Int32.ofNat i))] [] (rS o thr len (Int32.ofNat n) (Int32.ofNat m) X flt fat got lns crs b hh nms rsv (Int32.ofNat Y) x40 x41 x42 x43 cd st s1) := by
  subst hP
  have e3 : Int32.ofInt 3 * Int32.ofNat Y = Int32.ofNat (3 * Y) := by
    rw [show Int32.ofInt 3 = Int32.ofNat 3 from rfl, ← Int32.ofNat_mul]
  intro r
  induction r with
  | zero =>
    intro i s1 hi h1
    have q1 : nj_cmp .ge (Int32.ofNat i) (Int32.ofInt 3 * Int32.ofNat Y) = true := by
      rw [e3, (cmp_nat (by omega) (by omega)).1]
      exact decide_eq_true (by omega)
    exact xw_go nostop 30 (fun K e => And.intro (fun _ => e _ _ _ _ (kT_end rfl (ret_i _) ⟨by rw [hR], X, flt, fat, got, _, x40, x41, x42, x43, cd, st, s1, hq, h1, rfl⟩)) (fun c => nomatch (q1.symm.trans c)))
  | succ r ih =>
    intro i s1 hi h1
    have q1 : nj_cmp .ge (Int32.ofNat i) (Int32.ofInt 3 * Int32.ofNat Y) = false := by
      rw [e3, (cmp_nat (by omega) (by omega)).1]
      exact decide_eq_false (by omega)
    have hx := ix_nat (i := i) (n := 135) (by omega) (by decide)
    have hy := ix_nat (i := 180 + i) (n := 360) (by omega) (by decide)
    rw [Int32.ofNat_add] at hy
    have h2 : ∀ k, k < 132 → upd s1 (Int32.ofNat 180 + Int32.ofNat i).toNatClampNeg (cd (Int32.ofNat i).toNatClampNeg) k = s k := fun k hk1 => by
      rw [hy.2, up_ne (by omega)]
      exact h1 k hk1
    have h3 := ih (i + 1) _ (by omega) h2
    rw [← i32_succ] at h3
    exact xw_go (fun pc => pc == 146) 40 (fun K e => And.intro (fun c => nomatch (q1.symm.trans c)) (fun _ => And.intro hx.1 (And.intro hy.1 (e _ _ _ _ (kT_pic (l2 := (rS o thr len (Int32.ofNat n) (Int32.ofNat m) X flt fat got lns crs b hh nms rsv (Int32.ofNat Y) x40 x41 x42 x43 cd st (upd s1 (Int32.ofNat 180 + Int32.ofNat i).toNatClampNeg (cd (Int32.ofNat i).toNatClampNeg)))) rfl (kT_sort rfl h3))))))
set_option maxHeartbeats 4000000 in
theorem st_done {u : List Nat} {j : Nat} (hE : (tk b n m q).1 = 0 ∧ decide (m < n) = false) (hu : tops 22 u) (hbl : bs 20 u) (hl : y + u.length + j ≤ 44) (hP : P = pFin o thr len n m lns crs b hh nms rsv s R) (hR : R = .inr (q, k)) (hf0 : flt = Int32.ofNat 0) : aT L xs d o thr len n m flt fat lns crs b hh nms rsv s l00 P h0 (Int32.ofInt 1) (([] ++ u) ++ List.replicate j 20) (w + j) (y) (q) (k) := by
  intro X got cd st hX hs
  have hx0 : X.2.1 = 0 := rX_e hX hE
  refine a_66 hx0 (a_76 (l0 := []) ⟨fun x hx => (nomatch hx), Or.inl rfl⟩ hu hbl (by rw [List.length_nil]; omega) hs (fun cd2 => ?_))
  have hx : nj_ix (Int32.ofNat 179) 360 = true := by decide
  have hw := wr_loop (L := L) (xs := xs) (d := d) (flt := flt) (fat := fat) (got := got) (l00 := l00) (h0 := h0) (X := X) (cd := cd2) (st := st) (x40 := Int32.ofNat k) (x41 := Int32.ofNat ([] : List Nat).length) (x42 := Int32.ofNat w) (x43 := Int32.ofInt 1) (Y := y + j + u.length) (by omega) hP (by rw [hR]; rfl) (by rw [hR]; exact hf0) (3 * (y + j + u.length)) 0 (upd s (Int32.ofNat 179).toNatClampNeg (Int32.ofNat (y + j + u.length))) (Nat.zero_add _) (fun i hi => up_ne (by rw [(ix_nat (i := 179) (n := 360) (by decide) (by decide)).2]; omega))
  exact xw_go (fun pc => pc == 146) 60 (fun K e => And.intro (fun _ => And.intro (fun _ => And.intro hx (e _ _ _ _ (kT_pic (l2 := (rS o thr len (Int32.ofNat n) (Int32.ofNat m) X flt fat got lns crs b hh nms rsv (Int32.ofNat (y + j + u.length)) (Int32.ofNat k) (Int32.ofNat ([] : List Nat).length) (Int32.ofNat w) (Int32.ofInt 1) cd2 st (upd s (Int32.ofNat 179).toNatClampNeg (Int32.ofNat (y + j + u.length))))) rfl (kT_sort rfl hw)))) (fun c => nomatch (show true = false from c))) (fun c => nomatch (show true = false from c)))
end RSS
