/-! a chronicle's lines, by the reference -/
abbrev rC (o : Nat → Value) (thr len sz lim : Int32) (X : Lx) (flt fat got lns crs : Int32) (b hh : Nat → Int32) (nms rsv : Nat → Int64) (c35 : Int32) (cd s : Nat → Int32) : nL := rfP (fun j9 => if j9 = 35 then .int c35 else o j9) thr len sz lim X flt fat got lns crs b hh nms rsv ++ [(179, .inl (0, 135, .inl cd)), (177, .inl (0, 360, .inl s))]
section CHM
variable {L : Nat} {xs : Nat → Int32} {d n m q : Nat} {o : Nat → Value} {thr len sz lim : Int32} {X : Lx} {flt fat got lns crs : Int32} {b hh s cd : Nat → Int32} {nms rsv : Nat → Int64} {c35 : Int32} {k : Nat}
/-- the end of a line that is the 41st -/
theorem t_full (h : rX b n m q X) (hk4 : k = 40) {pc : Nat} {lv : nLv} {R : Rs Nat} {h0 : List nC} {l00 : nL} (x : Int32) (hpc : (pc = 26 ∧ lv = [(0, .ref 175), (1, .int x)]) ∨ (pc = 88 ∧ lv = [(0, .ref 175), (1, .int x)]) ∨ (pc = 199 ∧ lv = [(0, .ref 175), (1, .int x)])) (hR : R = .inl (4, (tk b n m q).2.1)) : kT nj_M nX0 L xs (d + 3) nm_248 (mQ l00 (fun rv l => (∃ q1 a X1 got1 cd1, R = .inr (q1, a) ∧ rv = some (.int 1) ∧ rX b n m q1 X1 ∧ l = (rC o thr len (Int32.ofNat n) (Int32.ofNat m) X1 flt fat got1 lns crs b hh nms rsv (Int32.ofNat k) cd1 s)) ∨ (∃ e q1 X1 got1 cd1, R = .inl (e, q1) ∧ rv = some (.int 0) ∧ l = (rC o thr len (Int32.ofNat n) (Int32.ofNat m) X1 (Int32.ofNat e) (Int32.ofNat q1) got1 lns crs b hh nms rsv (Int32.ofNat k) cd1 s))) h0) (hk l00) h0 pc lv [] (rC o thr len (Int32.ofNat n) (Int32.ofNat m) X flt fat got lns crs b hh nms rsv (Int32.ofNat k) cd s) := by
  rcases hpc with ⟨rfl, rfl⟩ | ⟨rfl, rfl⟩ | ⟨rfl, rfl⟩
  · refine xw_go nostop 30 (fun K e => e _ _ _ _ (kT_call rfl rfl rfl rfl (k_bad (L := L) (xs := xs) (thr := thr) (len := len) (got := got) (lns := lns) (crs := crs) (hh := hh) (nms := nms) (rsv := rsv) (o := (fun j9 => if j9 = 35 then .int (Int32.ofNat k) else o j9)) (flt := flt) (fat := fat) (d := d + 2) h _) ⟨rfl, rfl, rfl, rfl, rfl, trivial⟩ rfl rfl (fun rv l1 hP1 _ => ?_)))
    obtain ⟨rfl, rfl⟩ := hP1
    refine kT_pic (l2 := (rC o thr len (Int32.ofNat n) (Int32.ofNat m) X (Int32.ofNat 4) (Int32.ofNat (tk b n m q).2.1) got lns crs b hh nms rsv (Int32.ofNat k) cd s)) rfl ?_
    exact xw_go nostop 30 (fun K e => e _ _ _ _ (kT_end rfl rfl (Or.inr ⟨4, (tk b n m q).2.1, X, got, cd, hR, rfl, rfl⟩)))
  · refine xw_go nostop 30 (fun K e => e _ _ _ _ (kT_call rfl rfl rfl rfl (k_bad (L := L) (xs := xs) (thr := thr) (len := len) (got := got) (lns := lns) (crs := crs) (hh := hh) (nms := nms) (rsv := rsv) (o := (fun j9 => if j9 = 35 then .int (Int32.ofNat k) else o j9)) (flt := flt) (fat := fat) (d := d + 2) h _) ⟨rfl, rfl, rfl, rfl, rfl, trivial⟩ rfl rfl (fun rv l1 hP1 _ => ?_)))
    obtain ⟨rfl, rfl⟩ := hP1
    refine kT_pic (l2 := (rC o thr len (Int32.ofNat n) (Int32.ofNat m) X (Int32.ofNat 4) (Int32.ofNat (tk b n m q).2.1) got lns crs b hh nms rsv (Int32.ofNat k) cd s)) rfl ?_
    exact xw_go nostop 30 (fun K e => e _ _ _ _ (kT_end rfl rfl (Or.inr ⟨4, (tk b n m q).2.1, X, got, cd, hR, rfl, rfl⟩)))
  · refine xw_go nostop 30 (fun K e => e _ _ _ _ (kT_call rfl rfl rfl rfl (k_bad (L := L) (xs := xs) (thr := thr) (len := len) (got := got) (lns := lns) (crs := crs) (hh := hh) (nms := nms) (rsv := rsv) (o := (fun j9 => if j9 = 35 then .int (Int32.ofNat k) else o j9)) (flt := flt) (fat := fat) (d := d + 2) h _) ⟨rfl, rfl, rfl, rfl, rfl, trivial⟩ rfl rfl (fun rv l1 hP1 _ => ?_)))
    obtain ⟨rfl, rfl⟩ := hP1
    refine kT_pic (l2 := (rC o thr len (Int32.ofNat n) (Int32.ofNat m) X (Int32.ofNat 4) (Int32.ofNat (tk b n m q).2.1) got lns crs b hh nms rsv (Int32.ofNat k) cd s)) rfl ?_
    exact xw_go nostop 30 (fun K e => e _ _ _ _ (kT_end rfl rfl (Or.inr ⟨4, (tk b n m q).2.1, X, got, cd, hR, rfl, rfl⟩)))
set_option maxHeartbeats 4000000 in
theorem t_year (hn : n ≤ 940) (hm : m ≤ 900) (hby : ∀ i, i < 940 → -128 ≤ (b i).toInt ∧ (b i).toInt ≤ 127) (h : rX b n m q X) (hk4 : k ≤ 40) {N : List (List Nat) × List (List Nat) × List (List Nat) × List (List Nat)} {h0 : List nC} (a10 : (tk b n m q).1 = 110) : kT nj_M nX0 L xs (d + 3) nm_248 (mQ (rC o thr len (Int32.ofNat n) (Int32.ofNat m) X flt fat got lns crs b hh nms rsv (Int32.ofNat k) cd s) (fun rv l => (∃ q1 a X1 got1 cd1, cLn (tk b n m) N q k = .inr (q1, a) ∧ rv = some (.int 1) ∧ rX b n m q1 X1 ∧ l = (rC o thr len (Int32.ofNat n) (Int32.ofNat m) X1 flt fat got1 lns crs b hh nms rsv (Int32.ofNat k) cd1 s)) ∨ (∃ e q1 X1 got1 cd1, cLn (tk b n m) N q k = .inl (e, q1) ∧ rv = some (.int 0) ∧ l = (rC o thr len (Int32.ofNat n) (Int32.ofNat m) X1 (Int32.ofNat e) (Int32.ofNat q1) got1 lns crs b hh nms rsv (Int32.ofNat k) cd1 s))) h0) (hk (rC o thr len (Int32.ofNat n) (Int32.ofNat m) X flt fat got lns crs b hh nms rsv (Int32.ofNat k) cd s)) h0 17 [(0, .ref 175), (1, .int (Int32.ofInt 3 * Int32.ofNat k))] [] (rC o thr len (Int32.ofNat n) (Int32.ofNat m) X flt fat got lns crs b hh nms rsv (Int32.ofNat k) cd s) := by
  have eL : cLn (tk b n m) N q k = (if k = 40 then .inl (4, (tk b n m q).2.1) else cYr (tk b n m) (nx (tk b n m) q)) := by rw [cLn, if_pos a10]
  by_cases e40 : k = 40
  · rw [if_pos e40] at eL
    have q1 : nj_cmp .ne (Int32.ofNat k) (Int32.ofNat 40) = false := by rw [e40]; decide
    exact xw_go (fun pc => pc == 26) 20 (fun K e => And.intro (fun c => nomatch (q1.symm.trans c)) (fun _ => e _ _ _ _ (t_full h e40 _ (Or.inl ⟨rfl, rfl⟩) eL)))
  · rw [if_neg e40] at eL
    have q1 : nj_cmp .ne (Int32.ofNat k) (Int32.ofNat 40) = true := by
      rw [(cmp_nat (by omega) (by omega)).2.2.2.2.2]
      exact decide_eq_true e40
    refine xw_go nostop 30 (fun K e => And.intro (fun _ => e _ _ _ _ (kT_call rfl rfl rfl rfl (k_next (L := L) (xs := xs) (thr := thr) (len := len) (got := got) (lns := lns) (crs := crs) (hh := hh) (nms := nms) (rsv := rsv) (o := (fun j9 => if j9 = 35 then .int (Int32.ofNat k) else o j9)) (flt := flt) (fat := fat) (d := d + 1) hn hm hby h) ⟨rfl, rfl, rfl, rfl, rfl, trivial⟩ rfl rfl (fun rv l1 hP1 _ => ?_))) (fun c => nomatch (q1.symm.trans c)))
    obtain ⟨rfl, X1, h1, rfl⟩ := hP1
    refine kT_pic (l2 := (rC o thr len (Int32.ofNat n) (Int32.ofNat m) X1 flt fat got lns crs b hh nms rsv (Int32.ofNat k) cd s)) rfl ?_
    refine xw_go nostop 30 (fun K e => e _ _ _ _ (kT_call rfl rfl rfl rfl (k_takes (L := L) (xs := xs) (thr := thr) (len := len) (got := got) (lns := lns) (crs := crs) (hh := hh) (nms := nms) (rsv := rsv) (o := (fun j9 => if j9 = 35 then .int (Int32.ofNat k) else o j9)) (flt := flt) (fat := fat) (d := d) hn hm hby h1 (lo := 1) (hi := 99) (by decide) (by decide)) ⟨rfl, rfl, rfl, rfl, rfl, trivial⟩ rfl rfl (fun rv l1 hP1 _ => ?_)))
    have i0 := ix30 (y := k) (by omega)
    have i1 := ix3 (y := k) (i := 1) (by omega)
    rcases hP1 with ⟨q1, y, X2, e1, hy, rfl, h2, rfl⟩ | ⟨e2, q1, e1, rfl, rfl⟩
    · refine kT_pic (l2 := (rC o thr len (Int32.ofNat n) (Int32.ofNat m) X2 flt fat (Int32.ofNat y) lns crs b hh nms rsv (Int32.ofNat k) cd s)) rfl ?_
      exact xw_go nostop 60 (fun K e => And.intro (fun _ => And.intro i0 (And.intro i1 (e _ _ _ _ (kT_end rfl rfl (Or.inl ⟨q1, 0, X2, _, _, by rw [eL, cYr, nx, e1]; rfl, rfl, h2, rfl⟩))))) (fun c => nomatch (show true = false from c)))
    · refine kT_pic (l2 := (rC o thr len (Int32.ofNat n) (Int32.ofNat m) X1 (Int32.ofNat e2) (Int32.ofNat q1) got lns crs b hh nms rsv (Int32.ofNat k) cd s)) rfl ?_
      exact xw_go nostop 30 (fun K e => And.intro (fun c => nomatch (show false = true from c)) (fun _ => e _ _ _ _ (kT_end rfl rfl (Or.inr ⟨e2, q1, X1, got, cd, by rw [eL, cYr, nx, e1]; rfl, rfl, rfl⟩))))
set_option maxHeartbeats 4000000 in
theorem t_gift (hn : n ≤ 940) (hm : m ≤ 900) (hby : ∀ i, i < 940 → -128 ≤ (b i).toInt ∧ (b i).toInt ≤ 127) {N : List (List Nat) × List (List Nat) × List (List Nat) × List (List Nat)} (hrs : rsvOk rsv) (hL : N.2.1.length ≤ 10 ∧ N.2.2.1.length ≤ 6 ∧ N.2.2.2.length ≤ 4) (hok : (∀ w ∈ N.2.1, wOk w) ∧ (∀ w ∈ N.2.2.1, wOk w) ∧ ∀ w ∈ N.2.2.2, wOk w) (hnm : nmF nms 6 N.2.1 ∧ nmF nms 16 N.2.2.1 ∧ nmF nms 22 N.2.2.2) (hs1 : s 1 = Int32.ofNat N.2.1.length) (hs2 : s 2 = Int32.ofNat N.2.2.1.length) (hs3 : s 3 = Int32.ofNat N.2.2.2.length) (h : rX b n m q X) (hk4 : k ≤ 40) {h0 : List nC} (a9 : (tk b n m q).1 = 109) : kT nj_M nX0 L xs (d + 3) nm_248 (mQ (rC o thr len (Int32.ofNat n) (Int32.ofNat m) X flt fat got lns crs b hh nms rsv (Int32.ofNat k) cd s) (fun rv l => (∃ q1 a X1 got1 cd1, cLn (tk b n m) N q k = .inr (q1, a) ∧ rv = some (.int 1) ∧ rX b n m q1 X1 ∧ l = (rC o thr len (Int32.ofNat n) (Int32.ofNat m) X1 flt fat got1 lns crs b hh nms rsv (Int32.ofNat k) cd1 s)) ∨ (∃ e q1 X1 got1 cd1, cLn (tk b n m) N q k = .inl (e, q1) ∧ rv = some (.int 0) ∧ l = (rC o thr len (Int32.ofNat n) (Int32.ofNat m) X1 (Int32.ofNat e) (Int32.ofNat q1) got1 lns crs b hh nms rsv (Int32.ofNat k) cd1 s))) h0) (hk (rC o thr len (Int32.ofNat n) (Int32.ofNat m) X flt fat got lns crs b hh nms rsv (Int32.ofNat k) cd s)) h0 79 [(0, .ref 175), (1, .int (Int32.ofInt 3 * Int32.ofNat k))] [] (rC o thr len (Int32.ofNat n) (Int32.ofNat m) X flt fat got lns crs b hh nms rsv (Int32.ofNat k) cd s) := by
  have eL : cLn (tk b n m) N q k = (if k = 40 then .inl (4, (tk b n m q).2.1) else cGv (tk b n m) N (nx (tk b n m) q)) := by rw [cLn, if_neg (by omega), if_pos a9]
  by_cases e40 : k = 40
  · rw [if_pos e40] at eL
    have q1 : nj_cmp .ne (Int32.ofNat k) (Int32.ofNat 40) = false := by rw [e40]; decide
    exact xw_go (fun pc => pc == 88) 20 (fun K e => And.intro (fun c => nomatch (q1.symm.trans c)) (fun _ => e _ _ _ _ (t_full h e40 _ (Or.inr (Or.inl ⟨rfl, rfl⟩)) eL)))
  · rw [if_neg e40] at eL
    have q1 : nj_cmp .ne (Int32.ofNat k) (Int32.ofNat 40) = true := by
      rw [(cmp_nat (by omega) (by omega)).2.2.2.2.2]
      exact decide_eq_true e40
    refine xw_go nostop 30 (fun K e => And.intro (fun _ => e _ _ _ _ (kT_call rfl rfl rfl rfl (k_next (L := L) (xs := xs) (thr := thr) (len := len) (got := got) (lns := lns) (crs := crs) (hh := hh) (nms := nms) (rsv := rsv) (o := (fun j9 => if j9 = 35 then .int (Int32.ofNat k) else o j9)) (flt := flt) (fat := fat) (d := d + 1) hn hm hby h) ⟨rfl, rfl, rfl, rfl, rfl, trivial⟩ rfl rfl (fun rv l1 hP1 _ => ?_))) (fun c => nomatch (q1.symm.trans c)))
    obtain ⟨rfl, X1, h1, rfl⟩ := hP1
    refine kT_pic (l2 := (rC o thr len (Int32.ofNat n) (Int32.ofNat m) X1 flt fat got lns crs b hh nms rsv (Int32.ofNat k) cd s)) rfl ?_
    have i0 := ix30 (y := k) (by omega)
    have i1 := ix3 (y := k) (i := 1) (by omega)
    have i2 := ix3 (y := k) (i := 2) (by omega)
    refine xw_go nostop 30 (fun K e => And.intro rfl (e _ _ _ _ (kT_call rfl rfl rfl rfl (k_looks (L := L) (xs := xs) (thr := thr) (len := len) (got := got) (lns := lns) (crs := crs) (hh := hh) (nms := nms) (rsv := rsv) (o := (fun j9 => if j9 = 35 then .int (Int32.ofNat k) else o j9)) (flt := flt) (fat := fat) (d := d + 1) hn hm hby hrs h1 (f := 16) (ns := N.2.2.1) (by have := hL; omega) hnm.2.1 hok.2.1 (c := s 2) hs2) ⟨rfl, rfl, rfl, rfl, rfl, trivial⟩ rfl rfl (fun rv l1 hP1 _ => ?_))))
    rcases hP1 with ⟨i, e1, hi, rfl, rfl⟩ | ⟨e2, pl, g2, e1, rfl, rfl⟩
    · refine kT_pic (l2 := (rC o thr len (Int32.ofNat n) (Int32.ofNat m) X1 flt fat (Int32.ofNat i) lns crs b hh nms rsv (Int32.ofNat k) cd s)) rfl ?_
      refine xw_go nostop 60 (fun K e => And.intro (fun _ => And.intro i0 (And.intro i1 (e _ _ _ _ (kT_call rfl rfl rfl rfl (k_next (L := L) (xs := xs) (thr := thr) (len := len) (got := (Int32.ofNat i)) (lns := lns) (crs := crs) (hh := hh) (nms := nms) (rsv := rsv) (o := (fun j9 => if j9 = 35 then .int (Int32.ofNat k) else o j9)) (flt := flt) (fat := fat) (d := d + 1) hn hm hby h1) ⟨rfl, rfl, rfl, rfl, rfl, trivial⟩ rfl rfl (fun rv l1 hP1 _ => ?_))))) (fun c => nomatch (show true = false from c)))
      obtain ⟨rfl, X2, h2, rfl⟩ := hP1
      generalize hcd : upd (upd cd _ _) _ _ = cd1
      refine kT_pic (l2 := (rC o thr len (Int32.ofNat n) (Int32.ofNat m) X2 flt fat (Int32.ofNat i) lns crs b hh nms rsv (Int32.ofNat k) cd1 s)) rfl ?_
      refine xw_go nostop 30 (fun K e => And.intro rfl (e _ _ _ _ (kT_call rfl rfl rfl rfl (k_looks (L := L) (xs := xs) (thr := thr) (len := len) (got := (Int32.ofNat i)) (lns := lns) (crs := crs) (hh := hh) (nms := nms) (rsv := rsv) (o := (fun j9 => if j9 = 35 then .int (Int32.ofNat k) else o j9)) (flt := flt) (fat := fat) (d := d + 1) hn hm hby hrs h2 (f := 6) (ns := N.2.1) (by have := hL; omega) hnm.1 hok.1 (c := s 1) hs1) ⟨rfl, rfl, rfl, rfl, rfl, trivial⟩ rfl rfl (fun rv l1 hP1 _ => ?_))))
      rcases hP1 with ⟨j, e3, hj, rfl, rfl⟩ | ⟨e4, pl, g4, e3, rfl, rfl⟩
      · refine kT_pic (l2 := (rC o thr len (Int32.ofNat n) (Int32.ofNat m) X2 flt fat (Int32.ofNat j) lns crs b hh nms rsv (Int32.ofNat k) cd1 s)) rfl ?_
        refine xw_go nostop 60 (fun K e => And.intro (fun _ => And.intro i2 (e _ _ _ _ (kT_call rfl rfl rfl rfl (k_next (L := L) (xs := xs) (thr := thr) (len := len) (got := (Int32.ofNat j)) (lns := lns) (crs := crs) (hh := hh) (nms := nms) (rsv := rsv) (o := (fun j9 => if j9 = 35 then .int (Int32.ofNat k) else o j9)) (flt := flt) (fat := fat) (d := d + 1) hn hm hby h2) ⟨rfl, rfl, rfl, rfl, rfl, trivial⟩ rfl rfl (fun rv l1 hP1 _ => ?_)))) (fun c => nomatch (show true = false from c)))
        obtain ⟨rfl, X3, h3, rfl⟩ := hP1
        generalize hcd2 : upd cd1 _ _ = cd2
        refine kT_pic (l2 := (rC o thr len (Int32.ofNat n) (Int32.ofNat m) X3 flt fat (Int32.ofNat j) lns crs b hh nms rsv (Int32.ofNat k) cd2 s)) rfl ?_
        exact xw_go nostop 30 (fun K e => e _ _ _ _ (kT_end rfl rfl (Or.inl ⟨_, 0, X3, _, cd2, by rw [eL, cGv, nx, e1]; show sBind (sKno _ _ _) _ = _; rw [nx, e3]; rfl, rfl, h3, rfl⟩)))
      · refine kT_pic (l2 := (rC o thr len (Int32.ofNat n) (Int32.ofNat m) X2 (Int32.ofNat e4) (Int32.ofNat pl) g4 lns crs b hh nms rsv (Int32.ofNat k) cd1 s)) rfl ?_
        exact xw_go nostop 30 (fun K e => And.intro (fun c => nomatch (show false = true from c)) (fun _ => e _ _ _ _ (kT_end rfl rfl (Or.inr ⟨e4, pl, X2, g4, cd1, by rw [eL, cGv, nx, e1]; show sBind (sKno _ _ _) _ = _; rw [nx, e3]; rfl, rfl, rfl⟩))))
    · refine kT_pic (l2 := (rC o thr len (Int32.ofNat n) (Int32.ofNat m) X1 (Int32.ofNat e2) (Int32.ofNat pl) g2 lns crs b hh nms rsv (Int32.ofNat k) cd s)) rfl ?_
      exact xw_go nostop 30 (fun K e => And.intro (fun c => nomatch (show false = true from c)) (fun _ => e _ _ _ _ (kT_end rfl rfl (Or.inr ⟨e2, pl, X1, g2, cd, by rw [eL, cGv, nx, e1]; rfl, rfl, rfl⟩))))
set_option maxHeartbeats 8000000 in
theorem t_act (hn : n ≤ 940) (hm : m ≤ 900) (hby : ∀ i, i < 940 → -128 ≤ (b i).toInt ∧ (b i).toInt ≤ 127) {N : List (List Nat) × List (List Nat) × List (List Nat) × List (List Nat)} (hrs : rsvOk rsv) (hL : N.2.1.length ≤ 10 ∧ N.2.2.1.length ≤ 6 ∧ N.2.2.2.length ≤ 4) (hok : (∀ w ∈ N.2.1, wOk w) ∧ (∀ w ∈ N.2.2.1, wOk w) ∧ ∀ w ∈ N.2.2.2, wOk w) (hnm : nmF nms 6 N.2.1 ∧ nmF nms 16 N.2.2.1 ∧ nmF nms 22 N.2.2.2) (hs1 : s 1 = Int32.ofNat N.2.1.length) (hs2 : s 2 = Int32.ofNat N.2.2.1.length) (hs3 : s 3 = Int32.ofNat N.2.2.2.length) (h : rX b n m q X) (hk4 : k ≤ 40) {h0 : List nC} (a9 : ¬ (tk b n m q).1 = 109) (a10 : ¬ (tk b n m q).1 = 110) : kT nj_M nX0 L xs (d + 3) nm_248 (mQ (rC o thr len (Int32.ofNat n) (Int32.ofNat m) X flt fat got lns crs b hh nms rsv (Int32.ofNat k) cd s) (fun rv l => (∃ q1 a X1 got1 cd1, cLn (tk b n m) N q k = .inr (q1, a) ∧ rv = some (.int 1) ∧ rX b n m q1 X1 ∧ l = (rC o thr len (Int32.ofNat n) (Int32.ofNat m) X1 flt fat got1 lns crs b hh nms rsv (Int32.ofNat k) cd1 s)) ∨ (∃ e q1 X1 got1 cd1, cLn (tk b n m) N q k = .inl (e, q1) ∧ rv = some (.int 0) ∧ l = (rC o thr len (Int32.ofNat n) (Int32.ofNat m) X1 (Int32.ofNat e) (Int32.ofNat q1) got1 lns crs b hh nms rsv (Int32.ofNat k) cd1 s))) h0) (hk (rC o thr len (Int32.ofNat n) (Int32.ofNat m) X flt fat got lns crs b hh nms rsv (Int32.ofNat k) cd s)) h0 173 [(0, .ref 175), (1, .int (Int32.ofInt 3 * Int32.ofNat k))] [] (rC o thr len (Int32.ofNat n) (Int32.ofNat m) X flt fat got lns crs b hh nms rsv (Int32.ofNat k) cd s) := by
  have eL : cLn (tk b n m) N q k = sBind (sKno (tk b n m) q N.2.1) (fun p0 _ => if k = 40 then .inl (4, ((tk b n m) p0).2.1) else cAc (tk b n m) N (nx (tk b n m) p0)) := by rw [cLn, if_neg a10, if_neg a9]
  refine xw_go nostop 30 (fun K e => And.intro rfl (e _ _ _ _ (kT_call rfl rfl rfl rfl (k_looks (L := L) (xs := xs) (thr := thr) (len := len) (got := got) (lns := lns) (crs := crs) (hh := hh) (nms := nms) (rsv := rsv) (o := (fun j9 => if j9 = 35 then .int (Int32.ofNat k) else o j9)) (flt := flt) (fat := fat) (d := d + 1) hn hm hby hrs h (f := 6) (ns := N.2.1) (by have := hL; omega) hnm.1 hok.1 (c := s 1) hs1) ⟨rfl, rfl, rfl, rfl, rfl, trivial⟩ rfl rfl (fun rv l1 hP1 _ => ?_))))
  rcases hP1 with ⟨i, e1, hi, rfl, rfl⟩ | ⟨e2, pl, g2, e1, rfl, rfl⟩
  · refine kT_pic (l2 := (rC o thr len (Int32.ofNat n) (Int32.ofNat m) X flt fat (Int32.ofNat i) lns crs b hh nms rsv (Int32.ofNat k) cd s)) rfl ?_
    rw [e1] at eL
    have eL2 : cLn (tk b n m) N q k = (if k = 40 then .inl (4, (tk b n m q).2.1) else cAc (tk b n m) N (nx (tk b n m) q)) := eL
    by_cases e40 : k = 40
    · rw [if_pos e40] at eL2
      have q1 : nj_cmp .ne (Int32.ofNat k) (Int32.ofNat 40) = false := by rw [e40]; decide
      exact xw_go (fun pc => pc == 199) 30 (fun K e => And.intro (fun _ => And.intro (fun c => nomatch (q1.symm.trans c)) (fun _ => e _ _ _ _ (t_full h e40 _ (Or.inr (Or.inr ⟨rfl, rfl⟩)) eL2))) (fun c => nomatch (show true = false from c)))
    · rw [if_neg e40] at eL2
      have q1 : nj_cmp .ne (Int32.ofNat k) (Int32.ofNat 40) = true := by
        rw [(cmp_nat (by omega) (by omega)).2.2.2.2.2]
        exact decide_eq_true e40
      have i0 := ix30 (y := k) (by omega)
      have i0v : (Int32.ofInt 3 * Int32.ofNat k).toNatClampNeg = 3 * k := by
        rw [show Int32.ofInt 3 = Int32.ofNat 3 from rfl, ← Int32.ofNat_mul]
        exact (ix_nat (n := 135) (by omega) (by decide)).2
      have i1 := ix3 (y := k) (i := 1) (by omega)
      have i2 := ix3 (y := k) (i := 2) (by omega)
      refine xw_go nostop 60 (fun K e => And.intro (fun _ => And.intro (fun _ => And.intro i1 (e _ _ _ _ (kT_call rfl rfl rfl rfl (k_next (L := L) (xs := xs) (thr := thr) (len := len) (got := (Int32.ofNat i)) (lns := lns) (crs := crs) (hh := hh) (nms := nms) (rsv := rsv) (o := (fun j9 => if j9 = 35 then .int (Int32.ofNat k) else o j9)) (flt := flt) (fat := fat) (d := d + 1) hn hm hby h) ⟨rfl, rfl, rfl, rfl, rfl, trivial⟩ rfl rfl (fun rv l1 hP1 _ => ?_)))) (fun c => nomatch (q1.symm.trans c))) (fun c => nomatch (show true = false from c)))
      obtain ⟨rfl, X1, h1, rfl⟩ := hP1
      generalize hcd : upd cd _ _ = cd1
      refine kT_pic (l2 := (rC o thr len (Int32.ofNat n) (Int32.ofNat m) X1 flt fat (Int32.ofNat i) lns crs b hh nms rsv (Int32.ofNat k) cd1 s)) rfl ?_
      generalize hq1 : (tk b n m q).2.2.2.2 = q1 at h1
      have en : nx (tk b n m) q = q1 := hq1
      rw [en] at eL2
      refine xw_go nostop 30 (fun K e => e _ _ _ _ (kT_call rfl rfl rfl rfl (k_isWord (L := L) (xs := xs) (thr := thr) (len := len) (got := (Int32.ofNat i)) (lns := lns) (crs := crs) (hh := hh) (nms := nms) (rsv := rsv) (o := (fun j9 => if j9 = 35 then .int (Int32.ofNat k) else o j9)) (flt := flt) (fat := fat) h1 (i := 7) (by decide) (w := Int64.ofInt 1685022067) (by decide)) ⟨rfl, rfl, rfl, rfl, rfl, trivial⟩ rfl rfl (fun rv l1 hP1 _ => ?_)))
      obtain ⟨rfl, rfl⟩ := hP1
      refine kT_pic (l2 := (rC o thr len (Int32.ofNat n) (Int32.ofNat m) X1 flt fat (Int32.ofNat i) lns crs b hh nms rsv (Int32.ofNat k) cd1 s)) rfl ?_
      by_cases a7 : (tk b n m q1).1 = 107
      · have e7 : decide ((tk b n m q1).1 = 100 + 7) = true := decide_eq_true a7
        rw [e7]
        have eA : cAc (tk b n m) N q1 = sBind (sKno (tk b n m) (nx (tk b n m) q1) N.2.2.2) (fun p1 _ => .inr (nx (tk b n m) p1, 0)) := by rw [cAc, if_neg (by omega), if_neg (by omega)]
        refine xw_go nostop 30 (fun K e => And.intro (fun _ => e _ _ _ _ (kT_call rfl rfl rfl rfl (k_isWord (L := L) (xs := xs) (thr := thr) (len := len) (got := (Int32.ofNat i)) (lns := lns) (crs := crs) (hh := hh) (nms := nms) (rsv := rsv) (o := (fun j9 => if j9 = 35 then .int (Int32.ofNat k) else o j9)) (flt := flt) (fat := fat) h1 (i := 7) (by decide) (w := Int64.ofInt 1685022067) (by decide)) ⟨rfl, rfl, rfl, rfl, rfl, trivial⟩ rfl rfl (fun rv l1 hP1 _ => ?_))) (fun c => nomatch (show true = false from c)))
        obtain ⟨rfl, rfl⟩ := hP1
        refine kT_pic (l2 := (rC o thr len (Int32.ofNat n) (Int32.ofNat m) X1 flt fat (Int32.ofNat i) lns crs b hh nms rsv (Int32.ofNat k) cd1 s)) rfl ?_
        rw [e7]
        refine xw_go nostop 60 (fun K e => And.intro (fun c => nomatch (show false = true from c)) (fun _ => And.intro i0 (e _ _ _ _ (kT_call rfl rfl rfl rfl (k_next (L := L) (xs := xs) (thr := thr) (len := len) (got := (Int32.ofNat i)) (lns := lns) (crs := crs) (hh := hh) (nms := nms) (rsv := rsv) (o := (fun j9 => if j9 = 35 then .int (Int32.ofNat k) else o j9)) (flt := flt) (fat := fat) (d := d + 1) hn hm hby h1) ⟨rfl, rfl, rfl, rfl, rfl, trivial⟩ rfl rfl (fun rv l1 hP1 _ => ?_)))))
        obtain ⟨rfl, X2, h2, rfl⟩ := hP1
        rw [i0v]
        refine kT_pic (l2 := (rC o thr len (Int32.ofNat n) (Int32.ofNat m) X2 flt fat (Int32.ofNat i) lns crs b hh nms rsv (Int32.ofNat k) (upd cd1 (3 * k) (Int32.ofInt 0)) s)) rfl ?_
        have qz : nj_cmp .ne (upd cd1 (3 * k) (Int32.ofInt 0) (Int32.ofInt 3 * Int32.ofNat k).toNatClampNeg) (Int32.ofInt 1) = true := by
          rw [i0v, up_eq]
          decide
        refine xw_go nostop 60 (fun K e => And.intro i0 (And.intro (fun _ => And.intro rfl (e _ _ _ _ (kT_call rfl rfl rfl rfl (k_looks (L := L) (xs := xs) (thr := thr) (len := len) (got := (Int32.ofNat i)) (lns := lns) (crs := crs) (hh := hh) (nms := nms) (rsv := rsv) (o := (fun j9 => if j9 = 35 then .int (Int32.ofNat k) else o j9)) (flt := flt) (fat := fat) (d := d + 1) hn hm hby hrs h2 (f := 22) (ns := N.2.2.2) (by have := hL; omega) hnm.2.2 hok.2.2 (c := s 3) hs3) ⟨rfl, rfl, rfl, rfl, rfl, trivial⟩ rfl rfl (fun rv l1 hP1 _ => ?_)))) (fun c => nomatch (qz.symm.trans c))))
        rcases hP1 with ⟨j, e3, hj, rfl, rfl⟩ | ⟨e4, pl, g4, e3, rfl, rfl⟩
        · refine kT_pic (l2 := (rC o thr len (Int32.ofNat n) (Int32.ofNat m) X2 flt fat (Int32.ofNat j) lns crs b hh nms rsv (Int32.ofNat k) (upd cd1 (3 * k) (Int32.ofInt 0)) s)) rfl ?_
          refine xw_go nostop 60 (fun K e => And.intro (fun _ => And.intro i2 (e _ _ _ _ (kT_call rfl rfl rfl rfl (k_next (L := L) (xs := xs) (thr := thr) (len := len) (got := (Int32.ofNat j)) (lns := lns) (crs := crs) (hh := hh) (nms := nms) (rsv := rsv) (o := (fun j9 => if j9 = 35 then .int (Int32.ofNat k) else o j9)) (flt := flt) (fat := fat) (d := d + 1) hn hm hby h2) ⟨rfl, rfl, rfl, rfl, rfl, trivial⟩ rfl rfl (fun rv l1 hP1 _ => ?_)))) (fun c => nomatch (show true = false from c)))
          obtain ⟨rfl, X3, h3, rfl⟩ := hP1
          generalize hcd2 : upd (upd cd1 _ _) _ _ = cd2
          refine kT_pic (l2 := (rC o thr len (Int32.ofNat n) (Int32.ofNat m) X3 flt fat (Int32.ofNat j) lns crs b hh nms rsv (Int32.ofNat k) cd2 s)) rfl ?_
          exact xw_go nostop 30 (fun K e => e _ _ _ _ (kT_end rfl rfl (Or.inl ⟨_, 0, X3, _, cd2, by rw [eL2, eA, nx, e3]; rfl, rfl, h3, rfl⟩)))
        · refine kT_pic (l2 := (rC o thr len (Int32.ofNat n) (Int32.ofNat m) X2 (Int32.ofNat e4) (Int32.ofNat pl) g4 lns crs b hh nms rsv (Int32.ofNat k) (upd cd1 (3 * k) (Int32.ofInt 0)) s)) rfl ?_
          exact xw_go nostop 30 (fun K e => And.intro (fun c => nomatch (show false = true from c)) (fun _ => e _ _ _ _ (kT_end rfl rfl (Or.inr ⟨e4, pl, X2, g4, _, by rw [eL2, eA, nx, e3]; rfl, rfl, rfl⟩))))
      · have e7 : decide ((tk b n m q1).1 = 100 + 7) = false := decide_eq_false a7
        rw [e7]
        refine xw_go nostop 30 (fun K e => And.intro (fun c => nomatch (show false = true from c)) (fun _ => e _ _ _ _ (kT_call rfl rfl rfl rfl (k_isWord (L := L) (xs := xs) (thr := thr) (len := len) (got := (Int32.ofNat i)) (lns := lns) (crs := crs) (hh := hh) (nms := nms) (rsv := rsv) (o := (fun j9 => if j9 = 35 then .int (Int32.ofNat k) else o j9)) (flt := flt) (fat := fat) h1 (i := 8) (by decide) (w := Int64.ofInt 1684628851) (by decide)) ⟨rfl, rfl, rfl, rfl, rfl, trivial⟩ rfl rfl (fun rv l1 hP1 _ => ?_))))
        obtain ⟨rfl, rfl⟩ := hP1
        refine kT_pic (l2 := (rC o thr len (Int32.ofNat n) (Int32.ofNat m) X1 flt fat (Int32.ofNat i) lns crs b hh nms rsv (Int32.ofNat k) cd1 s)) rfl ?_
        by_cases a8 : (tk b n m q1).1 = 108
        · have e8 : decide ((tk b n m q1).1 = 100 + 8) = true := decide_eq_true a8
          rw [e8]
          refine xw_go nostop 30 (fun K e => And.intro (fun _ => e _ _ _ _ (kT_call rfl rfl rfl rfl (k_isWord (L := L) (xs := xs) (thr := thr) (len := len) (got := (Int32.ofNat i)) (lns := lns) (crs := crs) (hh := hh) (nms := nms) (rsv := rsv) (o := (fun j9 => if j9 = 35 then .int (Int32.ofNat k) else o j9)) (flt := flt) (fat := fat) h1 (i := 7) (by decide) (w := Int64.ofInt 1685022067) (by decide)) ⟨rfl, rfl, rfl, rfl, rfl, trivial⟩ rfl rfl (fun rv l1 hP1 _ => ?_))) (fun c => nomatch (show true = false from c)))
          obtain ⟨rfl, rfl⟩ := hP1
          refine kT_pic (l2 := (rC o thr len (Int32.ofNat n) (Int32.ofNat m) X1 flt fat (Int32.ofNat i) lns crs b hh nms rsv (Int32.ofNat k) cd1 s)) rfl ?_
          rw [e7]
          refine xw_go nostop 60 (fun K e => And.intro (fun _ => And.intro i0 (e _ _ _ _ (kT_call rfl rfl rfl rfl (k_next (L := L) (xs := xs) (thr := thr) (len := len) (got := (Int32.ofNat i)) (lns := lns) (crs := crs) (hh := hh) (nms := nms) (rsv := rsv) (o := (fun j9 => if j9 = 35 then .int (Int32.ofNat k) else o j9)) (flt := flt) (fat := fat) (d := d + 1) hn hm hby h1) ⟨rfl, rfl, rfl, rfl, rfl, trivial⟩ rfl rfl (fun rv l1 hP1 _ => ?_)))) (fun c => nomatch (show true = false from c)))
          obtain ⟨rfl, X2, h2, rfl⟩ := hP1
          rw [i0v]
          refine kT_pic (l2 := (rC o thr len (Int32.ofNat n) (Int32.ofNat m) X2 flt fat (Int32.ofNat i) lns crs b hh nms rsv (Int32.ofNat k) (upd cd1 (3 * k) (Int32.ofInt 1)) s)) rfl ?_
          have qz : nj_cmp .ne (upd cd1 (3 * k) (Int32.ofInt 1) (Int32.ofInt 3 * Int32.ofNat k).toNatClampNeg) (Int32.ofInt 1) = false := by
            rw [i0v, up_eq]
            decide
          exact xw_go nostop 60 (fun K e => And.intro i0 (And.intro (fun c => nomatch (qz.symm.trans c)) (fun _ => e _ _ _ _ (kT_end rfl rfl (Or.inl ⟨_, 0, X2, _, _, by rw [eL2, cAc, if_neg (by omega), if_pos a8]; rfl, rfl, h2, rfl⟩)))))
        · have e8 : decide ((tk b n m q1).1 = 100 + 8) = false := decide_eq_false a8
          rw [e8]
          refine xw_go nostop 30 (fun K e => And.intro (fun c => nomatch (show false = true from c)) (fun _ => e _ _ _ _ (kT_call rfl rfl rfl rfl (k_bad (L := L) (xs := xs) (thr := thr) (len := len) (got := (Int32.ofNat i)) (lns := lns) (crs := crs) (hh := hh) (nms := nms) (rsv := rsv) (o := (fun j9 => if j9 = 35 then .int (Int32.ofNat k) else o j9)) (flt := flt) (fat := fat) (d := d + 2) h1 _) ⟨rfl, rfl, rfl, rfl, rfl, trivial⟩ rfl rfl (fun rv l1 hP1 _ => ?_))))
          obtain ⟨rfl, rfl⟩ := hP1
          refine kT_pic (l2 := (rC o thr len (Int32.ofNat n) (Int32.ofNat m) X1 (Int32.ofNat 1) (Int32.ofNat (tk b n m q1).2.1) (Int32.ofNat i) lns crs b hh nms rsv (Int32.ofNat k) cd1 s)) rfl ?_
          exact xw_go nostop 30 (fun K e => e _ _ _ _ (kT_end rfl rfl (Or.inr ⟨1, (tk b n m q1).2.1, X1, _, cd1, by rw [eL2, cAc, if_pos ⟨a7, a8⟩], rfl, rfl⟩)))
  · refine kT_pic (l2 := (rC o thr len (Int32.ofNat n) (Int32.ofNat m) X (Int32.ofNat e2) (Int32.ofNat pl) g2 lns crs b hh nms rsv (Int32.ofNat k) cd s)) rfl ?_
    exact xw_go nostop 30 (fun K e => And.intro (fun c => nomatch (show false = true from c)) (fun _ => e _ _ _ _ (kT_end rfl rfl (Or.inr ⟨e2, pl, X, g2, cd, by rw [eL, e1]; rfl, rfl, rfl⟩))))
set_option maxHeartbeats 4000000 in
theorem t_line (hn : n ≤ 940) (hm : m ≤ 900) (hby : ∀ i, i < 940 → -128 ≤ (b i).toInt ∧ (b i).toInt ≤ 127) {N : List (List Nat) × List (List Nat) × List (List Nat) × List (List Nat)} (hrs : rsvOk rsv) (hL : N.2.1.length ≤ 10 ∧ N.2.2.1.length ≤ 6 ∧ N.2.2.2.length ≤ 4) (hok : (∀ w ∈ N.2.1, wOk w) ∧ (∀ w ∈ N.2.2.1, wOk w) ∧ ∀ w ∈ N.2.2.2, wOk w) (hnm : nmF nms 6 N.2.1 ∧ nmF nms 16 N.2.2.1 ∧ nmF nms 22 N.2.2.2) (hs1 : s 1 = Int32.ofNat N.2.1.length) (hs2 : s 2 = Int32.ofNat N.2.2.1.length) (hs3 : s 3 = Int32.ofNat N.2.2.2.length) (h : rX b n m q X) (hk4 : k ≤ 40) : mS nj_M nX0 L xs (d + 3) 248 [.ref 175] (rC o thr len (Int32.ofNat n) (Int32.ofNat m) X flt fat got lns crs b hh nms rsv (Int32.ofNat k) cd s) (fun rv l => (∃ q1 a X1 got1 cd1, cLn (tk b n m) N q k = .inr (q1, a) ∧ rv = some (.int 1) ∧ rX b n m q1 X1 ∧ l = (rC o thr len (Int32.ofNat n) (Int32.ofNat m) X1 flt fat got1 lns crs b hh nms rsv (Int32.ofNat k) cd1 s)) ∨ (∃ e q1 X1 got1 cd1, cLn (tk b n m) N q k = .inl (e, q1) ∧ rv = some (.int 0) ∧ l = (rC o thr len (Int32.ofNat n) (Int32.ofNat m) X1 (Int32.ofNat e) (Int32.ofNat q1) got1 lns crs b hh nms rsv (Int32.ofNat k) cd1 s))) := by
  refine mS_of rfl (fun h0 => ?_)
  refine xw_go nostop 30 (fun K e => e _ _ _ _ (kT_call rfl rfl rfl rfl (k_isWord (L := L) (xs := xs) (thr := thr) (len := len) (got := got) (lns := lns) (crs := crs) (hh := hh) (nms := nms) (rsv := rsv) (o := (fun j9 => if j9 = 35 then .int (Int32.ofNat k) else o j9)) (flt := flt) (fat := fat) h (i := 10) (by decide) (w := Int64.ofInt 2036687218) (by decide)) ⟨rfl, rfl, rfl, rfl, rfl, trivial⟩ rfl rfl (fun rv l1 hP1 _ => ?_)))
  obtain ⟨rfl, rfl⟩ := hP1
  refine kT_pic (l2 := (rC o thr len (Int32.ofNat n) (Int32.ofNat m) X flt fat got lns crs b hh nms rsv (Int32.ofNat k) cd s)) rfl ?_
  by_cases a10 : (tk b n m q).1 = 110
  · have e10 : decide ((tk b n m q).1 = 100 + 10) = true := decide_eq_true a10
    rw [e10]
    exact xw_go (fun pc => pc == 17) 20 (fun K e => And.intro (fun c => nomatch (show false = true from c)) (fun _ => e _ _ _ _ (kT_sort rfl (t_year hn hm hby h hk4 a10))))
  · have e10 : decide ((tk b n m q).1 = 100 + 10) = false := decide_eq_false a10
    rw [e10]
    refine xw_go nostop 30 (fun K e => And.intro (fun _ => e _ _ _ _ (kT_call rfl rfl rfl rfl (k_isWord (L := L) (xs := xs) (thr := thr) (len := len) (got := got) (lns := lns) (crs := crs) (hh := hh) (nms := nms) (rsv := rsv) (o := (fun j9 => if j9 = 35 then .int (Int32.ofNat k) else o j9)) (flt := flt) (fat := fat) h (i := 9) (by decide) (w := Int64.ofInt 444150998387) (by decide)) ⟨rfl, rfl, rfl, rfl, rfl, trivial⟩ rfl rfl (fun rv l1 hP1 _ => ?_))) (fun c => nomatch (show true = false from c)))
    obtain ⟨rfl, rfl⟩ := hP1
    refine kT_pic (l2 := (rC o thr len (Int32.ofNat n) (Int32.ofNat m) X flt fat got lns crs b hh nms rsv (Int32.ofNat k) cd s)) rfl ?_
    by_cases a9 : (tk b n m q).1 = 109
    · have e9 : decide ((tk b n m q).1 = 100 + 9) = true := decide_eq_true a9
      rw [e9]
      exact xw_go (fun pc => pc == 79) 20 (fun K e => And.intro (fun c => nomatch (show false = true from c)) (fun _ => e _ _ _ _ (kT_sort rfl (t_gift hn hm hby hrs hL hok hnm hs1 hs2 hs3 h hk4 a9))))
    · have e9 : decide ((tk b n m q).1 = 100 + 9) = false := decide_eq_false a9
      rw [e9]
      exact xw_go (fun pc => pc == 173) 20 (fun K e => And.intro (fun _ => e _ _ _ _ (kT_sort rfl (t_act hn hm hby hrs hL hok hnm hs1 hs2 hs3 h hk4 a9 a10))) (fun c => nomatch (show true = false from c)))
end CHM
