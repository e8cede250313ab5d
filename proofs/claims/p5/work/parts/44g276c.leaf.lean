/-! which leaf a word is -/
def lfK (k : Nat) : Int32 := if 114 ≤ k ∧ k ≤ 121 then Int32.ofNat (k - 114) else Int32.ofInt (-1)
section RSL
variable {L : Nat} {xs : Nat → Int32} {d n m q : Nat} {o : Nat → Value} {thr len : Int32} {X : Lx} {flt fat got lns crs : Int32} {b hh : Nat → Int32} {nms rsv : Nat → Int64}
set_option maxHeartbeats 4000000 in
theorem q_leaf (h : rX b n m q X) : mS nj_M nX0 L xs (d + 1) 257 [.ref 175] (rfP o thr len (Int32.ofNat n) (Int32.ofNat m) X flt fat got lns crs b hh nms rsv) (fun rv l => rv = some (.int (lfK (tk b n m q).1)) ∧ l = (rfP o thr len (Int32.ofNat n) (Int32.ofNat m) X flt fat got lns crs b hh nms rsv)) := by
  have w0 : Int64.ofInt 418430678629 = Int64.ofNat (e256 (keyws.getD 14 []) 0) := by decide
  have w1 : Int64.ofInt 427020345710 = Int64.ofNat (e256 (keyws.getD 15 []) 0) := by decide
  have w2 : Int64.ofInt 6840691 = Int64.ofNat (e256 (keyws.getD 16 []) 0) := by decide
  have w3 : Int64.ofInt 504363246962 = Int64.ofNat (e256 (keyws.getD 17 []) 0) := by decide
  have w4 : Int64.ofInt 111542220583539 = Int64.ofNat (e256 (keyws.getD 18 []) 0) := by decide
  have w5 : Int64.ofInt 1651470958 = Int64.ofNat (e256 (keyws.getD 19 []) 0) := by decide
  have w6 : Int64.ofInt 1835099237 = Int64.ofNat (e256 (keyws.getD 20 []) 0) := by decide
  have w7 : Int64.ofInt 121450625394034 = Int64.ofNat (e256 (keyws.getD 21 []) 0) := by decide
  refine mS_of rfl (fun h0 => ?_)
  refine xw_go nostop 20 (fun K e => e _ _ _ _ (kT_call rfl rfl rfl rfl (k_isWord (L := L) (xs := xs) (d := d) (o := o) (thr := thr) (len := len) (flt := flt) (fat := fat) (got := got) (lns := lns) (crs := crs) (hh := hh) (nms := nms) (rsv := rsv) h (i := 14) (by decide) w0) ⟨rfl, rfl, rfl, rfl, rfl, trivial⟩ rfl rfl (fun rv l1 hP1 _ => ?_)))
  obtain ⟨rfl, rfl⟩ := hP1
  refine kT_pic (l2 := (rfP o thr len (Int32.ofNat n) (Int32.ofNat m) X flt fat got lns crs b hh nms rsv)) rfl ?_
  by_cases a0 : (tk b n m q).1 = 100 + 14
  · rw [decide_eq_true a0]
    exact xw_go nostop 20 (fun K e => And.intro (fun c => nomatch (show false = true from c)) (fun _ => e _ _ _ _ (kT_end rfl rfl ⟨by rw [a0]; rfl, rfl⟩)))
  rw [decide_eq_false a0]
  refine xw_go nostop 20 (fun K e => And.intro (fun _ => e _ _ _ _ (kT_call rfl rfl rfl rfl (k_isWord (L := L) (xs := xs) (d := d) (o := o) (thr := thr) (len := len) (flt := flt) (fat := fat) (got := got) (lns := lns) (crs := crs) (hh := hh) (nms := nms) (rsv := rsv) h (i := 15) (by decide) w1) ⟨rfl, rfl, rfl, rfl, rfl, trivial⟩ rfl rfl (fun rv l1 hP1 _ => ?_))) (fun c => nomatch (show true = false from c)))
  obtain ⟨rfl, rfl⟩ := hP1
  refine kT_pic (l2 := (rfP o thr len (Int32.ofNat n) (Int32.ofNat m) X flt fat got lns crs b hh nms rsv)) rfl ?_
  by_cases a1 : (tk b n m q).1 = 100 + 15
  · rw [decide_eq_true a1]
    exact xw_go nostop 20 (fun K e => And.intro (fun c => nomatch (show false = true from c)) (fun _ => e _ _ _ _ (kT_end rfl rfl ⟨by rw [a1]; rfl, rfl⟩)))
  rw [decide_eq_false a1]
  refine xw_go nostop 20 (fun K e => And.intro (fun _ => e _ _ _ _ (kT_call rfl rfl rfl rfl (k_isWord (L := L) (xs := xs) (d := d) (o := o) (thr := thr) (len := len) (flt := flt) (fat := fat) (got := got) (lns := lns) (crs := crs) (hh := hh) (nms := nms) (rsv := rsv) h (i := 16) (by decide) w2) ⟨rfl, rfl, rfl, rfl, rfl, trivial⟩ rfl rfl (fun rv l1 hP1 _ => ?_))) (fun c => nomatch (show true = false from c)))
  obtain ⟨rfl, rfl⟩ := hP1
  refine kT_pic (l2 := (rfP o thr len (Int32.ofNat n) (Int32.ofNat m) X flt fat got lns crs b hh nms rsv)) rfl ?_
  by_cases a2 : (tk b n m q).1 = 100 + 16
  · rw [decide_eq_true a2]
    exact xw_go nostop 20 (fun K e => And.intro (fun c => nomatch (show false = true from c)) (fun _ => e _ _ _ _ (kT_end rfl rfl ⟨by rw [a2]; rfl, rfl⟩)))
  rw [decide_eq_false a2]
  refine xw_go nostop 20 (fun K e => And.intro (fun _ => e _ _ _ _ (kT_call rfl rfl rfl rfl (k_isWord (L := L) (xs := xs) (d := d) (o := o) (thr := thr) (len := len) (flt := flt) (fat := fat) (got := got) (lns := lns) (crs := crs) (hh := hh) (nms := nms) (rsv := rsv) h (i := 17) (by decide) w3) ⟨rfl, rfl, rfl, rfl, rfl, trivial⟩ rfl rfl (fun rv l1 hP1 _ => ?_))) (fun c => nomatch (show true = false from c)))
  obtain ⟨rfl, rfl⟩ := hP1
  refine kT_pic (l2 := (rfP o thr len (Int32.ofNat n) (Int32.ofNat m) X flt fat got lns crs b hh nms rsv)) rfl ?_
  by_cases a3 : (tk b n m q).1 = 100 + 17
  · rw [decide_eq_true a3]
    exact xw_go nostop 20 (fun K e => And.intro (fun c => nomatch (show false = true from c)) (fun _ => e _ _ _ _ (kT_end rfl rfl ⟨by rw [a3]; rfl, rfl⟩)))
  rw [decide_eq_false a3]
  refine xw_go nostop 20 (fun K e => And.intro (fun _ => e _ _ _ _ (kT_call rfl rfl rfl rfl (k_isWord (L := L) (xs := xs) (d := d) (o := o) (thr := thr) (len := len) (flt := flt) (fat := fat) (got := got) (lns := lns) (crs := crs) (hh := hh) (nms := nms) (rsv := rsv) h (i := 18) (by decide) w4) ⟨rfl, rfl, rfl, rfl, rfl, trivial⟩ rfl rfl (fun rv l1 hP1 _ => ?_))) (fun c => nomatch (show true = false from c)))
  obtain ⟨rfl, rfl⟩ := hP1
  refine kT_pic (l2 := (rfP o thr len (Int32.ofNat n) (Int32.ofNat m) X flt fat got lns crs b hh nms rsv)) rfl ?_
  by_cases a4 : (tk b n m q).1 = 100 + 18
  · rw [decide_eq_true a4]
    exact xw_go nostop 20 (fun K e => And.intro (fun c => nomatch (show false = true from c)) (fun _ => e _ _ _ _ (kT_end rfl rfl ⟨by rw [a4]; rfl, rfl⟩)))
  rw [decide_eq_false a4]
  refine xw_go nostop 20 (fun K e => And.intro (fun _ => e _ _ _ _ (kT_call rfl rfl rfl rfl (k_isWord (L := L) (xs := xs) (d := d) (o := o) (thr := thr) (len := len) (flt := flt) (fat := fat) (got := got) (lns := lns) (crs := crs) (hh := hh) (nms := nms) (rsv := rsv) h (i := 19) (by decide) w5) ⟨rfl, rfl, rfl, rfl, rfl, trivial⟩ rfl rfl (fun rv l1 hP1 _ => ?_))) (fun c => nomatch (show true = false from c)))
  obtain ⟨rfl, rfl⟩ := hP1
  refine kT_pic (l2 := (rfP o thr len (Int32.ofNat n) (Int32.ofNat m) X flt fat got lns crs b hh nms rsv)) rfl ?_
  by_cases a5 : (tk b n m q).1 = 100 + 19
  · rw [decide_eq_true a5]
    exact xw_go nostop 20 (fun K e => And.intro (fun c => nomatch (show false = true from c)) (fun _ => e _ _ _ _ (kT_end rfl rfl ⟨by rw [a5]; rfl, rfl⟩)))
  rw [decide_eq_false a5]
  refine xw_go nostop 20 (fun K e => And.intro (fun _ => e _ _ _ _ (kT_call rfl rfl rfl rfl (k_isWord (L := L) (xs := xs) (d := d) (o := o) (thr := thr) (len := len) (flt := flt) (fat := fat) (got := got) (lns := lns) (crs := crs) (hh := hh) (nms := nms) (rsv := rsv) h (i := 20) (by decide) w6) ⟨rfl, rfl, rfl, rfl, rfl, trivial⟩ rfl rfl (fun rv l1 hP1 _ => ?_))) (fun c => nomatch (show true = false from c)))
  obtain ⟨rfl, rfl⟩ := hP1
  refine kT_pic (l2 := (rfP o thr len (Int32.ofNat n) (Int32.ofNat m) X flt fat got lns crs b hh nms rsv)) rfl ?_
  by_cases a6 : (tk b n m q).1 = 100 + 20
  · rw [decide_eq_true a6]
    exact xw_go nostop 20 (fun K e => And.intro (fun c => nomatch (show false = true from c)) (fun _ => e _ _ _ _ (kT_end rfl rfl ⟨by rw [a6]; rfl, rfl⟩)))
  rw [decide_eq_false a6]
  refine xw_go nostop 20 (fun K e => And.intro (fun _ => e _ _ _ _ (kT_call rfl rfl rfl rfl (k_isWord (L := L) (xs := xs) (d := d) (o := o) (thr := thr) (len := len) (flt := flt) (fat := fat) (got := got) (lns := lns) (crs := crs) (hh := hh) (nms := nms) (rsv := rsv) h (i := 21) (by decide) w7) ⟨rfl, rfl, rfl, rfl, rfl, trivial⟩ rfl rfl (fun rv l1 hP1 _ => ?_))) (fun c => nomatch (show true = false from c)))
  obtain ⟨rfl, rfl⟩ := hP1
  refine kT_pic (l2 := (rfP o thr len (Int32.ofNat n) (Int32.ofNat m) X flt fat got lns crs b hh nms rsv)) rfl ?_
  by_cases a7 : (tk b n m q).1 = 100 + 21
  · rw [decide_eq_true a7]
    exact xw_go nostop 20 (fun K e => And.intro (fun c => nomatch (show false = true from c)) (fun _ => e _ _ _ _ (kT_end rfl rfl ⟨by rw [a7]; rfl, rfl⟩)))
  rw [decide_eq_false a7]
  exact xw_go nostop 20 (fun K e => And.intro (fun _ => e _ _ _ _ (kT_end rfl rfl ⟨by rw [lfK, if_neg (by omega)], rfl⟩)) (fun c => nomatch (show true = false from c)))
end RSL
