/-! operand -/
section RSO
variable {L : Nat} {xs : Nat → Int32} {d n m q : Nat} {o : Nat → Value} {thr len : Int32} {X : Lx} {flt fat got lns crs : Int32} {b hh s cd st : Nat → Int32} {nms rsv : Nat → Int64} {c39 c40 c41 c42 c43 : Int32}
set_option maxHeartbeats 4000000 in
theorem op_head (h : rX b n m q X) {Q : Option Value → List nC → Prop} {h0 : List nC} (hn : kT nj_M nX0 L xs (d + 2) nm_256 Q (hk (rS o thr len (Int32.ofNat n) (Int32.ofNat m) X flt fat got lns crs b hh nms rsv c39 c40 c41 c42 c43 cd st s)) h0 20 [(0, .ref 175), (1, .int (b01 (decide ((tk b n m q).1 = 113)))), (2, .int (b01 (decide ((tk b n m q).1 = 40)))), (3, .int (lfK (tk b n m q).1))] [] (rS o thr len (Int32.ofNat n) (Int32.ofNat m) X flt fat got lns crs b hh nms rsv c39 c40 c41 c42 c43 cd st s)) : kT nj_M nX0 L xs (d + 2) nm_256 Q (hk (rS o thr len (Int32.ofNat n) (Int32.ofNat m) X flt fat got lns crs b hh nms rsv c39 c40 c41 c42 c43 cd st s)) h0 0 [(0, .ref 175)] [] (rS o thr len (Int32.ofNat n) (Int32.ofNat m) X flt fat got lns crs b hh nms rsv c39 c40 c41 c42 c43 cd st s) := by
  have w0 : Int64.ofInt 7237492 = Int64.ofNat (e256 (keyws.getD 13 []) 0) := by decide
  refine xw_go nostop 20 (fun K e => e _ _ _ _ (kT_call rfl rfl rfl rfl (k_isWord (L := L) (xs := xs) (thr := thr) (len := len) (got := got) (lns := lns) (crs := crs) (hh := hh) (nms := nms) (rsv := rsv) (o := (fun j9 => if j9 = 38 then .ref 190 else if j9 = 39 then .int c39 else if j9 = 40 then .int c40 else if j9 = 41 then .int c41 else if j9 = 42 then .int c42 else if j9 = 43 then .int c43 else o j9)) (flt := flt) (fat := fat) h (i := 13) (by decide) w0) ⟨rfl, rfl, rfl, rfl, rfl, trivial⟩ rfl rfl (fun rv l1 hP1 _ => ?_)))
  obtain ⟨rfl, rfl⟩ := hP1
  refine kT_pic (l2 := (rS o thr len (Int32.ofNat n) (Int32.ofNat m) X flt fat got lns crs b hh nms rsv c39 c40 c41 c42 c43 cd st s)) rfl ?_
  refine xw_go nostop 20 (fun K e => e _ _ _ _ (kT_call rfl rfl rfl rfl (k_isSign (L := L) (xs := xs) (thr := thr) (len := len) (got := got) (lns := lns) (crs := crs) (hh := hh) (nms := nms) (rsv := rsv) (o := (fun j9 => if j9 = 38 then .ref 190 else if j9 = 39 then .int c39 else if j9 = 40 then .int c40 else if j9 = 41 then .int c41 else if j9 = 42 then .int c42 else if j9 = 43 then .int c43 else o j9)) (flt := flt) (fat := fat) h (c := 40) (by decide)) ⟨rfl, rfl, rfl, rfl, rfl, trivial⟩ rfl rfl (fun rv l1 hP1 _ => ?_)))
  obtain ⟨rfl, rfl⟩ := hP1
  refine kT_pic (l2 := (rS o thr len (Int32.ofNat n) (Int32.ofNat m) X flt fat got lns crs b hh nms rsv c39 c40 c41 c42 c43 cd st s)) rfl ?_
  refine xw_go nostop 20 (fun K e => e _ _ _ _ (kT_call rfl rfl rfl rfl (q_leaf (L := L) (xs := xs) (thr := thr) (len := len) (got := got) (lns := lns) (crs := crs) (hh := hh) (nms := nms) (rsv := rsv) (d := d) (o := (fun j9 => if j9 = 38 then .ref 190 else if j9 = 39 then .int c39 else if j9 = 40 then .int c40 else if j9 = 41 then .int c41 else if j9 = 42 then .int c42 else if j9 = 43 then .int c43 else o j9)) (flt := flt) (fat := fat) h) ⟨rfl, rfl, rfl, rfl, rfl, trivial⟩ rfl rfl (fun rv l1 hP1 _ => ?_)))
  obtain ⟨rfl, rfl⟩ := hP1
  refine kT_pic (l2 := (rS o thr len (Int32.ofNat n) (Int32.ofNat m) X flt fat got lns crs b hh nms rsv c39 c40 c41 c42 c43 cd st s)) rfl ?_
  exact xw_go (fun pc => pc == 20) 20 (fun K e => e _ _ _ _ (kT_sort rfl hn))
theorem lfK_lt (k : Nat) : nj_cmp .ge (lfK k) 0 = decide (114 ≤ k ∧ k ≤ 121) := by
  unfold lfK
  by_cases c : 114 ≤ k ∧ k ≤ 121
  · rw [if_pos c, decide_eq_true c, show (0 : Int32) = Int32.ofNat 0 from rfl, (cmp_nat (by omega) (by omega)).1]
    exact decide_eq_true (Nat.zero_le _)
  · rw [if_neg c, decide_eq_false c]
    decide
set_option maxHeartbeats 4000000 in
theorem op_none (h : rX b n m q X) (hg : ¬ (tk b n m q).1 = 40 ∧ ((tk b n m q).1 < 113 ∨ 121 < (tk b n m q).1)) : mS nj_M nX0 L xs (d + 2) 256 [.ref 175] (rS o thr len (Int32.ofNat n) (Int32.ofNat m) X flt fat got lns crs b hh nms rsv c39 c40 c41 c42 c43 cd st s) (fun rv l => rv = some (.int 0) ∧ l = (rS o thr len (Int32.ofNat n) (Int32.ofNat m) X (Int32.ofNat 1) (Int32.ofNat (tk b n m q).2.1) got lns crs b hh nms rsv c39 c40 c41 c42 c43 cd st s)) := by
  refine mS_of rfl (fun h0 => ?_)
  refine op_head h ?_
  have q1 := lfK_lt (tk b n m q).1
  rw [decide_eq_false (by omega)] at q1
  rw [decide_eq_false (show ¬ (tk b n m q).1 = 113 by omega), decide_eq_false hg.1]
  refine xw_go nostop 20 (fun K e => And.intro (fun c => nomatch (show false = true from c)) (fun _ => And.intro (fun c => nomatch (show false = true from c)) (fun _ => And.intro (fun c => nomatch (q1.symm.trans c)) (fun _ => e _ _ _ _ (kT_call rfl rfl rfl rfl (k_bad (L := L) (xs := xs) (thr := thr) (len := len) (got := got) (lns := lns) (crs := crs) (hh := hh) (nms := nms) (rsv := rsv) (o := (fun j9 => if j9 = 38 then .ref 190 else if j9 = 39 then .int c39 else if j9 = 40 then .int c40 else if j9 = 41 then .int c41 else if j9 = 42 then .int c42 else if j9 = 43 then .int c43 else o j9)) (flt := flt) (fat := fat) h _) ⟨rfl, rfl, rfl, rfl, rfl, trivial⟩ rfl rfl (fun rv l1 hP1 _ => ?_))))))
  obtain ⟨rfl, rfl⟩ := hP1
  refine kT_pic (l2 := (rS o thr len (Int32.ofNat n) (Int32.ofNat m) X (Int32.ofNat 1) (Int32.ofNat (tk b n m q).2.1) got lns crs b hh nms rsv c39 c40 c41 c42 c43 cd st s)) rfl ?_
  exact xw_go nostop 20 (fun K e => e _ _ _ _ (kT_end rfl rfl ⟨rfl, rfl⟩))
/-- .. where there is a word for it: to the check of how many -/
theorem op_38 {Q : Option Value → List nC → Prop} {h0 : List nC} (hg : ¬ (¬ (tk b n m q).1 = 40 ∧ ((tk b n m q).1 < 113 ∨ 121 < (tk b n m q).1))) (hn : kT nj_M nX0 L xs (d + 2) nm_256 Q (hk (rS o thr len (Int32.ofNat n) (Int32.ofNat m) X flt fat got lns crs b hh nms rsv c39 c40 c41 c42 c43 cd st s)) h0 38 [(0, .ref 175), (1, .int (b01 (decide ((tk b n m q).1 = 113)))), (2, .int (b01 (decide ((tk b n m q).1 = 40)))), (3, .int (lfK (tk b n m q).1))] [] (rS o thr len (Int32.ofNat n) (Int32.ofNat m) X flt fat got lns crs b hh nms rsv c39 c40 c41 c42 c43 cd st s)) : kT nj_M nX0 L xs (d + 2) nm_256 Q (hk (rS o thr len (Int32.ofNat n) (Int32.ofNat m) X flt fat got lns crs b hh nms rsv c39 c40 c41 c42 c43 cd st s)) h0 20 [(0, .ref 175), (1, .int (b01 (decide ((tk b n m q).1 = 113)))), (2, .int (b01 (decide ((tk b n m q).1 = 40)))), (3, .int (lfK (tk b n m q).1))] [] (rS o thr len (Int32.ofNat n) (Int32.ofNat m) X flt fat got lns crs b hh nms rsv c39 c40 c41 c42 c43 cd st s) := by
  have q1 := lfK_lt (tk b n m q).1
  by_cases a : (tk b n m q).1 = 113
  · rw [decide_eq_true a] at hn ⊢
    exact xw_go (fun pc => pc == 38) 20 (fun K e => And.intro (fun _ => e _ _ _ _ (kT_sort rfl hn)) (fun c => nomatch (show true = false from c)))
  · rw [decide_eq_false a] at hn ⊢
    by_cases c : (tk b n m q).1 = 40
    · rw [decide_eq_true c] at hn ⊢
      exact xw_go (fun pc => pc == 38) 20 (fun K e => And.intro (fun c => nomatch (show false = true from c)) (fun _ => And.intro (fun _ => e _ _ _ _ (kT_sort rfl hn)) (fun c => nomatch (show true = false from c))))
    · rw [decide_eq_false c] at hn ⊢
      rw [decide_eq_true (by omega)] at q1
      exact xw_go (fun pc => pc == 38) 20 (fun K e => And.intro (fun c => nomatch (show false = true from c)) (fun _ => And.intro (fun c => nomatch (show false = true from c)) (fun _ => And.intro (fun _ => e _ _ _ _ (kT_sort rfl hn)) (fun c => nomatch (q1.symm.trans c)))))
set_option maxHeartbeats 4000000 in
theorem op_many (h : rX b n m q X) {k w : Nat} (hk2 : k ≤ 20) (hw : w ≤ 9) (hg : ¬ (¬ (tk b n m q).1 = 40 ∧ ((tk b n m q).1 < 113 ∨ 121 < (tk b n m q).1))) (ht : 20 ≤ k ∨ 8 < w) : mS nj_M nX0 L xs (d + 2) 256 [.ref 175] (rS o thr len (Int32.ofNat n) (Int32.ofNat m) X flt fat got lns crs b hh nms rsv c39 (Int32.ofNat k) c41 (Int32.ofNat w) c43 cd st s) (fun rv l => rv = some (.int 0) ∧ l = (rS o thr len (Int32.ofNat n) (Int32.ofNat m) X (Int32.ofNat 4) (Int32.ofNat (tk b n m q).2.1) got lns crs b hh nms rsv c39 (Int32.ofNat k) c41 (Int32.ofNat w) c43 cd st s)) := by
  refine mS_of rfl (fun h0 => ?_)
  refine op_head h (op_38 hg ?_)
  have q20 : nj_cmp .eq (Int32.ofNat k) (Int32.ofNat 20) = decide (k = 20) := eq_of (by omega) (by decide)
  have q8 := (cmp_nat (i := w) (j := 8) (by omega) (by omega)).2.2.2.1
  have fin : kT nj_M nX0 L xs (d + 2) nm_256 (mQ (rS o thr len (Int32.ofNat n) (Int32.ofNat m) X flt fat got lns crs b hh nms rsv c39 (Int32.ofNat k) c41 (Int32.ofNat w) c43 cd st s) (fun rv l => rv = some (.int 0) ∧ l = (rS o thr len (Int32.ofNat n) (Int32.ofNat m) X (Int32.ofNat 4) (Int32.ofNat (tk b n m q).2.1) got lns crs b hh nms rsv c39 (Int32.ofNat k) c41 (Int32.ofNat w) c43 cd st s)) h0) (hk (rS o thr len (Int32.ofNat n) (Int32.ofNat m) X flt fat got lns crs b hh nms rsv c39 (Int32.ofNat k) c41 (Int32.ofNat w) c43 cd st s)) h0 56 [(0, .ref 175), (1, .int (b01 (decide ((tk b n m q).1 = 113)))), (2, .int (b01 (decide ((tk b n m q).1 = 40)))), (3, .int (lfK (tk b n m q).1))] [] (rS o thr len (Int32.ofNat n) (Int32.ofNat m) X flt fat got lns crs b hh nms rsv c39 (Int32.ofNat k) c41 (Int32.ofNat w) c43 cd st s) := by
    refine xw_go nostop 20 (fun K e => e _ _ _ _ (kT_call rfl rfl rfl rfl (k_bad (L := L) (xs := xs) (thr := thr) (len := len) (got := got) (lns := lns) (crs := crs) (hh := hh) (nms := nms) (rsv := rsv) (o := (fun j9 => if j9 = 38 then .ref 190 else if j9 = 39 then .int c39 else if j9 = 40 then .int (Int32.ofNat k) else if j9 = 41 then .int c41 else if j9 = 42 then .int (Int32.ofNat w) else if j9 = 43 then .int c43 else o j9)) (flt := flt) (fat := fat) h _) ⟨rfl, rfl, rfl, rfl, rfl, trivial⟩ rfl rfl (fun rv l1 hP1 _ => ?_)))
    obtain ⟨rfl, rfl⟩ := hP1
    refine kT_pic (l2 := (rS o thr len (Int32.ofNat n) (Int32.ofNat m) X (Int32.ofNat 4) (Int32.ofNat (tk b n m q).2.1) got lns crs b hh nms rsv c39 (Int32.ofNat k) c41 (Int32.ofNat w) c43 cd st s)) rfl ?_
    exact xw_go nostop 20 (fun K e => e _ _ _ _ (kT_end rfl rfl ⟨rfl, rfl⟩))
  by_cases a : k = 20
  · rw [decide_eq_true a] at q20
    exact xw_go (fun pc => pc == 56) 20 (fun K e => And.intro (fun _ => e _ _ _ _ (kT_sort rfl fin)) (fun c => nomatch (q20.symm.trans c)))
  · rw [decide_eq_false a] at q20
    rw [decide_eq_false (by omega)] at q8
    exact xw_go (fun pc => pc == 56) 20 (fun K e => And.intro (fun c => nomatch (q20.symm.trans c)) (fun _ => And.intro (fun c => nomatch (q8.symm.trans c)) (fun _ => e _ _ _ _ (kT_sort rfl fin))))
end RSO
