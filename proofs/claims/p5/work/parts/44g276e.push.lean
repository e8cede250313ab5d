/-! operand: what it pushes -/
section RSP
variable {L : Nat} {xs : Nat → Int32} {d n m q : Nat} {o : Nat → Value} {thr len : Int32} {X : Lx} {flt fat got lns crs : Int32} {b hh s cd st : Nat → Int32} {nms rsv : Nat → Int64} {c39 c40 c41 c42 c43 : Int32}
set_option maxHeartbeats 4000000 in
theorem op_76 (hn : n ≤ 940) (hm : m ≤ 900) (hby : ∀ i, i < 940 → -128 ≤ (b i).toInt ∧ (b i).toInt ≤ 127) (h : rX b n m q X) {k w : Nat} (hk2 : k < 20) (hw : w ≤ 8) {Q : Option Value → List nC → Prop} {h0 : List nC} (hN : ∀ X1, rX b n m (tk b n m q).2.2.2.2 X1 → kT nj_M nX0 L xs (d + 2) nm_256 Q (hk (rS o thr len (Int32.ofNat n) (Int32.ofNat m) X flt fat got lns crs b hh nms rsv c39 (Int32.ofNat k) c41 (Int32.ofNat w) c43 cd st s)) h0 76 [(0, .ref 175), (1, .int (b01 (decide ((tk b n m q).1 = 113)))), (2, .int (b01 (decide ((tk b n m q).1 = 40)))), (3, .int (lfK (tk b n m q).1))] [] (rS o thr len (Int32.ofNat n) (Int32.ofNat m) X1 flt fat got lns crs b hh nms rsv c39 (Int32.ofNat (k + 1)) c41 (Int32.ofNat w) c43 cd st s)) : kT nj_M nX0 L xs (d + 2) nm_256 Q (hk (rS o thr len (Int32.ofNat n) (Int32.ofNat m) X flt fat got lns crs b hh nms rsv c39 (Int32.ofNat k) c41 (Int32.ofNat w) c43 cd st s)) h0 38 [(0, .ref 175), (1, .int (b01 (decide ((tk b n m q).1 = 113)))), (2, .int (b01 (decide ((tk b n m q).1 = 40)))), (3, .int (lfK (tk b n m q).1))] [] (rS o thr len (Int32.ofNat n) (Int32.ofNat m) X flt fat got lns crs b hh nms rsv c39 (Int32.ofNat k) c41 (Int32.ofNat w) c43 cd st s) := by
  have q20 : nj_cmp .eq (Int32.ofNat k) (Int32.ofNat 20) = false := by rw [eq_of (by omega) (by decide)]; exact decide_eq_false (by omega)
  have q8 : nj_cmp .le (Int32.ofNat w) (Int32.ofNat 8) = true := by rw [(cmp_nat (i := w) (j := 8) (by omega) (by omega)).2.2.2.1]; exact decide_eq_true hw
  refine xw_go nostop 40 (fun K e => And.intro (fun c => nomatch (q20.symm.trans c)) (fun _ => And.intro (fun _ => And.intro rfl (e _ _ _ _ (kT_call rfl rfl rfl rfl (k_next (L := L) (xs := xs) (thr := thr) (len := len) (got := got) (lns := lns) (crs := crs) (hh := hh) (nms := nms) (rsv := rsv) (d := d) (o := (fun j9 => if j9 = 38 then .ref 190 else if j9 = 39 then .int c39 else if j9 = 40 then .int (Int32.ofNat k + Int32.ofInt 1) else if j9 = 41 then .int c41 else if j9 = 42 then .int (Int32.ofNat w) else if j9 = 43 then .int c43 else o j9)) (flt := flt) (fat := fat) hn hm hby h) ⟨rfl, rfl, rfl, rfl, rfl, trivial⟩ rfl rfl (fun rv l1 hP1 _ => ?_)))) (fun c => nomatch (q8.symm.trans c))))
  obtain ⟨rfl, X1, h1, rfl⟩ := hP1
  have h2 := hN X1 h1
  rw [← i32_succ k] at h2
  refine kT_pic (l2 := (rS o thr len (Int32.ofNat n) (Int32.ofNat m) X1 flt fat got lns crs b hh nms rsv c39 (Int32.ofNat k + Int32.ofInt 1) c41 (Int32.ofNat w) c43 cd st s)) rfl ?_
  exact h2
set_option maxHeartbeats 4000000 in
theorem op_not (hn : n ≤ 940) (hm : m ≤ 900) (hby : ∀ i, i < 940 → -128 ≤ (b i).toInt ∧ (b i).toInt ≤ 127) (h : rX b n m q X) {k w y : Nat} (hk2 : k < 20) (hw : w ≤ 8) (hy : y < 45) (hc : (tk b n m q).1 = 113) : mS nj_M nX0 L xs (d + 2) 256 [.ref 175] (rS o thr len (Int32.ofNat n) (Int32.ofNat m) X flt fat got lns crs b hh nms rsv c39 (Int32.ofNat k) (Int32.ofNat y) (Int32.ofNat w) c43 cd st s) (fun rv l => rv = some (.int 1) ∧ ∃ X1, rX b n m (tk b n m q).2.2.2.2 X1 ∧ l = (rS o thr len (Int32.ofNat n) (Int32.ofNat m) X1 flt fat got lns crs b hh nms rsv c39 (Int32.ofNat (k + 1)) (Int32.ofNat (y + 1)) (Int32.ofNat (w + 1)) c43 cd (upd st y (Int32.ofNat 20)) s)) := by
  refine mS_of rfl (fun h0 => ?_)
  refine op_head h (op_38 (by omega) (op_76 hn hm hby h hk2 hw (fun X1 h1 => ?_)))
  have hi := ix_nat (i := y) (n := 45) hy (by decide)
  rw [decide_eq_true hc]
  refine xw_go nostop 60 (fun K e => And.intro (fun _ => And.intro (fun c => nomatch (show false = true from c)) (fun _ => And.intro hi.1 (And.intro rfl (And.intro rfl (e _ _ _ _ (kT_end rfl rfl ⟨rfl, X1, h1, ?_⟩)))))) (fun c => nomatch (show true = false from c)))
  rw [← i32_succ y, ← i32_succ w]
  exact congrArg (fun z => (rS o thr len (Int32.ofNat n) (Int32.ofNat m) X1 flt fat got lns crs b hh nms rsv c39 (Int32.ofNat (k + 1)) (Int32.ofNat y + Int32.ofInt 1) (Int32.ofNat w + Int32.ofInt 1) c43 cd (upd st z (Int32.ofNat 20)) s)) hi.2
set_option maxHeartbeats 4000000 in
theorem op_par (hn : n ≤ 940) (hm : m ≤ 900) (hby : ∀ i, i < 940 → -128 ≤ (b i).toInt ∧ (b i).toInt ≤ 127) (h : rX b n m q X) {k w y : Nat} (hk2 : k < 20) (hw : w ≤ 8) (hy : y < 45) (hc : (tk b n m q).1 = 40) : mS nj_M nX0 L xs (d + 2) 256 [.ref 175] (rS o thr len (Int32.ofNat n) (Int32.ofNat m) X flt fat got lns crs b hh nms rsv c39 (Int32.ofNat k) (Int32.ofNat y) (Int32.ofNat w) c43 cd st s) (fun rv l => rv = some (.int 1) ∧ ∃ X1, rX b n m (tk b n m q).2.2.2.2 X1 ∧ l = (rS o thr len (Int32.ofNat n) (Int32.ofNat m) X1 flt fat got lns crs b hh nms rsv c39 (Int32.ofNat (k + 1)) (Int32.ofNat (y + 1)) (Int32.ofNat (w + 1)) c43 cd (upd st y (Int32.ofNat 23)) s)) := by
  refine mS_of rfl (fun h0 => ?_)
  refine op_head h (op_38 (by omega) (op_76 hn hm hby h hk2 hw (fun X1 h1 => ?_)))
  have hi := ix_nat (i := y) (n := 45) hy (by decide)
  rw [decide_eq_true hc, decide_eq_false (show ¬ (tk b n m q).1 = 113 by omega)]
  refine xw_go nostop 60 (fun K e => And.intro (fun c => nomatch (show false = true from c)) (fun _ => And.intro (fun c => nomatch (show false = true from c)) (fun _ => And.intro (fun _ => And.intro hi.1 (And.intro rfl (And.intro rfl (e _ _ _ _ (kT_end rfl rfl ⟨rfl, X1, h1, ?_⟩))))) (fun c => nomatch (show true = false from c)))))
  rw [← i32_succ y, ← i32_succ w]
  exact congrArg (fun z => (rS o thr len (Int32.ofNat n) (Int32.ofNat m) X1 flt fat got lns crs b hh nms rsv c39 (Int32.ofNat (k + 1)) (Int32.ofNat y + Int32.ofInt 1) (Int32.ofNat w + Int32.ofInt 1) c43 cd (upd st z (Int32.ofNat 23)) s)) hi.2
end RSP
