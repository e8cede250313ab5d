/-! what errors make of a step -/
def frE (H : Hs) (i : Nat) : Nat := (H.2.2.1.getD i e6).2.1
def toE (H : Hs) (i : Nat) : Nat := (H.2.2.1.getD i e6).2.2.1
def beS1 (H : Hs) (set : Int32) (i k : Nat) : Nat := if (bt set i && decide (frE H i = k)) = true then toE H i else k
def beL (H : Hs) (set : Int32) : Nat → Nat → Nat → Nat
  | 0, _, k => k
  | r + 1, i, k => beL H set r (i + 1) (beS1 H set i k)
def be (H : Hs) (set : Int32) (k : Nat) : Nat := beL H set H.1.2.2.1.length 0 k
theorem gd_mem {α : Type} {l : List α} {i : Nat} {x : α} (h : i < l.length) : l.getD i x ∈ l := by
  rw [List.getD_eq_getElem?_getD, List.getElem?_eq_getElem h]
  exact List.getElem_mem h
theorem toE_lt {H : Hs} (hx : hX H) (n1 : nmOk H.1) (i : Nat) : toE H i < 6 ∧ frE H i < 6 := by
  obtain ⟨l1, -⟩ := n1
  unfold toE frE
  by_cases c : i < H.2.2.1.length
  · have k := hx.2.2.1 _ (gd_mem (x := e6) c)
    omega
  · rw [gd_out (by omega)]
    decide
theorem toE_st {H : Hs} (hx : hX H) {i : Nat} (hi : i < H.1.2.2.1.length) : toE H i < H.1.1.length := by
  have e := hx.2.2.2.2
  exact (hx.2.2.1 _ (gd_mem (x := e6) (by omega))).2
theorem beS1_lt {H : Hs} (hx : hX H) (n1 : nmOk H.1) (set : Int32) (i : Nat) {k : Nat} (hk : k < 6) : beS1 H set i k < 6 := by
  unfold beS1
  split
  · exact (toE_lt hx n1 i).1
  · exact hk
theorem beL_lt {H : Hs} (hx : hX H) (n1 : nmOk H.1) (set : Int32) : ∀ (r i k : Nat), k < 6 → beL H set r i k < 6 := by
  intro r
  induction r with
  | zero => intro i k hk; exact hk
  | succ r ih => intro i k hk; exact ih (i + 1) _ (beS1_lt hx n1 set i hk)
theorem beL_st {H : Hs} (hx : hX H) (set : Int32) : ∀ (r i k : Nat), i + r = H.1.2.2.1.length → k < H.1.1.length → beL H set r i k < H.1.1.length := by
  intro r
  induction r with
  | zero => intro i k _ hk; exact hk
  | succ r ih =>
    intro i k hi hk
    refine ih (i + 1) _ (by omega) ?_
    unfold beS1
    split
    · exact toE_st hx (by omega)
    · exact hk
/-- is this a set of errors -/
def isES (H : Hs) (v : Int32) : Bool := !nj_cmp .lt v 0 && !nj_cmp .ge v (Int32.ofInt 1 <<< (Int32.ofNat H.1.2.2.1.length &&& 31))
def orM (i m : Nat) : Int32 := Int32.ofNat m ||| (Int32.ofInt 1 <<< (Int32.ofNat i &&& 31))
theorem orM_ok : ∀ i, i < 6 → ∀ m, m < 64 → (orM i m).toNatClampNeg < 64 ∧ Int32.ofNat (orM i m).toNatClampNeg = orM i m := by decide +kernel
theorem sh8 : ∀ k, k < 6 → ∀ m, m < 64 → ((Int32.ofNat k <<< (Int32.ofInt 8 &&& 31)) ||| Int32.ofNat m) >>> (Int32.ofInt 8 &&& 31) = Int32.ofNat k := by decide +kernel
theorem ne_of {a c : Nat} (ha : a < 1000) (hc : c < 1000) : nj_cmp .ne (Int32.ofNat a) (Int32.ofNat c) = !decide (a = c) := by
  have k := eq_of ha hc
  unfold nj_cmp at k ⊢
  by_cases e : a = c
  · rw [decide_eq_true e] at k ⊢
    exact decide_eq_false (fun w => w (of_decide_eq_true k))
  · rw [decide_eq_false e] at k ⊢
    exact decide_eq_true (fun w => of_decide_eq_false k w)
section TOG
variable {L : Nat} {xs : Nat → Int32} {d : Nat} {H : Hs} {y : Ho} {u : Nat → Value} {o : Nat → Value} {thr len sz lim : Int32} {X : Lx} {flt fat got lns crs : Int32} {b hh s : Nat → Int32} {nms rsv : Nat → Int64} {set : Int32}
set_option maxHeartbeats 2000000 in
theorem sl_loop (hH : hW H y) (hx : hX H) {st0 : Int32} {R : Nat} {Q : Option Value → List nC → Prop} {ks : List Nat} {h0 : List nC} (hexit : ∀ m, m < 64 → kT nj_M nX0 L xs d nm_65 Q ks h0 63 [(0, .ref 7), (1, .int set), (2, .int st0), (3, .int (Int32.ofNat R)), (4, .int (Int32.ofNat m)), (5, .int (Int32.ofNat H.1.2.2.1.length))] [] (hoQ y)) : ∀ (r i k m : Nat), i + r = H.1.2.2.1.length → k < 6 → m < 64 → beL H set r i k = R → kT nj_M nX0 L xs d nm_65 Q ks h0 8 [(0, .ref 7), (1, .int set), (2, .int st0), (3, .int (Int32.ofNat k)), (4, .int (Int32.ofNat m)), (5, .int (Int32.ofNat i))] [] (hoQ y) := by
  obtain ⟨n1, ⟨-, -, c2, -⟩, -, b6, -⟩ := id hH
  obtain ⟨-, -, l3, -, -, -⟩ := id n1
  intro r
  induction r with
  | zero =>
    intro i k m hi hk hm hR
    have e : i = H.1.2.2.1.length := by omega
    have hcmp : nj_cmp .ge (Int32.ofNat i) (y.1 2) = true := by
      rw [c2, (cmp_nat (by omega) (by omega)).1]
      exact decide_eq_true (by omega)
    rw [e] at hcmp ⊢
    rw [show k = R from hR]
    exact xw_go (fun pc => pc == 63) 20 (fun K e => And.intro rfl (And.intro (fun _ => e _ _ _ _ (hexit m hm)) (fun c => nomatch (hcmp.symm.trans c))))
  | succ r ih =>
    intro i k m hi hk hm hR
    have hin : i < H.1.2.2.1.length := by omega
    have hcmp : nj_cmp .ge (Int32.ofNat i) (y.1 2) = false := by
      rw [c2, (cmp_nat (by omega) (by omega)).1]
      exact decide_eq_false (by omega)
    have hxi := ix_nat (i := i) (n := 6) (by omega) (by decide)
    have q1 : nj_cmp .ne ((set >>> (Int32.ofNat i &&& 31)) &&& Int32.ofInt 1) (Int32.ofInt 1) = !bt set i := bt_c (by omega)
    obtain ⟨-, g1, g2, -⟩ := b6 i hin
    have ef : y.2.2.2.2.2.2.2.1 (Int32.ofNat i).toNatClampNeg = Int32.ofNat (frE H i) := by rw [hxi.2]; exact g1
    have et : y.2.2.2.2.2.2.2.2.1 (Int32.ofNat i).toNatClampNeg = Int32.ofNat (toE H i) := by rw [hxi.2]; exact g2
    have lt := toE_lt hx n1 i
    have q2 : nj_cmp .ne (y.2.2.2.2.2.2.2.1 (Int32.ofNat i).toNatClampNeg) (Int32.ofNat k) = !decide (frE H i = k) := by rw [ef]; exact ne_of (by omega) (by omega)
    have hR2 : beL H set r (i + 1) (beS1 H set i k) = R := hR
    cases hb : bt set i with
    | false =>
      rw [hb] at q1
      have hn := ih (i + 1) k m (by omega) hk hm (by rw [← hR2]; unfold beS1; rw [hb]; rfl)
      rw [← i32_succ] at hn
      exact xw_go (fun pc => pc == 8) 60 (fun K e => And.intro rfl (And.intro (fun c => nomatch (hcmp.symm.trans c)) (fun _ => And.intro (fun _ => e _ _ _ _ (kT_sort rfl hn)) (fun c => nomatch (q1.symm.trans c)))))
    | true =>
      rw [hb] at q1
      by_cases c0 : frE H i = k
      · rw [decide_eq_true c0] at q2
        have ho := orM_ok i (by omega) m hm
        have hn := ih (i + 1) (toE H i) (orM i m).toNatClampNeg (by omega) lt.1 ho.1 (by rw [← hR2]; unfold beS1; rw [hb, decide_eq_true c0]; rfl)
        rw [← i32_succ, ho.2, ← et] at hn
        exact xw_go (fun pc => pc == 8) 60 (fun K e => And.intro rfl (And.intro (fun c => nomatch (hcmp.symm.trans c)) (fun _ => And.intro (fun c => nomatch (q1.symm.trans c)) (fun _ => And.intro hxi.1 (And.intro (fun c => nomatch (q2.symm.trans c)) (fun _ => And.intro hxi.1 (e _ _ _ _ (kT_sort rfl hn))))))))
      · rw [decide_eq_false c0] at q2
        have hn := ih (i + 1) k m (by omega) hk hm (by rw [← hR2]; unfold beS1; rw [hb, decide_eq_false c0]; rfl)
        rw [← i32_succ] at hn
        exact xw_go (fun pc => pc == 8) 60 (fun K e => And.intro rfl (And.intro (fun c => nomatch (hcmp.symm.trans c)) (fun _ => And.intro (fun c => nomatch (q1.symm.trans c)) (fun _ => And.intro hxi.1 (And.intro (fun _ => e _ _ _ _ (kT_sort rfl hn)) (fun c => nomatch (q2.symm.trans c)))))))
theorem c_slip (hH : hW H y) (hx : hX H) {k : Nat} (hk1 : k < 6) : mS nj_M nX0 L xs d 65 [.ref 7, .int set, .int (Int32.ofNat k)] (hoQ y) (fun rv l => (∃ m, m < 64 ∧ rv = some (.int ((Int32.ofNat (be H set k) <<< (Int32.ofInt 8 &&& 31)) ||| Int32.ofNat m))) ∧ l = hoQ y) := by
  refine mS_of rfl (fun h0 => ?_)
  have hl := sl_loop (L := L) (xs := xs) (d := d) (set := set) hH hx (st0 := Int32.ofNat k) (R := be H set k) (Q := mQ (hoQ y) (fun rv l => (∃ m, m < 64 ∧ rv = some (.int ((Int32.ofNat (be H set k) <<< (Int32.ofInt 8 &&& 31)) ||| Int32.ofNat m))) ∧ l = hoQ y) h0) (ks := hk (hoQ y)) (h0 := h0) (fun m hm => xw_go nostop 20 (fun K e => e _ _ _ _ (kT_end rfl (ret_i _) ⟨⟨m, hm, rfl⟩, rfl⟩))) H.1.2.2.1.length 0 k 0 (by omega) hk1 (by decide) rfl
  exact xw_go (fun pc => pc == 8) 20 (fun K e => e _ _ _ _ (kT_sort rfl hl))
theorem c_become (hH : hW H y) (hx : hX H) {k : Nat} (hk1 : k < 6) : mS nj_M nX0 L xs (d + 1) 113 [.ref 7, .int set, .int (Int32.ofNat k)] (hoQ y) (fun rv l => rv = some (.int (Int32.ofNat (be H set k))) ∧ l = hoQ y) := by
  refine mS_of rfl (fun h0 => ?_)
  refine xw_go nostop 20 (fun K e => e _ _ _ _ (kT_call rfl rfl rfl rfl (c_slip (L := L) (xs := xs) (d := d) (set := set) hH hx hk1) ⟨rfl, rfl, rfl, rfl, rfl, rfl, rfl, rfl, rfl, rfl, rfl, rfl, rfl, rfl, rfl, trivial⟩ rfl rfl (fun rv l1 hP _ => ?_)))
  obtain ⟨⟨m, hm, rfl⟩, rfl⟩ := hP
  refine kT_pic (l2 := hoQ y) rfl ?_
  exact xw_go nostop 20 (fun K e => e _ _ _ _ (kT_end rfl (ret_i _) ⟨congrArg (fun z => some (Value.int z)) (sh8 _ (beL_lt hx hH.1 set _ _ _ hk1) m hm), rfl⟩))
theorem c_isSet (hH : hW H y) (v : Int32) : mS nj_M nX0 L xs d 112 [.ref 7, .int v] (hoQ y) (fun rv l => rv = some (.int (b01 (isES H v))) ∧ l = hoQ y) := by
  obtain ⟨-, ⟨-, -, c2, -⟩, -⟩ := id hH
  refine mS_of rfl (fun h0 => xw_go nostop 20 (fun K e => And.intro (fun c => e _ _ _ _ (kT_end rfl rfl ⟨?_, rfl⟩)) (fun c => And.intro rfl (And.intro (fun c3 => e _ _ _ _ (kT_end rfl rfl ⟨?_, rfl⟩)) (fun c3 => e _ _ _ _ (kT_end rfl rfl ⟨?_, rfl⟩))))))
  · unfold isES
    rw [show nj_cmp .lt v 0 = true from c]
    rfl
  · have c4 : nj_cmp .ge v (Int32.ofInt 1 <<< (y.1 2 &&& 31)) = true := c3
    rw [c2] at c4
    unfold isES
    rw [c4, Bool.not_true, Bool.and_false]
    rfl
  · have c4 : nj_cmp .ge v (Int32.ofInt 1 <<< (y.1 2 &&& 31)) = false := c3
    rw [c2] at c4
    unfold isES
    rw [c4, show nj_cmp .lt v 0 = false from c]
    rfl
def toS (H : Hs) (v w : Int32) : Int32 := if isES H v = true ∧ inN w H.1.1.length then Int32.ofNat (be H v w.toInt.toNat) else Int32.ofInt (-1)
theorem c_together (hH : hW H y) (hx : hX H) (v w : Int32) : mS nj_M nX0 L xs (d + 2) 111 [.ref 0, .int v, .int w] (slI u ++ hoQ y) (fun rv l => rv = some (.int (toS H v w)) ∧ l = slI u ++ hoQ y) := by
  obtain ⟨n1, ⟨c0, -, -, -⟩, -⟩ := id hH
  obtain ⟨l1, -⟩ := id n1
  refine mS_of rfl (fun h0 => ?_)
  refine xw_go nostop 20 (fun K e => e _ _ _ _ (kT_call rfl rfl rfl rfl (c_isSet hH v) ⟨rfl, rfl, rfl, rfl, rfl, rfl, rfl, rfl, rfl, rfl, rfl, rfl, rfl, rfl, rfl, trivial⟩ rfl rfl (fun rv l1 hP _ => ?_)))
  obtain ⟨rfl, rfl⟩ := hP
  refine kT_pic (l2 := slI u ++ hoQ y) rfl ?_
  cases hs : isES H v with
  | false => exact xw_go nostop 20 (fun K e => And.intro (fun _ => e _ _ _ _ (kT_end rfl rfl ⟨by rw [toS, if_neg (fun q => by rw [hs] at q; exact nomatch q.1)], rfl⟩)) (fun c => nomatch (show true = false from c)))
  | true =>
    refine xw_go nostop 20 (fun K e => And.intro (fun c => nomatch (show false = true from c)) (fun _ => e _ _ _ _ (kT_call rfl rfl rfl rfl (c_has0 (y := y) (v := w) (n := H.1.1.length) (by omega) c0) ⟨rfl, rfl, rfl, rfl, rfl, rfl, rfl, rfl, rfl, rfl, rfl, rfl, rfl, rfl, rfl, trivial⟩ rfl rfl (fun rv l1 hP _ => ?_))))
    obtain ⟨rfl, rfl⟩ := hP
    refine kT_pic (l2 := slI u ++ hoQ y) rfl ?_
    by_cases hw : inN w H.1.1.length
    · rw [decide_eq_true hw]
      have h3 := hw.1
      have h4 := hw.2
      have hk1 := c_become (L := L) (xs := xs) (d := d) (set := v) hH hx (k := w.toInt.toNat) (by omega)
      rw [← ofN_v hw] at hk1
      refine xw_go nostop 20 (fun K e => And.intro (fun _ => e _ _ _ _ (kT_call rfl rfl rfl rfl hk1 ⟨rfl, rfl, rfl, rfl, rfl, rfl, rfl, rfl, rfl, rfl, rfl, rfl, rfl, rfl, rfl, trivial⟩ rfl rfl (fun rv l1 hP _ => ?_))) (fun c => nomatch (show true = false from c)))
      obtain ⟨rfl, rfl⟩ := hP
      refine kT_pic (l2 := slI u ++ hoQ y) rfl ?_
      exact xw_go nostop 20 (fun K e => e _ _ _ _ (kT_end rfl (ret_i _) ⟨by rw [toS, if_pos ⟨hs, hw⟩], rfl⟩))
    · rw [decide_eq_false hw]
      exact xw_go nostop 20 (fun K e => And.intro (fun c => nomatch (show false = true from c)) (fun _ => e _ _ _ _ (kT_end rfl rfl ⟨by rw [toS, if_neg (fun q => hw q.2)], rfl⟩)))
set_option maxHeartbeats 4000000 in
theorem mb_loop (n1 : nmOk H.1) (hH : rW H s) (hx : hX H) {st0 : Int32} {R : Nat} {Q : Option Value → List nC → Prop} {ks : List Nat} {h0 : List nC} (hks : ks = hk (rfS o thr len sz lim X flt fat got lns crs b hh nms rsv s)) (hexit : kT nj_M nX0 L xs (d + 1) nm_237 Q ks h0 56 [(0, .ref 175), (1, .int set), (2, .int st0), (3, .int (Int32.ofNat R)), (4, .int (Int32.ofNat H.1.2.2.1.length))] [] (rfS o thr len sz lim X flt fat got lns crs b hh nms rsv s)) : ∀ (r i k : Nat), i + r = H.1.2.2.1.length → k < 6 → beL H set r i k = R → kT nj_M nX0 L xs (d + 1) nm_237 Q ks h0 5 [(0, .ref 175), (1, .int set), (2, .int st0), (3, .int (Int32.ofNat k)), (4, .int (Int32.ofNat i))] [] (rfS o thr len sz lim X flt fat got lns crs b hh nms rsv s) := by
  obtain ⟨⟨-, -, c2, -⟩, -, b6, -⟩ := id hH
  obtain ⟨-, -, l3, -, -, -⟩ := id n1
  subst hks
  intro r
  induction r with
  | zero =>
    intro i k hi hk hR
    have e : i = H.1.2.2.1.length := by omega
    have hcmp : nj_cmp .ge (Int32.ofNat i) (s 2) = true := by
      rw [c2, (cmp_nat (by omega) (by omega)).1]
      exact decide_eq_true (by omega)
    rw [e] at hcmp ⊢
    rw [show k = R from hR]
    exact xw_go (fun pc => pc == 56) 20 (fun K e => And.intro rfl (And.intro (fun _ => e _ _ _ _ hexit) (fun c => nomatch (hcmp.symm.trans c))))
  | succ r ih =>
    intro i k hi hk hR
    have hin : i < H.1.2.2.1.length := by omega
    have hcmp : nj_cmp .ge (Int32.ofNat i) (s 2) = false := by
      rw [c2, (cmp_nat (by omega) (by omega)).1]
      exact decide_eq_false (by omega)
    have x44 := ix_s (k := 44) (c := i) (by omega)
    have x50 := ix_s (k := 50) (c := i) (by omega)
    obtain ⟨-, g1, g2, -⟩ := b6 i hin
    have ef : s (Int32.ofNat 44 + Int32.ofNat i).toNatClampNeg = Int32.ofNat (frE H i) := by rw [x44.2]; exact g1
    have et : s (Int32.ofNat 50 + Int32.ofNat i).toNatClampNeg = Int32.ofNat (toE H i) := by rw [x50.2]; exact g2
    have lt := toE_lt hx n1 i
    have q2 : nj_cmp .ne (s (Int32.ofNat 44 + Int32.ofNat i).toNatClampNeg) (Int32.ofNat k) = !decide (frE H i = k) := by rw [ef]; exact ne_of (by omega) (by omega)
    have hR2 : beL H set r (i + 1) (beS1 H set i k) = R := hR
    refine xw_go nostop 20 (fun K e => And.intro rfl (And.intro (fun c => nomatch (hcmp.symm.trans c)) (fun _ => e _ _ _ _ (kT_call rfl rfl rfl rfl (q_bitOf (i := i) (by omega) set) trivial rfl rfl (fun rv l1 hP _ => ?_)))))
    obtain ⟨rfl, rfl⟩ := hP
    refine kT_pic (l2 := (rfS o thr len sz lim X flt fat got lns crs b hh nms rsv s)) rfl ?_
    cases hb : bt set i with
    | false =>
      have hn := ih (i + 1) k (by omega) hk (by rw [← hR2]; unfold beS1; rw [hb]; rfl)
      rw [← i32_succ] at hn
      exact xw_go (fun pc => pc == 5) 60 (fun K e => And.intro (fun _ => e _ _ _ _ (kT_sort rfl hn)) (fun c => nomatch (show true = false from c)))
    | true =>
      by_cases c0 : frE H i = k
      · rw [decide_eq_true c0] at q2
        have hn := ih (i + 1) (toE H i) (by omega) lt.1 (by rw [← hR2]; unfold beS1; rw [hb, decide_eq_true c0]; rfl)
        rw [← i32_succ, ← et] at hn
        exact xw_go (fun pc => pc == 5) 60 (fun K e => And.intro (fun c => nomatch (show false = true from c)) (fun _ => And.intro x44.1 (And.intro (fun c => nomatch (q2.symm.trans c)) (fun _ => And.intro x50.1 (e _ _ _ _ (kT_sort rfl hn))))))
      · rw [decide_eq_false c0] at q2
        have hn := ih (i + 1) k (by omega) hk (by rw [← hR2]; unfold beS1; rw [hb, decide_eq_false c0]; rfl)
        rw [← i32_succ] at hn
        exact xw_go (fun pc => pc == 5) 60 (fun K e => And.intro (fun c => nomatch (show false = true from c)) (fun _ => And.intro x44.1 (And.intro (fun _ => e _ _ _ _ (kT_sort rfl hn)) (fun c => nomatch (q2.symm.trans c)))))
theorem q_madeBy (n1 : nmOk H.1) (hH : rW H s) (hx : hX H) {k : Nat} (hk1 : k < 6) : mS nj_M nX0 L xs (d + 1) 237 [.ref 175, .int set, .int (Int32.ofNat k)] (rfS o thr len sz lim X flt fat got lns crs b hh nms rsv s) (fun rv l => rv = some (.int (Int32.ofNat (be H set k))) ∧ l = (rfS o thr len sz lim X flt fat got lns crs b hh nms rsv s)) := by
  refine mS_of rfl (fun h0 => ?_)
  have hl := mb_loop (L := L) (xs := xs) (d := d) (o := o) (thr := thr) (len := len) (sz := sz) (lim := lim) (X := X) (flt := flt) (fat := fat) (got := got) (lns := lns) (crs := crs) (b := b) (hh := hh) (nms := nms) (rsv := rsv) (set := set) n1 hH hx (st0 := Int32.ofNat k) (R := be H set k) (Q := mQ (rfS o thr len sz lim X flt fat got lns crs b hh nms rsv s) (fun rv l => rv = some (.int (Int32.ofNat (be H set k))) ∧ l = (rfS o thr len sz lim X flt fat got lns crs b hh nms rsv s)) h0) (h0 := h0) rfl (xw_go nostop 20 (fun K e => e _ _ _ _ (kT_end rfl (ret_i _) ⟨rfl, rfl⟩))) H.1.2.2.1.length 0 k (by omega) hk1 rfl
  exact xw_go (fun pc => pc == 5) 20 (fun K e => e _ _ _ _ (kT_sort rfl hl))
theorem q_areErrors (hH : rW H s) (v : Int32) : mS nj_M nX0 L xs d 236 [.ref 175, .int v] (rfS o thr len sz lim X flt fat got lns crs b hh nms rsv s) (fun rv l => rv = some (.int (b01 (isES H v))) ∧ l = (rfS o thr len sz lim X flt fat got lns crs b hh nms rsv s)) := by
  obtain ⟨⟨-, -, c2, -⟩, -⟩ := id hH
  refine mS_of rfl (fun h0 => xw_go nostop 20 (fun K e => And.intro (fun c => e _ _ _ _ (kT_end rfl rfl ⟨?_, rfl⟩)) (fun c => And.intro rfl (And.intro (fun c3 => e _ _ _ _ (kT_end rfl rfl ⟨?_, rfl⟩)) (fun c3 => e _ _ _ _ (kT_end rfl rfl ⟨?_, rfl⟩))))))
  · unfold isES
    rw [show nj_cmp .lt v 0 = true from c]
    rfl
  · have c4 : nj_cmp .ge v (Int32.ofInt 1 <<< (s 2 &&& 31)) = true := c3
    rw [c2] at c4
    unfold isES
    rw [c4, Bool.not_true, Bool.and_false]
    rfl
  · have c4 : nj_cmp .ge v (Int32.ofInt 1 <<< (s 2 &&& 31)) = false := c3
    rw [c2] at c4
    unfold isES
    rw [c4, show nj_cmp .lt v 0 = false from c]
    rfl
theorem q_isStep {v : Int32} {n : Nat} (hn : n < 1000) (hk : s 0 = Int32.ofNat n) : mS nj_M nX0 L xs (d + 1) 225 [.ref 175, .int v] (rfS o thr len sz lim X flt fat got lns crs b hh nms rsv s) (fun rv l => rv = some (.int (b01 (decide (inN v n)))) ∧ l = (rfS o thr len sz lim X flt fat got lns crs b hh nms rsv s)) := by
  refine mS_of rfl (fun h0 => ?_)
  refine xw_go nostop 20 (fun K e => And.intro rfl (e _ _ _ _ (kT_call rfl rfl rfl rfl (q_isIn _ _ _) trivial rfl rfl (fun rv l1 hP _ => ?_))))
  obtain ⟨rfl, rfl⟩ := hP
  exact xw_go nostop 20 (fun K e => e _ _ _ _ (kT_end rfl (ret_b (b01_c _)) ⟨by rw [← isIn_n hn, ← hk]; rfl, rfl⟩))
theorem q_together (n1 : nmOk H.1) (hH : rW H s) (hx : hX H) (v w : Int32) : mS nj_M nX0 L xs (d + 2) 235 [.ref 175, .int v, .int w] (rfS o thr len sz lim X flt fat got lns crs b hh nms rsv s) (fun rv l => rv = some (.int (toS H v w)) ∧ l = (rfS o 0 len sz lim X flt fat got lns crs b hh nms rsv s)) := by
  obtain ⟨⟨c0, -, -, -⟩, -⟩ := id hH
  obtain ⟨l1, -⟩ := id n1
  refine mS_of rfl (fun h0 => ?_)
  refine xw_go nostop 20 (fun K e => And.intro rfl (e _ _ _ _ (kT_call rfl rfl rfl rfl (q_areErrors (o := o) (thr := 0) (len := len) (sz := sz) (lim := lim) (X := X) (flt := flt) (fat := fat) (got := got) (lns := lns) (crs := crs) (b := b) (hh := hh) (nms := nms) (rsv := rsv) hH v) ⟨rfl, rfl, rfl, rfl, rfl, rfl, trivial⟩ rfl rfl (fun rv l1 hP _ => ?_))))
  obtain ⟨rfl, rfl⟩ := hP
  refine kT_pic (l2 := (rfS o 0 len sz lim X flt fat got lns crs b hh nms rsv s)) rfl ?_
  cases hs : isES H v with
  | false => exact xw_go nostop 20 (fun K e => And.intro (fun _ => e _ _ _ _ (kT_end rfl rfl ⟨by rw [toS, if_neg (fun q => by rw [hs] at q; exact nomatch q.1)], rfl⟩)) (fun c => nomatch (show true = false from c)))
  | true =>
    refine xw_go nostop 20 (fun K e => And.intro (fun c => nomatch (show false = true from c)) (fun _ => e _ _ _ _ (kT_call rfl rfl rfl rfl (q_isStep (o := o) (thr := 0) (len := len) (sz := sz) (lim := lim) (X := X) (flt := flt) (fat := fat) (got := got) (lns := lns) (crs := crs) (b := b) (hh := hh) (nms := nms) (rsv := rsv) (v := w) (n := H.1.1.length) (by omega) c0) ⟨rfl, rfl, rfl, rfl, rfl, rfl, trivial⟩ rfl rfl (fun rv l1 hP _ => ?_))))
    obtain ⟨rfl, rfl⟩ := hP
    refine kT_pic (l2 := (rfS o 0 len sz lim X flt fat got lns crs b hh nms rsv s)) rfl ?_
    by_cases hw : inN w H.1.1.length
    · rw [decide_eq_true hw]
      have h3 := hw.1
      have h4 := hw.2
      have hk1 := q_madeBy (L := L) (xs := xs) (d := d) (o := o) (thr := 0) (len := len) (sz := sz) (lim := lim) (X := X) (flt := flt) (fat := fat) (got := got) (lns := lns) (crs := crs) (b := b) (hh := hh) (nms := nms) (rsv := rsv) (set := v) n1 hH hx (k := w.toInt.toNat) (by omega)
      rw [← ofN_v hw] at hk1
      refine xw_go nostop 20 (fun K e => And.intro (fun c => nomatch (show false = true from c)) (fun _ => e _ _ _ _ (kT_call rfl rfl rfl rfl hk1 ⟨rfl, rfl, rfl, rfl, rfl, rfl, trivial⟩ rfl rfl (fun rv l1 hP _ => ?_))))
      obtain ⟨rfl, rfl⟩ := hP
      refine kT_pic (l2 := (rfS o 0 len sz lim X flt fat got lns crs b hh nms rsv s)) rfl ?_
      exact xw_go nostop 20 (fun K e => e _ _ _ _ (kT_end rfl (ret_i _) ⟨by rw [toS, if_pos ⟨hs, hw⟩], rfl⟩))
    · rw [decide_eq_false hw]
      exact xw_go nostop 20 (fun K e => And.intro (fun _ => e _ _ _ _ (kT_end rfl rfl ⟨by rw [toS, if_neg (fun q => hw q.2)], rfl⟩)) (fun c => nomatch (show true = false from c)))
end TOG
