/-! errors that cancel each other out in a deed -/
def stE (H : Hs) (q i : Nat) : Nat := (H.2.2.2.getD q []).getD i 0
def lnE (H : Hs) (q : Nat) : Nat := (H.2.2.2.getD q []).length
def rtL (H : Hs) (set : Int32) (q : Nat) : Nat → Nat → Bool
  | 0, _ => true
  | r + 1, i => decide (be H set (stE H q i) = stE H q i) && rtL H set q r (i + 1)
def rt (H : Hs) (set : Int32) (q : Nat) : Bool := rtL H set q (lnE H q) 0
theorem stE_lt {H : Hs} (hx : hX H) (n1 : nmOk H.1) (q i : Nat) : stE H q i < 6 := by
  obtain ⟨l1, -⟩ := n1
  unfold stE
  by_cases c : q < H.2.2.2.length
  · by_cases c2 : i < (H.2.2.2.getD q []).length
    · have k := hx.2.2.2.1 _ (gd_mem (x := []) c) _ (gd_mem (x := 0) c2)
      omega
    · rw [gd_out (by omega)]
      decide
  · rw [gd_out (l := H.2.2.2) (by omega), gd_out (Nat.zero_le _)]
    decide
abbrev b1 (a : Nat) : Int32 := Int32.ofInt 1 <<< (Int32.ofNat a &&& 31)
def cnB (H : Hs) (q a b : Nat) : Bool := (!rt H (b1 a) q || !rt H (b1 b) q) && rt H (b1 a ||| b1 b) q
def ciL (H : Hs) (q : Nat) (w : Int32) (a : Nat) : Nat → Nat → Nat → Int32 ⊕ Nat
  | 0, _, f => .inr f
  | r + 1, b, f => if cnB H q a b = true then (if Int32.ofNat f = w then .inl (Int32.ofNat (10 * a + b)) else ciL H q w a r (b + 1) (f + 1)) else ciL H q w a r (b + 1) f
def coL (H : Hs) (q : Nat) (w : Int32) : Nat → Nat → Nat → Int32 ⊕ Nat
  | 0, _, f => .inr f
  | r + 1, a, f => match ciL H q w a r (a + 1) f with
    | .inl x => .inl x
    | .inr f2 => coL H q w r (a + 1) f2
def caE (w : Int32) (z : Int32 ⊕ Nat) : Int32 := match z with
  | .inl x => x
  | .inr f => if w = Int32.ofInt (-1) then Int32.ofNat f else Int32.ofInt (-1)
def caS (H : Hs) (v w : Int32) : Int32 := if inN v H.1.2.2.2.length ∧ nj_cmp .ge w (Int32.ofInt (-1)) = true then caE w (coL H v.toInt.toNat w H.1.2.2.1.length 0 0) else Int32.ofInt (-1)
theorem mul10 (a b : Nat) : Int32.ofInt 10 * Int32.ofNat a + Int32.ofNat b = Int32.ofNat (10 * a + b) := by
  rw [show Int32.ofInt 10 = Int32.ofNat 10 from rfl, ← Int32.ofNat_mul, ← Int32.ofNat_add]
theorem mul12n (q i : Nat) : Int32.ofNat q * Int32.ofInt 12 + Int32.ofNat i = Int32.ofNat (12 * q + i) := by
  rw [show Int32.ofInt 12 = Int32.ofNat 12 from rfl, ← Int32.ofNat_mul, ← Int32.ofNat_add, Nat.mul_comm]
theorem m84 (q i : Nat) : Int32.ofInt 84 + Int32.ofInt 12 * Int32.ofNat q + Int32.ofNat i = Int32.ofNat (84 + 12 * q + i) := by
  rw [show Int32.ofInt 12 = Int32.ofNat 12 from rfl, show Int32.ofInt 84 = Int32.ofNat 84 from rfl, ← Int32.ofNat_mul, ← Int32.ofNat_add, ← Int32.ofNat_add]
section CAN
variable {L : Nat} {xs : Nat → Int32} {d : Nat} {H : Hs} {y : Ho} {u : Nat → Value} {o : Nat → Value} {thr len sz lim : Int32} {X : Lx} {flt fat got lns crs : Int32} {b hh s : Nat → Int32} {nms rsv : Nat → Int64} {set : Int32}
set_option maxHeartbeats 4000000 in
theorem sp_loop (hH : hW H y) (hx : hX H) {q : Nat} (hq : q < H.1.2.2.2.length) {R : Bool} {h0 : List nC} : ∀ (r i : Nat) (w : Int32), i + r = lnE H q → rtL H set q r i = R → kT nj_M nX0 L xs (d + 2) nm_118 (mQ (hoQ y) (fun rv l => rv = some (.int (b01 (!R))) ∧ l = hoQ y) h0) (hk (hoQ y)) h0 2 [(0, .ref 7), (1, .int set), (2, .int (Int32.ofNat q)), (3, .int (Int32.ofNat i)), (4, .int w)] [] (hoQ y) := by
  obtain ⟨n1, -, -, -, b7⟩ := id hH
  obtain ⟨-, -, -, l4, -, -⟩ := id n1
  obtain ⟨g1, g2, g3⟩ := b7 q hq
  unfold lnE
  intro r
  induction r with
  | zero =>
    intro i w hi hR
    have hxq := ix_nat (i := q) (n := 4) (by omega) (by decide)
    have hcmp : nj_cmp .ge (Int32.ofNat i) (y.2.2.2.2.2.2.2.2.2.2.2.2.1 (Int32.ofNat q).toNatClampNeg) = true := by
      rw [hxq.2, g2, (cmp_nat (by omega) (by omega)).1]
      exact decide_eq_true (by omega)
    exact xw_go nostop 30 (fun K e => And.intro hxq.1 (And.intro (fun _ => e _ _ _ _ (kT_end rfl rfl ⟨by rw [← hR]; rfl, rfl⟩)) (fun c => nomatch (hcmp.symm.trans c))))
  | succ r ih =>
    intro i w hi hR
    have hR2 : (decide (be H set (stE H q i) = stE H q i) && rtL H set q r (i + 1)) = R := hR
    have hxq := ix_nat (i := q) (n := 4) (by omega) (by decide)
    have hcmp : nj_cmp .ge (Int32.ofNat i) (y.2.2.2.2.2.2.2.2.2.2.2.2.1 (Int32.ofNat q).toNatClampNeg) = false := by
      rw [hxq.2, g2, (cmp_nat (by omega) (by omega)).1]
      exact decide_eq_false (by omega)
    have hxs := ix_nat (i := 12 * q + i) (n := 48) (by omega) (by decide)
    rw [← mul12n] at hxs
    have es : y.2.2.2.2.2.2.2.2.2.2.2.2.2.1 (Int32.ofNat q * Int32.ofInt 12 + Int32.ofNat i).toNatClampNeg = Int32.ofNat (stE H q i) := by
      rw [hxs.2]
      exact g3 i (by omega)
    have hlt := stE_lt hx n1 q i
    have hk1 := c_become (L := L) (xs := xs) (d := d) (set := set) hH hx (k := stE H q i) hlt
    rw [← es] at hk1
    refine xw_go nostop 60 (fun K e => And.intro hxq.1 (And.intro (fun c => nomatch (hcmp.symm.trans c)) (fun _ => And.intro hxs.1 (e _ _ _ _ (kT_call rfl rfl rfl rfl hk1 ⟨rfl, rfl, rfl, rfl, rfl, rfl, rfl, rfl, rfl, rfl, rfl, rfl, rfl, rfl, rfl, trivial⟩ rfl rfl (fun rv l1 hP _ => ?_))))))
    obtain ⟨rfl, rfl⟩ := hP
    refine kT_pic (l2 := hoQ y) rfl ?_
    have hbl : be H set (stE H q i) < 6 := beL_lt hx n1 set _ _ _ hlt
    have q1 : nj_cmp .eq (Int32.ofNat (be H set (stE H q i))) (y.2.2.2.2.2.2.2.2.2.2.2.2.2.1 (Int32.ofNat q * Int32.ofInt 12 + Int32.ofNat i).toNatClampNeg) = decide (be H set (stE H q i) = stE H q i) := by
      rw [es]
      exact eq_of (by omega) (by omega)
    by_cases c : be H set (stE H q i) = stE H q i
    · rw [decide_eq_true c] at q1
      rw [decide_eq_true c, Bool.true_and] at hR2
      have hn := ih (i + 1) (y.2.2.2.2.2.2.2.2.2.2.2.2.2.1 (Int32.ofNat q * Int32.ofInt 12 + Int32.ofNat i).toNatClampNeg) (by omega) hR2
      rw [← i32_succ] at hn
      exact xw_go (fun pc => pc == 2) 30 (fun K e => And.intro (fun _ => e _ _ _ _ (kT_sort rfl hn)) (fun c => nomatch (q1.symm.trans c)))
    · rw [decide_eq_false c] at q1
      rw [decide_eq_false c, Bool.false_and] at hR2
      exact xw_go nostop 30 (fun K e => And.intro (fun c => nomatch (q1.symm.trans c)) (fun _ => e _ _ _ _ (kT_end rfl rfl ⟨by rw [← hR2]; rfl, rfl⟩)))
set_option maxHeartbeats 4000000 in
theorem sp_first (hH : hW H y) (hx : hX H) {q : Nat} (hq : q < H.1.2.2.2.length) {R : Bool} {h0 : List nC} (r i : Nat) (hi : i + (r + 1) = lnE H q) (hR : rtL H set q (r + 1) i = R) : kT nj_M nX0 L xs (d + 2) nm_118 (mQ (hoQ y) (fun rv l => rv = some (.int (b01 (!R))) ∧ l = hoQ y) h0) (hk (hoQ y)) h0 2 [(0, .ref 7), (1, .int set), (2, .int (Int32.ofNat q)), (3, .int (Int32.ofNat i))] [] (hoQ y) := by
  obtain ⟨n1, -, -, -, b7⟩ := id hH
  obtain ⟨-, -, -, l4, -, -⟩ := id n1
  obtain ⟨g1, g2, g3⟩ := b7 q hq
  have hi2 : i + (r + 1) = (H.2.2.2.getD q []).length := hi
  have hR2 : (decide (be H set (stE H q i) = stE H q i) && rtL H set q r (i + 1)) = R := hR
  have hxq := ix_nat (i := q) (n := 4) (by omega) (by decide)
  have hcmp : nj_cmp .ge (Int32.ofNat i) (y.2.2.2.2.2.2.2.2.2.2.2.2.1 (Int32.ofNat q).toNatClampNeg) = false := by
    rw [hxq.2, g2, (cmp_nat (by omega) (by omega)).1]
    exact decide_eq_false (by omega)
  have hxs := ix_nat (i := 12 * q + i) (n := 48) (by omega) (by decide)
  rw [← mul12n] at hxs
  have es : y.2.2.2.2.2.2.2.2.2.2.2.2.2.1 (Int32.ofNat q * Int32.ofInt 12 + Int32.ofNat i).toNatClampNeg = Int32.ofNat (stE H q i) := by
    rw [hxs.2]
    exact g3 i (by omega)
  have hlt := stE_lt hx n1 q i
  have hk1 := c_become (L := L) (xs := xs) (d := d) (set := set) hH hx (k := stE H q i) hlt
  rw [← es] at hk1
  refine xw_go nostop 60 (fun K e => And.intro hxq.1 (And.intro (fun c => nomatch (hcmp.symm.trans c)) (fun _ => And.intro hxs.1 (e _ _ _ _ (kT_call rfl rfl rfl rfl hk1 ⟨rfl, rfl, rfl, rfl, rfl, rfl, rfl, rfl, rfl, rfl, rfl, rfl, rfl, rfl, rfl, trivial⟩ rfl rfl (fun rv l1 hP _ => ?_))))))
  obtain ⟨rfl, rfl⟩ := hP
  refine kT_pic (l2 := hoQ y) rfl ?_
  have hbl : be H set (stE H q i) < 6 := beL_lt hx n1 set _ _ _ hlt
  have q1 : nj_cmp .eq (Int32.ofNat (be H set (stE H q i))) (y.2.2.2.2.2.2.2.2.2.2.2.2.2.1 (Int32.ofNat q * Int32.ofInt 12 + Int32.ofNat i).toNatClampNeg) = decide (be H set (stE H q i) = stE H q i) := by
    rw [es]
    exact eq_of (by omega) (by omega)
  by_cases c : be H set (stE H q i) = stE H q i
  · rw [decide_eq_true c] at q1
    rw [decide_eq_true c, Bool.true_and] at hR2
    have hn := sp_loop (L := L) (xs := xs) (d := d) (set := set) hH hx hq (R := R) (h0 := h0) r (i + 1) (y.2.2.2.2.2.2.2.2.2.2.2.2.2.1 (Int32.ofNat q * Int32.ofInt 12 + Int32.ofNat i).toNatClampNeg) (by omega) hR2
    rw [← i32_succ] at hn
    exact xw_go (fun pc => pc == 2) 30 (fun K e => And.intro (fun _ => e _ _ _ _ (kT_sort rfl hn)) (fun c => nomatch (q1.symm.trans c)))
  · rw [decide_eq_false c] at q1
    rw [decide_eq_false c, Bool.false_and] at hR2
    exact xw_go nostop 30 (fun K e => And.intro (fun c => nomatch (q1.symm.trans c)) (fun _ => e _ _ _ _ (kT_end rfl rfl ⟨by rw [← hR2]; rfl, rfl⟩)))
theorem c_spoils (hH : hW H y) (hx : hX H) {q : Nat} (hq : q < H.1.2.2.2.length) : mS nj_M nX0 L xs (d + 2) 118 [.ref 7, .int set, .int (Int32.ofNat q)] (hoQ y) (fun rv l => rv = some (.int (b01 (!rt H set q))) ∧ l = hoQ y) := by
  obtain ⟨n1, -, -, -, b7⟩ := id hH
  obtain ⟨-, -, -, l4, -, -⟩ := id n1
  obtain ⟨g1, g2, g3⟩ := b7 q hq
  refine mS_of rfl (fun h0 => ?_)
  generalize hR : rt H set q = R
  suffices hm : kT nj_M nX0 L xs (d + 2) nm_118 (mQ (hoQ y) (fun rv l => rv = some (.int (b01 (!R))) ∧ l = hoQ y) h0) (hk (hoQ y)) h0 2 [(0, .ref 7), (1, .int set), (2, .int (Int32.ofNat q)), (3, .int (Int32.ofNat 0))] [] (hoQ y) from xw_go (fun pc => pc == 2) 20 (fun K e => e _ _ _ _ (kT_sort rfl hm))
  have hR1 : rtL H set q (lnE H q) 0 = R := hR
  cases hr : lnE H q with
  | zero =>
    rw [hr] at hR1
    have hr2 : (H.2.2.2.getD q []).length = 0 := hr
    have hxq := ix_nat (i := q) (n := 4) (by omega) (by decide)
    have hcmp : nj_cmp .ge (Int32.ofNat 0) (y.2.2.2.2.2.2.2.2.2.2.2.2.1 (Int32.ofNat q).toNatClampNeg) = true := by
      rw [hxq.2, g2, (cmp_nat (by omega) (by omega)).1]
      exact decide_eq_true (by omega)
    exact xw_go nostop 30 (fun K e => And.intro hxq.1 (And.intro (fun _ => e _ _ _ _ (kT_end rfl rfl ⟨by rw [← hR1]; rfl, rfl⟩)) (fun c => nomatch (hcmp.symm.trans c))))
  | succ r =>
    rw [hr] at hR1
    exact sp_first hH hx hq r 0 (by omega) hR1
theorem c_cancelOut (hH : hW H y) (hx : hX H) {q a c : Nat} (hq : q < H.1.2.2.2.length) : mS nj_M nX0 L xs (d + 3) 117 [.ref 7, .int (Int32.ofNat q), .int (Int32.ofNat a), .int (Int32.ofNat c)] (hoQ y) (fun rv l => rv = some (.int (b01 (cnB H q a c))) ∧ l = hoQ y) := by
  refine mS_of rfl (fun h0 => ?_)
  refine xw_go nostop 20 (fun K e => e _ _ _ _ (kT_call rfl rfl rfl rfl (c_spoils (L := L) (xs := xs) (d := d) (set := b1 a) hH hx hq) ⟨rfl, rfl, rfl, rfl, rfl, rfl, rfl, rfl, rfl, rfl, rfl, rfl, rfl, rfl, rfl, trivial⟩ rfl rfl (fun rv l1 hP _ => ?_)))
  obtain ⟨rfl, rfl⟩ := hP
  refine kT_pic (l2 := hoQ y) rfl ?_
  cases ha : rt H (b1 a) q with
  | false =>
    refine xw_go nostop 30 (fun K e => And.intro (fun _ => And.intro (fun c => nomatch (show false = true from c)) (fun _ => e _ _ _ _ (kT_call rfl rfl rfl rfl (c_spoils (L := L) (xs := xs) (d := d) (set := b1 a ||| b1 c) hH hx hq) ⟨rfl, rfl, rfl, rfl, rfl, rfl, rfl, rfl, rfl, rfl, rfl, rfl, rfl, rfl, rfl, trivial⟩ rfl rfl (fun rv l1 hP _ => ?_)))) (fun c => nomatch (show true = false from c)))
    obtain ⟨rfl, rfl⟩ := hP
    refine kT_pic (l2 := hoQ y) rfl ?_
    cases hac : rt H (b1 a ||| b1 c) q with
    | true => exact xw_go nostop 30 (fun K e => And.intro (fun c => nomatch (show false = true from c)) (fun _ => e _ _ _ _ (kT_end rfl rfl ⟨by rw [cnB, ha, hac]; rfl, rfl⟩)))
    | false => exact xw_go nostop 30 (fun K e => And.intro (fun _ => e _ _ _ _ (kT_end rfl rfl ⟨by rw [cnB, hac, Bool.and_false]; rfl, rfl⟩)) (fun c => nomatch (show true = false from c)))
  | true =>
    refine xw_go nostop 30 (fun K e => And.intro (fun c => nomatch (show false = true from c)) (fun _ => e _ _ _ _ (kT_call rfl rfl rfl rfl (c_spoils (L := L) (xs := xs) (d := d) (set := b1 c) hH hx hq) ⟨rfl, rfl, rfl, rfl, rfl, rfl, rfl, rfl, rfl, rfl, rfl, rfl, rfl, rfl, rfl, trivial⟩ rfl rfl (fun rv l1 hP _ => ?_))))
    obtain ⟨rfl, rfl⟩ := hP
    refine kT_pic (l2 := hoQ y) rfl ?_
    cases hc : rt H (b1 c) q with
    | true => exact xw_go nostop 30 (fun K e => And.intro (fun _ => And.intro (fun _ => e _ _ _ _ (kT_end rfl rfl ⟨by rw [cnB, ha, hc]; rfl, rfl⟩)) (fun c => nomatch (show true = false from c))) (fun c => nomatch (show true = false from c)))
    | false =>
      refine xw_go nostop 30 (fun K e => And.intro (fun c => nomatch (show false = true from c)) (fun _ => And.intro (fun c => nomatch (show false = true from c)) (fun _ => e _ _ _ _ (kT_call rfl rfl rfl rfl (c_spoils (L := L) (xs := xs) (d := d) (set := b1 a ||| b1 c) hH hx hq) ⟨rfl, rfl, rfl, rfl, rfl, rfl, rfl, rfl, rfl, rfl, rfl, rfl, rfl, rfl, rfl, trivial⟩ rfl rfl (fun rv l1 hP _ => ?_)))))
      obtain ⟨rfl, rfl⟩ := hP
      refine kT_pic (l2 := hoQ y) rfl ?_
      cases hac : rt H (b1 a ||| b1 c) q with
      | true => exact xw_go nostop 30 (fun K e => And.intro (fun c => nomatch (show false = true from c)) (fun _ => e _ _ _ _ (kT_end rfl rfl ⟨by rw [cnB, ha, hc, hac]; rfl, rfl⟩)))
      | false => exact xw_go nostop 30 (fun K e => And.intro (fun _ => e _ _ _ _ (kT_end rfl rfl ⟨by rw [cnB, hac, Bool.and_false]; rfl, rfl⟩)) (fun c => nomatch (show true = false from c)))
set_option maxHeartbeats 4000000 in
theorem cc_in (hH : hW H y) (hx : hX H) {q a : Nat} {w R0 : Int32} (hq : q < H.1.2.2.2.length) {R : Int32 ⊕ Nat} {h0 : List nC} (h1 : ∀ x, R = .inl x → x = R0) (h2 : ∀ f, R = .inr f → kT nj_M nX0 L xs (d + 4) nm_116 (mQ (slI u ++ hoQ y) (fun rv l => rv = some (.int R0) ∧ l = (slI u ++ hoQ y)) h0) (hk (slI u ++ hoQ y)) h0 96 [(0, .ref 0), (1, .int (Int32.ofNat q)), (2, .int w), (3, .int (Int32.ofNat f)), (4, .int (Int32.ofNat a)), (5, .int (Int32.ofNat H.1.2.2.1.length))] [] (slI u ++ hoQ y)) : ∀ (r b f : Nat), b + r = H.1.2.2.1.length → ciL H q w a r b f = R → kT nj_M nX0 L xs (d + 4) nm_116 (mQ (slI u ++ hoQ y) (fun rv l => rv = some (.int R0) ∧ l = (slI u ++ hoQ y)) h0) (hk (slI u ++ hoQ y)) h0 44 [(0, .ref 0), (1, .int (Int32.ofNat q)), (2, .int w), (3, .int (Int32.ofNat f)), (4, .int (Int32.ofNat a)), (5, .int (Int32.ofNat b))] [] (slI u ++ hoQ y) := by
  obtain ⟨n1, ⟨-, -, c2, -⟩, -⟩ := id hH
  obtain ⟨-, -, l3, -, -, -⟩ := id n1
  intro r
  induction r with
  | zero =>
    intro b f hb hR
    have e : b = H.1.2.2.1.length := by omega
    have hcmp : nj_cmp .ge (Int32.ofNat b) (y.1 2) = true := by
      rw [c2, (cmp_nat (by omega) (by omega)).1]
      exact decide_eq_true (by omega)
    rw [e] at hcmp ⊢
    exact xw_go (fun pc => pc == 96) 30 (fun K e => And.intro rfl (And.intro (fun _ => e _ _ _ _ (h2 f hR.symm)) (fun c => nomatch (hcmp.symm.trans c))))
  | succ r ih =>
    intro b f hb hR
    have hcmp : nj_cmp .ge (Int32.ofNat b) (y.1 2) = false := by
      rw [c2, (cmp_nat (by omega) (by omega)).1]
      exact decide_eq_false (by omega)
    have hR2 : (if cnB H q a b = true then (if Int32.ofNat f = w then .inl (Int32.ofNat (10 * a + b)) else ciL H q w a r (b + 1) (f + 1)) else ciL H q w a r (b + 1) f) = R := hR
    refine xw_go nostop 40 (fun K e => And.intro rfl (And.intro (fun c => nomatch (hcmp.symm.trans c)) (fun _ => e _ _ _ _ (kT_call rfl rfl rfl rfl (c_cancelOut (L := L) (xs := xs) (d := d) hH hx (q := q) (a := a) (c := b) hq) ⟨rfl, rfl, rfl, rfl, rfl, rfl, rfl, rfl, rfl, rfl, rfl, rfl, rfl, rfl, rfl, trivial⟩ rfl rfl (fun rv l1 hP _ => ?_)))))
    obtain ⟨rfl, rfl⟩ := hP
    refine kT_pic (l2 := (slI u ++ hoQ y)) rfl ?_
    cases hc : cnB H q a b with
    | false =>
      rw [hc, if_neg (by decide)] at hR2
      have hn := ih (b + 1) f (by omega) hR2
      rw [← i32_succ] at hn
      exact xw_go (fun pc => pc == 44) 30 (fun K e => And.intro (fun _ => e _ _ _ _ (kT_sort rfl hn)) (fun c => nomatch (show true = false from c)))
    | true =>
      rw [hc, if_pos rfl] at hR2
      by_cases c : Int32.ofNat f = w
      · rw [if_pos c] at hR2
        have q1 : nj_cmp .ne (Int32.ofNat f) w = false := decide_eq_false (fun z => z c)
        exact xw_go nostop 40 (fun K e => And.intro (fun c => nomatch (show false = true from c)) (fun _ => And.intro (fun c => nomatch (q1.symm.trans c)) (fun _ => e _ _ _ _ (kT_end rfl (ret_i _) ⟨by rw [← h1 _ hR2.symm, ← mul10]; rfl, rfl⟩))))
      · rw [if_neg c] at hR2
        have q1 : nj_cmp .ne (Int32.ofNat f) w = true := decide_eq_true c
        have hn := ih (b + 1) (f + 1) (by omega) hR2
        rw [← i32_succ, ← i32_succ] at hn
        exact xw_go (fun pc => pc == 44) 40 (fun K e => And.intro (fun c => nomatch (show false = true from c)) (fun _ => And.intro (fun _ => e _ _ _ _ (kT_sort rfl hn)) (fun c => nomatch (q1.symm.trans c))))
theorem cc_end {q f a : Nat} {w R0 : Int32} {h0 : List nC} {tl : nLv} (htl : tl = [] ∨ ∃ z, tl = [(5, .int z)]) (hR : caE w (.inr f) = R0) : kT nj_M nX0 L xs (d + 4) nm_116 (mQ (slI u ++ hoQ y) (fun rv l => rv = some (.int R0) ∧ l = (slI u ++ hoQ y)) h0) (hk (slI u ++ hoQ y)) h0 102 ([(0, .ref 0), (1, .int (Int32.ofNat q)), (2, .int w), (3, .int (Int32.ofNat f)), (4, .int (Int32.ofNat a))] ++ tl) [] (slI u ++ hoQ y) := by
  have hR2 : (if w = Int32.ofInt (-1) then Int32.ofNat f else Int32.ofInt (-1)) = R0 := hR
  by_cases c : w = Int32.ofInt (-1)
  · rw [if_pos c] at hR2
    have q1 : nj_cmp .ne w (Int32.ofInt (-1)) = false := decide_eq_false (fun z => z c)
    rcases htl with rfl | ⟨z, rfl⟩
    · exact xw_go nostop 30 (fun K e => And.intro (fun c => nomatch (q1.symm.trans c)) (fun _ => e _ _ _ _ (kT_end rfl (ret_i _) ⟨by rw [← hR2], rfl⟩)))
    · exact xw_go nostop 30 (fun K e => And.intro (fun c => nomatch (q1.symm.trans c)) (fun _ => e _ _ _ _ (kT_end rfl (ret_i _) ⟨by rw [← hR2], rfl⟩)))
  · rw [if_neg c] at hR2
    have q1 : nj_cmp .ne w (Int32.ofInt (-1)) = true := decide_eq_true c
    rcases htl with rfl | ⟨z, rfl⟩
    · exact xw_go nostop 30 (fun K e => And.intro (fun _ => e _ _ _ _ (kT_end rfl rfl ⟨by rw [← hR2], rfl⟩)) (fun c => nomatch (q1.symm.trans c)))
    · exact xw_go nostop 30 (fun K e => And.intro (fun _ => e _ _ _ _ (kT_end rfl rfl ⟨by rw [← hR2], rfl⟩)) (fun c => nomatch (q1.symm.trans c)))
set_option maxHeartbeats 4000000 in
theorem cc_out (hH : hW H y) (hx : hX H) {q : Nat} {w R0 : Int32} (hq : q < H.1.2.2.2.length) {h0 : List nC} : ∀ (r a f : Nat) (z : Int32), a + r = H.1.2.2.1.length → caE w (coL H q w r a f) = R0 → kT nj_M nX0 L xs (d + 4) nm_116 (mQ (slI u ++ hoQ y) (fun rv l => rv = some (.int R0) ∧ l = (slI u ++ hoQ y)) h0) (hk (slI u ++ hoQ y)) h0 24 [(0, .ref 0), (1, .int (Int32.ofNat q)), (2, .int w), (3, .int (Int32.ofNat f)), (4, .int (Int32.ofNat a)), (5, .int z)] [] (slI u ++ hoQ y) := by
  obtain ⟨n1, ⟨-, -, c2, -⟩, -⟩ := id hH
  obtain ⟨-, -, l3, -, -, -⟩ := id n1
  intro r
  induction r with
  | zero =>
    intro a f z ha hR
    have hcmp : nj_cmp .ge (Int32.ofNat a) (y.1 2) = true := by
      rw [c2, (cmp_nat (by omega) (by omega)).1]
      exact decide_eq_true (by omega)
    exact xw_go (fun pc => pc == 102) 30 (fun K e => And.intro rfl (And.intro (fun _ => e _ _ _ _ (cc_end (tl := [(5, .int z)]) (Or.inr ⟨z, rfl⟩) hR)) (fun c => nomatch (hcmp.symm.trans c))))
  | succ r ih =>
    intro a f z ha hR
    have hR2 : caE w (match ciL H q w a r (a + 1) f with
      | .inl x => .inl x
      | .inr f2 => coL H q w r (a + 1) f2) = R0 := hR
    have hcmp : nj_cmp .ge (Int32.ofNat a) (y.1 2) = false := by
      rw [c2, (cmp_nat (by omega) (by omega)).1]
      exact decide_eq_false (by omega)
    have hin := cc_in (L := L) (xs := xs) (d := d) (u := u) hH hx (q := q) (a := a) (w := w) (R0 := R0) hq (R := ciL H q w a r (a + 1) f) (h0 := h0) (fun x e => by rw [e] at hR2; exact hR2) (fun f2 e => by
      rw [e] at hR2
      have hn := ih (a + 1) f2 (Int32.ofNat H.1.2.2.1.length) (by omega) hR2
      rw [← i32_succ] at hn
      exact xw_go (fun pc => pc == 24) 30 (fun K e => e _ _ _ _ (kT_sort rfl hn))) r (a + 1) f (by omega) rfl
    rw [← i32_succ a] at hin
    exact xw_go (fun pc => pc == 44) 40 (fun K e => And.intro rfl (And.intro (fun c => nomatch (hcmp.symm.trans c)) (fun _ => e _ _ _ _ (kT_sort rfl hin))))
set_option maxHeartbeats 4000000 in
theorem cc_first (hH : hW H y) (hx : hX H) {q : Nat} {w R0 : Int32} (hq : q < H.1.2.2.2.length) {h0 : List nC} (r a f : Nat) (ha : a + (r + 1) = H.1.2.2.1.length) (hR : caE w (coL H q w (r + 1) a f) = R0) : kT nj_M nX0 L xs (d + 4) nm_116 (mQ (slI u ++ hoQ y) (fun rv l => rv = some (.int R0) ∧ l = (slI u ++ hoQ y)) h0) (hk (slI u ++ hoQ y)) h0 24 [(0, .ref 0), (1, .int (Int32.ofNat q)), (2, .int w), (3, .int (Int32.ofNat f)), (4, .int (Int32.ofNat a))] [] (slI u ++ hoQ y) := by
  obtain ⟨n1, ⟨-, -, c2, -⟩, -⟩ := id hH
  obtain ⟨-, -, l3, -, -, -⟩ := id n1
  have hR2 : caE w (match ciL H q w a r (a + 1) f with
    | .inl x => .inl x
    | .inr f2 => coL H q w r (a + 1) f2) = R0 := hR
  have hcmp : nj_cmp .ge (Int32.ofNat a) (y.1 2) = false := by
    rw [c2, (cmp_nat (by omega) (by omega)).1]
    exact decide_eq_false (by omega)
  have hin := cc_in (L := L) (xs := xs) (d := d) (u := u) hH hx (q := q) (a := a) (w := w) (R0 := R0) hq (R := ciL H q w a r (a + 1) f) (h0 := h0) (fun x e => by rw [e] at hR2; exact hR2) (fun f2 e => by
    rw [e] at hR2
    have hn := cc_out (L := L) (xs := xs) (d := d) (u := u) hH hx (q := q) (w := w) (R0 := R0) hq (h0 := h0) r (a + 1) f2 (Int32.ofNat H.1.2.2.1.length) (by omega) hR2
    rw [← i32_succ] at hn
    exact xw_go (fun pc => pc == 24) 30 (fun K e => e _ _ _ _ (kT_sort rfl hn))) r (a + 1) f (by omega) rfl
  rw [← i32_succ a] at hin
  exact xw_go (fun pc => pc == 44) 40 (fun K e => And.intro rfl (And.intro (fun c => nomatch (hcmp.symm.trans c)) (fun _ => e _ _ _ _ (kT_sort rfl hin))))
set_option maxHeartbeats 4000000 in
theorem c_cancel (hH : hW H y) (hx : hX H) (v w : Int32) : mS nj_M nX0 L xs (d + 4) 116 [.ref 0, .int v, .int w] (slI u ++ hoQ y) (fun rv l => rv = some (.int (caS H v w)) ∧ l = (slI u ++ hoQ y)) := by
  obtain ⟨n1, ⟨-, -, c2, c3⟩, -⟩ := id hH
  obtain ⟨-, -, l3, l4, -, -⟩ := id n1
  refine mS_of rfl (fun h0 => ?_)
  refine xw_go nostop 20 (fun K e => e _ _ _ _ (kT_call rfl rfl rfl rfl (c_has3 (y := y) (v := v) (n := H.1.2.2.2.length) (by omega) c3) ⟨rfl, rfl, rfl, rfl, rfl, rfl, rfl, rfl, rfl, rfl, rfl, rfl, rfl, rfl, rfl, trivial⟩ rfl rfl (fun rv l1 hP _ => ?_)))
  obtain ⟨rfl, rfl⟩ := hP
  refine kT_pic (l2 := (slI u ++ hoQ y)) rfl ?_
  by_cases hv : inN v H.1.2.2.2.length
  · rw [decide_eq_true hv]
    have h3 := hv.1
    have h4 := hv.2
    cases hkw : nj_cmp .ge w (Int32.ofInt (-1)) with
    | false => exact xw_go nostop 20 (fun K e => And.intro (fun c => nomatch (show false = true from c)) (fun _ => And.intro (fun c => nomatch (hkw.symm.trans c)) (fun _ => e _ _ _ _ (kT_end rfl rfl ⟨by rw [caS, if_neg (fun q => by rw [hkw] at q; exact nomatch q.2)], rfl⟩))))
    | true =>
      have hR0 : caS H v w = caE w (coL H v.toInt.toNat w H.1.2.2.1.length 0 0) := by rw [caS, if_pos ⟨hv, hkw⟩]
      generalize caS H v w = R0 at hR0 ⊢
      have ev := ofN_v hv
      generalize hqq : v.toInt.toNat = q at hR0 ev
      have hq : q < H.1.2.2.2.length := by omega
      subst ev
      suffices hm : kT nj_M nX0 L xs (d + 4) nm_116 (mQ (slI u ++ hoQ y) (fun rv l => rv = some (.int R0) ∧ l = (slI u ++ hoQ y)) h0) (hk (slI u ++ hoQ y)) h0 24 [(0, .ref 0), (1, .int (Int32.ofNat q)), (2, .int w), (3, .int (Int32.ofNat 0)), (4, .int (Int32.ofNat 0))] [] (slI u ++ hoQ y) from xw_go (fun pc => pc == 24) 30 (fun K e => And.intro (fun c => nomatch (show false = true from c)) (fun _ => And.intro (fun _ => e _ _ _ _ (kT_sort rfl hm)) (fun c => nomatch (hkw.symm.trans c))))
      cases hr : H.1.2.2.1.length with
      | zero =>
        have hcmp : nj_cmp .ge (Int32.ofNat 0) (y.1 2) = true := by
          rw [c2, (cmp_nat (by omega) (by omega)).1]
          exact decide_eq_true (by omega)
        exact xw_go (fun pc => pc == 102) 30 (fun K e => And.intro rfl (And.intro (fun _ => e _ _ _ _ (cc_end (a := 0) (f := 0) (tl := []) (Or.inl rfl) (by rw [hR0, hr]; rfl))) (fun c => nomatch (hcmp.symm.trans c))))
      | succ r => exact cc_first hH hx hq r 0 0 (by omega) (by rw [hR0, hr])
  · rw [decide_eq_false hv]
    exact xw_go nostop 20 (fun K e => And.intro (fun _ => e _ _ _ _ (kT_end rfl rfl ⟨by rw [caS, if_neg (fun q => hv q.1)], rfl⟩)) (fun c => nomatch (show true = false from c)))
set_option maxHeartbeats 4000000 in
theorem ri_loop (n1 : nmOk H.1) (hH : rW H s) (hx : hX H) {q : Nat} (hq : q < H.1.2.2.2.length) {R : Bool} {h0 : List nC} : ∀ (r i : Nat), i + r = lnE H q → rtL H set q r i = R → kT nj_M nX0 L xs (d + 2) nm_240 (mQ (rfS o 0 len sz lim X flt fat got lns crs b hh nms rsv s) (fun rv l => rv = some (.int (b01 R)) ∧ l = (rfS o 0 len sz lim X flt fat got lns crs b hh nms rsv s)) h0) (hk (rfS o 0 len sz lim X flt fat got lns crs b hh nms rsv s)) h0 2 [(0, .ref 175), (1, .int set), (2, .int (Int32.ofNat q)), (3, .int (Int32.ofNat i))] [] (rfS o 0 len sz lim X flt fat got lns crs b hh nms rsv s) := by
  obtain ⟨-, -, -, b7⟩ := id hH
  obtain ⟨-, -, -, l4, -, -⟩ := id n1
  obtain ⟨g1, g2, g3⟩ := b7 q hq
  have x80 := ix_s (k := 80) (c := q) (by omega)
  unfold lnE
  intro r
  induction r with
  | zero =>
    intro i hi hR
    have hcmp : nj_cmp .ge (Int32.ofNat i) (s (Int32.ofNat 80 + Int32.ofNat q).toNatClampNeg) = true := by
      rw [x80.2, g2, (cmp_nat (by omega) (by omega)).1]
      exact decide_eq_true (by omega)
    exact xw_go nostop 30 (fun K e => And.intro x80.1 (And.intro (fun _ => e _ _ _ _ (kT_end rfl rfl ⟨by rw [← hR]; rfl, rfl⟩)) (fun c => nomatch (hcmp.symm.trans c))))
  | succ r ih =>
    intro i hi hR
    have hR2 : (decide (be H set (stE H q i) = stE H q i) && rtL H set q r (i + 1)) = R := hR
    have hcmp : nj_cmp .ge (Int32.ofNat i) (s (Int32.ofNat 80 + Int32.ofNat q).toNatClampNeg) = false := by
      rw [x80.2, g2, (cmp_nat (by omega) (by omega)).1]
      exact decide_eq_false (by omega)
    have hxs := ix_nat (i := 84 + 12 * q + i) (n := 360) (by omega) (by decide)
    rw [← m84] at hxs
    have es : s (Int32.ofInt 84 + Int32.ofInt 12 * Int32.ofNat q + Int32.ofNat i).toNatClampNeg = Int32.ofNat (stE H q i) := by
      rw [hxs.2]
      exact g3 i (by omega)
    have hlt := stE_lt hx n1 q i
    have hk1 := q_madeBy (L := L) (xs := xs) (d := d) (o := o) (thr := 0) (len := len) (sz := sz) (lim := lim) (X := X) (flt := flt) (fat := fat) (got := got) (lns := lns) (crs := crs) (b := b) (hh := hh) (nms := nms) (rsv := rsv) (set := set) n1 hH hx (k := stE H q i) hlt
    rw [← es] at hk1
    refine xw_go nostop 60 (fun K e => And.intro x80.1 (And.intro (fun c => nomatch (hcmp.symm.trans c)) (fun _ => And.intro hxs.1 (e _ _ _ _ (kT_call rfl rfl rfl rfl hk1 ⟨rfl, rfl, rfl, rfl, rfl, rfl, trivial⟩ rfl rfl (fun rv l1 hP _ => ?_))))))
    obtain ⟨rfl, rfl⟩ := hP
    refine kT_pic (l2 := (rfS o 0 len sz lim X flt fat got lns crs b hh nms rsv s)) rfl ?_
    have hbl : be H set (stE H q i) < 6 := beL_lt hx n1 set _ _ _ hlt
    have q1 : nj_cmp .eq (Int32.ofNat (be H set (stE H q i))) (s (Int32.ofInt 84 + Int32.ofInt 12 * Int32.ofNat q + Int32.ofNat i).toNatClampNeg) = decide (be H set (stE H q i) = stE H q i) := by
      rw [es]
      exact eq_of (by omega) (by omega)
    by_cases c : be H set (stE H q i) = stE H q i
    · rw [decide_eq_true c] at q1
      rw [decide_eq_true c, Bool.true_and] at hR2
      have hn := ih (i + 1) (by omega) hR2
      rw [← i32_succ] at hn
      exact xw_go (fun pc => pc == 2) 40 (fun K e => And.intro hxs.1 (And.intro (fun _ => e _ _ _ _ (kT_sort rfl hn)) (fun c => nomatch (q1.symm.trans c))))
    · rw [decide_eq_false c] at q1
      rw [decide_eq_false c, Bool.false_and] at hR2
      exact xw_go nostop 40 (fun K e => And.intro hxs.1 (And.intro (fun c => nomatch (q1.symm.trans c)) (fun _ => e _ _ _ _ (kT_end rfl rfl ⟨by rw [← hR2]; rfl, rfl⟩))))
theorem q_isRight (n1 : nmOk H.1) (hH : rW H s) (hx : hX H) {q : Nat} (hq : q < H.1.2.2.2.length) : mS nj_M nX0 L xs (d + 2) 240 [.ref 175, .int set, .int (Int32.ofNat q)] (rfS o 0 len sz lim X flt fat got lns crs b hh nms rsv s) (fun rv l => rv = some (.int (b01 (rt H set q))) ∧ l = (rfS o 0 len sz lim X flt fat got lns crs b hh nms rsv s)) := by
  refine mS_of rfl (fun h0 => ?_)
  have hl := ri_loop (L := L) (xs := xs) (d := d) (o := o) (len := len) (sz := sz) (lim := lim) (X := X) (flt := flt) (fat := fat) (got := got) (lns := lns) (crs := crs) (b := b) (hh := hh) (nms := nms) (rsv := rsv) (set := set) n1 hH hx hq (R := rt H set q) (h0 := h0) (lnE H q) 0 (by omega) rfl
  exact xw_go (fun pc => pc == 2) 20 (fun K e => e _ _ _ _ (kT_sort rfl hl))
set_option maxHeartbeats 4000000 in
theorem cr_in (n1 : nmOk H.1) (hH : rW H s) (hx : hX H) {q a : Nat} {w R0 : Int32} (hq : q < H.1.2.2.2.length) {R : Int32 ⊕ Nat} {h0 : List nC} (h1 : ∀ x, R = .inl x → x = R0) (h2 : ∀ f, R = .inr f → kT nj_M nX0 L xs (d + 3) nm_239 (mQ (rfS o thr len sz lim X flt fat got lns crs b hh nms rsv s) (fun rv l => rv = some (.int R0) ∧ l = (rfS o 0 len sz lim X flt fat got lns crs b hh nms rsv s)) h0) (hk (rfS o thr len sz lim X flt fat got lns crs b hh nms rsv s)) h0 120 [(0, .ref 175), (1, .int (Int32.ofNat q)), (2, .int w), (3, .int (Int32.ofNat f)), (4, .int (Int32.ofNat a)), (5, .int (Int32.ofNat H.1.2.2.1.length))] [] (rfS o 0 len sz lim X flt fat got lns crs b hh nms rsv s)) : ∀ (r c f : Nat), c + r = H.1.2.2.1.length → ciL H q w a r c f = R → kT nj_M nX0 L xs (d + 3) nm_239 (mQ (rfS o thr len sz lim X flt fat got lns crs b hh nms rsv s) (fun rv l => rv = some (.int R0) ∧ l = (rfS o 0 len sz lim X flt fat got lns crs b hh nms rsv s)) h0) (hk (rfS o thr len sz lim X flt fat got lns crs b hh nms rsv s)) h0 42 [(0, .ref 175), (1, .int (Int32.ofNat q)), (2, .int w), (3, .int (Int32.ofNat f)), (4, .int (Int32.ofNat a)), (5, .int (Int32.ofNat c))] [] (rfS o 0 len sz lim X flt fat got lns crs b hh nms rsv s) := by
  obtain ⟨⟨-, -, c2, -⟩, -⟩ := id hH
  obtain ⟨-, -, l3, -, -, -⟩ := id n1
  intro r
  induction r with
  | zero =>
    intro c f hb hR
    have e : c = H.1.2.2.1.length := by omega
    have hcmp : nj_cmp .ge (Int32.ofNat c) (s 2) = true := by
      rw [c2, (cmp_nat (by omega) (by omega)).1]
      exact decide_eq_true (by omega)
    rw [e] at hcmp ⊢
    exact xw_go (fun pc => pc == 120) 30 (fun K e => And.intro rfl (And.intro (fun _ => e _ _ _ _ (h2 f hR.symm)) (fun c => nomatch (hcmp.symm.trans c))))
  | succ r ih =>
    intro c f hb hR
    have hcmp : nj_cmp .ge (Int32.ofNat c) (s 2) = false := by
      rw [c2, (cmp_nat (by omega) (by omega)).1]
      exact decide_eq_false (by omega)
    have hR2 : (if cnB H q a c = true then (if Int32.ofNat f = w then .inl (Int32.ofNat (10 * a + c)) else ciL H q w a r (c + 1) (f + 1)) else ciL H q w a r (c + 1) f) = R := hR
    refine xw_go nostop 40 (fun K e => And.intro rfl (And.intro (fun c => nomatch (hcmp.symm.trans c)) (fun _ => e _ _ _ _ (kT_call rfl rfl rfl rfl (q_isRight (L := L) (xs := xs) (d := d) (o := o) (len := len) (sz := sz) (lim := lim) (X := X) (flt := flt) (fat := fat) (got := got) (lns := lns) (crs := crs) (b := b) (hh := hh) (nms := nms) (rsv := rsv) (set := b1 a ||| b1 c) n1 hH hx hq) ⟨rfl, rfl, rfl, rfl, rfl, rfl, trivial⟩ rfl rfl (fun rv l1 hP _ => ?_)))))
    obtain ⟨rfl, rfl⟩ := hP
    refine kT_pic (l2 := (rfS o 0 len sz lim X flt fat got lns crs b hh nms rsv s)) rfl ?_
    cases hac : rt H (b1 a ||| b1 c) q with
    | false =>
      rw [show cnB H q a c = false from by rw [cnB, hac, Bool.and_false], if_neg (by decide)] at hR2
      have hn := ih (c + 1) f (by omega) hR2
      rw [← i32_succ] at hn
      exact xw_go (fun pc => pc == 42) 30 (fun K e => And.intro (fun _ => e _ _ _ _ (kT_sort rfl hn)) (fun c => nomatch (show true = false from c)))
    | true =>
      refine xw_go nostop 40 (fun K e => And.intro (fun c => nomatch (show false = true from c)) (fun _ => e _ _ _ _ (kT_call rfl rfl rfl rfl (q_isRight (L := L) (xs := xs) (d := d) (o := o) (len := len) (sz := sz) (lim := lim) (X := X) (flt := flt) (fat := fat) (got := got) (lns := lns) (crs := crs) (b := b) (hh := hh) (nms := nms) (rsv := rsv) (set := b1 a) n1 hH hx hq) ⟨rfl, rfl, rfl, rfl, rfl, rfl, trivial⟩ rfl rfl (fun rv l1 hP _ => ?_))))
      obtain ⟨rfl, rfl⟩ := hP
      refine kT_pic (l2 := (rfS o 0 len sz lim X flt fat got lns crs b hh nms rsv s)) rfl ?_
      cases ha : rt H (b1 a) q with
      | false =>
        rw [show cnB H q a c = true from (by rw [cnB, ha, hac]; rfl), if_pos rfl] at hR2
        by_cases cf : Int32.ofNat f = w
        · rw [if_pos cf] at hR2
          have q1 : nj_cmp .ne (Int32.ofNat f) w = false := decide_eq_false (fun z => z cf)
          exact xw_go nostop 40 (fun K e => And.intro (fun _ => And.intro (fun c => nomatch (q1.symm.trans c)) (fun _ => e _ _ _ _ (kT_end rfl (ret_i _) ⟨by rw [← h1 _ hR2.symm, ← mul10]; rfl, rfl⟩))) (fun c => nomatch (show true = false from c)))
        · rw [if_neg cf] at hR2
          have q1 : nj_cmp .ne (Int32.ofNat f) w = true := decide_eq_true cf
          have hn := ih (c + 1) (f + 1) (by omega) hR2
          rw [← i32_succ, ← i32_succ] at hn
          exact xw_go (fun pc => pc == 42) 40 (fun K e => And.intro (fun _ => And.intro (fun _ => e _ _ _ _ (kT_sort rfl hn)) (fun c => nomatch (q1.symm.trans c))) (fun c => nomatch (show true = false from c)))
      | true =>
        refine xw_go nostop 40 (fun K e => And.intro (fun c => nomatch (show false = true from c)) (fun _ => e _ _ _ _ (kT_call rfl rfl rfl rfl (q_isRight (L := L) (xs := xs) (d := d) (o := o) (len := len) (sz := sz) (lim := lim) (X := X) (flt := flt) (fat := fat) (got := got) (lns := lns) (crs := crs) (b := b) (hh := hh) (nms := nms) (rsv := rsv) (set := b1 c) n1 hH hx hq) ⟨rfl, rfl, rfl, rfl, rfl, rfl, trivial⟩ rfl rfl (fun rv l1 hP _ => ?_))))
        obtain ⟨rfl, rfl⟩ := hP
        refine kT_pic (l2 := (rfS o 0 len sz lim X flt fat got lns crs b hh nms rsv s)) rfl ?_
        cases hc : rt H (b1 c) q with
        | false =>
          rw [show cnB H q a c = true from (by rw [cnB, ha, hc, hac]; rfl), if_pos rfl] at hR2
          by_cases cf : Int32.ofNat f = w
          · rw [if_pos cf] at hR2
            have q1 : nj_cmp .ne (Int32.ofNat f) w = false := decide_eq_false (fun z => z cf)
            exact xw_go nostop 40 (fun K e => And.intro (fun _ => And.intro (fun c => nomatch (q1.symm.trans c)) (fun _ => e _ _ _ _ (kT_end rfl (ret_i _) ⟨by rw [← h1 _ hR2.symm, ← mul10]; rfl, rfl⟩))) (fun c => nomatch (show true = false from c)))
          · rw [if_neg cf] at hR2
            have q1 : nj_cmp .ne (Int32.ofNat f) w = true := decide_eq_true cf
            have hn := ih (c + 1) (f + 1) (by omega) hR2
            rw [← i32_succ, ← i32_succ] at hn
            exact xw_go (fun pc => pc == 42) 40 (fun K e => And.intro (fun _ => And.intro (fun _ => e _ _ _ _ (kT_sort rfl hn)) (fun c => nomatch (q1.symm.trans c))) (fun c => nomatch (show true = false from c)))
        | true =>
          rw [show cnB H q a c = false from by rw [cnB, ha, hc]; rfl, if_neg (by decide)] at hR2
          have hn := ih (c + 1) f (by omega) hR2
          rw [← i32_succ] at hn
          exact xw_go (fun pc => pc == 42) 30 (fun K e => And.intro (fun c => nomatch (show false = true from c)) (fun _ => e _ _ _ _ (kT_sort rfl hn)))
theorem cr_end {q f a : Nat} {w R0 : Int32} {h0 : List nC} {tl : nLv} (htl : tl = [] ∨ ∃ z, tl = [(5, .int z)]) (hR : caE w (.inr f) = R0) : kT nj_M nX0 L xs (d + 3) nm_239 (mQ (rfS o thr len sz lim X flt fat got lns crs b hh nms rsv s) (fun rv l => rv = some (.int R0) ∧ l = (rfS o 0 len sz lim X flt fat got lns crs b hh nms rsv s)) h0) (hk (rfS o thr len sz lim X flt fat got lns crs b hh nms rsv s)) h0 126 ([(0, .ref 175), (1, .int (Int32.ofNat q)), (2, .int w), (3, .int (Int32.ofNat f)), (4, .int (Int32.ofNat a))] ++ tl) [] (rfS o 0 len sz lim X flt fat got lns crs b hh nms rsv s) := by
  have hR2 : (if w = Int32.ofInt (-1) then Int32.ofNat f else Int32.ofInt (-1)) = R0 := hR
  by_cases c : w = Int32.ofInt (-1)
  · rw [if_pos c] at hR2
    have q1 : nj_cmp .ne w (Int32.ofInt (-1)) = false := decide_eq_false (fun z => z c)
    rcases htl with rfl | ⟨z, rfl⟩
    · exact xw_go nostop 30 (fun K e => And.intro (fun c => nomatch (q1.symm.trans c)) (fun _ => e _ _ _ _ (kT_end rfl (ret_i _) ⟨by rw [← hR2], rfl⟩)))
    · exact xw_go nostop 30 (fun K e => And.intro (fun c => nomatch (q1.symm.trans c)) (fun _ => e _ _ _ _ (kT_end rfl (ret_i _) ⟨by rw [← hR2], rfl⟩)))
  · rw [if_neg c] at hR2
    have q1 : nj_cmp .ne w (Int32.ofInt (-1)) = true := decide_eq_true c
    rcases htl with rfl | ⟨z, rfl⟩
    · exact xw_go nostop 30 (fun K e => And.intro (fun _ => e _ _ _ _ (kT_end rfl rfl ⟨by rw [← hR2], rfl⟩)) (fun c => nomatch (q1.symm.trans c)))
    · exact xw_go nostop 30 (fun K e => And.intro (fun _ => e _ _ _ _ (kT_end rfl rfl ⟨by rw [← hR2], rfl⟩)) (fun c => nomatch (q1.symm.trans c)))
set_option maxHeartbeats 4000000 in
theorem cr_out (n1 : nmOk H.1) (hH : rW H s) (hx : hX H) {q : Nat} {w R0 : Int32} (hq : q < H.1.2.2.2.length) {h0 : List nC} : ∀ (r a f : Nat) (z : Int32), a + r = H.1.2.2.1.length → caE w (coL H q w r a f) = R0 → kT nj_M nX0 L xs (d + 3) nm_239 (mQ (rfS o thr len sz lim X flt fat got lns crs b hh nms rsv s) (fun rv l => rv = some (.int R0) ∧ l = (rfS o 0 len sz lim X flt fat got lns crs b hh nms rsv s)) h0) (hk (rfS o thr len sz lim X flt fat got lns crs b hh nms rsv s)) h0 25 [(0, .ref 175), (1, .int (Int32.ofNat q)), (2, .int w), (3, .int (Int32.ofNat f)), (4, .int (Int32.ofNat a)), (5, .int z)] [] (rfS o 0 len sz lim X flt fat got lns crs b hh nms rsv s) := by
  obtain ⟨⟨-, -, c2, -⟩, -⟩ := id hH
  obtain ⟨-, -, l3, -, -, -⟩ := id n1
  intro r
  induction r with
  | zero =>
    intro a f z ha hR
    have hcmp : nj_cmp .ge (Int32.ofNat a) (s 2) = true := by
      rw [c2, (cmp_nat (by omega) (by omega)).1]
      exact decide_eq_true (by omega)
    exact xw_go (fun pc => pc == 126) 30 (fun K e => And.intro rfl (And.intro (fun _ => e _ _ _ _ (cr_end (tl := [(5, .int z)]) (Or.inr ⟨z, rfl⟩) hR)) (fun c => nomatch (hcmp.symm.trans c))))
  | succ r ih =>
    intro a f z ha hR
    have hR2 : caE w (match ciL H q w a r (a + 1) f with
      | .inl x => .inl x
      | .inr f2 => coL H q w r (a + 1) f2) = R0 := hR
    have hcmp : nj_cmp .ge (Int32.ofNat a) (s 2) = false := by
      rw [c2, (cmp_nat (by omega) (by omega)).1]
      exact decide_eq_false (by omega)
    have hin := cr_in (L := L) (xs := xs) (d := d) (o := o) (thr := thr) (len := len) (sz := sz) (lim := lim) (X := X) (flt := flt) (fat := fat) (got := got) (lns := lns) (crs := crs) (b := b) (hh := hh) (nms := nms) (rsv := rsv) n1 hH hx (q := q) (a := a) (w := w) (R0 := R0) hq (R := ciL H q w a r (a + 1) f) (h0 := h0) (fun x e => by rw [e] at hR2; exact hR2) (fun f2 e => by
      rw [e] at hR2
      have hn := ih (a + 1) f2 (Int32.ofNat H.1.2.2.1.length) (by omega) hR2
      rw [← i32_succ] at hn
      exact xw_go (fun pc => pc == 25) 30 (fun K e => e _ _ _ _ (kT_sort rfl hn))) r (a + 1) f (by omega) rfl
    rw [← i32_succ a] at hin
    exact xw_go (fun pc => pc == 42) 40 (fun K e => And.intro rfl (And.intro (fun c => nomatch (hcmp.symm.trans c)) (fun _ => e _ _ _ _ (kT_sort rfl hin))))
set_option maxHeartbeats 4000000 in
theorem cr_first (n1 : nmOk H.1) (hH : rW H s) (hx : hX H) {q : Nat} {w R0 : Int32} (hq : q < H.1.2.2.2.length) {h0 : List nC} (r a f : Nat) (ha : a + (r + 1) = H.1.2.2.1.length) (hR : caE w (coL H q w (r + 1) a f) = R0) : kT nj_M nX0 L xs (d + 3) nm_239 (mQ (rfS o thr len sz lim X flt fat got lns crs b hh nms rsv s) (fun rv l => rv = some (.int R0) ∧ l = (rfS o 0 len sz lim X flt fat got lns crs b hh nms rsv s)) h0) (hk (rfS o thr len sz lim X flt fat got lns crs b hh nms rsv s)) h0 25 [(0, .ref 175), (1, .int (Int32.ofNat q)), (2, .int w), (3, .int (Int32.ofNat f)), (4, .int (Int32.ofNat a))] [] (rfS o 0 len sz lim X flt fat got lns crs b hh nms rsv s) := by
  obtain ⟨⟨-, -, c2, -⟩, -⟩ := id hH
  obtain ⟨-, -, l3, -, -, -⟩ := id n1
  have hR2 : caE w (match ciL H q w a r (a + 1) f with
    | .inl x => .inl x
    | .inr f2 => coL H q w r (a + 1) f2) = R0 := hR
  have hcmp : nj_cmp .ge (Int32.ofNat a) (s 2) = false := by
    rw [c2, (cmp_nat (by omega) (by omega)).1]
    exact decide_eq_false (by omega)
  have hin := cr_in (L := L) (xs := xs) (d := d) (o := o) (thr := thr) (len := len) (sz := sz) (lim := lim) (X := X) (flt := flt) (fat := fat) (got := got) (lns := lns) (crs := crs) (b := b) (hh := hh) (nms := nms) (rsv := rsv) n1 hH hx (q := q) (a := a) (w := w) (R0 := R0) hq (R := ciL H q w a r (a + 1) f) (h0 := h0) (fun x e => by rw [e] at hR2; exact hR2) (fun f2 e => by
    rw [e] at hR2
    have hn := cr_out (L := L) (xs := xs) (d := d) (o := o) (thr := thr) (len := len) (sz := sz) (lim := lim) (X := X) (flt := flt) (fat := fat) (got := got) (lns := lns) (crs := crs) (b := b) (hh := hh) (nms := nms) (rsv := rsv) n1 hH hx (q := q) (w := w) (R0 := R0) hq (h0 := h0) r (a + 1) f2 (Int32.ofNat H.1.2.2.1.length) (by omega) hR2
    rw [← i32_succ] at hn
    exact xw_go (fun pc => pc == 25) 30 (fun K e => e _ _ _ _ (kT_sort rfl hn))) r (a + 1) f (by omega) rfl
  rw [← i32_succ a] at hin
  exact xw_go (fun pc => pc == 42) 40 (fun K e => And.intro rfl (And.intro (fun c => nomatch (hcmp.symm.trans c)) (fun _ => e _ _ _ _ (kT_sort rfl hin))))
set_option maxHeartbeats 4000000 in
theorem q_cancel (n1 : nmOk H.1) (hH : rW H s) (hx : hX H) (v w : Int32) : mS nj_M nX0 L xs (d + 3) 239 [.ref 175, .int v, .int w] (rfS o thr len sz lim X flt fat got lns crs b hh nms rsv s) (fun rv l => rv = some (.int (caS H v w)) ∧ l = (rfS o 0 len sz lim X flt fat got lns crs b hh nms rsv s)) := by
  obtain ⟨⟨-, -, c2, c3⟩, -⟩ := id hH
  obtain ⟨-, -, l3, l4, -, -⟩ := id n1
  refine mS_of rfl (fun h0 => ?_)
  refine xw_go nostop 20 (fun K e => And.intro rfl (e _ _ _ _ (kT_call rfl rfl rfl rfl (q_isDeed (o := o) (thr := 0) (len := len) (sz := sz) (lim := lim) (X := X) (flt := flt) (fat := fat) (got := got) (lns := lns) (crs := crs) (b := b) (hh := hh) (nms := nms) (rsv := rsv) (s := s) (v := v) (n := H.1.2.2.2.length) (by omega) c3) ⟨rfl, rfl, rfl, rfl, rfl, rfl, trivial⟩ rfl rfl (fun rv l1 hP _ => ?_))))
  obtain ⟨rfl, rfl⟩ := hP
  refine kT_pic (l2 := (rfS o 0 len sz lim X flt fat got lns crs b hh nms rsv s)) rfl ?_
  by_cases hv : inN v H.1.2.2.2.length
  · rw [decide_eq_true hv]
    have h3 := hv.1
    have h4 := hv.2
    cases hkw : nj_cmp .ge w (Int32.ofInt (-1)) with
    | false => exact xw_go nostop 20 (fun K e => And.intro (fun c => nomatch (show false = true from c)) (fun _ => And.intro (fun c => nomatch (hkw.symm.trans c)) (fun _ => e _ _ _ _ (kT_end rfl rfl ⟨by rw [caS, if_neg (fun q => by rw [hkw] at q; exact nomatch q.2)], rfl⟩))))
    | true =>
      have hR0 : caS H v w = caE w (coL H v.toInt.toNat w H.1.2.2.1.length 0 0) := by rw [caS, if_pos ⟨hv, hkw⟩]
      generalize caS H v w = R0 at hR0 ⊢
      have ev := ofN_v hv
      generalize hqq : v.toInt.toNat = q at hR0 ev
      have hq : q < H.1.2.2.2.length := by omega
      subst ev
      suffices hm : kT nj_M nX0 L xs (d + 3) nm_239 (mQ (rfS o thr len sz lim X flt fat got lns crs b hh nms rsv s) (fun rv l => rv = some (.int R0) ∧ l = (rfS o 0 len sz lim X flt fat got lns crs b hh nms rsv s)) h0) (hk (rfS o thr len sz lim X flt fat got lns crs b hh nms rsv s)) h0 25 [(0, .ref 175), (1, .int (Int32.ofNat q)), (2, .int w), (3, .int (Int32.ofNat 0)), (4, .int (Int32.ofNat 0))] [] (rfS o 0 len sz lim X flt fat got lns crs b hh nms rsv s) from xw_go (fun pc => pc == 25) 30 (fun K e => And.intro (fun c => nomatch (show false = true from c)) (fun _ => And.intro (fun _ => e _ _ _ _ (kT_sort rfl hm)) (fun c => nomatch (hkw.symm.trans c))))
      cases hr : H.1.2.2.1.length with
      | zero =>
        have hcmp : nj_cmp .ge (Int32.ofNat 0) (s 2) = true := by
          rw [c2, (cmp_nat (by omega) (by omega)).1]
          exact decide_eq_true (by omega)
        exact xw_go (fun pc => pc == 126) 30 (fun K e => And.intro rfl (And.intro (fun _ => e _ _ _ _ (cr_end (a := 0) (f := 0) (tl := []) (Or.inl rfl) (by rw [hR0, hr]; rfl))) (fun c => nomatch (hcmp.symm.trans c))))
      | succ r => exact cr_first n1 hH hx hq r 0 0 (by omega) (by rw [hR0, hr])
  · rw [decide_eq_false hv]
    exact xw_go nostop 20 (fun K e => And.intro (fun _ => e _ _ _ _ (kT_end rfl rfl ⟨by rw [caS, if_neg (fun q => hv q.1)], rfl⟩)) (fun c => nomatch (show true = false from c)))
end CAN
