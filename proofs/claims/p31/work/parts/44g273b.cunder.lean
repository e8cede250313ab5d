/-! under, by the class -/
section UNC
variable {L : Nat} {xs : Nat → Int32} {d : Nat} {H : Hs} {y : Ho} {u : Nat → Value}
theorem eq_of {a b : Nat} (ha : a < 1000) (hb : b < 1000) : nj_cmp .eq (Int32.ofNat a) (Int32.ofNat b) = decide (a = b) := by
  unfold nj_cmp
  by_cases e : a = b
  · rw [e, decide_eq_true rfl, decide_eq_true rfl]
  · rw [decide_eq_false e]
    refine decide_eq_false (fun w => e ?_)
    have h := congrArg Int32.toInt w
    rw [i32_small (by omega), i32_small (by omega)] at h
    omega
theorem eq_m1 {a : Nat} (ha : a < 1000) : nj_cmp .eq (Int32.ofNat a) (Int32.ofInt (-1)) = false := decide_eq_false (ofN_ne ha)
theorem m1_eq {a : Nat} (ha : a < 1000) : nj_cmp .eq (Int32.ofInt (-1)) (Int32.ofNat a) = false := decide_eq_false (fun w => ofN_ne ha w.symm)
theorem inv_skip {p i : Nat} {x : Int32} (h1 : ∀ j, j < 32 → bt x j = (decide (j < i) && dn H p j)) (hd : dn H p i = false) : ∀ j, j < 32 → bt x j = (decide (j < i + 1) && dn H p j) := fun j hj => by
  rw [h1 j hj]
  by_cases e : j = i
  · rw [e, hd, Bool.and_false, Bool.and_false]
  · by_cases c : j < i
    · rw [decide_eq_true c, decide_eq_true (show j < i + 1 by omega)]
    · rw [decide_eq_false c, decide_eq_false (show ¬ j < i + 1 by omega)]
theorem inv_set {p i : Nat} {x : Int32} (hi : i < 31) (h1 : ∀ j, j < 32 → bt x j = (decide (j < i) && dn H p j)) (hd : dn H p i = true) : ∀ j, j < 32 → bt (x ||| (Int32.ofInt 1 <<< (Int32.ofNat i &&& 31))) j = (decide (j < i + 1) && dn H p j) := fun j hj => by
  rw [bt_or2 hi hj, h1 j hj]
  by_cases e : j = i
  · rw [e, hd, decide_eq_true rfl, decide_eq_true (show i < i + 1 by omega)]
    rfl
  · rw [decide_eq_false e, Bool.false_or]
    by_cases c : j < i
    · rw [decide_eq_true c, decide_eq_true (show j < i + 1 by omega)]
    · rw [decide_eq_false c, decide_eq_false (show ¬ j < i + 1 by omega)]
set_option maxHeartbeats 2000000 in
theorem un_loop (hH : hW H y) (hpo : parOk H) {p : Nat} (hp : p < H.1.2.1.length) {Q : Option Value → List nC → Prop} {ks : List Nat} {h0 : List nC} (hexit : ∀ x : Int32, (∀ j, j < 32 → bt x j = (decide (j < H.1.2.1.length) && dn H p j)) → kT nj_M nX0 L xs d nm_74 Q ks h0 62 [(0, .ref 7), (1, .int (Int32.ofNat p)), (2, .int x), (3, .int (Int32.ofNat H.1.2.1.length))] [] (hoQ y)) : ∀ (r i : Nat) (x : Int32), i + r = H.1.2.1.length → (∀ j, j < 32 → bt x j = (decide (j < i) && dn H p j)) → kT nj_M nX0 L xs d nm_74 Q ks h0 6 [(0, .ref 7), (1, .int (Int32.ofNat p)), (2, .int x), (3, .int (Int32.ofNat i))] [] (hoQ y) := by
  obtain ⟨n1, ⟨-, c1, -, -⟩, b3, -, -⟩ := id hH
  obtain ⟨-, l2, -, -, -, -⟩ := id n1
  intro r
  induction r with
  | zero =>
    intro i x hi h1
    have e : i = H.1.2.1.length := by omega
    have hcmp : nj_cmp .ge (Int32.ofNat i) (y.1 1) = true := by
      rw [c1, (cmp_nat (by omega) (by omega)).1]
      exact decide_eq_true (by omega)
    rw [e] at hcmp h1 ⊢
    exact xw_go (fun pc => pc == 62) 20 (fun K e => And.intro rfl (And.intro (fun _ => e _ _ _ _ (hexit x h1)) (fun c => nomatch (hcmp.symm.trans c))))
  | succ r ih =>
    intro i x hi h1
    have hin : i < H.1.2.1.length := by omega
    have hcmp : nj_cmp .ge (Int32.ofNat i) (y.1 1) = false := by
      rw [c1, (cmp_nat (by omega) (by omega)).1]
      exact decide_eq_false (by omega)
    have hx := ix_nat (i := i) (n := 10) (by omega) (by decide)
    have ep : y.2.2.2.1 (Int32.ofNat i).toNatClampNeg = oI (par H i) := by
      rw [hx.2]
      exact b3 i hin
    cases hpar : par H i with
    | none =>
      rw [hpar] at ep
      have hb := ih (i + 1) x (by omega) (inv_skip h1 (dn_none hpar))
      rw [← i32_succ] at hb
      have q1 : nj_cmp .eq (y.2.2.2.1 (Int32.ofNat i).toNatClampNeg) (Int32.ofNat p) = false := by rw [ep]; exact m1_eq (by omega)
      have q2 : nj_cmp .eq (y.2.2.2.1 (Int32.ofNat i).toNatClampNeg) (Int32.ofInt (-1)) = true := by rw [ep]; decide
      exact xw_go (fun pc => pc == 6) 60 (fun K e => And.intro rfl (And.intro (fun c => nomatch (hcmp.symm.trans c)) (fun _ => And.intro hx.1 (And.intro (fun c => nomatch (q1.symm.trans c)) (fun _ => And.intro hx.1 (And.intro (fun _ => e _ _ _ _ (kT_sort rfl hb)) (fun c => nomatch (q2.symm.trans c))))))))
    | some q =>
      rw [hpar] at ep
      have ep2 : y.2.2.2.1 (Int32.ofNat i).toNatClampNeg = Int32.ofNat q := ep
      have hq := hpo i hin q hpar
      have hdn := dn_some hpo (p := p) hin hpar
      have q1 : nj_cmp .eq (y.2.2.2.1 (Int32.ofNat i).toNatClampNeg) (Int32.ofNat p) = decide (q = p) := by rw [ep2]; exact eq_of (by omega) (by omega)
      have q2 : nj_cmp .eq (y.2.2.2.1 (Int32.ofNat i).toNatClampNeg) (Int32.ofInt (-1)) = false := by rw [ep2]; exact eq_m1 (by omega)
      have q3 : nj_cmp .ne ((x >>> (y.2.2.2.1 (Int32.ofNat i).toNatClampNeg &&& 31)) &&& Int32.ofInt 1) (Int32.ofInt 1) = !bt x q := by rw [ep2]; exact bt_c (by omega)
      by_cases c0 : q = p
      · rw [decide_eq_true c0] at q1 hdn
        have hb := ih (i + 1) _ (by omega) (inv_set (by omega) h1 (by rw [hdn]; rfl))
        rw [← i32_succ] at hb
        exact xw_go (fun pc => pc == 6) 60 (fun K e => And.intro rfl (And.intro (fun c => nomatch (hcmp.symm.trans c)) (fun _ => And.intro hx.1 (And.intro (fun _ => e _ _ _ _ (kT_sort rfl hb)) (fun c => nomatch (q1.symm.trans c))))))
      · rw [decide_eq_false c0] at q1 hdn
        rw [Bool.false_or] at hdn
        have hbq : bt x q = dn H p q := by rw [h1 q (by omega), decide_eq_true hq, Bool.true_and]
        rw [hbq, ← hdn] at q3
        cases hdi : dn H p i with
        | true =>
          rw [hdi] at q3
          have hb := ih (i + 1) _ (by omega) (inv_set (by omega) h1 hdi)
          rw [← i32_succ] at hb
          exact xw_go (fun pc => pc == 6) 60 (fun K e => And.intro rfl (And.intro (fun c => nomatch (hcmp.symm.trans c)) (fun _ => And.intro hx.1 (And.intro (fun c => nomatch (q1.symm.trans c)) (fun _ => And.intro hx.1 (And.intro (fun c => nomatch (q2.symm.trans c)) (fun _ => And.intro hx.1 (And.intro (fun c => nomatch (q3.symm.trans c)) (fun _ => e _ _ _ _ (kT_sort rfl hb))))))))))
        | false =>
          rw [hdi] at q3
          have hb := ih (i + 1) x (by omega) (inv_skip h1 hdi)
          rw [← i32_succ] at hb
          exact xw_go (fun pc => pc == 6) 60 (fun K e => And.intro rfl (And.intro (fun c => nomatch (hcmp.symm.trans c)) (fun _ => And.intro hx.1 (And.intro (fun c => nomatch (q1.symm.trans c)) (fun _ => And.intro hx.1 (And.intro (fun c => nomatch (q2.symm.trans c)) (fun _ => And.intro hx.1 (And.intro (fun _ => e _ _ _ _ (kT_sort rfl hb)) (fun c => nomatch (q3.symm.trans c))))))))))
theorem c_underOf (hH : hW H y) (hpo : parOk H) {p : Nat} (hp : p < H.1.2.1.length) : mS nj_M nX0 L xs d 74 [.ref 7, .int (Int32.ofNat p)] (hoQ y) (fun rv l => rv = some (.int (unB H p)) ∧ l = hoQ y) := by
  obtain ⟨n1, -⟩ := id hH
  obtain ⟨-, l2, -, -, -, -⟩ := id n1
  refine mS_of rfl (fun h0 => ?_)
  have hb := un_loop (L := L) (xs := xs) (d := d) hH hpo hp (Q := mQ (hoQ y) (fun rv l => rv = some (.int (unB H p)) ∧ l = hoQ y) h0) (ks := hk (hoQ y)) (h0 := h0) (fun x hx => xw_go nostop 10 (fun K e => e _ _ _ _ (kT_end rfl (ret_i _) ⟨by rw [unB_of l2 hx], rfl⟩))) (H.1.2.1.length - (p + 1)) (p + 1) (Int32.ofInt 0) (by omega) (fun j hj => by
    rw [bt_0]
    by_cases c : j < p + 1
    · cases e : dn H p j with
      | false => rw [Bool.and_false]
      | true => exact absurd (dn_gt hpo (j + 1) j (by omega) (by omega) e) (by omega)
    · rw [decide_eq_false c]; rfl)
  rw [← i32_succ] at hb
  exact xw_go (fun pc => pc == 6) 20 (fun K e => e _ _ _ _ (kT_sort rfl hb))
theorem ofN_v {v : Int32} {n : Nat} (hv : inN v n) : v = Int32.ofNat v.toInt.toNat := by
  have h1 := hv.1
  rw [← Int32.ofInt_eq_ofNat, Int.toNat_of_nonneg h1, Int32.ofInt_toInt]
theorem c_under (hH : hW H y) (hpo : parOk H) (v : Int32) : mS nj_M nX0 L xs (d + 1) 119 [.ref 0, .int v] (slI u ++ hoQ y) (fun rv l => rv = some (.int (unS H v)) ∧ l = slI u ++ hoQ y) := by
  obtain ⟨n1, ⟨-, c1, -, -⟩, -⟩ := id hH
  obtain ⟨-, l2, -, -, -, -⟩ := id n1
  refine mS_of rfl (fun h0 => ?_)
  refine xw_go nostop 20 (fun K e => e _ _ _ _ (kT_call rfl rfl rfl rfl (c_has1 (y := y) (v := v) (n := H.1.2.1.length) (by omega) c1) ⟨rfl, rfl, rfl, rfl, rfl, rfl, rfl, rfl, rfl, rfl, rfl, rfl, rfl, rfl, rfl, trivial⟩ rfl rfl (fun rv l1 hP _ => ?_)))
  obtain ⟨rfl, rfl⟩ := hP
  refine kT_pic (l2 := slI u ++ hoQ y) rfl ?_
  by_cases hv : inN v H.1.2.1.length
  · rw [decide_eq_true hv]
    have h1 := hv.1
    have h2 := hv.2
    have hk1 := c_underOf (L := L) (xs := xs) (d := d) hH hpo (p := v.toInt.toNat) (by omega)
    rw [← ofN_v hv] at hk1
    refine xw_go nostop 20 (fun K e => And.intro (fun c => nomatch (show false = true from c)) (fun _ => e _ _ _ _ (kT_call rfl rfl rfl rfl hk1 ⟨rfl, rfl, rfl, rfl, rfl, rfl, rfl, rfl, rfl, rfl, rfl, rfl, rfl, rfl, rfl, trivial⟩ rfl rfl (fun rv l1 hP _ => ?_))))
    obtain ⟨rfl, rfl⟩ := hP
    refine kT_pic (l2 := slI u ++ hoQ y) rfl ?_
    exact xw_go nostop 20 (fun K e => e _ _ _ _ (kT_end rfl (ret_i _) ⟨by rw [unS, if_pos hv], rfl⟩))
  · rw [decide_eq_false hv]
    exact xw_go nostop 20 (fun K e => And.intro (fun _ => e _ _ _ _ (kT_end rfl rfl ⟨by rw [unS, if_neg hv], rfl⟩)) (fun c => nomatch (show true = false from c)))
end UNC
