/-! common, on both sides -/
def coF (H : Hs) (b : Nat) : Nat → Nat → Int32
  | 0, _ => Int32.ofInt (-1)
  | f + 1, k => if (decide (k = b) || dn H k b) = true then Int32.ofNat k else match par H k with
    | none => Int32.ofInt (-1)
    | some q => coF H b f q
theorem coF_eq {H : Hs} (hp : parOk H) (b : Nat) : ∀ (f g k : Nat), k < f → k < g → k < H.1.2.1.length → coF H b f k = coF H b g k := by
  intro f
  induction f with
  | zero => intro g k h; exact absurd h (Nat.not_lt_zero _)
  | succ f ih =>
    intro g k hf hg hn
    cases g with
    | zero => exact absurd hg (Nat.not_lt_zero _)
    | succ g =>
      unfold coF
      cases e : par H k with
      | none => rfl
      | some q =>
        have hq := hp k hn q e
        dsimp only
        rw [ih g q (by omega) (by omega) (by omega)]
def cm (H : Hs) (b k : Nat) : Int32 := coF H b (k + 1) k
theorem cmm_h {H : Hs} {b k : Nat} (h : (decide (k = b) || dn H k b) = true) : cm H b k = Int32.ofNat k := by
  unfold cm coF
  rw [if_pos h]
theorem cmm_n {H : Hs} {b k : Nat} (h : (decide (k = b) || dn H k b) = false) (e : par H k = none) : cm H b k = Int32.ofInt (-1) := by
  unfold cm coF
  rw [h, if_neg (by decide), e]
theorem cmm_s {H : Hs} (hp : parOk H) {b k q : Nat} (hk : k < H.1.2.1.length) (h : (decide (k = b) || dn H k b) = false) (e : par H k = some q) : cm H b k = cm H b q := by
  have hq := hp k hk q e
  unfold cm
  rw [show coF H b (k + 1) k = coF H b k q from by rw [coF, h, if_neg (by decide), e], coF_eq hp b k (q + 1) q hq (by omega) (by omega)]
def coS (H : Hs) (v w : Int32) : Int32 := if inN v H.1.2.1.length ∧ inN w H.1.2.1.length then cm H w.toInt.toNat v.toInt.toNat else Int32.ofInt (-1)
section COM
variable {L : Nat} {xs : Nat → Int32} {d : Nat} {H : Hs} {y : Ho} {u : Nat → Value} {o : Nat → Value} {thr len sz lim : Int32} {X : Lx} {flt fat got lns crs : Int32} {b hh s : Nat → Int32} {nms rsv : Nat → Int64}
theorem co_out {h0 : List nC} {R0 va : Int32} {bb : Nat} (hR : Int32.ofInt (-1) = R0) {i : Nat} (hi : i ≤ 10) : kT nj_M nX0 L xs (d + 1) nm_120 (mQ (slI u ++ hoQ y) (fun rv l => rv = some (.int R0) ∧ l = (slI u ++ hoQ y)) h0) (hk (slI u ++ hoQ y)) h0 31 [(0, .ref 0), (1, .int va), (2, .int (Int32.ofNat bb)), (3, .int (Int32.ofInt (-1))), (4, .int (Int32.ofNat i))] [] (slI u ++ hoQ y) := by
  subst hR
  have hc := (cmp_nat (i := i) (j := 10) (by omega) (by omega)).1
  exact xw_go nostop 20 (fun K e => And.intro (fun _ => e _ _ _ _ (kT_end rfl rfl ⟨rfl, rfl⟩)) (fun _ => And.intro (fun _ => e _ _ _ _ (kT_end rfl rfl ⟨rfl, rfl⟩)) (fun c => nomatch (show true = false from c))))
set_option maxHeartbeats 4000000 in
theorem co_loop (hH : hW H y) (hpo : parOk H) {h0 : List nC} {R0 va : Int32} {bb : Nat} (hb : bb < H.1.2.1.length) : ∀ (m k i : Nat), k < m → k < H.1.2.1.length → k + i ≤ 9 → cm H bb k = R0 → kT nj_M nX0 L xs (d + 1) nm_120 (mQ (slI u ++ hoQ y) (fun rv l => rv = some (.int R0) ∧ l = (slI u ++ hoQ y)) h0) (hk (slI u ++ hoQ y)) h0 31 [(0, .ref 0), (1, .int va), (2, .int (Int32.ofNat bb)), (3, .int (Int32.ofNat k)), (4, .int (Int32.ofNat i))] [] (slI u ++ hoQ y) := by
  obtain ⟨n1, -, b3, -, -⟩ := id hH
  obtain ⟨-, l2, -, -, -, -⟩ := id n1
  intro m
  induction m with
  | zero => intro k i h; exact absurd h (Nat.not_lt_zero _)
  | succ m ih =>
    intro k i hm hk hki hR
    have q0 : nj_cmp .ge (Int32.ofNat i) (Int32.ofNat 10) = false := by
      rw [(cmp_nat (by omega) (by omega)).1]
      exact decide_eq_false (by omega)
    have q1 : nj_cmp .eq (Int32.ofNat k) (Int32.ofInt (-1)) = false := eq_m1 (by omega)
    have q2 : nj_cmp .eq (Int32.ofNat k) (Int32.ofNat bb) = decide (k = bb) := eq_of (by omega) (by omega)
    have hx := ix_nat (i := k) (n := 10) (by omega) (by decide)
    by_cases c0 : k = bb
    · rw [decide_eq_true c0] at q2
      have e := cmm_h (H := H) (b := bb) (k := k) (by rw [decide_eq_true c0]; rfl)
      exact xw_go nostop 30 (fun K e0 => And.intro (fun c => nomatch (q0.symm.trans c)) (fun _ => And.intro (fun c => nomatch (q1.symm.trans c)) (fun _ => And.intro (fun _ => e0 _ _ _ _ (kT_end rfl (ret_i _) ⟨by rw [← hR, e], rfl⟩)) (fun c => nomatch (q2.symm.trans c)))))
    · rw [decide_eq_false c0] at q2
      refine xw_go nostop 30 (fun K e => And.intro (fun c => nomatch (q0.symm.trans c)) (fun _ => And.intro (fun c => nomatch (q1.symm.trans c)) (fun _ => And.intro (fun c => nomatch (q2.symm.trans c)) (fun _ => e _ _ _ _ (kT_call rfl rfl rfl rfl (c_underOf hH hpo (p := k) hk) ⟨rfl, rfl, rfl, rfl, rfl, rfl, rfl, rfl, rfl, rfl, rfl, rfl, rfl, rfl, rfl, trivial⟩ rfl rfl (fun rv l1 hP _ => ?_))))))
      obtain ⟨rfl, rfl⟩ := hP
      refine kT_pic (l2 := (slI u ++ hoQ y)) rfl ?_
      have q3 : nj_cmp .ne ((unB H k >>> (Int32.ofNat bb &&& 31)) &&& Int32.ofInt 1) (Int32.ofInt 1) = !dn H k bb := by
        rw [bt_c (by omega), unB_bt l2 (by omega), decide_eq_true hb, Bool.true_and]
      cases hd : dn H k bb with
      | true =>
        rw [hd] at q3
        have e := cmm_h (H := H) (b := bb) (k := k) (by rw [hd, Bool.or_true])
        exact xw_go nostop 30 (fun K e0 => And.intro (fun c => nomatch (q3.symm.trans c)) (fun _ => e0 _ _ _ _ (kT_end rfl (ret_i _) ⟨by rw [← hR, e], rfl⟩)))
      | false =>
        rw [hd] at q3
        have hf : (decide (k = bb) || dn H k bb) = false := by rw [decide_eq_false c0, hd]; rfl
        have ep : y.2.2.2.1 (Int32.ofNat k).toNatClampNeg = oI (par H k) := by
          rw [hx.2]
          exact b3 k hk
        cases hpar : par H k with
        | none =>
          rw [hpar] at ep
          have hn := co_out (L := L) (xs := xs) (d := d) (y := y) (u := u) (h0 := h0) (va := va) (bb := bb) ((cmm_n hf hpar).symm.trans hR) (i := i + 1) (by omega)
          rw [← i32_succ, show Int32.ofInt (-1) = y.2.2.2.1 (Int32.ofNat k).toNatClampNeg from ep.symm] at hn
          exact xw_go (fun pc => pc == 31) 30 (fun K e => And.intro (fun _ => And.intro hx.1 (e _ _ _ _ (kT_sort rfl hn))) (fun c => nomatch (q3.symm.trans c)))
        | some q =>
          rw [hpar] at ep
          have hq := hpo k hk q hpar
          have hn := ih q (i + 1) (by omega) (by omega) (by omega) ((cmm_s hpo hk hf hpar).symm.trans hR)
          rw [← i32_succ, show Int32.ofNat q = y.2.2.2.1 (Int32.ofNat k).toNatClampNeg from ep.symm] at hn
          exact xw_go (fun pc => pc == 31) 30 (fun K e => And.intro (fun _ => And.intro hx.1 (e _ _ _ _ (kT_sort rfl hn))) (fun c => nomatch (q3.symm.trans c)))
theorem c_common (hH : hW H y) (hpo : parOk H) (v w : Int32) : mS nj_M nX0 L xs (d + 1) 120 [.ref 0, .int v, .int w] (slI u ++ hoQ y) (fun rv l => rv = some (.int (coS H v w)) ∧ l = (slI u ++ hoQ y)) := by
  obtain ⟨n1, ⟨-, c1, -, -⟩, -⟩ := id hH
  obtain ⟨-, l2, -, -, -, -⟩ := id n1
  refine mS_of rfl (fun h0 => ?_)
  refine xw_go nostop 20 (fun K e => e _ _ _ _ (kT_call rfl rfl rfl rfl (c_has1 (y := y) (v := v) (n := H.1.2.1.length) (by omega) c1) ⟨rfl, rfl, rfl, rfl, rfl, rfl, rfl, rfl, rfl, rfl, rfl, rfl, rfl, rfl, rfl, trivial⟩ rfl rfl (fun rv l1 hP _ => ?_)))
  obtain ⟨rfl, rfl⟩ := hP
  refine kT_pic (l2 := (slI u ++ hoQ y)) rfl ?_
  by_cases hv : inN v H.1.2.1.length
  · rw [decide_eq_true hv]
    refine xw_go nostop 20 (fun K e => And.intro (fun c => nomatch (show false = true from c)) (fun _ => e _ _ _ _ (kT_call rfl rfl rfl rfl (c_has1 (y := y) (v := w) (n := H.1.2.1.length) (by omega) c1) ⟨rfl, rfl, rfl, rfl, rfl, rfl, rfl, rfl, rfl, rfl, rfl, rfl, rfl, rfl, rfl, trivial⟩ rfl rfl (fun rv l1 hP _ => ?_))))
    obtain ⟨rfl, rfl⟩ := hP
    refine kT_pic (l2 := (slI u ++ hoQ y)) rfl ?_
    by_cases hw : inN w H.1.2.1.length
    · rw [decide_eq_true hw]
      have h1 := hv.1
      have h2 := hv.2
      have h3 := hw.1
      have h4 := hw.2
      have hl := co_loop (L := L) (xs := xs) (d := d) (u := u) hH hpo (h0 := h0) (va := v) (bb := w.toInt.toNat) (by omega) (v.toInt.toNat + 1) v.toInt.toNat 0 (by omega) (by omega) (by omega) (R0 := coS H v w) (by rw [coS, if_pos ⟨hv, hw⟩])
      rw [← ofN_v hv, ← ofN_v hw] at hl
      exact xw_go (fun pc => pc == 31) 20 (fun K e => And.intro (fun _ => e _ _ _ _ (kT_sort rfl hl)) (fun c => nomatch (show true = false from c)))
    · rw [decide_eq_false hw]
      exact xw_go nostop 20 (fun K e => And.intro (fun c => nomatch (show false = true from c)) (fun _ => e _ _ _ _ (kT_end rfl rfl ⟨by rw [coS, if_neg (fun q => hw q.2)], rfl⟩)))
  · rw [decide_eq_false hv]
    exact xw_go nostop 20 (fun K e => And.intro (fun _ => e _ _ _ _ (kT_end rfl rfl ⟨by rw [coS, if_neg (fun q => hv q.1)], rfl⟩)) (fun c => nomatch (show true = false from c)))
set_option maxHeartbeats 4000000 in
theorem cr_loop (n1 : nmOk H.1) (hH : rW H s) (hpo : parOk H) {h0 : List nC} {R0 va : Int32} {bb : Nat} (hb : bb < H.1.2.1.length) : ∀ (m k : Nat), k < m → k < H.1.2.1.length → cm H bb k = R0 → kT nj_M nX0 L xs (d + 2) nm_242 (mQ (rfS o thr len sz lim X flt fat got lns crs b hh nms rsv s) (fun rv l => rv = some (.int R0) ∧ l = (rfS o 0 len sz lim X flt fat got lns crs b hh nms rsv s)) h0) (hk (rfS o thr len sz lim X flt fat got lns crs b hh nms rsv s)) h0 25 [(0, .ref 175), (1, .int va), (2, .int (Int32.ofNat bb)), (3, .int (Int32.ofNat k))] [] (rfS o 0 len sz lim X flt fat got lns crs b hh nms rsv s) := by
  obtain ⟨-, b3, -, -⟩ := id hH
  obtain ⟨-, l2, -, -, -, -⟩ := id n1
  intro m
  induction m with
  | zero => intro k h; exact absurd h (Nat.not_lt_zero _)
  | succ m ih =>
    intro k hm hkn hR
    have q0 : nj_cmp .lt (Int32.ofNat k) 0 = false := decide_eq_false (fun w => by
      have h := Int32.lt_iff_toInt_lt.mp w
      rw [i32_small (by omega), show (0 : Int32).toInt = 0 from rfl] at h
      omega)
    have q2 : nj_cmp .eq (Int32.ofNat k) (Int32.ofNat bb) = decide (k = bb) := eq_of (by omega) (by omega)
    have hx := ix_s (k := 14) (c := k) (by omega)
    by_cases c0 : k = bb
    · rw [decide_eq_true c0] at q2
      have e := cmm_h (H := H) (b := bb) (k := k) (by rw [decide_eq_true c0]; rfl)
      exact xw_go nostop 30 (fun K e0 => And.intro (fun c => nomatch (q0.symm.trans c)) (fun _ => And.intro (fun _ => e0 _ _ _ _ (kT_end rfl (ret_i _) ⟨by rw [← hR, e], rfl⟩)) (fun c => nomatch (q2.symm.trans c))))
    · rw [decide_eq_false c0] at q2
      refine xw_go nostop 30 (fun K e => And.intro (fun c => nomatch (q0.symm.trans c)) (fun _ => And.intro (fun c => nomatch (q2.symm.trans c)) (fun _ => e _ _ _ _ (kT_call rfl rfl rfl rfl (q_underOf (o := o) (thr := 0) (len := len) (sz := sz) (lim := lim) (X := X) (flt := flt) (fat := fat) (got := got) (lns := lns) (crs := crs) (b := b) (hh := hh) (nms := nms) (rsv := rsv) n1 hH hpo (p := k) (by omega)) ⟨rfl, rfl, rfl, rfl, rfl, rfl, trivial⟩ rfl rfl (fun rv l1 hP _ => ?_)))))
      obtain ⟨rfl, rfl⟩ := hP
      refine kT_pic (l2 := (rfS o 0 len sz lim X flt fat got lns crs b hh nms rsv s)) rfl ?_
      refine xw_go nostop 20 (fun K e => e _ _ _ _ (kT_call rfl rfl rfl rfl (q_bitOf (i := bb) (by omega) (unB H k)) trivial rfl rfl (fun rv l1 hP _ => ?_)))
      obtain ⟨rfl, rfl⟩ := hP
      refine kT_pic (l2 := (rfS o 0 len sz lim X flt fat got lns crs b hh nms rsv s)) rfl ?_
      rw [show bt (unB H k) bb = dn H k bb from by rw [unB_bt l2 (by omega), decide_eq_true hb, Bool.true_and]]
      cases hd : dn H k bb with
      | true =>
        have e := cmm_h (H := H) (b := bb) (k := k) (by rw [hd, Bool.or_true])
        exact xw_go nostop 30 (fun K e0 => And.intro (fun c => nomatch (show false = true from c)) (fun _ => e0 _ _ _ _ (kT_end rfl (ret_i _) ⟨by rw [← hR, e], rfl⟩)))
      | false =>
        have hf : (decide (k = bb) || dn H k bb) = false := by rw [decide_eq_false c0, hd]; rfl
        have ep : s (Int32.ofNat 14 + Int32.ofNat k).toNatClampNeg = oP (par H k) := by
          rw [hx.2]
          exact b3 k hkn
        cases hpar : par H k with
        | none =>
          rw [hpar] at ep
          have ev : s (Int32.ofNat 14 + Int32.ofNat k).toNatClampNeg - Int32.ofInt 1 = Int32.ofInt (-1) := by rw [ep]; rfl
          have hn : kT nj_M nX0 L xs (d + 2) nm_242 (mQ (rfS o thr len sz lim X flt fat got lns crs b hh nms rsv s) (fun rv l => rv = some (.int R0) ∧ l = (rfS o 0 len sz lim X flt fat got lns crs b hh nms rsv s)) h0) (hk (rfS o thr len sz lim X flt fat got lns crs b hh nms rsv s)) h0 25 [(0, .ref 175), (1, .int va), (2, .int (Int32.ofNat bb)), (3, .int (Int32.ofInt (-1)))] [] (rfS o 0 len sz lim X flt fat got lns crs b hh nms rsv s) := xw_go nostop 20 (fun K e => And.intro (fun _ => e _ _ _ _ (kT_end rfl rfl ⟨by rw [← hR, cmm_n hf hpar], rfl⟩)) (fun c => nomatch (show true = false from c)))
          rw [← ev] at hn
          exact xw_go (fun pc => pc == 25) 30 (fun K e => And.intro (fun _ => And.intro hx.1 (e _ _ _ _ (kT_sort rfl hn))) (fun c => nomatch (show true = false from c)))
        | some q =>
          rw [hpar] at ep
          have hq := hpo k hkn q hpar
          have ev : s (Int32.ofNat 14 + Int32.ofNat k).toNatClampNeg - Int32.ofInt 1 = Int32.ofNat q := by
            rw [ep, show oP (some q) = Int32.ofNat (q + 1) from rfl, ← i32_succ, Int32.add_sub_cancel]
          have hn := ih q (by omega) (by omega) ((cmm_s hpo hkn hf hpar).symm.trans hR)
          rw [← ev] at hn
          exact xw_go (fun pc => pc == 25) 30 (fun K e => And.intro (fun _ => And.intro hx.1 (e _ _ _ _ (kT_sort rfl hn))) (fun c => nomatch (show true = false from c)))
theorem q_common (n1 : nmOk H.1) (hH : rW H s) (hpo : parOk H) (v w : Int32) : mS nj_M nX0 L xs (d + 2) 242 [.ref 175, .int v, .int w] (rfS o thr len sz lim X flt fat got lns crs b hh nms rsv s) (fun rv l => rv = some (.int (coS H v w)) ∧ l = (rfS o 0 len sz lim X flt fat got lns crs b hh nms rsv s)) := by
  obtain ⟨⟨-, c1, -, -⟩, -⟩ := id hH
  obtain ⟨-, l2, -, -, -, -⟩ := id n1
  refine mS_of rfl (fun h0 => ?_)
  refine xw_go nostop 20 (fun K e => And.intro rfl (e _ _ _ _ (kT_call rfl rfl rfl rfl (q_isPerson (o := o) (thr := 0) (len := len) (sz := sz) (lim := lim) (X := X) (flt := flt) (fat := fat) (got := got) (lns := lns) (crs := crs) (b := b) (hh := hh) (nms := nms) (rsv := rsv) (s := s) (v := v) (n := H.1.2.1.length) (by omega) c1) ⟨rfl, rfl, rfl, rfl, rfl, rfl, trivial⟩ rfl rfl (fun rv l1 hP _ => ?_))))
  obtain ⟨rfl, rfl⟩ := hP
  refine kT_pic (l2 := (rfS o 0 len sz lim X flt fat got lns crs b hh nms rsv s)) rfl ?_
  by_cases hv : inN v H.1.2.1.length
  · rw [decide_eq_true hv]
    refine xw_go nostop 20 (fun K e => And.intro (fun c => nomatch (show false = true from c)) (fun _ => e _ _ _ _ (kT_call rfl rfl rfl rfl (q_isPerson (o := o) (thr := 0) (len := len) (sz := sz) (lim := lim) (X := X) (flt := flt) (fat := fat) (got := got) (lns := lns) (crs := crs) (b := b) (hh := hh) (nms := nms) (rsv := rsv) (s := s) (v := w) (n := H.1.2.1.length) (by omega) c1) ⟨rfl, rfl, rfl, rfl, rfl, rfl, trivial⟩ rfl rfl (fun rv l1 hP _ => ?_))))
    obtain ⟨rfl, rfl⟩ := hP
    refine kT_pic (l2 := (rfS o 0 len sz lim X flt fat got lns crs b hh nms rsv s)) rfl ?_
    by_cases hw : inN w H.1.2.1.length
    · rw [decide_eq_true hw]
      have h1 := hv.1
      have h2 := hv.2
      have h3 := hw.1
      have h4 := hw.2
      have hl := cr_loop (L := L) (xs := xs) (d := d) (o := o) (thr := thr) (len := len) (sz := sz) (lim := lim) (X := X) (flt := flt) (fat := fat) (got := got) (lns := lns) (crs := crs) (b := b) (hh := hh) (nms := nms) (rsv := rsv) n1 hH hpo (h0 := h0) (va := v) (bb := w.toInt.toNat) (by omega) (v.toInt.toNat + 1) v.toInt.toNat (by omega) (by omega) (R0 := coS H v w) (by rw [coS, if_pos ⟨hv, hw⟩])
      rw [← ofN_v hv, ← ofN_v hw] at hl
      exact xw_go (fun pc => pc == 25) 20 (fun K e => And.intro (fun _ => e _ _ _ _ (kT_sort rfl hl)) (fun c => nomatch (show true = false from c)))
    · rw [decide_eq_false hw]
      exact xw_go nostop 20 (fun K e => And.intro (fun c => nomatch (show false = true from c)) (fun _ => e _ _ _ _ (kT_end rfl rfl ⟨by rw [coS, if_neg (fun q => hw q.2)], rfl⟩)))
  · rw [decide_eq_false hv]
    exact xw_go nostop 20 (fun K e => And.intro (fun _ => e _ _ _ _ (kT_end rfl rfl ⟨by rw [coS, if_neg (fun q => hv q.1)], rfl⟩)) (fun c => nomatch (show true = false from c)))
end COM
