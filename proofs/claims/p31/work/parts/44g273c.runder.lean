/-! under, by the reference -/
section UNR
variable {L : Nat} {xs : Nat → Int32} {d : Nat} {H : Hs} {o : Nat → Value} {thr len sz lim : Int32} {X : Lx} {flt fat got lns crs : Int32} {b hh s : Nat → Int32} {nms rsv : Nat → Int64}
def chF2 (H : Hs) (p j : Nat) : Bool := decide (par H j = some p)
def chB (H : Hs) (p : Nat) : Int32 := mkB (chF2 H p) H.1.2.1.length
theorem chB_bt (hn : H.1.2.1.length ≤ 10) {p j : Nat} (hj : j < 32) : bt (chB H p) j = (decide (j < H.1.2.1.length) && chF2 H p j) := by
  unfold chB
  rw [mkB_bt _ _ _ (by omega) hj]
theorem ch_par (hH : rW H s) (hl : H.1.2.1.length ≤ 10) (hpo : parOk H) {p i : Nat} (hp : p < 10) (hi : i < H.1.2.1.length) : nj_cmp .ne (s (14 + i)) (Int32.ofNat (p + 1)) = !chF2 H p i := by
  rw [hH.2.1 i hi]
  unfold chF2
  cases e : H.2.1.2.1.getD i none with
  | none =>
    rw [show par H i = none from e]
    exact decide_eq_true (fun w => by
      have h := congrArg Int32.toInt w
      rw [show (oP none).toInt = 0 from rfl, i32_small (by omega)] at h
      omega)
  | some q =>
    have hq := hpo i hi q e
    rw [show par H i = some q from e]
    by_cases c : q = p
    · rw [c, decide_eq_true rfl]
      exact decide_eq_false (fun w => w rfl)
    · rw [decide_eq_false (fun w => c (Option.some.inj w))]
      exact decide_eq_true (fun w => by
        have h := congrArg Int32.toInt w
        rw [show oP (some q) = Int32.ofNat (q + 1) from rfl, i32_small (by omega), i32_small (by omega)] at h
        omega)
theorem mk_step {f : Nat → Bool} {n i : Nat} {x : Int32} (hi : i < 31) (h1 : ∀ j, j < 32 → bt x j = (decide (j < i) && f j)) : ∀ j, j < 32 → bt (x ||| (if f i = true then Int32.ofInt 1 <<< (Int32.ofNat i &&& 31) else Int32.ofInt 0)) j = (decide (j < i + 1) && f j) := fun j hj => by
  by_cases c : f i = true
  · rw [if_pos c, bt_or2 hi hj, h1 j hj]
    by_cases e : j = i
    · rw [e, c, decide_eq_true rfl, decide_eq_true (show i < i + 1 by omega)]
      rfl
    · rw [decide_eq_false e, Bool.false_or]
      by_cases c2 : j < i
      · rw [decide_eq_true c2, decide_eq_true (show j < i + 1 by omega)]
      · rw [decide_eq_false c2, decide_eq_false (show ¬ j < i + 1 by omega)]
  · have c3 : f i = false := by simpa using c
    rw [if_neg c, bt_oo, bt_0, Bool.or_false, h1 j hj]
    by_cases e : j = i
    · rw [e, c3, Bool.and_false, Bool.and_false]
    · by_cases c2 : j < i
      · rw [decide_eq_true c2, decide_eq_true (show j < i + 1 by omega)]
      · rw [decide_eq_false c2, decide_eq_false (show ¬ j < i + 1 by omega)]
set_option maxHeartbeats 2000000 in
theorem ch_loop (n1 : nmOk H.1) (hH : rW H s) (hpo : parOk H) {p : Nat} (hp : p < 10) {Q : Option Value → List nC → Prop} {ks : List Nat} {h0 : List nC} (hexit : ∀ x : Int32, (∀ j, j < 32 → bt x j = (decide (j < H.1.2.1.length) && chF2 H p j)) → kT nj_M nX0 L xs d nm_191 Q ks h0 45 [(0, .ref 175), (1, .int (Int32.ofNat p)), (2, .int x), (3, .int (Int32.ofNat H.1.2.1.length))] [] (rfS o thr len sz lim X flt fat got lns crs b hh nms rsv s)) : ∀ (r i : Nat) (x : Int32), i + r = H.1.2.1.length → (∀ j, j < 32 → bt x j = (decide (j < i) && chF2 H p j)) → kT nj_M nX0 L xs d nm_191 Q ks h0 4 [(0, .ref 175), (1, .int (Int32.ofNat p)), (2, .int x), (3, .int (Int32.ofNat i))] [] (rfS o thr len sz lim X flt fat got lns crs b hh nms rsv s) := by
  obtain ⟨⟨-, c1, -, -⟩, -⟩ := id hH
  obtain ⟨-, l2, -, -, -, -⟩ := id n1
  intro r
  induction r with
  | zero =>
    intro i x hi h1
    have e : i = H.1.2.1.length := by omega
    have hcmp : nj_cmp .ge (Int32.ofNat i) (s 1) = true := by
      rw [c1, (cmp_nat (by omega) (by omega)).1]
      exact decide_eq_true (by omega)
    rw [e] at hcmp h1 ⊢
    exact xw_go (fun pc => pc == 45) 20 (fun K e => And.intro rfl (And.intro (fun _ => e _ _ _ _ (hexit x h1)) (fun c => nomatch (hcmp.symm.trans c))))
  | succ r ih =>
    intro i x hi h1
    have hin : i < H.1.2.1.length := by omega
    have hcmp : nj_cmp .ge (Int32.ofNat i) (s 1) = false := by
      rw [c1, (cmp_nat (by omega) (by omega)).1]
      exact decide_eq_false (by omega)
    have hx := ix_s (k := 14) (c := i) (by omega)
    have q1 : nj_cmp .ne (s (Int32.ofNat 14 + Int32.ofNat i).toNatClampNeg) (Int32.ofNat p + Int32.ofInt 1) = !chF2 H p i := by
      rw [hx.2, i32_succ]
      exact ch_par hH l2 hpo hp hin
    have hb := ih (i + 1) _ (by omega) (mk_step (f := chF2 H p) (n := 0) (by omega) h1)
    rw [← i32_succ] at hb
    cases hc : chF2 H p i with
    | true =>
      rw [hc] at q1
      rw [hc, if_pos rfl] at hb
      exact xw_go (fun pc => pc == 4) 60 (fun K e => And.intro rfl (And.intro (fun c => nomatch (hcmp.symm.trans c)) (fun _ => And.intro hx.1 (And.intro (fun c => nomatch (q1.symm.trans c)) (fun _ => e _ _ _ _ (kT_sort rfl hb))))))
    | false =>
      rw [hc] at q1
      rw [hc, if_neg (by decide)] at hb
      exact xw_go (fun pc => pc == 4) 60 (fun K e => And.intro rfl (And.intro (fun c => nomatch (hcmp.symm.trans c)) (fun _ => And.intro hx.1 (And.intro (fun _ => e _ _ _ _ (kT_sort rfl hb)) (fun c => nomatch (q1.symm.trans c))))))
theorem q_children (n1 : nmOk H.1) (hH : rW H s) (hpo : parOk H) {p : Nat} (hp : p < 10) : mS nj_M nX0 L xs d 191 [.ref 175, .int (Int32.ofNat p)] (rfS o thr len sz lim X flt fat got lns crs b hh nms rsv s) (fun rv l => rv = some (.int (chB H p)) ∧ l = (rfS o thr len sz lim X flt fat got lns crs b hh nms rsv s)) := by
  obtain ⟨-, l2, -, -, -, -⟩ := id n1
  refine mS_of rfl (fun h0 => ?_)
  have hb := ch_loop (L := L) (xs := xs) (d := d) (o := o) (thr := thr) (len := len) (sz := sz) (lim := lim) (X := X) (flt := flt) (fat := fat) (got := got) (lns := lns) (crs := crs) (b := b) (hh := hh) (nms := nms) (rsv := rsv) n1 hH hpo hp (Q := mQ (rfS o thr len sz lim X flt fat got lns crs b hh nms rsv s) (fun rv l => rv = some (.int (chB H p)) ∧ l = (rfS o thr len sz lim X flt fat got lns crs b hh nms rsv s)) h0) (ks := hk (rfS o thr len sz lim X flt fat got lns crs b hh nms rsv s)) (h0 := h0) (fun x hx => xw_go nostop 10 (fun K e => e _ _ _ _ (kT_end rfl (ret_i _) ⟨by rw [show x = chB H p from bt_ext (fun j hj => (hx j hj).trans (chB_bt l2 hj).symm)], rfl⟩))) H.1.2.1.length 0 (Int32.ofInt 0) (by omega) (fun j hj => by rw [bt_0]; rfl)
  exact xw_go (fun pc => pc == 4) 20 (fun K e => e _ _ _ _ (kT_sort rfl hb))
/-- what holds between rounds of the closing -/
def clA (H : Hs) (p : Nat) (x : Int32) : Prop := (∀ j, j < 32 → bt x j = true → j < H.1.2.1.length ∧ dn H p j = true) ∧ ∀ j, j < H.1.2.1.length → par H j = some p → bt x j = true
def clC (H : Hs) (p i : Nat) (x : Int32) : Prop := ∀ j, j < H.1.2.1.length → ∀ q, par H j = some q → q < i → dn H p q = true → bt x j = true
theorem cl_at {p i j : Nat} {x : Int32} (hpo : parOk H) (a : clA H p x) (c : clC H p i x) (hj : j < H.1.2.1.length) (hji : j ≤ i) (hd : dn H p j = true) : bt x j = true := by
  cases e : par H j with
  | none => rw [dn_none e] at hd; cases hd
  | some q =>
    have hq := hpo j hj q e
    rw [dn_some hpo hj e, Bool.or_eq_true] at hd
    rcases hd with hd | hd
    · exact a.2 j hj (by rw [e, of_decide_eq_true hd])
    · exact c j hj q e (by omega) hd
theorem cl_set {p i : Nat} {x : Int32} (l2 : H.1.2.1.length ≤ 10) (hpo : parOk H) (a : clA H p x) (c : clC H p i x) (hi : i < H.1.2.1.length) (hb : bt x i = true) : clA H p (x ||| chB H i) ∧ clC H p (i + 1) (x ||| chB H i) := by
  have hd := (a.1 i (by omega) hb).2
  refine ⟨⟨fun j hj h => ?_, fun j hj h => ?_⟩, fun j hj q e hq h => ?_⟩
  · rw [bt_oo, Bool.or_eq_true] at h
    rcases h with h | h
    · exact a.1 j hj h
    · rw [chB_bt l2 hj, Bool.and_eq_true] at h
      have hjn := of_decide_eq_true h.1
      have e : par H j = some i := of_decide_eq_true h.2
      refine ⟨hjn, ?_⟩
      rw [dn_some hpo hjn e, hd, Bool.or_true]
  · rw [bt_oo, a.2 j hj h, Bool.true_or]
  · rw [bt_oo]
    by_cases e2 : q = i
    · rw [chB_bt l2 (by omega), decide_eq_true hj, show chF2 H i j = true from decide_eq_true (by rw [e, e2])]
      simp
    · rw [c j hj q e (by omega) h, Bool.true_or]
theorem cl_skip {p i : Nat} {x : Int32} (hpo : parOk H) (a : clA H p x) (c : clC H p i x) (hi : i < H.1.2.1.length) (hb : bt x i = false) : clC H p (i + 1) x := fun j hj q e hq h => by
  by_cases e2 : q = i
  · subst e2
    have := cl_at hpo a c hi (Nat.le_refl _) h
    rw [hb] at this
    cases this
  · exact c j hj q e (by omega) h
theorem cl_end {p : Nat} {x : Int32} (l2 : H.1.2.1.length ≤ 10) (hpo : parOk H) (a : clA H p x) (c : clC H p H.1.2.1.length x) : x = unB H p := unB_of l2 (fun j hj => by
  by_cases hn : j < H.1.2.1.length
  · rw [decide_eq_true hn, Bool.true_and]
    cases hd : dn H p j with
    | true => exact cl_at hpo a c hn (by omega) hd
    | false =>
      cases hb : bt x j with
      | false => rfl
      | true =>
        have := (a.1 j hj hb).2
        rw [hd] at this
        cases this
  · rw [decide_eq_false hn, Bool.false_and]
    cases hb : bt x j with
    | false => rfl
    | true => exact absurd (a.1 j hj hb).1 hn)
theorem cl_un {p : Nat} (l2 : H.1.2.1.length ≤ 10) (hpo : parOk H) : clA H p (unB H p) := by
  refine ⟨fun j hj h => ?_, fun j hj h => ?_⟩
  · rw [unB_bt l2 hj, Bool.and_eq_true] at h
    exact ⟨of_decide_eq_true h.1, h.2⟩
  · rw [unB_bt l2 (by omega), decide_eq_true hj, dn_some hpo hj h]
    simp
theorem cl_ch {p : Nat} (l2 : H.1.2.1.length ≤ 10) (hpo : parOk H) : clA H p (chB H p) := by
  refine ⟨fun j hj h => ?_, fun j hj h => ?_⟩
  · rw [chB_bt l2 hj, Bool.and_eq_true] at h
    have hjn := of_decide_eq_true h.1
    refine ⟨hjn, ?_⟩
    rw [dn_some hpo hjn (of_decide_eq_true h.2)]
    simp
  · rw [chB_bt l2 (by omega), decide_eq_true hj, show chF2 H p j = true from decide_eq_true h]
    rfl
set_option maxHeartbeats 4000000 in
theorem ui_loop (n1 : nmOk H.1) (hH : rW H s) (hpo : parOk H) {p : Nat} {rr : Int32} {Q : Option Value → List nC → Prop} {ks : List Nat} {h0 : List nC} (hks : ks = hk (rfS o thr len sz lim X flt fat got lns crs b hh nms rsv s)) (hexit : kT nj_M nX0 L xs (d + 1) nm_208 Q ks h0 52 [(0, .ref 175), (1, .int (Int32.ofNat p)), (2, .int (unB H p)), (3, .int rr), (4, .int (Int32.ofNat H.1.2.1.length))] [] (rfS o thr len sz lim X flt fat got lns crs b hh nms rsv s)) : ∀ (r i : Nat) (x : Int32), i + r = H.1.2.1.length → clA H p x → clC H p i x → kT nj_M nX0 L xs (d + 1) nm_208 Q ks h0 17 [(0, .ref 175), (1, .int (Int32.ofNat p)), (2, .int x), (3, .int rr), (4, .int (Int32.ofNat i))] [] (rfS o thr len sz lim X flt fat got lns crs b hh nms rsv s) := by
  obtain ⟨⟨-, c1, -, -⟩, -⟩ := id hH
  obtain ⟨-, l2, -, -, -, -⟩ := id n1
  subst hks
  intro r
  induction r with
  | zero =>
    intro i x hi h1 h2
    have e : i = H.1.2.1.length := by omega
    have hcmp : nj_cmp .ge (Int32.ofNat i) (s 1) = true := by
      rw [c1, (cmp_nat (by omega) (by omega)).1]
      exact decide_eq_true (by omega)
    rw [e] at hcmp h2 ⊢
    rw [cl_end l2 hpo h1 h2]
    exact xw_go (fun pc => pc == 52) 20 (fun K e => And.intro rfl (And.intro (fun _ => e _ _ _ _ hexit) (fun c => nomatch (hcmp.symm.trans c))))
  | succ r ih =>
    intro i x hi h1 h2
    have hin : i < H.1.2.1.length := by omega
    have hcmp : nj_cmp .ge (Int32.ofNat i) (s 1) = false := by
      rw [c1, (cmp_nat (by omega) (by omega)).1]
      exact decide_eq_false (by omega)
    refine xw_go nostop 20 (fun K e => And.intro rfl (And.intro (fun c => nomatch (hcmp.symm.trans c)) (fun _ => e _ _ _ _ (kT_call rfl rfl rfl rfl (q_bitOf (i := i) (by omega) x) trivial rfl rfl (fun rv l1 hP _ => ?_)))))
    obtain ⟨rfl, rfl⟩ := hP
    refine kT_pic (l2 := (rfS o thr len sz lim X flt fat got lns crs b hh nms rsv s)) rfl ?_
    cases hb : bt x i with
    | true =>
      have k := cl_set l2 hpo h1 h2 hin hb
      have hn := ih (i + 1) _ (by omega) k.1 k.2
      rw [← i32_succ] at hn
      refine xw_go nostop 20 (fun K e => And.intro (fun c => nomatch (show false = true from c)) (fun _ => e _ _ _ _ (kT_call rfl rfl rfl rfl (q_children (o := o) (thr := thr) (len := len) (sz := sz) (lim := lim) (X := X) (flt := flt) (fat := fat) (got := got) (lns := lns) (crs := crs) (b := b) (hh := hh) (nms := nms) (rsv := rsv) n1 hH hpo (p := i) (by omega)) ⟨rfl, rfl, rfl, rfl, rfl, rfl, trivial⟩ rfl rfl (fun rv l1 hP _ => ?_))))
      obtain ⟨rfl, rfl⟩ := hP
      refine kT_pic (l2 := (rfS o thr len sz lim X flt fat got lns crs b hh nms rsv s)) rfl ?_
      exact xw_go (fun pc => pc == 17) 20 (fun K e => e _ _ _ _ (kT_sort rfl hn))
    | false =>
      have hn := ih (i + 1) x (by omega) h1 (cl_skip hpo h1 h2 hin hb)
      rw [← i32_succ] at hn
      exact xw_go (fun pc => pc == 17) 20 (fun K e => And.intro (fun _ => e _ _ _ _ (kT_sort rfl hn)) (fun c => nomatch (show true = false from c)))
set_option maxHeartbeats 4000000 in
theorem uo_loop (n1 : nmOk H.1) (hH : rW H s) (hpo : parOk H) {p : Nat} {Q : Option Value → List nC → Prop} {h0 : List nC} (hexit : kT nj_M nX0 L xs (d + 1) nm_208 Q (hk (rfS o thr len sz lim X flt fat got lns crs b hh nms rsv s)) h0 58 [(0, .ref 175), (1, .int (Int32.ofNat p)), (2, .int (unB H p)), (3, .int (Int32.ofNat 10)), (4, .int (Int32.ofNat H.1.2.1.length))] [] (rfS o thr len sz lim X flt fat got lns crs b hh nms rsv s)) : ∀ (r i : Nat), i + r = 10 → kT nj_M nX0 L xs (d + 1) nm_208 Q (hk (rfS o thr len sz lim X flt fat got lns crs b hh nms rsv s)) h0 8 [(0, .ref 175), (1, .int (Int32.ofNat p)), (2, .int (unB H p)), (3, .int (Int32.ofNat i)), (4, .int (Int32.ofNat H.1.2.1.length))] [] (rfS o thr len sz lim X flt fat got lns crs b hh nms rsv s) := by
  obtain ⟨-, l2, -, -, -, -⟩ := id n1
  intro r
  induction r with
  | zero =>
    intro i hi
    have e : i = 10 := by omega
    subst e
    exact xw_go (fun pc => pc == 58) 20 (fun K e => And.intro (fun _ => e _ _ _ _ hexit) (fun c => nomatch (show true = false from c)))
  | succ r ih =>
    intro i hi
    have hcmp : nj_cmp .ge (Int32.ofNat i) (Int32.ofNat 10) = false := by
      rw [(cmp_nat (by omega) (by omega)).1]
      exact decide_eq_false (by omega)
    have hn := ih (i + 1) (by omega)
    rw [← i32_succ] at hn
    have hl := ui_loop (L := L) (xs := xs) (d := d) (o := o) (thr := thr) (len := len) (sz := sz) (lim := lim) (X := X) (flt := flt) (fat := fat) (got := got) (lns := lns) (crs := crs) (b := b) (hh := hh) (nms := nms) (rsv := rsv) n1 hH hpo (p := p) (rr := Int32.ofNat i) (Q := Q) (h0 := h0) rfl (xw_go (fun pc => pc == 8) 20 (fun K e => e _ _ _ _ (kT_sort rfl hn))) H.1.2.1.length 0 (unB H p) (by omega) (cl_un l2 hpo) (fun j hj q e hq h => absurd hq (Nat.not_lt_zero _))
    exact xw_go (fun pc => pc == 17) 20 (fun K e => And.intro (fun c => nomatch (hcmp.symm.trans c)) (fun _ => e _ _ _ _ (kT_sort rfl hl)))
theorem q_underOf (n1 : nmOk H.1) (hH : rW H s) (hpo : parOk H) {p : Nat} (hp : p < 10) : mS nj_M nX0 L xs (d + 1) 208 [.ref 175, .int (Int32.ofNat p)] (rfS o thr len sz lim X flt fat got lns crs b hh nms rsv s) (fun rv l => rv = some (.int (unB H p)) ∧ l = (rfS o thr len sz lim X flt fat got lns crs b hh nms rsv s)) := by
  obtain ⟨-, l2, -, -, -, -⟩ := id n1
  refine mS_of rfl (fun h0 => ?_)
  refine xw_go nostop 20 (fun K e => e _ _ _ _ (kT_call rfl rfl rfl rfl (q_children (o := o) (thr := thr) (len := len) (sz := sz) (lim := lim) (X := X) (flt := flt) (fat := fat) (got := got) (lns := lns) (crs := crs) (b := b) (hh := hh) (nms := nms) (rsv := rsv) n1 hH hpo (p := p) hp) ⟨rfl, rfl, rfl, rfl, rfl, rfl, trivial⟩ rfl rfl (fun rv l1 hP _ => ?_)))
  obtain ⟨rfl, rfl⟩ := hP
  refine kT_pic (l2 := (rfS o thr len sz lim X flt fat got lns crs b hh nms rsv s)) rfl ?_
  have hlast := uo_loop (L := L) (xs := xs) (d := d) (o := o) (thr := thr) (len := len) (sz := sz) (lim := lim) (X := X) (flt := flt) (fat := fat) (got := got) (lns := lns) (crs := crs) (b := b) (hh := hh) (nms := nms) (rsv := rsv) n1 hH hpo (p := p) (Q := mQ (rfS o thr len sz lim X flt fat got lns crs b hh nms rsv s) (fun rv l => rv = some (.int (unB H p)) ∧ l = (rfS o thr len sz lim X flt fat got lns crs b hh nms rsv s)) h0) (h0 := h0) (xw_go nostop 10 (fun K e => e _ _ _ _ (kT_end rfl (ret_i _) ⟨rfl, rfl⟩))) 9 1 rfl
  have hl := ui_loop (L := L) (xs := xs) (d := d) (o := o) (thr := thr) (len := len) (sz := sz) (lim := lim) (X := X) (flt := flt) (fat := fat) (got := got) (lns := lns) (crs := crs) (b := b) (hh := hh) (nms := nms) (rsv := rsv) n1 hH hpo (p := p) (rr := Int32.ofInt 0) (Q := mQ (rfS o thr len sz lim X flt fat got lns crs b hh nms rsv s) (fun rv l => rv = some (.int (unB H p)) ∧ l = (rfS o thr len sz lim X flt fat got lns crs b hh nms rsv s)) h0) (h0 := h0) rfl (xw_go (fun pc => pc == 8) 20 (fun K e => e _ _ _ _ (kT_sort rfl hlast))) H.1.2.1.length 0 (chB H p) (by omega) (cl_ch l2 hpo) (fun j hj q e hq h => absurd hq (Nat.not_lt_zero _))
  exact xw_go (fun pc => pc == 17) 30 (fun K e => And.intro (fun c => nomatch (show false = true from c)) (fun _ => e _ _ _ _ (kT_sort rfl hl)))
theorem q_under (n1 : nmOk H.1) (hH : rW H s) (hpo : parOk H) (v : Int32) : mS nj_M nX0 L xs (d + 2) 241 [.ref 175, .int v] (rfS o thr len sz lim X flt fat got lns crs b hh nms rsv s) (fun rv l => rv = some (.int (unS H v)) ∧ l = (rfS o 0 len sz lim X flt fat got lns crs b hh nms rsv s)) := by
  obtain ⟨⟨-, c1, -, -⟩, -⟩ := id hH
  obtain ⟨-, l2, -, -, -, -⟩ := id n1
  refine mS_of rfl (fun h0 => ?_)
  refine xw_go nostop 20 (fun K e => And.intro rfl (e _ _ _ _ (kT_call rfl rfl rfl rfl (q_isPerson (o := o) (thr := 0) (len := len) (sz := sz) (lim := lim) (X := X) (flt := flt) (fat := fat) (got := got) (lns := lns) (crs := crs) (b := b) (hh := hh) (nms := nms) (rsv := rsv) (s := s) (v := v) (n := H.1.2.1.length) (by omega) c1) ⟨rfl, rfl, rfl, rfl, rfl, rfl, trivial⟩ rfl rfl (fun rv l1 hP _ => ?_))))
  obtain ⟨rfl, rfl⟩ := hP
  refine kT_pic (l2 := (rfS o 0 len sz lim X flt fat got lns crs b hh nms rsv s)) rfl ?_
  by_cases hv : inN v H.1.2.1.length
  · rw [decide_eq_true hv]
    have h1 := hv.1
    have h2 := hv.2
    have hk1 := q_underOf (L := L) (xs := xs) (d := d) (o := o) (thr := 0) (len := len) (sz := sz) (lim := lim) (X := X) (flt := flt) (fat := fat) (got := got) (lns := lns) (crs := crs) (b := b) (hh := hh) (nms := nms) (rsv := rsv) n1 hH hpo (p := v.toInt.toNat) (by omega)
    rw [← ofN_v hv] at hk1
    refine xw_go nostop 20 (fun K e => And.intro (fun c => nomatch (show false = true from c)) (fun _ => e _ _ _ _ (kT_call rfl rfl rfl rfl hk1 ⟨rfl, rfl, rfl, rfl, rfl, rfl, trivial⟩ rfl rfl (fun rv l1 hP _ => ?_))))
    obtain ⟨rfl, rfl⟩ := hP
    refine kT_pic (l2 := (rfS o 0 len sz lim X flt fat got lns crs b hh nms rsv s)) rfl ?_
    exact xw_go nostop 20 (fun K e => e _ _ _ _ (kT_end rfl (ret_i _) ⟨by rw [unS, if_pos hv], rfl⟩))
  · rw [decide_eq_false hv]
    exact xw_go nostop 20 (fun K e => And.intro (fun _ => e _ _ _ _ (kT_end rfl rfl ⟨by rw [unS, if_neg hv], rfl⟩)) (fun c => nomatch (show true = false from c)))
end UNR
