/-! how often what is left changes -/
def nxG (H : Hs) (set x : Int32) : Nat → Nat → Int32 → Int32
  | 0, _, a => a
  | r + 1, i, a => nxG H set x r (i + 1) (a ||| (if bt x i = true then Int32.ofInt 1 <<< (Int32.ofNat (be H set i) &&& 31) else Int32.ofInt 0))
def nx (H : Hs) (set x : Int32) : Int32 := nxG H set x H.1.1.length 0 (Int32.ofInt 0)
theorem nxG_bt {H : Hs} (hx : hX H) (n1 : nmOk H.1) (set x : Int32) {j : Nat} (hj : j < 32) : ∀ (r i : Nat) (a : Int32), i + r = H.1.1.length → (bt (nxG H set x r i a) j = true ↔ bt a j = true ∨ ∃ q, i ≤ q ∧ q < H.1.1.length ∧ bt x q = true ∧ be H set q = j) := by
  obtain ⟨l1, -⟩ := id n1
  intro r
  induction r with
  | zero =>
    intro i a hi
    refine ⟨fun h => Or.inl h, fun h => ?_⟩
    rcases h with h | ⟨q, a1, a2, -⟩
    · exact h
    · omega
  | succ r ih =>
    intro i a hi
    have hb : be H set i < 6 := beL_lt hx n1 set _ _ _ (by omega)
    rw [nxG, ih (i + 1) _ (by omega)]
    constructor
    · intro h
      rcases h with h | ⟨q, a1, a2, a3, a4⟩
      · by_cases c : bt x i = true
        · rw [if_pos c, bt_or2 (by omega) hj, Bool.or_eq_true] at h
          rcases h with h | h
          · exact Or.inr ⟨i, Nat.le_refl _, by omega, c, (of_decide_eq_true h).symm⟩
          · exact Or.inl h
        · rw [if_neg c, bt_oo, bt_0, Bool.or_false] at h
          exact Or.inl h
      · exact Or.inr ⟨q, by omega, a2, a3, a4⟩
    · intro h
      rcases h with h | ⟨q, a1, a2, a3, a4⟩
      · left
        rw [bt_oo, h, Bool.true_or]
      · by_cases e : q = i
        · subst e
          left
          rw [if_pos a3, bt_or2 (by omega) hj, decide_eq_true a4.symm, Bool.true_or]
        · exact Or.inr ⟨q, by omega, a2, a3, a4⟩
theorem nx_bt {H : Hs} (hx : hX H) (n1 : nmOk H.1) (set x : Int32) {j : Nat} (hj : j < 32) : bt (nx H set x) j = true ↔ ∃ q, q < H.1.1.length ∧ bt x q = true ∧ be H set q = j := by
  unfold nx
  rw [nxG_bt hx n1 set x hj _ _ _ (by omega), bt_0]
  constructor
  · intro h
    rcases h with h | ⟨q, a1, a2, a3, a4⟩
    · cases h
    · exact ⟨q, a2, a3, a4⟩
  · rintro ⟨q, a2, a3, a4⟩
    exact Or.inr ⟨q, Nat.zero_le _, a2, a3, a4⟩
def sbB (x y : Int32) : Prop := ∀ j, j < 32 → bt x j = true → bt y j = true
def cdB (x : Int32) : Nat → Nat
  | 0 => 0
  | n + 1 => cdB x n + (if bt x n = true then 1 else 0)
theorem cd_le {x y : Int32} (h : sbB x y) : ∀ n, n ≤ 32 → cdB x n ≤ cdB y n := by
  intro n
  induction n with
  | zero => intro _; exact Nat.le_refl _
  | succ n ih =>
    intro hn
    have k := ih (by omega)
    have h2 := h n (by omega)
    unfold cdB
    by_cases c : bt x n = true
    · rw [if_pos c, if_pos (h2 c)]
      omega
    · rw [if_neg c]
      split <;> omega
theorem cd_lt {x y : Int32} (h : sbB x y) {j : Nat} (hy : bt y j = true) (hx : bt x j = false) : ∀ n, n ≤ 32 → j < n → cdB x n < cdB y n := by
  intro n
  induction n with
  | zero => intro _ h; exact absurd h (Nat.not_lt_zero _)
  | succ n ih =>
    intro hn hj
    by_cases e : j = n
    · subst e
      have k := cd_le h j (by omega)
      unfold cdB
      rw [hx, hy, if_neg (by decide), if_pos rfl]
      omega
    · have k := ih (by omega) (by omega)
      have h2 := h n (by omega)
      unfold cdB
      by_cases c : bt x n = true
      · rw [if_pos c, if_pos (h2 c)]
        omega
      · rw [if_neg c]
        split <;> omega
def x0B (n : Nat) : Int32 := (Int32.ofInt 1 <<< (Int32.ofNat n &&& 31)) - Int32.ofInt 1
theorem x0_bt : ∀ n, n < 7 → ∀ j, j < 32 → bt (x0B n) j = decide (j < n) := by decide +kernel
theorem x0_cd : ∀ n, n < 7 → cdB (x0B n) 6 = n := by decide +kernel
/-- .. is as it was at the k-th time, and not before -/
def fxA (H : Hs) (set : Int32) : Nat → Int32 → Prop
  | 0, x => nx H set x = x
  | k + 1, x => ¬ nx H set x = x ∧ fxA H set k (nx H set x)
theorem fx_ex {H : Hs} (hx : hX H) (n1 : nmOk H.1) (set : Int32) : ∀ (n : Nat) (x : Int32), cdB x 6 ≤ n → sbB (nx H set x) x → (∀ j, 6 ≤ j → j < 32 → bt x j = false) → ∃ k, k ≤ n ∧ fxA H set k x := by
  intro n
  induction n with
  | zero =>
    intro x hc hs h6
    refine ⟨0, Nat.le_refl _, ?_⟩
    refine bt_ext (fun j hj => ?_)
    cases e : bt x j with
    | false =>
      cases e2 : bt (nx H set x) j with
      | false => rfl
      | true => rw [hs j hj e2] at e; cases e
    | true =>
      exfalso
      have hj6 : j < 6 := Nat.lt_of_not_le (fun c => by rw [h6 j c hj] at e; cases e)
      have hz : sbB (Int32.ofInt 0) x := fun i _ h => by rw [bt_0] at h; cases h
      have := cd_lt hz e bt_0 6 (by decide) hj6
      omega
  | succ n ih =>
    intro x hc hs h6
    by_cases c : nx H set x = x
    · exact ⟨0, Nat.zero_le _, c⟩
    · have hd : ∃ j, j < 32 ∧ bt x j = true ∧ bt (nx H set x) j = false := by
        apply Classical.byContradiction
        intro hno
        refine c (bt_ext (fun j hj => ?_))
        cases e : bt x j with
        | false =>
          cases e2 : bt (nx H set x) j with
          | false => rfl
          | true => rw [hs j hj e2] at e; cases e
        | true =>
          cases e2 : bt (nx H set x) j with
          | true => rfl
          | false => exact absurd ⟨j, hj, e, e2⟩ hno
      obtain ⟨j, hj, h1, h2⟩ := hd
      have hj6 : j < 6 := Nat.lt_of_not_le (fun c => by rw [h6 j c hj] at h1; cases h1)
      have hlt := cd_lt hs h1 h2 6 (by decide) hj6
      obtain ⟨k, hk, hf⟩ := ih (nx H set x) (by omega) (fun i hi h => by
        rw [nx_bt hx n1 set _ hi] at h
        obtain ⟨q, a1, a2, a3⟩ := h
        obtain ⟨l1, -⟩ := id n1
        exact (nx_bt hx n1 set _ hi).mpr ⟨q, a1, hs q (by omega) a2, a3⟩) (fun i h6i hi => by
        cases e : bt (nx H set x) i with
        | false => rfl
        | true => rw [← h6 i h6i hi, hs i hi e])
      exact ⟨k + 1, by omega, c, hf⟩
def rcL (H : Hs) (set : Int32) : Nat → Int32 → Nat → Nat
  | 0, _, t => t
  | r + 1, x, t => rcL H set r (nx H set x) (if nx H set x = x then t else t + 1)
def rrL (H : Hs) (set : Int32) : Nat → Int32 → Nat → Int32
  | 0, _, _ => Int32.ofInt (-1)
  | r + 1, x, t => if nx H set x = x then Int32.ofNat t else rrL H set r (nx H set x) (t + 1)
theorem rc_fix {H : Hs} {set x : Int32} (h : nx H set x = x) : ∀ (r t : Nat), rcL H set r x t = t := by
  intro r
  induction r with
  | zero => intro t; rfl
  | succ r ih => intro t; rw [rcL, if_pos h, h, ih]
theorem rc_k {H : Hs} {set : Int32} : ∀ (k : Nat) (x : Int32) (r t : Nat), fxA H set k x → k ≤ r → rcL H set r x t = t + k := by
  intro k
  induction k with
  | zero => intro x r t h _; rw [rc_fix h]; rfl
  | succ k ih =>
    intro x r t h hr
    cases r with
    | zero => omega
    | succ r => rw [rcL, if_neg h.1, ih _ r _ h.2 (by omega)]; omega
theorem rr_k {H : Hs} {set : Int32} : ∀ (k : Nat) (x : Int32) (r t : Nat), fxA H set k x → k < r → rrL H set r x t = Int32.ofNat (t + k) := by
  intro k
  induction k with
  | zero =>
    intro x r t h hr
    cases r with
    | zero => omega
    | succ r => rw [rrL, if_pos (show nx H set x = x from h)]; rfl
  | succ k ih =>
    intro x r t h hr
    cases r with
    | zero => omega
    | succ r => rw [rrL, if_neg h.1, ih _ r _ h.2 (by omega), show t + 1 + k = t + (k + 1) by omega]
theorem rr_rc {H : Hs} (hx : hX H) (n1 : nmOk H.1) (set : Int32) : rrL H set 7 (x0B H.1.1.length) 0 = Int32.ofNat (rcL H set H.1.1.length (x0B H.1.1.length) 0) := by
  obtain ⟨l1, -⟩ := id n1
  obtain ⟨k, hk, hf⟩ := fx_ex hx n1 set H.1.1.length (x0B H.1.1.length) (by rw [x0_cd _ (by omega)]; exact Nat.le_refl _) (fun j hj h => by
    rw [nx_bt hx n1 set _ hj] at h
    obtain ⟨q, a1, a2, a3⟩ := h
    rw [x0_bt _ (by omega) j hj, ← a3]
    exact decide_eq_true (beL_st hx set _ _ _ (by omega) a1)) (fun j h6 hj => by
    rw [x0_bt _ (by omega) j hj]
    exact decide_eq_false (by omega))
  rw [rr_k k _ 7 0 hf (by omega), rc_k k _ _ 0 hf hk]
def reS (H : Hs) (v : Int32) : Int32 := if isES H v = true then Int32.ofNat (rcL H v H.1.1.length (x0B H.1.1.length) 0) else Int32.ofInt (-1)
section RST
variable {L : Nat} {xs : Nat → Int32} {d : Nat} {H : Hs} {y : Ho} {u : Nat → Value} {o : Nat → Value} {thr len sz lim : Int32} {X : Lx} {flt fat got lns crs : Int32} {b hh s : Nat → Int32} {nms rsv : Nat → Int64} {set : Int32}
set_option maxHeartbeats 4000000 in
theorem ba_loop (hH : hW H y) (hx : hX H) {x R : Int32} {Q : Option Value → List nC → Prop} {ks : List Nat} {h0 : List nC} (hks : ks = hk (hoQ y)) (hexit : kT nj_M nX0 L xs (d + 2) nm_115 Q ks h0 48 [(0, .ref 7), (1, .int set), (2, .int x), (3, .int R), (4, .int (Int32.ofNat H.1.1.length))] [] (hoQ y)) : ∀ (r i : Nat) (a : Int32), i + r = H.1.1.length → nxG H set x r i a = R → kT nj_M nX0 L xs (d + 2) nm_115 Q ks h0 5 [(0, .ref 7), (1, .int set), (2, .int x), (3, .int a), (4, .int (Int32.ofNat i))] [] (hoQ y) := by
  obtain ⟨n1, ⟨c0, -, -, -⟩, -⟩ := id hH
  obtain ⟨l1, -⟩ := id n1
  subst hks
  intro r
  induction r with
  | zero =>
    intro i a hi hR
    have e : i = H.1.1.length := by omega
    have hcmp : nj_cmp .ge (Int32.ofNat i) (y.1 0) = true := by
      rw [c0, (cmp_nat (by omega) (by omega)).1]
      exact decide_eq_true (by omega)
    rw [e] at hcmp ⊢
    rw [show a = R from hR]
    exact xw_go (fun pc => pc == 48) 20 (fun K e => And.intro rfl (And.intro (fun _ => e _ _ _ _ hexit) (fun c => nomatch (hcmp.symm.trans c))))
  | succ r ih =>
    intro i a hi hR
    have hcmp : nj_cmp .ge (Int32.ofNat i) (y.1 0) = false := by
      rw [c0, (cmp_nat (by omega) (by omega)).1]
      exact decide_eq_false (by omega)
    have q1 : nj_cmp .ne ((x >>> (Int32.ofNat i &&& 31)) &&& Int32.ofInt 1) (Int32.ofInt 1) = !bt x i := bt_c (by omega)
    have hR2 : nxG H set x r (i + 1) (a ||| (if bt x i = true then Int32.ofInt 1 <<< (Int32.ofNat (be H set i) &&& 31) else Int32.ofInt 0)) = R := hR
    cases hb : bt x i with
    | false =>
      rw [hb] at q1 hR2
      rw [if_neg (by decide)] at hR2
      have hn := ih (i + 1) _ (by omega) hR2
      rw [← i32_succ] at hn
      exact xw_go (fun pc => pc == 5) 60 (fun K e => And.intro rfl (And.intro (fun c => nomatch (hcmp.symm.trans c)) (fun _ => And.intro (fun _ => e _ _ _ _ (kT_sort rfl hn)) (fun c => nomatch (q1.symm.trans c)))))
    | true =>
      rw [hb] at q1 hR2
      rw [if_pos rfl] at hR2
      have hn := ih (i + 1) _ (by omega) hR2
      rw [← i32_succ] at hn
      refine xw_go nostop 60 (fun K e => And.intro rfl (And.intro (fun c => nomatch (hcmp.symm.trans c)) (fun _ => And.intro (fun c => nomatch (q1.symm.trans c)) (fun _ => e _ _ _ _ (kT_call rfl rfl rfl rfl (c_become (L := L) (xs := xs) (d := d) (set := set) hH hx (k := i) (by omega)) ⟨rfl, rfl, rfl, rfl, rfl, rfl, rfl, rfl, rfl, rfl, rfl, rfl, rfl, rfl, rfl, trivial⟩ rfl rfl (fun rv l1 hP _ => ?_))))))
      obtain ⟨rfl, rfl⟩ := hP
      refine kT_pic (l2 := hoQ y) rfl ?_
      exact xw_go (fun pc => pc == 5) 20 (fun K e => e _ _ _ _ (kT_sort rfl hn))
theorem c_becomeAll (hH : hW H y) (hx : hX H) {x : Int32} : mS nj_M nX0 L xs (d + 2) 115 [.ref 7, .int set, .int x] (hoQ y) (fun rv l => rv = some (.int (nx H set x)) ∧ l = hoQ y) := by
  refine mS_of rfl (fun h0 => ?_)
  have hl := ba_loop (L := L) (xs := xs) (d := d) (set := set) hH hx (x := x) (R := nx H set x) (Q := mQ (hoQ y) (fun rv l => rv = some (.int (nx H set x)) ∧ l = hoQ y) h0) (h0 := h0) rfl (xw_go nostop 20 (fun K e => e _ _ _ _ (kT_end rfl (ret_i _) ⟨rfl, rfl⟩))) H.1.1.length 0 (Int32.ofInt 0) (by omega) rfl
  exact xw_go (fun pc => pc == 5) 20 (fun K e => e _ _ _ _ (kT_sort rfl hl))
set_option maxHeartbeats 4000000 in
theorem rs_cl (hH : hW H y) (hx : hX H) {h0 : List nC} {R0 : Int32} : ∀ (r i t : Nat) (x : Int32), i + r = H.1.1.length → Int32.ofNat (rcL H set r x t) = R0 → kT nj_M nX0 L xs (d + 3) nm_114 (mQ (slI u ++ hoQ y) (fun rv l => rv = some (.int R0) ∧ l = (slI u ++ hoQ y)) h0) (hk (slI u ++ hoQ y)) h0 32 [(0, .ref 0), (1, .int set), (2, .int x), (3, .int (Int32.ofNat t)), (4, .int (Int32.ofNat i)), (5, .int x)] [] (slI u ++ hoQ y) := by
  obtain ⟨n1, ⟨c0, -, -, -⟩, -⟩ := id hH
  obtain ⟨l1, -⟩ := id n1
  intro r
  induction r with
  | zero =>
    intro i t x hi hR
    have hcmp : nj_cmp .ge (Int32.ofNat i) (y.1 0) = true := by
      rw [c0, (cmp_nat (by omega) (by omega)).1]
      exact decide_eq_true (by omega)
    exact xw_go nostop 30 (fun K e => And.intro rfl (And.intro (fun _ => e _ _ _ _ (kT_end rfl (ret_i _) ⟨by rw [← hR]; rfl, rfl⟩)) (fun c => nomatch (hcmp.symm.trans c))))
  | succ r ih =>
    intro i t x hi hR
    have hcmp : nj_cmp .ge (Int32.ofNat i) (y.1 0) = false := by
      rw [c0, (cmp_nat (by omega) (by omega)).1]
      exact decide_eq_false (by omega)
    have hn := ih (i + 1) (if nx H set x = x then t else t + 1) (nx H set x) (by omega) hR
    rw [← i32_succ] at hn
    refine xw_go nostop 40 (fun K e => And.intro rfl (And.intro (fun c => nomatch (hcmp.symm.trans c)) (fun _ => e _ _ _ _ (kT_call rfl rfl rfl rfl (c_becomeAll (L := L) (xs := xs) (d := d) (set := set) hH hx (x := x)) ⟨rfl, rfl, rfl, rfl, rfl, rfl, rfl, rfl, rfl, rfl, rfl, rfl, rfl, rfl, rfl, trivial⟩ rfl rfl (fun rv l1 hP _ => ?_)))))
    obtain ⟨rfl, rfl⟩ := hP
    refine kT_pic (l2 := (slI u ++ hoQ y)) rfl ?_
    by_cases c : nx H set x = x
    · have q1 : nj_cmp .eq (nx H set x) x = true := decide_eq_true c
      rw [if_pos c] at hn
      exact xw_go (fun pc => pc == 32) 40 (fun K e => And.intro (fun _ => e _ _ _ _ (kT_sort rfl hn)) (fun c => nomatch (q1.symm.trans c)))
    · have q1 : nj_cmp .eq (nx H set x) x = false := decide_eq_false c
      rw [if_neg c, ← i32_succ] at hn
      exact xw_go (fun pc => pc == 32) 40 (fun K e => And.intro (fun c => nomatch (q1.symm.trans c)) (fun _ => e _ _ _ _ (kT_sort rfl hn)))
set_option maxHeartbeats 4000000 in
theorem c_rests (hH : hW H y) (hx : hX H) (set : Int32) : mS nj_M nX0 L xs (d + 3) 114 [.ref 0, .int set] (slI u ++ hoQ y) (fun rv l => rv = some (.int (reS H set)) ∧ l = (slI u ++ hoQ y)) := by
  obtain ⟨n1, ⟨c0, -, -, -⟩, -⟩ := id hH
  obtain ⟨l1, -⟩ := id n1
  refine mS_of rfl (fun h0 => ?_)
  refine xw_go nostop 20 (fun K e => e _ _ _ _ (kT_call rfl rfl rfl rfl (c_isSet hH set) ⟨rfl, rfl, rfl, rfl, rfl, rfl, rfl, rfl, rfl, rfl, rfl, rfl, rfl, rfl, rfl, trivial⟩ rfl rfl (fun rv l1 hP _ => ?_)))
  obtain ⟨rfl, rfl⟩ := hP
  refine kT_pic (l2 := (slI u ++ hoQ y)) rfl ?_
  cases hs : isES H set with
  | false => exact xw_go nostop 20 (fun K e => And.intro (fun c => nomatch (show false = true from c)) (fun _ => e _ _ _ _ (kT_end rfl rfl ⟨by rw [reS, if_neg (fun q => by rw [hs] at q; cases q)], rfl⟩)))
  | true =>
    have hR0 : reS H set = Int32.ofNat (rcL H set H.1.1.length (x0B H.1.1.length) 0) := by rw [reS, if_pos hs]
    have ex0 : (Int32.ofInt 1 <<< (y.1 0 &&& 31)) - Int32.ofInt 1 = x0B H.1.1.length := by rw [c0]; rfl
    suffices hm : kT nj_M nX0 L xs (d + 3) nm_114 (mQ (slI u ++ hoQ y) (fun rv l => rv = some (.int (reS H set)) ∧ l = (slI u ++ hoQ y)) h0) (hk (slI u ++ hoQ y)) h0 32 [(0, .ref 0), (1, .int set), (2, .int (x0B H.1.1.length)), (3, .int (Int32.ofNat 0)), (4, .int (Int32.ofNat 0))] [] (slI u ++ hoQ y) by
      rw [← ex0] at hm
      exact xw_go (fun pc => pc == 32) 40 (fun K e => And.intro (fun _ => And.intro rfl (e _ _ _ _ (kT_sort rfl hm))) (fun c => nomatch (show true = false from c)))
    generalize hx0 : x0B H.1.1.length = x at hR0 ⊢
    cases hr : H.1.1.length with
    | zero =>
      have hcmp : nj_cmp .ge (Int32.ofNat 0) (y.1 0) = true := by
        rw [c0, (cmp_nat (by omega) (by omega)).1]
        exact decide_eq_true (by omega)
      exact xw_go nostop 30 (fun K e => And.intro rfl (And.intro (fun _ => e _ _ _ _ (kT_end rfl (ret_i _) ⟨by rw [hR0, hr]; rfl, rfl⟩)) (fun c => nomatch (hcmp.symm.trans c))))
    | succ r =>
      have hcmp : nj_cmp .ge (Int32.ofNat 0) (y.1 0) = false := by
        rw [c0, (cmp_nat (by omega) (by omega)).1]
        exact decide_eq_false (by omega)
      have hn := rs_cl (L := L) (xs := xs) (d := d) (u := u) (set := set) hH hx (h0 := h0) (R0 := reS H set) r 1 (if nx H set x = x then 0 else 0 + 1) (nx H set x) (by omega) (by rw [hR0, hr]; rfl)
      refine xw_go nostop 40 (fun K e => And.intro rfl (And.intro (fun c => nomatch (hcmp.symm.trans c)) (fun _ => e _ _ _ _ (kT_call rfl rfl rfl rfl (c_becomeAll (L := L) (xs := xs) (d := d) (set := set) hH hx (x := x)) ⟨rfl, rfl, rfl, rfl, rfl, rfl, rfl, rfl, rfl, rfl, rfl, rfl, rfl, rfl, rfl, trivial⟩ rfl rfl (fun rv l1 hP _ => ?_)))))
      obtain ⟨rfl, rfl⟩ := hP
      refine kT_pic (l2 := (slI u ++ hoQ y)) rfl ?_
      by_cases c : nx H set x = x
      · have q1 : nj_cmp .eq (nx H set x) x = true := decide_eq_true c
        rw [if_pos c] at hn
        exact xw_go (fun pc => pc == 32) 40 (fun K e => And.intro (fun _ => e _ _ _ _ (kT_sort rfl hn)) (fun c => nomatch (q1.symm.trans c)))
      · have q1 : nj_cmp .eq (nx H set x) x = false := decide_eq_false c
        rw [if_neg c, ← i32_succ] at hn
        exact xw_go (fun pc => pc == 32) 40 (fun K e => And.intro (fun c => nomatch (q1.symm.trans c)) (fun _ => e _ _ _ _ (kT_sort rfl hn)))
set_option maxHeartbeats 4000000 in
theorem ra_loop (n1 : nmOk H.1) (hH : rW H s) (hx : hX H) {x R tt : Int32} {Q : Option Value → List nC → Prop} {ks : List Nat} {h0 : List nC} (hks : ks = hk (rfS o 0 len sz lim X flt fat got lns crs b hh nms rsv s)) (hexit : kT nj_M nX0 L xs (d + 2) nm_238 Q ks h0 84 [(0, .ref 175), (1, .int set), (2, .int x), (3, .int tt), (4, .int R), (5, .int (Int32.ofNat H.1.1.length))] [] (rfS o 0 len sz lim X flt fat got lns crs b hh nms rsv s)) : ∀ (r i : Nat) (a : Int32), i + r = H.1.1.length → nxG H set x r i a = R → kT nj_M nX0 L xs (d + 2) nm_238 Q ks h0 40 [(0, .ref 175), (1, .int set), (2, .int x), (3, .int tt), (4, .int a), (5, .int (Int32.ofNat i))] [] (rfS o 0 len sz lim X flt fat got lns crs b hh nms rsv s) := by
  obtain ⟨⟨c0, -, -, -⟩, -⟩ := id hH
  obtain ⟨l1, -⟩ := id n1
  subst hks
  intro r
  induction r with
  | zero =>
    intro i a hi hR
    have e : i = H.1.1.length := by omega
    have hcmp : nj_cmp .ge (Int32.ofNat i) (s 0) = true := by
      rw [c0, (cmp_nat (by omega) (by omega)).1]
      exact decide_eq_true (by omega)
    rw [e] at hcmp ⊢
    rw [show a = R from hR]
    exact xw_go (fun pc => pc == 84) 20 (fun K e => And.intro rfl (And.intro (fun _ => e _ _ _ _ hexit) (fun c => nomatch (hcmp.symm.trans c))))
  | succ r ih =>
    intro i a hi hR
    have hcmp : nj_cmp .ge (Int32.ofNat i) (s 0) = false := by
      rw [c0, (cmp_nat (by omega) (by omega)).1]
      exact decide_eq_false (by omega)
    have hR2 : nxG H set x r (i + 1) (a ||| (if bt x i = true then Int32.ofInt 1 <<< (Int32.ofNat (be H set i) &&& 31) else Int32.ofInt 0)) = R := hR
    refine xw_go nostop 20 (fun K e => And.intro rfl (And.intro (fun c => nomatch (hcmp.symm.trans c)) (fun _ => e _ _ _ _ (kT_call rfl rfl rfl rfl (q_bitOf (i := i) (by omega) x) trivial rfl rfl (fun rv l1 hP _ => ?_)))))
    obtain ⟨rfl, rfl⟩ := hP
    refine kT_pic (l2 := (rfS o 0 len sz lim X flt fat got lns crs b hh nms rsv s)) rfl ?_
    cases hb : bt x i with
    | false =>
      rw [hb, if_neg (by decide)] at hR2
      have hn := ih (i + 1) _ (by omega) hR2
      rw [← i32_succ] at hn
      exact xw_go (fun pc => pc == 40) 60 (fun K e => And.intro (fun _ => e _ _ _ _ (kT_sort rfl hn)) (fun c => nomatch (show true = false from c)))
    | true =>
      rw [hb, if_pos rfl] at hR2
      have hn := ih (i + 1) _ (by omega) hR2
      rw [← i32_succ] at hn
      refine xw_go nostop 60 (fun K e => And.intro (fun c => nomatch (show false = true from c)) (fun _ => e _ _ _ _ (kT_call rfl rfl rfl rfl (q_madeBy (L := L) (xs := xs) (d := d) (o := o) (thr := 0) (len := len) (sz := sz) (lim := lim) (X := X) (flt := flt) (fat := fat) (got := got) (lns := lns) (crs := crs) (b := b) (hh := hh) (nms := nms) (rsv := rsv) (set := set) n1 hH hx (k := i) (by omega)) ⟨rfl, rfl, rfl, rfl, rfl, rfl, trivial⟩ rfl rfl (fun rv l1 hP _ => ?_))))
      obtain ⟨rfl, rfl⟩ := hP
      refine kT_pic (l2 := (rfS o 0 len sz lim X flt fat got lns crs b hh nms rsv s)) rfl ?_
      exact xw_go (fun pc => pc == 40) 20 (fun K e => e _ _ _ _ (kT_sort rfl hn))
set_option maxHeartbeats 4000000 in
theorem rs_rl (n1 : nmOk H.1) (hH : rW H s) (hx : hX H) {h0 : List nC} {R0 : Int32} : ∀ (r t : Nat) (x : Int32), t + r = 7 → rrL H set r x t = R0 → kT nj_M nX0 L xs (d + 2) nm_238 (mQ (rfS o thr len sz lim X flt fat got lns crs b hh nms rsv s) (fun rv l => rv = some (.int R0) ∧ l = (rfS o 0 len sz lim X flt fat got lns crs b hh nms rsv s)) h0) (hk (rfS o thr len sz lim X flt fat got lns crs b hh nms rsv s)) h0 28 [(0, .ref 175), (1, .int set), (2, .int x), (3, .int (Int32.ofNat t)), (4, .int x), (5, .int (Int32.ofNat H.1.1.length))] [] (rfS o 0 len sz lim X flt fat got lns crs b hh nms rsv s) := by
  obtain ⟨l1, -⟩ := id n1
  intro r
  induction r with
  | zero =>
    intro t x ht hR
    have e : t = 7 := by omega
    subst e
    exact xw_go nostop 30 (fun K e => And.intro (fun _ => e _ _ _ _ (kT_end rfl rfl ⟨by rw [← hR]; rfl, rfl⟩)) (fun c => nomatch (show true = false from c)))
  | succ r ih =>
    intro t x ht hR
    have hcmp : nj_cmp .ge (Int32.ofNat t) (Int32.ofNat 7) = false := by
      rw [(cmp_nat (by omega) (by omega)).1]
      exact decide_eq_false (by omega)
    have hR2 : (if nx H set x = x then Int32.ofNat t else rrL H set r (nx H set x) (t + 1)) = R0 := hR
    have hex : kT nj_M nX0 L xs (d + 2) nm_238 (mQ (rfS o thr len sz lim X flt fat got lns crs b hh nms rsv s) (fun rv l => rv = some (.int R0) ∧ l = (rfS o 0 len sz lim X flt fat got lns crs b hh nms rsv s)) h0) (hk (rfS o thr len sz lim X flt fat got lns crs b hh nms rsv s)) h0 84 [(0, .ref 175), (1, .int set), (2, .int x), (3, .int (Int32.ofNat t)), (4, .int (nx H set x)), (5, .int (Int32.ofNat H.1.1.length))] [] (rfS o 0 len sz lim X flt fat got lns crs b hh nms rsv s) := by
      by_cases c : nx H set x = x
      · have q1 : nj_cmp .ne (nx H set x) x = false := decide_eq_false (fun w => w c)
        rw [if_pos c] at hR2
        exact xw_go nostop 30 (fun K e => And.intro (fun c => nomatch (q1.symm.trans c)) (fun _ => e _ _ _ _ (kT_end rfl (ret_i _) ⟨by rw [← hR2], rfl⟩)))
      · have q1 : nj_cmp .ne (nx H set x) x = true := decide_eq_true c
        rw [if_neg c] at hR2
        have hn := ih (t + 1) (nx H set x) (by omega) hR2
        rw [← i32_succ] at hn
        exact xw_go (fun pc => pc == 28) 30 (fun K e => And.intro (fun _ => e _ _ _ _ (kT_sort rfl hn)) (fun c => nomatch (q1.symm.trans c)))
    have hl := ra_loop (L := L) (xs := xs) (d := d) (o := o) (len := len) (sz := sz) (lim := lim) (X := X) (flt := flt) (fat := fat) (got := got) (lns := lns) (crs := crs) (b := b) (hh := hh) (nms := nms) (rsv := rsv) (set := set) n1 hH hx (x := x) (R := nx H set x) (tt := Int32.ofNat t) (Q := mQ (rfS o thr len sz lim X flt fat got lns crs b hh nms rsv s) (fun rv l => rv = some (.int R0) ∧ l = (rfS o 0 len sz lim X flt fat got lns crs b hh nms rsv s)) h0) (ks := hk (rfS o thr len sz lim X flt fat got lns crs b hh nms rsv s)) (h0 := h0) rfl hex H.1.1.length 0 (Int32.ofInt 0) (by omega) rfl
    exact xw_go (fun pc => pc == 40) 30 (fun K e => And.intro (fun c => nomatch (hcmp.symm.trans c)) (fun _ => e _ _ _ _ (kT_sort rfl hl)))
set_option maxHeartbeats 4000000 in
theorem q_rests (n1 : nmOk H.1) (hH : rW H s) (hx : hX H) (set : Int32) : mS nj_M nX0 L xs (d + 2) 238 [.ref 175, .int set] (rfS o thr len sz lim X flt fat got lns crs b hh nms rsv s) (fun rv l => rv = some (.int (reS H set)) ∧ l = (rfS o 0 len sz lim X flt fat got lns crs b hh nms rsv s)) := by
  obtain ⟨⟨c0, -, -, -⟩, -⟩ := id hH
  obtain ⟨l1, -⟩ := id n1
  refine mS_of rfl (fun h0 => ?_)
  refine xw_go nostop 20 (fun K e => And.intro rfl (e _ _ _ _ (kT_call rfl rfl rfl rfl (q_areErrors (o := o) (thr := 0) (len := len) (sz := sz) (lim := lim) (X := X) (flt := flt) (fat := fat) (got := got) (lns := lns) (crs := crs) (b := b) (hh := hh) (nms := nms) (rsv := rsv) hH set) ⟨rfl, rfl, rfl, rfl, rfl, rfl, trivial⟩ rfl rfl (fun rv l1 hP _ => ?_))))
  obtain ⟨rfl, rfl⟩ := hP
  refine kT_pic (l2 := (rfS o 0 len sz lim X flt fat got lns crs b hh nms rsv s)) rfl ?_
  cases hs : isES H set with
  | false => exact xw_go nostop 20 (fun K e => And.intro (fun c => nomatch (show false = true from c)) (fun _ => e _ _ _ _ (kT_end rfl rfl ⟨by rw [reS, if_neg (fun q => by rw [hs] at q; cases q)], rfl⟩)))
  | true =>
    have hR : rrL H set 7 (x0B H.1.1.length) 0 = reS H set := by rw [rr_rc hx n1, reS, if_pos hs]
    generalize hR0 : reS H set = R0 at hR ⊢
    have ex0 : (Int32.ofInt 1 <<< (s 0 &&& 31)) - Int32.ofInt 1 = x0B H.1.1.length := by rw [c0]; rfl
    generalize x0B H.1.1.length = x at hR ex0
    have ih := rs_rl (L := L) (xs := xs) (d := d) (o := o) (thr := thr) (len := len) (sz := sz) (lim := lim) (X := X) (flt := flt) (fat := fat) (got := got) (lns := lns) (crs := crs) (b := b) (hh := hh) (nms := nms) (rsv := rsv) (set := set) n1 hH hx (h0 := h0) (R0 := R0) 6
    have hR2 : (if nx H set x = x then Int32.ofNat 0 else rrL H set 6 (nx H set x) (0 + 1)) = R0 := hR
    have hex : kT nj_M nX0 L xs (d + 2) nm_238 (mQ (rfS o thr len sz lim X flt fat got lns crs b hh nms rsv s) (fun rv l => rv = some (.int R0) ∧ l = (rfS o 0 len sz lim X flt fat got lns crs b hh nms rsv s)) h0) (hk (rfS o thr len sz lim X flt fat got lns crs b hh nms rsv s)) h0 84 [(0, .ref 175), (1, .int set), (2, .int x), (3, .int (Int32.ofNat 0)), (4, .int (nx H set x)), (5, .int (Int32.ofNat H.1.1.length))] [] (rfS o 0 len sz lim X flt fat got lns crs b hh nms rsv s) := by
      by_cases c : nx H set x = x
      · have q1 : nj_cmp .ne (nx H set x) x = false := decide_eq_false (fun w => w c)
        rw [if_pos c] at hR2
        exact xw_go nostop 30 (fun K e => And.intro (fun c => nomatch (q1.symm.trans c)) (fun _ => e _ _ _ _ (kT_end rfl (ret_i _) ⟨by rw [← hR2], rfl⟩)))
      · have q1 : nj_cmp .ne (nx H set x) x = true := decide_eq_true c
        rw [if_neg c] at hR2
        have hn := ih (0 + 1) (nx H set x) (by omega) hR2
        rw [← i32_succ] at hn
        exact xw_go (fun pc => pc == 28) 30 (fun K e => And.intro (fun _ => e _ _ _ _ (kT_sort rfl hn)) (fun c => nomatch (q1.symm.trans c)))
    have hl := ra_loop (L := L) (xs := xs) (d := d) (o := o) (len := len) (sz := sz) (lim := lim) (X := X) (flt := flt) (fat := fat) (got := got) (lns := lns) (crs := crs) (b := b) (hh := hh) (nms := nms) (rsv := rsv) (set := set) n1 hH hx (x := x) (R := nx H set x) (tt := Int32.ofNat 0) (Q := mQ (rfS o thr len sz lim X flt fat got lns crs b hh nms rsv s) (fun rv l => rv = some (.int R0) ∧ l = (rfS o 0 len sz lim X flt fat got lns crs b hh nms rsv s)) h0) (ks := hk (rfS o thr len sz lim X flt fat got lns crs b hh nms rsv s)) (h0 := h0) rfl hex H.1.1.length 0 (Int32.ofInt 0) (by omega) rfl
    rw [← ex0] at hl
    exact xw_go (fun pc => pc == 40) 60 (fun K e => And.intro (fun _ => And.intro rfl (And.intro (fun c => nomatch (show false = true from c)) (fun _ => e _ _ _ _ (kT_sort rfl hl)))) (fun c => nomatch (show true = false from c)))
end RST
