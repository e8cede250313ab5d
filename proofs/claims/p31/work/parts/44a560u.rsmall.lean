/-! the reference's small readers, at a place of the tape -/
theorem kOf_iff {i : Nat} (hi : i < 22) {w : List Nat} : kOf w = 100 + i ↔ w = keyws.getD i [] := by
  have key : ∀ i, i < 22 → keyws.findIdx? (fun k => k == keyws.getD i []) = some i := by decide
  unfold kOf
  constructor
  · intro h
    cases hf : keyws.findIdx? (fun k => k == w) with
    | none =>
      rw [hf] at h
      have h2 : (2 : Nat) = 100 + i := h
      omega
    | some j =>
      rw [hf] at h
      have h2 : 100 + j = 100 + i := h
      have e : j = i := by omega
      rw [e] at hf
      exact (fi_some hf).2.2.symm
  · intro h
    rw [h, key i hi]
theorem kOf_2 {w : List Nat} : kOf w = 2 ↔ ∀ i, i < 22 → ¬ w = keyws.getD i [] := by
  constructor
  · intro h i hi e
    have := (kOf_iff hi).mpr e
    omega
  · intro h
    unfold kOf
    cases hf : keyws.findIdx? (fun k => k == w) with
    | none => rfl
    | some j =>
      have h1 := fi_some hf
      exact absurd h1.2.2.symm (h j h1.1)
theorem e256_b {w : List Nat} (hw : ∀ c ∈ w, let26 c) (h7 : w.length ≤ 7) : e256 w 0 < 72057594037927936 := by
  have h1 := e256_lt hw 0 0 (by decide)
  have h2 : 256 ^ (0 + w.length) ≤ 256 ^ 7 := Nat.pow_le_pow_right (by decide) (by omega)
  have h3 : 256 ^ 7 = 72057594037927936 := by decide
  omega
theorem e256_q {w v : List Nat} (hw : (∀ c ∈ w, let26 c) ∧ w.length ≤ 7) (hv : (∀ c ∈ v, let26 c) ∧ v.length ≤ 7) : Int64.ofNat (e256 w 0) = Int64.ofNat (e256 v 0) ↔ w = v := by
  constructor
  · intro h
    have b1 := e256_b hw.1 hw.2
    have b2 := e256_b hv.1 hv.2
    exact e256_inj hw.1 hv.1 (i64_inj (by omega) (by omega) h)
  · intro h; rw [h]
theorem key_w {i : Nat} (hi : i < 22) : (∀ c ∈ keyws.getD i [], let26 c) ∧ (keyws.getD i []).length ≤ 7 := by
  apply keyws_ok
  have h1 : i < keyws.length := hi
  rw [List.getD_eq_getElem?_getD, List.getElem?_eq_getElem h1]
  exact List.getElem_mem h1
def rsvOk (rsv : Nat → Int64) : Prop := ∀ i, i < 22 → rsv i = Int64.ofNat (e256 (keyws.getD i []) 0)
abbrev rX (b : Nat → Int32) (n m q : Nat) (X : Lx) : Prop := rT (tk b n m) (decide (m < n)) q X ∧ (tk b n m q).2.2.2.2 ≤ n
theorem tk_le {b : Nat → Int32} {n m q : Nat} (hq : q ≤ n) : (tk b n m q).2.2.2.2 ≤ n := by
  by_cases hc : min n m ≤ sk b n 941 q
  · rw [tk_end hc]; exact sk_le 941 q hq
  · rw [tk_tq (by omega)]; exact tq_le (by omega)
/-- what the reference's token says of the kind -/
theorem rX_w {b : Nat → Int32} {n m q : Nat} {X : Lx} (h : rX b n m q X) : (X.2.1 = 1 ∧ (tk b n m q).1 = kOf (tk b n m q).2.2.1 ∧ X.2.2.2.2.2 = Int64.ofNat (e256 (tk b n m q).2.2.1 0) ∧ wOk (tk b n m q).2.2.1) ∨ (¬ X.2.1 = 1 ∧ ¬ (tk b n m q).1 = 2 ∧ (tk b n m q).1 < 100) := by
  obtain ⟨⟨_, _, h1⟩, _⟩ := h
  rcases h1 with ⟨k, t⟩ | ⟨k, t⟩ | ⟨k, t, w, ok⟩ | ⟨k, t, w⟩ | ⟨k1, k2, t, w⟩
  · refine Or.inr ⟨?_, by omega, by omega⟩
    rw [t]
    split <;> decide
  · exact Or.inr ⟨by rw [t]; decide, by omega, by omega⟩
  · exact Or.inl ⟨t, k, w, ok⟩
  · exact Or.inr ⟨by rw [t]; decide, by omega, by omega⟩
  · exact Or.inr ⟨by rw [t]; decide, by omega, by omega⟩
theorem rX_s {b : Nat → Int32} {n m q : Nat} {X : Lx} (h : rX b n m q X) {c : Nat} (hc : 40 ≤ c ∧ c ≤ 62) : (X.2.1 = 3 ∧ X.2.2.2.2.1 = Int32.ofNat c) ↔ (tk b n m q).1 = c := by
  obtain ⟨⟨_, _, h1⟩, _⟩ := h
  rcases h1 with ⟨k, t⟩ | ⟨k, t⟩ | ⟨k, t, w, ok⟩ | ⟨k, t, w⟩ | ⟨k1, k2, t, w⟩
  · refine ⟨fun z => ?_, fun z => by omega⟩
    exfalso
    have z1 := z.1
    rw [t] at z1
    revert z1
    split <;> decide
  · refine ⟨fun z => ?_, fun z => by omega⟩
    exfalso
    have z1 := z.1
    rw [t] at z1
    revert z1
    decide
  · have := kOf_ge (tk b n m q).2.2.1
    refine ⟨fun z => ?_, fun z => by omega⟩
    exfalso
    have z1 := z.1
    rw [t] at z1
    revert z1
    decide
  · refine ⟨fun z => ?_, fun z => by omega⟩
    exfalso
    have z1 := z.1
    rw [t] at z1
    revert z1
    decide
  · rw [w]
    constructor
    · intro z
      have := congrArg Int32.toInt z.2
      rw [i32_small (by omega), i32_small (by omega)] at this
      omega
    · intro z
      rw [z]
      exact ⟨t, rfl⟩
theorem rX_n {b : Nat → Int32} {n m q : Nat} {X : Lx} (h : rX b n m q X) : (X.2.1 = 2 ∧ (tk b n m q).1 = 3 ∧ X.2.2.2.2.1 = Int32.ofNat (tk b n m q).2.2.2.1) ∨ (¬ X.2.1 = 2 ∧ ¬ (tk b n m q).1 = 3) := by
  obtain ⟨⟨_, _, h1⟩, _⟩ := h
  rcases h1 with ⟨k, t⟩ | ⟨k, t⟩ | ⟨k, t, w, ok⟩ | ⟨k, t, w⟩ | ⟨k1, k2, t, w⟩
  · refine Or.inr ⟨?_, by omega⟩
    rw [t]
    split <;> decide
  · exact Or.inr ⟨by rw [t]; decide, by omega⟩
  · have := kOf_ge (tk b n m q).2.2.1
    exact Or.inr ⟨by rw [t]; decide, by omega⟩
  · exact Or.inl ⟨t, k, w⟩
  · exact Or.inr ⟨by rw [t]; decide, by omega⟩
section RFD
variable {L : Nat} {xs : Nat → Int32} {d : Nat} {o : Nat → Value} {thr len sz lim : Int32} {X : Lx} {flt fat got lns crs : Int32} {b hh : Nat → Int32} {nms rsv : Nat → Int64} {n m q : Nat}
theorem k_next (hn : n ≤ 940) (hm : m ≤ 900) (hby : ∀ i, i < 940 → -128 ≤ (b i).toInt ∧ (b i).toInt ≤ 127) (h : rX b n m q X) : mS nj_M nX0 L xs (d + 1) 163 [.ref 175] (rfP o thr len (Int32.ofNat n) (Int32.ofNat m) X flt fat got lns crs b hh nms rsv) (fun rv l => rv = none ∧ ∃ X1, rX b n m (tk b n m q).2.2.2.2 X1 ∧ l = (rfP o thr len (Int32.ofNat n) (Int32.ofNat m) X1 flt fat got lns crs b hh nms rsv)) := by
  obtain ⟨⟨h1, _⟩, h2⟩ := h
  obtain ⟨x, Y⟩ := X
  have h1' : x = Int32.ofNat (tk b n m q).2.2.2.2 := h1
  subst h1'
  refine mS_mono (q_next hn hm hby h2) ?_
  rintro rv l ⟨rfl, X1, hr, rfl⟩
  exact ⟨rfl, X1, ⟨hr, tk_le h2⟩, rfl⟩
theorem k_bad (h : rX b n m q X) (k : Int32) : mS nj_M nX0 L xs d 169 [.ref 175, .int k] (rfP o thr len (Int32.ofNat n) (Int32.ofNat m) X flt fat got lns crs b hh nms rsv) (fun rv l => rv = some (.int 0) ∧ l = (rfP o thr len (Int32.ofNat n) (Int32.ofNat m) X k (Int32.ofNat (tk b n m q).2.1) got lns crs b hh nms rsv)) := by
  have s := q_bad (L := L) (xs := xs) (d := d) (o := o) (thr := thr) (len := len) (sz := Int32.ofNat n) (lim := Int32.ofNat m) (X := X) (flt := flt) (fat := fat) (got := got) (lns := lns) (crs := crs) (b := b) (hh := hh) (nms := nms) (rsv := rsv) k
  rw [h.1.2.1] at s
  exact s
theorem k_isWord (h : rX b n m q X) {i : Nat} (hi : i < 22) {w : Int64} (hw : w = Int64.ofNat (e256 (keyws.getD i []) 0)) : mS nj_M nX0 L xs d 168 [.ref 175, .long w] (rfP o thr len (Int32.ofNat n) (Int32.ofNat m) X flt fat got lns crs b hh nms rsv) (fun rv l => rv = some (.int (b01 (decide ((tk b n m q).1 = 100 + i)))) ∧ l = (rfP o thr len (Int32.ofNat n) (Int32.ofNat m) X flt fat got lns crs b hh nms rsv)) := by
  have s := q_isWord (L := L) (xs := xs) (d := d) (o := o) (thr := thr) (len := len) (sz := Int32.ofNat n) (lim := Int32.ofNat m) (X := X) (flt := flt) (fat := fat) (got := got) (lns := lns) (crs := crs) (b := b) (hh := hh) (nms := nms) (rsv := rsv) w
  have e : decide (X.2.1 = 1 ∧ X.2.2.2.2.2 = w) = decide ((tk b n m q).1 = 100 + i) := by
    apply decide_eq_decide.mpr
    rcases rX_w h with ⟨t, k, wd, ok⟩ | ⟨t, k1, k2⟩
    · rw [k, kOf_iff hi, wd, hw, e256_q ⟨ok.1, ok.2.1⟩ (key_w hi)]
      exact ⟨fun z => z.2, fun z => ⟨t, z⟩⟩
    · exact ⟨fun z => absurd z.1 t, fun z => by omega⟩
  rw [e] at s
  exact s
theorem k_isSign (h : rX b n m q X) {c : Nat} (hc : 40 ≤ c ∧ c ≤ 62) : mS nj_M nX0 L xs d 182 [.ref 175, .int (Int32.ofNat c)] (rfP o thr len (Int32.ofNat n) (Int32.ofNat m) X flt fat got lns crs b hh nms rsv) (fun rv l => rv = some (.int (b01 (decide ((tk b n m q).1 = c)))) ∧ l = (rfP o thr len (Int32.ofNat n) (Int32.ofNat m) X flt fat got lns crs b hh nms rsv)) := by
  have s := q_isSign (L := L) (xs := xs) (d := d) (o := o) (thr := thr) (len := len) (sz := Int32.ofNat n) (lim := Int32.ofNat m) (X := X) (flt := flt) (fat := fat) (got := got) (lns := lns) (crs := crs) (b := b) (hh := hh) (nms := nms) (rsv := rsv) (Int32.ofNat c)
  rw [show decide (X.2.1 = 3 ∧ X.2.2.2.2.1 = Int32.ofNat c) = decide ((tk b n m q).1 = c) from decide_eq_decide.mpr (rX_s h hc)] at s
  exact s
theorem k_sign (hn : n ≤ 940) (hm : m ≤ 900) (hby : ∀ i, i < 940 → -128 ≤ (b i).toInt ∧ (b i).toInt ≤ 127) (h : rX b n m q X) {c : Nat} (hc : 40 ≤ c ∧ c ≤ 62) : mS nj_M nX0 L xs (d + 2) 184 [.ref 175, .int (Int32.ofNat c)] (rfP o thr len (Int32.ofNat n) (Int32.ofNat m) X flt fat got lns crs b hh nms rsv) (fun rv l => ((tk b n m q).1 = c ∧ rv = some (.int 1) ∧ ∃ X1, rX b n m (tk b n m q).2.2.2.2 X1 ∧ l = (rfP o thr len (Int32.ofNat n) (Int32.ofNat m) X1 flt fat got lns crs b hh nms rsv)) ∨ (¬ (tk b n m q).1 = c ∧ rv = some (.int 0) ∧ l = (rfP o thr len (Int32.ofNat n) (Int32.ofNat m) X 1 (Int32.ofNat (tk b n m q).2.1) got lns crs b hh nms rsv))) := by
  refine mS_of rfl (fun h0 => ?_)
  refine xw_go nostop 10 (fun K e => e _ _ _ _ (kT_call rfl rfl rfl rfl (k_isSign h hc) ⟨rfl, rfl, rfl, rfl, rfl, trivial⟩ rfl rfl (fun rv l1 hP _ => ?_)))
  obtain ⟨rfl, rfl⟩ := hP
  refine xw_go nostop 10 (fun K e => And.intro (fun c1 => e _ _ _ _ (kT_call rfl rfl rfl rfl (k_next hn hm hby h) ⟨rfl, rfl, rfl, rfl, rfl, trivial⟩ rfl rfl (fun rv l1 hP _ => ?_))) (fun c1 => e _ _ _ _ (kT_call rfl rfl rfl rfl (k_bad h _) ⟨rfl, rfl, rfl, rfl, rfl, trivial⟩ rfl rfl (fun rv l1 hP _ => ?_))))
  · obtain ⟨rfl, X1, hX1, rfl⟩ := hP
    exact xw_go nostop 10 (fun K e => e _ _ _ _ (kT_end rfl rfl (Or.inl ⟨of_decide_eq_true ((cmp_ne01 _).symm.trans c1), rfl, X1, hX1, rfl⟩)))
  · obtain ⟨rfl, rfl⟩ := hP
    exact xw_go nostop 10 (fun K e => e _ _ _ _ (kT_end rfl rfl (Or.inr ⟨of_decide_eq_false ((cmp_ne01 _).symm.trans c1), rfl, rfl⟩)))
def nfl (t : Bool) (w : Int64) (rsv : Nat → Int64) : Nat → Bool
  | 0 => t
  | k + 1 => nfl t w rsv k && !decide (w = rsv k)
theorem nfl_iff {t : Bool} {w : Int64} {rsv : Nat → Int64} : ∀ {k : Nat}, nfl t w rsv k = true ↔ (t = true ∧ ∀ i, i < k → ¬ w = rsv i) := by
  intro k
  induction k with
  | zero => exact ⟨fun z => ⟨z, fun i hi => absurd hi (Nat.not_lt_zero i)⟩, fun z => z.1⟩
  | succ k ih =>
    show (nfl t w rsv k && !decide (w = rsv k)) = true ↔ _
    rw [Bool.and_eq_true, ih, Bool.not_eq_true', decide_eq_false_iff_not]
    constructor
    · intro z
      refine ⟨z.1.1, fun i hi => ?_⟩
      by_cases e : i = k
      · rw [e]; exact z.2
      · exact z.1.2 i (by omega)
    · intro z
      exact ⟨⟨z.1, fun i hi => z.2 i (by omega)⟩, z.2 k (by omega)⟩
theorem isName_loop {h0 : List nC} {t : Bool} : ∀ (r k : Nat), k + r = 22 → kT nj_M nX0 L xs d nm_171 (mQ (rfP o thr len (Int32.ofNat n) (Int32.ofNat m) X flt fat got lns crs b hh nms rsv) (fun rv l => rv = some (.int (b01 (nfl t X.2.2.2.2.2 rsv 22))) ∧ l = (rfP o thr len (Int32.ofNat n) (Int32.ofNat m) X flt fat got lns crs b hh nms rsv)) h0) (hk (rfP o thr len (Int32.ofNat n) (Int32.ofNat m) X flt fat got lns crs b hh nms rsv)) h0 16 [(0, .ref 175), (1, .int (b01 (nfl t X.2.2.2.2.2 rsv k))), (2, .int (Int32.ofNat k))] [] (rfP o thr len (Int32.ofNat n) (Int32.ofNat m) X flt fat got lns crs b hh nms rsv) := by
  intro r
  induction r with
  | zero =>
    intro k hk0
    have e : k = 22 := by omega
    subst e
    exact xw_go nostop 10 (fun K e => And.intro (fun _ => e _ _ _ _ (kT_end rfl (ret_b (by cases nfl t X.2.2.2.2.2 rsv 22; exact Or.inl rfl; exact Or.inr rfl)) ⟨rfl, rfl⟩)) (fun c => nomatch (show true = false from c)))
  | succ r ih =>
    intro k hk0
    have hx := ix_nat (i := k) (n := 22) (by omega) (by decide)
    have ih1 := ih (k + 1) (by omega)
    rw [← i32_succ] at ih1
    have hs : nfl t X.2.2.2.2.2 rsv (k + 1) = (nfl t X.2.2.2.2.2 rsv k && !decide (X.2.2.2.2.2 = rsv k)) := rfl
    rw [hs] at ih1
    refine xw_go (fun pc => pc == 16) 30 (fun K e => And.intro (fun c => absurd (of_decide_eq_true ((cmp_nat (i := k) (j := 22) (by omega) (by omega)).1.symm.trans c)) (by omega)) (fun _ => And.intro (fun c => e _ _ _ _ (kT_sort rfl ?_)) (fun c => And.intro hx.1 (And.intro (fun c2 => e _ _ _ _ (kT_sort rfl ?_)) (fun c2 => e _ _ _ _ (kT_sort rfl ?_))))))
    · have c1 := (cmp_eq01 _).symm.trans c
      rw [show nfl t X.2.2.2.2.2 rsv k = false from by simpa using c1] at ih1
      exact ih1
    · have c3 := cmp_eq0.mp (of_decide_eq_true (show decide (lg_cmp X.2.2.2.2.2 (rsv (Int32.ofNat k).toNatClampNeg) = 0) = true from c2))
      rw [hx.2] at c3
      rw [decide_eq_true c3, Bool.not_true, Bool.and_false] at ih1
      exact ih1
    · have c1 := (cmp_eq01 _).symm.trans c
      have c3 : ¬ X.2.2.2.2.2 = rsv k := fun z => by
        have c4 := of_decide_eq_false (show decide (lg_cmp X.2.2.2.2.2 (rsv (Int32.ofNat k).toNatClampNeg) = 0) = false from c2)
        rw [hx.2] at c4
        exact c4 (cmp_eq0.mpr z)
      rw [show nfl t X.2.2.2.2.2 rsv k = true from by simpa using c1, decide_eq_false c3] at ih1
      exact ih1
theorem k_isName (hrs : rsvOk rsv) (h : rX b n m q X) : mS nj_M nX0 L xs d 171 [.ref 175] (rfP o thr len (Int32.ofNat n) (Int32.ofNat m) X flt fat got lns crs b hh nms rsv) (fun rv l => rv = some (.int (b01 (decide ((tk b n m q).1 = 2)))) ∧ l = (rfP o thr len (Int32.ofNat n) (Int32.ofNat m) X flt fat got lns crs b hh nms rsv)) := by
  have e1 : nfl (decide (X.2.1 = 1)) X.2.2.2.2.2 rsv 22 = decide ((tk b n m q).1 = 2) := by
    have hi : nfl (decide (X.2.1 = 1)) X.2.2.2.2.2 rsv 22 = true ↔ (tk b n m q).1 = 2 := by
      rw [nfl_iff]
      rcases rX_w h with ⟨t, k, wd, ok⟩ | ⟨t, k1, k2⟩
      · rw [k, kOf_2, wd, t]
        constructor
        · intro z i hi e
          exact z.2 i hi (by rw [hrs i hi, e])
        · intro z
          refine ⟨rfl, fun i hi e => z i hi ?_⟩
          rw [hrs i hi] at e
          exact (e256_q ⟨ok.1, ok.2.1⟩ (key_w hi)).mp e
      · exact ⟨fun z => absurd (of_decide_eq_true z.1) t, fun z => absurd z k1⟩
    cases h1 : nfl (decide (X.2.1 = 1)) X.2.2.2.2.2 rsv 22 with
    | true => exact (decide_eq_true (hi.mp h1)).symm
    | false => exact (decide_eq_false (fun z => by rw [hi.mpr z] at h1; cases h1)).symm
  rw [← e1]
  refine mS_of rfl (fun h0 => xw_go (fun pc => pc == 16) 20 (fun K e => And.intro (fun c => e _ _ _ _ (kT_sort rfl ?_)) (fun c => e _ _ _ _ (kT_sort rfl ?_))))
  · have hl := isName_loop (L := L) (xs := xs) (d := d) (o := o) (thr := thr) (len := len) (n := n) (m := m) (X := X) (flt := flt) (fat := fat) (got := got) (lns := lns) (crs := crs) (b := b) (hh := hh) (nms := nms) (rsv := rsv) (h0 := h0) (t := decide (X.2.1 = 1)) 22 0 rfl
    rw [show nfl (decide (X.2.1 = 1)) X.2.2.2.2.2 rsv 0 = false from decide_eq_false (of_decide_eq_true (show decide (¬ X.2.1 = 1) = true from c))] at hl
    exact hl
  · have hl := isName_loop (L := L) (xs := xs) (d := d) (o := o) (thr := thr) (len := len) (n := n) (m := m) (X := X) (flt := flt) (fat := fat) (got := got) (lns := lns) (crs := crs) (b := b) (hh := hh) (nms := nms) (rsv := rsv) (h0 := h0) (t := decide (X.2.1 = 1)) 22 0 rfl
    rw [show nfl (decide (X.2.1 = 1)) X.2.2.2.2.2 rsv 0 = true from decide_eq_true (Classical.not_not.mp (of_decide_eq_false (show decide (¬ X.2.1 = 1) = false from c)))] at hl
    exact hl
end RFD
