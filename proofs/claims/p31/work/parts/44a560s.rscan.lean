/-! the reference's scanner -/
theorem pk_i {c : Int32} (h : -128 ≤ c.toInt ∧ c.toInt ≤ 127) : (pk c).toInt = if 0 ≤ c.toInt then c.toInt else c.toInt + 256 := by
  have key : ∀ k : Fin 256, (pk (Int32.ofInt ((k.val : Int) - 128))).toInt = if 128 ≤ k.val then (k.val : Int) - 128 else (k.val : Int) + 128 := by decide +kernel
  have h1 := key ⟨(c.toInt + 128).toNat, by omega⟩
  have h2 : (((c.toInt + 128).toNat : Nat) : Int) - 128 = c.toInt := by omega
  simp only [h2] at h1
  rw [Int32.ofInt_toInt] at h1
  rw [h1]
  by_cases hc : 0 ≤ c.toInt
  · rw [if_pos (by omega), if_pos hc]
  · rw [if_neg (by omega), if_neg hc]; omega
theorem pk_L {c : Int32} (h : -128 ≤ c.toInt ∧ c.toInt ≤ 127) : isL (pk c) = isL c := by
  have h1 := pk_i h
  cases hl : isL c with
  | true =>
    have := isL_i.mp hl
    rw [if_pos (by omega)] at h1
    exact isL_i.mpr (by omega)
  | false =>
    cases hl2 : isL (pk c) with
    | false => rfl
    | true =>
      have h2 := isL_i.mp hl2
      split at h1
      · rw [isL_i.mpr (by omega)] at hl; cases hl
      · omega
theorem pk_D {c : Int32} (h : -128 ≤ c.toInt ∧ c.toInt ≤ 127) : isD (pk c) = isD c := by
  have h1 := pk_i h
  cases hl : isD c with
  | true =>
    have := isD_i.mp hl
    rw [if_pos (by omega)] at h1
    exact isD_i.mpr (by omega)
  | false =>
    cases hl2 : isD (pk c) with
    | false => rfl
    | true =>
      have h2 := isD_i.mp hl2
      split at h1
      · rw [isD_i.mpr (by omega)] at hl; cases hl
      · omega
theorem pk_e {c k : Int32} (h : -128 ≤ c.toInt ∧ c.toInt ≤ 127) (hk : 0 ≤ k.toInt ∧ k.toInt ≤ 127) : nj_cmp .eq (pk c) k = nj_cmp .eq c k := by
  have h1 := pk_i h
  unfold nj_cmp
  refine decide_eq_decide.mpr ⟨fun z => ?_, fun z => ?_⟩
  · apply Int32.toInt_inj.mp
    rw [z] at h1
    split at h1 <;> omega
  · apply Int32.toInt_inj.mp
    rw [h1, z, if_pos (by omega)]
theorem pk_A {c : Int32} (h : isA c = true) : pk c = c := by
  have h1 : 48 ≤ c.toInt ∧ c.toInt ≤ 122 := by
    rcases isA_or.mp h with z | z
    · have := isL_i.mp z; omega
    · have := isD_i.mp z; omega
  apply Int32.toInt_inj.mp
  rw [pk_i (by omega), if_pos (by omega)]
theorem isS_iff {c : Int32} : isS c = true ↔ (59 ≤ c.toInt ∧ c.toInt ≤ 62) ∨ c.toInt = 40 ∨ c.toInt = 41 := by
  unfold isS nj_cmp
  simp only [Bool.or_eq_true, Bool.and_eq_true, Bool.not_eq_true', decide_eq_false_iff_not, decide_eq_true_eq, Int32.lt_iff_toInt_lt, ← Int32.toInt_inj]
  have e1 : (59 : Int32).toInt = 59 := rfl
  have e2 : (62 : Int32).toInt = 62 := rfl
  have e3 : (40 : Int32).toInt = 40 := rfl
  have e4 : (41 : Int32).toInt = 41 := rfl
  omega
theorem alP_iff {b : Nat → Int32} {f : Int32 → Bool} {q : Nat} : ∀ {j : Nat}, alP b f q j = true ↔ ∀ i, i < j → f (b (q + i)) = true := by
  intro j
  induction j with
  | zero => exact ⟨fun _ i hi => absurd hi (Nat.not_lt_zero i), fun _ => rfl⟩
  | succ j ih =>
    rw [alP_s, Bool.and_eq_true, ih]
    constructor
    · intro h i hi
      by_cases e : i = j
      · rw [e]; exact h.2
      · exact h.1 i (by omega)
    · intro h
      exact ⟨fun i hi => h i (by omega), h j (by omega)⟩
/-- the reference's number and word of a run -/
def rnum (b : Nat → Int32) (q : Nat) : Nat → Int
  | 0 => 0
  | j + 1 => 10 * rnum b q j + (b (q + j)).toInt - 48
theorem rnum_dec {b : Nat → Int32} {q : Nat} : ∀ j, alP b isD q j = true → rnum b q j = (dec (byl b q j) 0 : Nat) := by
  have da : ∀ (a : List Nat) (c w : Nat), dec (a ++ [c]) w = dec a w * 10 + (c - 48) := by
    intro a
    induction a with
    | nil => intro c w; rfl
    | cons x a iha => intro c w; exact iha c _
  intro j
  induction j with
  | zero => intro _; rfl
  | succ j ih =>
    intro h
    rw [alP_s, Bool.and_eq_true] at h
    have h2 := isD_i.mp h.2
    show 10 * rnum b q j + (b (q + j)).toInt - 48 = ((dec (byl b q j ++ [(b (q + j)).toInt.toNat]) 0 : Nat) : Int)
    rw [ih h.1, da]
    omega
theorem rn_step (x : Int) (c : Int32) : (Int8.ofInt 10).toInt32 * Int32.ofInt x + c - (Int8.ofInt 48).toInt32 = Int32.ofInt (10 * x + c.toInt - 48) := by
  rw [Int32.ofInt_sub, Int32.ofInt_add, Int32.ofInt_mul, Int32.ofInt_toInt]
  rfl
/-- a word with one letter more -/
theorem wd_step {w : Nat} {c : Int32} (hw : w < 281474976710656) (hc : 0 ≤ c.toInt ∧ c.toInt < 256) : (Int64.ofNat w <<< ((Int8.ofInt 8).toInt32.toInt64 &&& 63)) ||| c.toInt64 = Int64.ofNat (w * 256 + c.toInt.toNat) := by
  apply Int64.toBitVec_inj.mp
  rw [Int64.toBitVec_or, Int64.toBitVec_shiftLeft, BitVec.shiftLeft_eq']
  have e1 : (((Int8.ofInt 8).toInt32.toInt64 &&& 63).toBitVec.smod 64).toNat = 8 := by decide
  rw [e1]
  have e2 : c.toInt64 = Int64.ofNat c.toInt.toNat := by
    rw [← Int64.ofInt_int32ToInt, ← Int64.ofInt_eq_ofNat]
    congr 1
    omega
  rw [e2]
  apply BitVec.eq_of_toNat_eq
  show (BitVec.ofNat 64 w <<< 8 ||| BitVec.ofNat 64 c.toInt.toNat).toNat = (BitVec.ofNat 64 (w * 256 + c.toInt.toNat)).toNat
  rw [BitVec.toNat_or, BitVec.toNat_shiftLeft, BitVec.toNat_ofNat, BitVec.toNat_ofNat, BitVec.toNat_ofNat, Nat.mod_eq_of_lt (by omega), Nat.mod_eq_of_lt (by omega), Nat.mod_eq_of_lt (by omega), Nat.shiftLeft_eq, Nat.mod_eq_of_lt (by omega)]
  have h3 := Nat.shiftLeft_add_eq_or_of_lt (b := c.toInt.toNat) (i := 8) (by omega) w
  rw [Nat.shiftLeft_eq] at h3
  exact h3.symm
def rT (T : Nat → Tk) (lng : Bool) (q : Nat) (X : Lx) : Prop := X.1 = Int32.ofNat (T q).2.2.2.2 ∧ X.2.2.1 = Int32.ofNat (T q).2.1 ∧ (((T q).1 = 0 ∧ X.2.1 = (if lng = true then 4 else 0)) ∨ ((T q).1 = 1 ∧ X.2.1 = 4) ∨ ((T q).1 = kOf (T q).2.2.1 ∧ X.2.1 = 1 ∧ X.2.2.2.2.2 = Int64.ofNat (e256 (T q).2.2.1 0) ∧ wOk (T q).2.2.1) ∨ ((T q).1 = 3 ∧ X.2.1 = 2 ∧ X.2.2.2.2.1 = Int32.ofNat (T q).2.2.2.1) ∨ (40 ≤ (T q).1 ∧ (T q).1 ≤ 62 ∧ X.2.1 = 3 ∧ X.2.2.2.2.1 = Int32.ofNat (T q).1))
section RFB
variable {L : Nat} {xs : Nat → Int32} {d : Nat} {o : Nat → Value} {thr len sz lim : Int32} {X : Lx} {flt fat got lns crs : Int32} {b hh : Nat → Int32} {nms rsv : Nat → Int64}
theorem skip_loop {Q : Option Value → List nC → Prop} {ks : List Nat} {h0 : List nC} {n Z : Nat} {Y : Int32 × Int32 × Int32 × Int32 × Int64} (hn : n ≤ 940) (hby : ∀ i, i < 940 → -128 ≤ (b i).toInt ∧ (b i).toInt ≤ 127) (hexit : kT nj_M nX0 L xs (d + 1) nm_163 Q ks h0 31 [(0, .ref 175)] [] (rfP o thr len (Int32.ofNat n) lim (Int32.ofNat Z, Y) flt fat got lns crs b hh nms rsv)) : ∀ r q, q + r = n → sk b n 941 q = Z → kT nj_M nX0 L xs (d + 1) nm_163 Q ks h0 0 [(0, .ref 175)] [] (rfP o thr len (Int32.ofNat n) lim (Int32.ofNat q, Y) flt fat got lns crs b hh nms rsv) := by
  intro r
  induction r with
  | zero =>
    intro q hq hZ
    rw [sk_no (by omega)] at hZ
    subst hZ
    refine xw_go nostop 20 (fun K e => e _ _ _ _ (kT_call rfl rfl rfl rfl (q_peek (q := q) hn (by omega)) ⟨rfl, rfl, rfl, rfl, rfl, trivial⟩ rfl rfl (fun rv l1 hP _ => ?_)))
    obtain ⟨rfl, rfl⟩ := hP
    rw [if_neg (by omega)]
    refine xw_go nostop 20 (fun K e => And.intro (fun c => nomatch (show false = true from c)) (fun _ => e _ _ _ _ (kT_call rfl rfl rfl rfl (q_peek (q := q) hn (by omega)) ⟨rfl, rfl, rfl, rfl, rfl, trivial⟩ rfl rfl (fun rv l1 hP _ => ?_))))
    obtain ⟨rfl, rfl⟩ := hP
    rw [if_neg (by omega)]
    exact xw_go (fun pc => pc == 31) 20 (fun K e => And.intro (fun _ => e _ _ _ _ hexit) (fun c => nomatch (show true = false from c)))
  | succ r ih =>
    intro q hq hZ
    have hb := hby q (by omega)
    have h18 : isB (b q) = true → kT nj_M nX0 L xs (d + 1) nm_163 Q ks h0 18 [(0, .ref 175)] [] (rfP o thr len (Int32.ofNat n) lim (Int32.ofNat q, Y) flt fat got lns crs b hh nms rsv) := by
      intro hB
      rw [sk_st hn (by omega) hB] at hZ
      have ih1 := ih (q + 1) (by omega) hZ
      rw [← i32_succ] at ih1
      exact xw_go (fun pc => pc == 0) 20 (fun K e => And.intro rfl (e _ _ _ _ ih1))
    refine xw_go nostop 20 (fun K e => e _ _ _ _ (kT_call rfl rfl rfl rfl (q_peek (q := q) hn (by omega)) ⟨rfl, rfl, rfl, rfl, rfl, trivial⟩ rfl rfl (fun rv l1 hP _ => ?_)))
    obtain ⟨rfl, rfl⟩ := hP
    rw [if_pos (by omega)]
    refine xw_go (fun pc => pc == 18) 20 (fun K e => And.intro (fun c => e _ _ _ _ (h18 ?_)) (fun c => e _ _ _ _ (kT_call rfl rfl rfl rfl (q_peek (q := q) hn (by omega)) ⟨rfl, rfl, rfl, rfl, rfl, trivial⟩ rfl rfl (fun rv l1 hP _ => ?_))))
    · unfold isB
      rw [← pk_e (k := 32) hb (by decide), show nj_cmp .eq (pk (b q)) 32 = true from c]
      rfl
    · obtain ⟨rfl, rfl⟩ := hP
      rw [if_pos (by omega)]
      refine xw_go (fun pc => pc == 18 || pc == 31) 20 (fun K e => And.intro (fun c2 => e _ _ _ _ ?_) (fun c2 => e _ _ _ _ (h18 ?_)))
      · have hB : isB (b q) = false := by
          unfold isB
          rw [← pk_e (k := 32) hb (by decide), ← pk_e (k := 10) hb (by decide), show nj_cmp .eq (pk (b q)) 32 = false from c]
          exact decide_eq_false (of_decide_eq_true (show decide (¬ pk (b q) = 10) = true from c2))
        rw [sk_no (fun z => by rw [hB] at z; exact nomatch z.2)] at hZ
        subst hZ
        exact hexit
      · unfold isB
        rw [← pk_e (k := 10) hb (by decide), show nj_cmp .eq (pk (b q)) 10 = true from decide_eq_true (Classical.not_not.mp (of_decide_eq_false (show decide (¬ pk (b q) = 10) = false from c2))), Bool.or_true]
theorem e256_s {b : Nat → Int32} {q : Nat} : ∀ j, (∀ i, i < j → isA (b (q + i)) = true) → e256 (byl b q j) 0 < 256 ^ j := by
  intro j
  induction j with
  | zero => intro _; exact Nat.zero_lt_one
  | succ j ih =>
    intro h
    have h1 := ih (fun i hi => h i (by omega))
    have h2 : (b (q + j)).toInt.toNat < 256 := by
      rcases isA_or.mp (h j (by omega)) with z | z
      · have := isL_i.mp z; omega
      · have := isD_i.mp z; omega
    show e256 (byl b q j ++ [(b (q + j)).toInt.toNat]) 0 < 256 ^ (j + 1)
    rw [e256_app, Nat.pow_succ]
    show e256 (byl b q j) 0 * 256 + (b (q + j)).toInt.toNat < 256 ^ j * 256
    omega
theorem rrun_loop {Q : Option Value → List nC → Prop} {ks : List Nat} {h0 : List nC} {n q J : Nat} {c1 tkn at_ : Int32} {sm : Bool} (hn : n ≤ 940) (hby : ∀ i, i < 940 → -128 ≤ (b i).toInt ∧ (b i).toInt ≤ 127) (hexit : kT nj_M nX0 L xs (d + 1) nm_163 Q ks h0 298 [(0, .ref 175), (1, .int c1), (2, .int (b01 sm)), (3, .int (b01 (alP b (fun c => isL c == sm) q J)))] [] (rfP o thr len (Int32.ofNat n) lim (Int32.ofNat (q + J), tkn, at_, Int32.ofNat J, (Int32.ofInt (rnum b q (min J 3))), (Int64.ofNat (e256 (byl b q (min J 7)) 0))) flt fat got lns crs b hh nms rsv)) : ∀ (k j : Nat), q + j + k = n → ru b n k (q + j) = q + J → (∀ i, i < j → isA (b (q + i)) = true) → kT nj_M nX0 L xs (d + 1) nm_163 Q ks h0 181 [(0, .ref 175), (1, .int c1), (2, .int (b01 sm)), (3, .int (b01 (alP b (fun c => isL c == sm) q j)))] [] (rfP o thr len (Int32.ofNat n) lim (Int32.ofNat (q + j), tkn, at_, Int32.ofNat j, (Int32.ofInt (rnum b q (min j 3))), (Int64.ofNat (e256 (byl b q (min j 7)) 0))) flt fat got lns crs b hh nms rsv) := by
  intro k
  induction k with
  | zero =>
    intro j hj hJ _
    have e : j = J := by
      have : q + j = q + J := hJ
      omega
    subst e
    refine xw_go nostop 20 (fun K e => e _ _ _ _ (kT_call rfl rfl rfl rfl (q_peek (q := q + j) hn (by omega)) ⟨rfl, rfl, rfl, rfl, rfl, trivial⟩ rfl rfl (fun rv l1 hP _ => ?_)))
    obtain ⟨rfl, rfl⟩ := hP
    rw [if_neg (by omega)]
    refine xw_go nostop 20 (fun K e => e _ _ _ _ (kT_call rfl rfl rfl rfl (q_isL _) trivial rfl rfl (fun rv l1 hP _ => ?_)))
    obtain ⟨rfl, rfl⟩ := hP
    refine xw_go nostop 20 (fun K e => And.intro (fun c => nomatch (show false = true from c)) (fun _ => e _ _ _ _ (kT_call rfl rfl rfl rfl (q_peek (q := q + j) hn (by omega)) ⟨rfl, rfl, rfl, rfl, rfl, trivial⟩ rfl rfl (fun rv l1 hP _ => ?_))))
    obtain ⟨rfl, rfl⟩ := hP
    rw [if_neg (by omega)]
    refine xw_go nostop 20 (fun K e => e _ _ _ _ (kT_call rfl rfl rfl rfl (q_isD _) trivial rfl rfl (fun rv l1 hP _ => ?_)))
    obtain ⟨rfl, rfl⟩ := hP
    exact xw_go (fun pc => pc == 298) 20 (fun K e => And.intro (fun _ => e _ _ _ _ hexit) (fun c => nomatch (show true = false from c)))
  | succ k ih =>
    intro j hj hJ hA
    have hb := hby (q + j) (by omega)
    have hru0 : ru b n (k + 1) (q + j) = if q + j < n ∧ isA (b (q + j)) = true then ru b n k (q + j + 1) else q + j := rfl
    have hc7 := (cmp_nat (i := j) (j := 7) (by omega) (by omega)).1
    have hc3 := (cmp_nat (i := j) (j := 3) (by omega) (by omega)).1
    have h201 : isA (b (q + j)) = true → kT nj_M nX0 L xs (d + 1) nm_163 Q ks h0 201 [(0, .ref 175), (1, .int c1), (2, .int (b01 sm)), (3, .int (b01 (alP b (fun c => isL c == sm) q j)))] [] (rfP o thr len (Int32.ofNat n) lim (Int32.ofNat (q + j), tkn, at_, Int32.ofNat j, (Int32.ofInt (rnum b q (min j 3))), (Int64.ofNat (e256 (byl b q (min j 7)) 0))) flt fat got lns crs b hh nms rsv) := by
      intro hA1
      rw [hru0, if_pos ⟨by omega, hA1⟩] at hJ
      have ih1 := ih (j + 1) (by omega) hJ (fun i hi => by
        by_cases e : i = j
        · rw [e]; exact hA1
        · exact hA i (by omega))
      have hpk := pk_A hA1
      have h275 : kT nj_M nX0 L xs (d + 1) nm_163 Q ks h0 275 [(0, .ref 175), (1, .int c1), (2, .int (b01 sm)), (3, .int (b01 (alP b (fun c => isL c == sm) q (j + 1))))] [] (rfP o thr len (Int32.ofNat n) lim (Int32.ofNat (q + j), tkn, at_, Int32.ofNat j, (Int32.ofInt (rnum b q (min (j + 1) 3))), (Int64.ofNat (e256 (byl b q (min (j + 1) 7)) 0))) flt fat got lns crs b hh nms rsv) := by
        rw [show q + (j + 1) = q + j + 1 from rfl, ← i32_succ, ← i32_succ] at ih1
        exact xw_go (fun pc => pc == 181) 30 (fun K e => And.intro rfl (And.intro rfl (e _ _ _ _ ih1)))
      have h248 : kT nj_M nX0 L xs (d + 1) nm_163 Q ks h0 248 [(0, .ref 175), (1, .int c1), (2, .int (b01 sm)), (3, .int (b01 (alP b (fun c => isL c == sm) q (j + 1))))] [] (rfP o thr len (Int32.ofNat n) lim (Int32.ofNat (q + j), tkn, at_, Int32.ofNat j, (Int32.ofInt (rnum b q (min j 3))), (Int64.ofNat (e256 (byl b q (min (j + 1) 7)) 0))) flt fat got lns crs b hh nms rsv) := by
        refine xw_go (fun pc => pc == 275) 30 (fun K e => And.intro (fun c => e _ _ _ _ ?_) (fun c => e _ _ _ _ (kT_call rfl rfl rfl rfl (q_peek (q := q + j) hn (by omega)) ⟨rfl, rfl, rfl, rfl, rfl, trivial⟩ rfl rfl (fun rv l1 hP _ => ?_))))
        · have := of_decide_eq_true (hc3.symm.trans c)
          rw [show min (j + 1) 3 = min j 3 from by omega] at h275
          exact h275
        · obtain ⟨rfl, rfl⟩ := hP
          have := of_decide_eq_false (hc3.symm.trans c)
          rw [if_pos (by omega), hpk]
          rw [show min (j + 1) 3 = j + 1 from by omega, show rnum b q (j + 1) = 10 * rnum b q j + (b (q + j)).toInt - 48 from rfl, ← rn_step, show rnum b q j = rnum b q (min j 3) from by rw [show min j 3 = j from by omega]] at h275
          exact xw_go (fun pc => pc == 275) 30 (fun K e => And.intro rfl (e _ _ _ _ h275))
      have h222 : kT nj_M nX0 L xs (d + 1) nm_163 Q ks h0 222 [(0, .ref 175), (1, .int c1), (2, .int (b01 sm)), (3, .int (b01 (alP b (fun c => isL c == sm) q (j + 1))))] [] (rfP o thr len (Int32.ofNat n) lim (Int32.ofNat (q + j), tkn, at_, Int32.ofNat j, (Int32.ofInt (rnum b q (min j 3))), (Int64.ofNat (e256 (byl b q (min j 7)) 0))) flt fat got lns crs b hh nms rsv) := by
        refine xw_go (fun pc => pc == 248) 30 (fun K e => And.intro (fun c => e _ _ _ _ ?_) (fun c => e _ _ _ _ (kT_call rfl rfl rfl rfl (q_peek (q := q + j) hn (by omega)) ⟨rfl, rfl, rfl, rfl, rfl, trivial⟩ rfl rfl (fun rv l1 hP _ => ?_))))
        · have := of_decide_eq_true (hc7.symm.trans c)
          rw [show min (j + 1) 7 = min j 7 from by omega] at h248
          exact h248
        · obtain ⟨rfl, rfl⟩ := hP
          have hj7 := of_decide_eq_false (hc7.symm.trans c)
          rw [if_pos (by omega), hpk]
          have hc256 : 0 ≤ (b (q + j)).toInt ∧ (b (q + j)).toInt < 256 := by
            rcases isA_or.mp hA1 with z | z
            · have := isL_i.mp z; omega
            · have := isD_i.mp z; omega
          have hs := e256_s j hA
          have hs2 : 256 ^ j ≤ 256 ^ 6 := Nat.pow_le_pow_right (by decide) (by omega)
          have hs3 : 256 ^ 6 = 281474976710656 := by decide
          have hw := wd_step (w := e256 (byl b q j) 0) (c := b (q + j)) (by omega) hc256
          have hw2 : e256 (byl b q (j + 1)) 0 = e256 (byl b q j) 0 * 256 + (b (q + j)).toInt.toNat := by
            show e256 (byl b q j ++ [(b (q + j)).toInt.toNat]) 0 = _
            rw [e256_app]
            rfl
          rw [show min (j + 1) 7 = j + 1 from by omega, hw2, ← hw, show byl b q j = byl b q (min j 7) from by rw [show min j 7 = j from by omega]] at h248
          exact xw_go (fun pc => pc == 248) 30 (fun K e => And.intro rfl (e _ _ _ _ h248))
      have h220 : (alP b (fun c => isL c == sm) q (j + 1)) = false → kT nj_M nX0 L xs (d + 1) nm_163 Q ks h0 220 [(0, .ref 175), (1, .int c1), (2, .int (b01 sm)), (3, .int (b01 (alP b (fun c => isL c == sm) q j)))] [] (rfP o thr len (Int32.ofNat n) lim (Int32.ofNat (q + j), tkn, at_, Int32.ofNat j, (Int32.ofInt (rnum b q (min j 3))), (Int64.ofNat (e256 (byl b q (min j 7)) 0))) flt fat got lns crs b hh nms rsv) := by
        intro hf
        rw [hf] at h222
        exact xw_go (fun pc => pc == 222) 10 (fun K e => e _ _ _ _ (kT_sort rfl h222))
      have h216 : (alP b (fun c => isL c == sm) q (j + 1)) = true → kT nj_M nX0 L xs (d + 1) nm_163 Q ks h0 216 [(0, .ref 175), (1, .int c1), (2, .int (b01 sm)), (3, .int (b01 (alP b (fun c => isL c == sm) q j)))] [] (rfP o thr len (Int32.ofNat n) lim (Int32.ofNat (q + j), tkn, at_, Int32.ofNat j, (Int32.ofInt (rnum b q (min j 3))), (Int64.ofNat (e256 (byl b q (min j 7)) 0))) flt fat got lns crs b hh nms rsv) := by
        intro hf
        rw [hf] at h222
        exact xw_go (fun pc => pc == 222) 10 (fun K e => e _ _ _ _ (kT_sort rfl h222))
      refine xw_go (fun pc => pc == 220) 10 (fun K e => And.intro (fun c => e _ _ _ _ (h220 ?_)) (fun c => e _ _ _ _ (kT_call rfl rfl rfl rfl (q_peek (q := q + j) hn (by omega)) ⟨rfl, rfl, rfl, rfl, rfl, trivial⟩ rfl rfl (fun rv l1 hP _ => ?_))))
      · have c2 := (cmp_eq01 _).symm.trans c
        rw [alP_s, show alP b (fun c => isL c == sm) q j = false from by simpa using c2]
        rfl
      · obtain ⟨rfl, rfl⟩ := hP
        have c2 := (cmp_eq01 _).symm.trans c
        have hal : alP b (fun c => isL c == sm) q j = true := by simpa using c2
        rw [if_pos (by omega), hpk]
        refine xw_go nostop 20 (fun K e => e _ _ _ _ (kT_call rfl rfl rfl rfl (q_isL _) trivial rfl rfl (fun rv l1 hP _ => ?_)))
        obtain ⟨rfl, rfl⟩ := hP
        refine xw_go (fun pc => pc == 220 || pc == 216) 10 (fun K e => And.intro (fun c3 => e _ _ _ _ (h220 ?_)) (fun c3 => e _ _ _ _ (h216 ?_)))
        · have c4 := of_decide_eq_true (show decide (¬ b01 (isL (b (q + j))) = b01 sm) = true from c3)
          rw [alP_s, hal]
          cases h1 : isL (b (q + j)) <;> cases sm <;> simp_all
        · have c4 := Classical.not_not.mp (of_decide_eq_false (show decide (¬ b01 (isL (b (q + j))) = b01 sm) = false from c3))
          rw [alP_s, hal]
          cases h1 : isL (b (q + j)) <;> cases sm <;> simp_all [b01]
    refine xw_go nostop 20 (fun K e => e _ _ _ _ (kT_call rfl rfl rfl rfl (q_peek (q := q + j) hn (by omega)) ⟨rfl, rfl, rfl, rfl, rfl, trivial⟩ rfl rfl (fun rv l1 hP _ => ?_)))
    obtain ⟨rfl, rfl⟩ := hP
    rw [if_pos (by omega)]
    refine xw_go nostop 20 (fun K e => e _ _ _ _ (kT_call rfl rfl rfl rfl (q_isL _) trivial rfl rfl (fun rv l1 hP _ => ?_)))
    obtain ⟨rfl, rfl⟩ := hP
    rw [pk_L hb]
    refine xw_go (fun pc => pc == 201) 20 (fun K e => And.intro (fun c => e _ _ _ _ (h201 (isA_or.mpr (Or.inl ((cmp_ne01 _).symm.trans c))))) (fun c => e _ _ _ _ (kT_call rfl rfl rfl rfl (q_peek (q := q + j) hn (by omega)) ⟨rfl, rfl, rfl, rfl, rfl, trivial⟩ rfl rfl (fun rv l1 hP _ => ?_))))
    obtain ⟨rfl, rfl⟩ := hP
    rw [if_pos (by omega)]
    have hL := (cmp_ne01 _).symm.trans c
    refine xw_go nostop 20 (fun K e => e _ _ _ _ (kT_call rfl rfl rfl rfl (q_isD _) trivial rfl rfl (fun rv l1 hP _ => ?_)))
    obtain ⟨rfl, rfl⟩ := hP
    rw [pk_D hb]
    refine xw_go (fun pc => pc == 298 || pc == 201) 20 (fun K e => And.intro (fun c2 => e _ _ _ _ ?_) (fun c2 => e _ _ _ _ (h201 (isA_or.mpr (Or.inr ?_)))))
    · have hD := (cmp_eq01 _).symm.trans c2
      have hD2 : isD (b (q + j)) = false := by simpa using hD
      rw [hru0, if_neg (fun z => by rcases isA_or.mp z.2 with z | z <;> simp_all)] at hJ
      have e2 : j = J := by omega
      subst e2
      exact hexit
    · have hD := (cmp_eq01 _).symm.trans c2
      simpa using hD
end RFB
