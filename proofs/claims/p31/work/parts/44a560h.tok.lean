/-! runs and blanks, and what the class's scanner makes of a token -/
section TKF
variable {b : Nat → Int32} {n : Nat}
theorem ru_ge : ∀ (k p : Nat), p ≤ ru b n k p := by
  intro k
  induction k with
  | zero => intro p; exact Nat.le_refl p
  | succ k ih =>
    intro p
    show p ≤ if p < n ∧ isA (b p) = true then ru b n k (p + 1) else p
    split
    · exact Nat.le_trans (Nat.le_succ p) (ih (p + 1))
    · exact Nat.le_refl p
theorem ru_le : ∀ (k p : Nat), p ≤ n → ru b n k p ≤ n := by
  intro k
  induction k with
  | zero => intro p h; exact h
  | succ k ih =>
    intro p h
    show (if p < n ∧ isA (b p) = true then ru b n k (p + 1) else p) ≤ n
    split
    · next h2 => exact ih (p + 1) h2.1
    · exact h
theorem ru_all : ∀ (k p i : Nat), p ≤ i → i < ru b n k p → isA (b i) = true := by
  intro k
  induction k with
  | zero => intro p i h1 h2; exact absurd (show i < p from h2) (by omega)
  | succ k ih =>
    intro p i h1 h2
    have h3 : i < if p < n ∧ isA (b p) = true then ru b n k (p + 1) else p := h2
    split at h3
    · next hc =>
      by_cases e : i = p
      · rw [e]; exact hc.2
      · exact ih (p + 1) i (by omega) h3
    · omega
theorem ru_fuel : ∀ (k k2 p : Nat), n ≤ p + k → n ≤ p + k2 → ru b n k p = ru b n k2 p := by
  intro k
  induction k with
  | zero =>
    intro k2 p h1 h2
    cases k2 with
    | zero => rfl
    | succ k2 =>
      show p = if p < n ∧ isA (b p) = true then ru b n k2 (p + 1) else p
      rw [if_neg (by omega)]
  | succ k ih =>
    intro k2 p h1 h2
    cases k2 with
    | zero =>
      show (if p < n ∧ isA (b p) = true then ru b n k (p + 1) else p) = p
      rw [if_neg (by omega)]
    | succ k2 =>
      show (if p < n ∧ isA (b p) = true then ru b n k (p + 1) else p) = if p < n ∧ isA (b p) = true then ru b n k2 (p + 1) else p
      rw [ih k2 (p + 1) (by omega) (by omega)]
theorem ru_one {p : Nat} (hp : p < n) (hA : isA (b p) = true) (k : Nat) : p + 1 ≤ ru b n (k + 1) p := by
  show p + 1 ≤ if p < n ∧ isA (b p) = true then ru b n k (p + 1) else p
  rw [if_pos ⟨hp, hA⟩]
  exact ru_ge k (p + 1)
theorem sk_ge : ∀ (k p : Nat), p ≤ sk b n k p := by
  intro k
  induction k with
  | zero => intro p; exact Nat.le_refl p
  | succ k ih =>
    intro p
    show p ≤ if p < n ∧ isB (b p) = true then sk b n k (p + 1) else p
    split
    · exact Nat.le_trans (Nat.le_succ p) (ih (p + 1))
    · exact Nat.le_refl p
theorem sk_fuel : ∀ (k k2 p : Nat), n ≤ p + k → n ≤ p + k2 → sk b n k p = sk b n k2 p := by
  intro k
  induction k with
  | zero =>
    intro k2 p h1 h2
    cases k2 with
    | zero => rfl
    | succ k2 =>
      show p = if p < n ∧ isB (b p) = true then sk b n k2 (p + 1) else p
      rw [if_neg (by omega)]
  | succ k ih =>
    intro k2 p h1 h2
    cases k2 with
    | zero =>
      show (if p < n ∧ isB (b p) = true then sk b n k (p + 1) else p) = p
      rw [if_neg (by omega)]
    | succ k2 =>
      show (if p < n ∧ isB (b p) = true then sk b n k (p + 1) else p) = if p < n ∧ isB (b p) = true then sk b n k2 (p + 1) else p
      rw [ih k2 (p + 1) (by omega) (by omega)]
theorem sk_st {p : Nat} (hn : n ≤ 940) (hp : p < n) (hB : isB (b p) = true) : sk b n 941 p = sk b n 941 (p + 1) := by
  have h1 : sk b n 941 p = if p < n ∧ isB (b p) = true then sk b n 940 (p + 1) else p := rfl
  rw [h1, if_pos ⟨hp, hB⟩]
  exact sk_fuel 940 941 (p + 1) (by omega) (by omega)
theorem sk_no {p : Nat} (h : ¬ (p < n ∧ isB (b p) = true)) : sk b n 941 p = p := by
  have h1 : sk b n 941 p = if p < n ∧ isB (b p) = true then sk b n 940 (p + 1) else p := rfl
  rw [h1, if_neg h]
/-- blanks up to q -/
theorem sk_to (hn : n ≤ 940) : ∀ (j p : Nat), p + j ≤ n → (∀ i, p ≤ i → i < p + j → isB (b i) = true) → sk b n 941 p = sk b n 941 (p + j) := by
  intro j
  induction j with
  | zero => intro p _ _; rfl
  | succ j ih =>
    intro p h1 h2
    rw [sk_st hn (by omega) (h2 p (by omega) (by omega)), ih (p + 1) (by omega) (fun i a c => h2 i (by omega) (by omega))]
    rw [show p + 1 + j = p + (j + 1) from by omega]
theorem rst_cnt {p : Nat} : ∀ j, (rst b p j).2.2.1 + (rst b p j).2.2.2 = j := by
  intro j
  induction j with
  | zero => rfl
  | succ j ih =>
    cases h : isL (b (p + j)) with
    | true => rw [rst_L h]; show (rst b p j).2.2.1 + 1 + (rst b p j).2.2.2 = j + 1; omega
    | false => rw [rst_D h]; show (rst b p j).2.2.1 + ((rst b p j).2.2.2 + 1) = j + 1; omega
theorem alP_s {f : Int32 → Bool} {p j : Nat} : alP b f p (j + 1) = (alP b f p j && f (b (p + j))) := rfl
/-- letters alone, digits alone -/
theorem rst_all {p : Nat} : ∀ j, (∀ i, i < j → isA (b (p + i)) = true) → ((rst b p j).2.2.1 = 0 ↔ alP b isD p j = true) ∧ ((rst b p j).2.2.2 = 0 ↔ alP b isL p j = true) ∧ (alP b isD p j = true → (rst b p j).2.1 = (dec (byl b p j) 0 : Nat)) ∧ (alP b isL p j = true → (rst b p j).1 = (e32 (byl b p j) 0 : Nat)) := by
  intro j
  induction j with
  | zero => intro _; exact ⟨⟨fun _ => rfl, fun _ => rfl⟩, ⟨fun _ => rfl, fun _ => rfl⟩, fun _ => rfl, fun _ => rfl⟩
  | succ j ih =>
    intro hA
    obtain ⟨i1, i2, i3, i4⟩ := ih (fun i hi => hA i (by omega))
    have hj := isA_or.mp (hA j (by omega))
    cases h : isL (b (p + j)) with
    | true =>
      have hl := isL_i.mp h
      have hd : isD (b (p + j)) = false := by
        cases hd : isD (b (p + j)) with
        | false => rfl
        | true => have := isD_i.mp hd; omega
      rw [rst_L h, alP_s, alP_s, h, hd, Bool.and_false, Bool.and_true]
      refine ⟨⟨fun z => absurd z (Nat.succ_ne_zero _), fun z => nomatch z⟩, i2, (fun z => nomatch z), fun z => ?_⟩
      show (rst b p j).1 * 32 + (b (p + j)).toInt - 97 + 1 = ((e32 (byl b p j ++ [(b (p + j)).toInt.toNat]) 0 : Nat) : Int)
      rw [i4 z, e32_app]
      show _ = ((e32 (byl b p j) 0 * 32 + ((b (p + j)).toInt.toNat - 96) : Nat) : Int)
      omega
    | false =>
      have hd : isD (b (p + j)) = true := by
        rcases hj with z | z
        · rw [h] at z; cases z
        · exact z
      have hl := isD_i.mp hd
      rw [rst_D h, alP_s, alP_s, h, hd, Bool.and_false, Bool.and_true]
      refine ⟨i1, ⟨fun z => absurd z (Nat.succ_ne_zero _), fun z => nomatch z⟩, fun z => ?_, fun z => nomatch z⟩
      have da : ∀ (a : List Nat) (c w : Nat), dec (a ++ [c]) w = dec a w * 10 + (c - 48) := by
        intro a
        induction a with
        | nil => intro c w; rfl
        | cons x a iha => intro c w; exact iha c _
      show (rst b p j).2.1 * 10 + (b (p + j)).toInt - 48 = ((dec (byl b p j ++ [(b (p + j)).toInt.toNat]) 0 : Nat) : Int)
      rw [i3 z, da]
      omega
theorem byl_len {p : Nat} : ∀ j, (byl b p j).length = j := by
  intro j
  induction j with
  | zero => rfl
  | succ j ih => show (byl b p j ++ [_]).length = j + 1; rw [List.length_append, ih]; rfl
theorem byl_L {p : Nat} : ∀ j, alP b isL p j = true → ∀ c ∈ byl b p j, let26 c := by
  intro j
  induction j with
  | zero => intro _ c hc; cases hc
  | succ j ih =>
    intro h c hc
    rw [alP_s, Bool.and_eq_true] at h
    rcases List.mem_append.mp hc with hc | hc
    · exact ih h.1 c hc
    · have := isL_i.mp h.2
      rw [List.mem_singleton.mp hc]
      unfold let26
      omega
theorem dec_lt {p : Nat} : ∀ j, alP b isD p j = true → dec (byl b p j) 0 < 10 ^ j := by
  have da : ∀ (a : List Nat) (c w : Nat), dec (a ++ [c]) w = dec a w * 10 + (c - 48) := by
    intro a
    induction a with
    | nil => intro c w; rfl
    | cons x a iha => intro c w; exact iha c _
  intro j
  induction j with
  | zero => intro _; exact Nat.zero_lt_one
  | succ j ih =>
    intro h
    rw [alP_s, Bool.and_eq_true] at h
    have h1 := ih h.1
    have h2 := isD_i.mp h.2
    show dec (byl b p j ++ [_]) 0 < 10 ^ (j + 1)
    rw [da, Nat.pow_succ]
    omega
/-- the value that the class keeps of a token -/
def tv (t : Tk) : Nat := if t.1 = 3 then t.2.2.2.1 else e32 t.2.2.1 0
theorem tq_num {p : Nat} (hA : isA (b p) = true) (h : alP b isD p (ru b n 941 p - p) = true ∧ ru b n 941 p - p ≤ 3) : tq b n p = (3, p, [], dec (byl b p (ru b n 941 p - p)) 0, ru b n 941 p) := by
  unfold tq
  rw [if_pos hA, if_pos h]
theorem tq_wrd {p : Nat} (hA : isA (b p) = true) (h0 : ¬ (alP b isD p (ru b n 941 p - p) = true ∧ ru b n 941 p - p ≤ 3)) (h : alP b isL p (ru b n 941 p - p) = true ∧ ru b n 941 p - p ≤ 7) : tq b n p = (kOf (byl b p (ru b n 941 p - p)), p, byl b p (ru b n 941 p - p), 0, ru b n 941 p) := by
  unfold tq
  rw [if_pos hA, if_neg h0, if_pos h]
theorem tq_bad {p : Nat} (hA : isA (b p) = true) (h0 : ¬ (alP b isD p (ru b n 941 p - p) = true ∧ ru b n 941 p - p ≤ 3)) (h : ¬ (alP b isL p (ru b n 941 p - p) = true ∧ ru b n 941 p - p ≤ 7)) : tq b n p = (1, p, [], 0, ru b n 941 p) := by
  unfold tq
  rw [if_pos hA, if_neg h0, if_neg h]
theorem kOf_ge (w : List Nat) : 2 ≤ kOf w ∧ (kOf w = 2 ∨ 100 ≤ kOf w) ∧ kOf w < 122 := by
  unfold kOf
  cases h : keyws.findIdx? (fun k => k == w) with
  | none => exact ⟨by decide, Or.inl rfl, by decide⟩
  | some i =>
    have h1 : i < keyws.length := (List.findIdx?_eq_some_iff_findIdx_eq.mp h).1
    have h2 : keyws.length = 22 := rfl
    refine ⟨?_, Or.inr ?_, ?_⟩
    · show 2 ≤ 100 + i; omega
    · show 100 ≤ 100 + i; omega
    · show 100 + i < 122; omega
theorem isS_i {c : Int32} (h : isS c = true) : 40 ≤ c.toInt ∧ c.toInt ≤ 62 := by
  unfold isS nj_cmp at h
  simp only [Bool.or_eq_true, Bool.and_eq_true, Bool.not_eq_true', decide_eq_false_iff_not, decide_eq_true_eq, Int32.lt_iff_toInt_lt] at h
  have e1 : (59 : Int32).toInt = 59 := rfl
  have e2 : (62 : Int32).toInt = 62 := rfl
  rcases h with h | h | h
  · omega
  · rw [h]; decide
  · rw [h]; decide
theorem tq_ne0 {q : Nat} : ¬ (tq b n q).1 = 0 := by
  unfold tq
  split
  · split
    · exact (by decide : ¬ (3 : Nat) = 0)
    · split
      · have := (kOf_ge (byl b q (ru b n 941 q - q))).1
        intro z
        have z2 : kOf (byl b q (ru b n 941 q - q)) = 0 := z
        omega
      · exact (by decide : ¬ (1 : Nat) = 0)
  · split
    · next h =>
      have := isS_i h
      intro z
      have z2 : (b q).toInt.toNat = 0 := z
      omega
    · exact (by decide : ¬ (1 : Nat) = 0)
theorem tq_end {q : Nat} (hq : q < n) : q < (tq b n q).2.2.2.2 := by
  unfold tq
  split
  · next h =>
    have := ru_one hq h 940
    split
    · exact this
    · split
      · exact this
      · exact this
  · split
    · exact Nat.lt_succ_self q
    · exact Nat.lt_succ_self q
theorem tq_pl {q : Nat} : (tq b n q).2.1 = q := by
  unfold tq
  split
  · split
    · rfl
    · split
      · rfl
      · rfl
  · split
    · rfl
    · rfl
theorem tq_le {q : Nat} (hq : q < n) : (tq b n q).2.2.2.2 ≤ n := by
  unfold tq
  split
  · have := ru_le (b := b) (n := n) 941 q (by omega)
    split
    · exact this
    · split
      · exact this
      · exact this
  · split
    · exact hq
    · exact hq
end TKF
/-- the class's key words -/
def keysOk (ky : Nat → Int64) : Prop := ∀ i, i < 22 → ky i = Int64.ofNat (e32 (keyws.getD i []) 0)
theorem i64_inj {x y : Nat} (hx : x < 9223372036854775808) (hy : y < 9223372036854775808) (h : Int64.ofNat x = Int64.ofNat y) : x = y := by
  have := congrArg Int64.toInt h
  rw [Int64.toInt_ofNat_of_lt (by omega), Int64.toInt_ofNat_of_lt (by omega)] at this
  omega
theorem e32_s {w : List Nat} (hw : ∀ c ∈ w, let26 c) (h7 : w.length ≤ 7) : e32 w 0 < 34359738368 := by
  have h1 := e32_lt hw 0 0 (by decide)
  have h2 : 32 ^ (0 + w.length) ≤ 32 ^ 7 := Nat.pow_le_pow_right (by decide) (by omega)
  have h3 : 32 ^ 7 = 34359738368 := by decide
  omega
theorem kf_go {ky : Nat → Int64} {w : List Nat} (hw : ∀ c ∈ w, let26 c) (h7 : w.length ≤ 7) : ∀ (ks : List (List Nat)) (i : Nat), (∀ j, j < ks.length → ky (i + j) = Int64.ofNat (e32 (ks.getD j []) 0)) → (∀ k ∈ ks, (∀ c ∈ k, let26 c) ∧ k.length ≤ 7) → kf ky (Int64.ofNat (e32 w 0)) ks.length i = match ks.findIdx? (fun k => k == w) with
    | some j => Int32.ofNat (100 + (i + j))
    | none => 2 := by
  intro ks
  induction ks with
  | nil => intro i _ _; rfl
  | cons k ks ih =>
    intro i h1 h2
    have hk := h2 k (List.mem_cons_self ..)
    have e0 : ky i = Int64.ofNat (e32 k 0) := h1 0 (Nat.succ_pos _)
    show (if ky i = Int64.ofNat (e32 w 0) then 100 + Int32.ofNat i else kf ky (Int64.ofNat (e32 w 0)) ks.length (i + 1)) = _
    rw [List.findIdx?_cons]
    by_cases e : k = w
    · subst e
      rw [if_pos e0, if_pos (by simp)]
      show 100 + Int32.ofNat i = Int32.ofNat (100 + (i + 0))
      rw [Int32.ofNat_add]
      rfl
    · have hne : ¬ ky i = Int64.ofNat (e32 w 0) := by
        rw [e0]
        intro z
        have s1 := e32_s hk.1 hk.2
        have s2 := e32_s hw h7
        exact e (e32_inj hk.1 hw (i64_inj (by omega) (by omega) z))
      rw [if_neg hne, if_neg (by simpa using e), ih (i + 1) (fun j hj => by
        have := h1 (j + 1) (Nat.succ_lt_succ hj)
        rw [show i + 1 + j = i + (j + 1) from by omega]
        exact this) (fun k hk => h2 k (List.mem_cons_of_mem _ hk))]
      cases ks.findIdx? (fun k => k == w) with
      | none => rfl
      | some j =>
        show Int32.ofNat (100 + (i + 1 + j)) = Int32.ofNat (100 + (i + (j + 1)))
        rw [show i + 1 + j = i + (j + 1) from by omega]
theorem keyws_ok : ∀ k ∈ keyws, (∀ c ∈ k, let26 c) ∧ k.length ≤ 7 := by unfold let26 keyws; decide
theorem kf_ok {ky : Nat → Int64} (hk : keysOk ky) {w : List Nat} (hw : ∀ c ∈ w, let26 c) (h7 : w.length ≤ 7) : kf ky (Int64.ofNat (e32 w 0)) 22 0 = Int32.ofNat (kOf w) := by
  have h := kf_go (ky := ky) hw h7 keyws 0 (fun j hj => by rw [Nat.zero_add]; exact hk j hj) keyws_ok
  have h2 : keyws.length = 22 := rfl
  rw [h2] at h
  rw [h]
  unfold kOf
  cases keyws.findIdx? (fun k => k == w) with
  | none => rfl
  | some j => show Int32.ofNat (100 + (0 + j)) = Int32.ofNat (100 + j); rw [Nat.zero_add]
theorem i32_64 {x : Nat} (hx : x < 2147483648) : (Int32.ofInt (x : Int)).toInt64 = Int64.ofNat x := by
  rw [← Int64.ofInt_int32ToInt, show Int32.ofInt (x : Int) = Int32.ofNat x from Int32.ofInt_eq_ofNat, i32_small hx, Int64.ofInt_eq_ofNat]
section SCR
variable {L : Nat} {xs : Nat → Int32} {d : Nat} {b kd pl : Nat → Int32} {vl ky : Nat → Int64} {len tok cur tak tl fk fp : Int32}
/-- one token more, at a place that is a number -/
theorem s_addN {k : Nat} (ht : k < 901) (kk p : Int32) (v : Int64) : mS nj_M nX0 L xs d 29 [.ref 1, .int kk, .int p, .long v] (txP b kd pl vl ky len (Int32.ofNat k) cur tak tl fk fp) (fun rv l => rv = none ∧ l = txP b (upd kd k kk) (upd pl k p) (vp_updL vl k v) ky len (Int32.ofNat (k + 1)) cur tak tl fk fp) := by
  have hx := ix_nat (i := k) (n := 901) ht (by decide)
  have h := s_add (L := L) (xs := xs) (d := d) (b := b) (kd := kd) (pl := pl) (vl := vl) (ky := ky) (len := len) (cur := cur) (tak := tak) (tl := tl) (fk := fk) (fp := fp) hx.1 kk p v
  rw [hx.2] at h
  rw [← i32_succ]
  exact h
abbrev pSc (b kd pl : Nat → Int32) (vl ky : Nat → Int64) (n k : Nat) (t : Tk) (cur tak tl fk fp : Int32) : Option Value → nL → Prop := fun rv l => rv = some (.int (Int32.ofNat t.2.2.2.2)) ∧ l = txP b (upd kd k (Int32.ofNat t.1)) (upd pl k (Int32.ofNat t.2.1)) (vp_updL vl k (Int64.ofNat (tv t))) ky (Int32.ofNat n) (Int32.ofNat (k + 1)) cur tak tl fk fp
theorem s_scanRun {n p k : Nat} (hn : n ≤ 940) (hp : p < n) (hA : isA (b p) = true) (hky : keysOk ky) (ht : k < 901) : mS nj_M nX0 L xs (d + 1) 28 [.ref 1, .int (Int32.ofNat p)] (txP b kd pl vl ky (Int32.ofNat n) (Int32.ofNat k) cur tak tl fk fp) (pSc b kd pl vl ky n k (tq b n p) cur tak tl fk fp) := by
  refine mS_of rfl (fun h0 => ?_)
  have hge := ru_ge (b := b) (n := n) 941 p
  have hle := ru_le (b := b) (n := n) 941 p (by omega)
  have hJ : ru b n (n - p) (p + 0) = p + (ru b n 941 p - p) := by
    rw [show p + 0 = p from rfl, ru_fuel (n - p) 941 p (by omega) (by omega)]
    omega
  have hall : ∀ i, i < ru b n 941 p - p → isA (b (p + i)) = true := fun i hi => ru_all (n := n) 941 p (p + i) (by omega) (by omega)
  have hcnt := rst_cnt (b := b) (p := p) (ru b n 941 p - p)
  obtain ⟨r1, r2, r3, r4⟩ := rst_all (b := b) (p := p) (ru b n 941 p - p) hall
  have hend : p + (ru b n 941 p - p) = ru b n 941 p := by omega
  have h156 : ¬ (alP b isD p (ru b n 941 p - p) = true ∧ ru b n 941 p - p ≤ 3) → ¬ (alP b isL p (ru b n 941 p - p) = true ∧ ru b n 941 p - p ≤ 7) → kT nj_M nX0 L xs (d + 1) nm_28 (mQ (txP b kd pl vl ky (Int32.ofNat n) (Int32.ofNat k) cur tak tl fk fp) (pSc b kd pl vl ky n k (tq b n p) cur tak tl fk fp) h0) (hk (txP b kd pl vl ky (Int32.ofNat n) (Int32.ofNat k) cur tak tl fk fp)) h0 156 (lcs p (rst b p (ru b n 941 p - p)) (p + (ru b n 941 p - p))) [] (txP b kd pl vl ky (Int32.ofNat n) (Int32.ofNat k) cur tak tl fk fp) := by
    intro z1 z2
    have ht1 := tq_bad hA z1 z2
    refine xw_go nostop 10 (fun K e => e _ _ _ _ (kT_call rfl rfl rfl rfl (s_addN ht _ _ _) ⟨rfl, rfl, rfl, rfl, rfl, rfl, trivial⟩ rfl rfl (fun rv l1 hP _ => ?_)))
    obtain ⟨rfl, rfl⟩ := hP
    refine xw_go nostop 10 (fun K e => e _ _ _ _ (kT_end rfl (ret_i _) ⟨?_, ?_⟩))
    · rw [ht1]
      exact congrArg (fun x => some (Value.int (Int32.ofNat x))) hend
    · rw [ht1]
      rfl
  have h130 : ¬ (alP b isD p (ru b n 941 p - p) = true ∧ ru b n 941 p - p ≤ 3) → kT nj_M nX0 L xs (d + 1) nm_28 (mQ (txP b kd pl vl ky (Int32.ofNat n) (Int32.ofNat k) cur tak tl fk fp) (pSc b kd pl vl ky n k (tq b n p) cur tak tl fk fp) h0) (hk (txP b kd pl vl ky (Int32.ofNat n) (Int32.ofNat k) cur tak tl fk fp)) h0 130 (lcs p (rst b p (ru b n 941 p - p)) (p + (ru b n 941 p - p))) [] (txP b kd pl vl ky (Int32.ofNat n) (Int32.ofNat k) cur tak tl fk fp) := by
    intro z1
    refine xw_go (fun pc => pc == 156) 20 (fun K e => And.intro (fun c => e _ _ _ _ (h156 z1 ?_)) (fun c => And.intro (fun c2 => e _ _ _ _ (h156 z1 ?_)) (fun c2 => e _ _ _ _ (kT_call rfl rfl rfl rfl (s_kindOf _) ⟨rfl, rfl, rfl, rfl, rfl, rfl, trivial⟩ rfl rfl (fun rv l1 hP _ => ?_)))))
    · have c1 := of_decide_eq_true ((cmp_nat (i := (rst b p (ru b n 941 p - p)).2.2.2) (j := 0) (by omega) (by decide)).2.2.2.2.2.symm.trans c)
      exact fun z => c1 (r2.mpr z.1)
    · have c3 := of_decide_eq_true ((cmp_nat (i := (rst b p (ru b n 941 p - p)).2.2.1) (j := 7) (by omega) (by decide)).2.2.1.symm.trans c2)
      exact fun z => by omega
    · obtain ⟨rfl, rfl⟩ := hP
      have c1 := of_decide_eq_false ((cmp_nat (i := (rst b p (ru b n 941 p - p)).2.2.2) (j := 0) (by omega) (by decide)).2.2.2.2.2.symm.trans c)
      have c3 := of_decide_eq_false ((cmp_nat (i := (rst b p (ru b n 941 p - p)).2.2.1) (j := 7) (by omega) (by decide)).2.2.1.symm.trans c2)
      have c4 : (rst b p (ru b n 941 p - p)).2.2.2 = 0 := Classical.not_not.mp c1
      have hL := r2.mp c4
      have h7 : ru b n 941 p - p ≤ 7 := by omega
      have ht1 := tq_wrd hA z1 ⟨hL, h7⟩
      have hw : Int64.ofInt (rst b p (ru b n 941 p - p)).1 = Int64.ofNat (e32 (byl b p (ru b n 941 p - p)) 0) := by rw [r4 hL, Int64.ofInt_eq_ofNat]
      have hkf := kf_ok hky (byl_L _ hL) (by rw [byl_len]; exact h7)
      rw [← hw] at hkf
      refine xw_go nostop 10 (fun K e => e _ _ _ _ (kT_call rfl rfl rfl rfl (s_addN ht _ _ _) ⟨rfl, rfl, rfl, rfl, rfl, rfl, trivial⟩ rfl rfl (fun rv l1 hP _ => ?_)))
      obtain ⟨rfl, rfl⟩ := hP
      refine xw_go nostop 10 (fun K e => e _ _ _ _ (kT_end rfl (ret_i _) ⟨?_, ?_⟩))
      · rw [ht1]
        exact congrArg (fun x => some (Value.int (Int32.ofNat x))) hend
      · have htv : tv (tq b n p) = e32 (byl b p (ru b n 941 p - p)) 0 := by
          rw [ht1]
          unfold tv
          have := kOf_ge (byl b p (ru b n 941 p - p))
          rw [if_neg (fun (z : kOf (byl b p (ru b n 941 p - p)) = 3) => by omega)]
        rw [htv, ← hw, ht1]
        show _ = txP b (upd kd k (Int32.ofNat (kOf (byl b p (ru b n 941 p - p))))) _ _ _ _ _ _ _ _ _ _
        rw [← hkf]
        rfl
  refine xw_go (fun pc => pc == 14) 20 (fun K e => e _ _ _ _ (kT_sort rfl (run_loop hn ?_ (n - p) 0 (by omega) hJ)))
  refine xw_go (fun pc => pc == 130) 20 (fun K e => And.intro (fun c => e _ _ _ _ (h130 ?_)) (fun c => And.intro (fun c2 => e _ _ _ _ (h130 ?_)) (fun c2 => e _ _ _ _ (kT_call rfl rfl rfl rfl (s_addN ht _ _ _) ⟨rfl, rfl, rfl, rfl, rfl, rfl, trivial⟩ rfl rfl (fun rv l1 hP _ => ?_)))))
  · have c1 := of_decide_eq_true ((cmp_nat (i := (rst b p (ru b n 941 p - p)).2.2.1) (j := 0) (by omega) (by decide)).2.2.2.2.2.symm.trans c)
    exact fun z => c1 (r1.mpr z.1)
  · have c3 := of_decide_eq_true ((cmp_nat (i := (rst b p (ru b n 941 p - p)).2.2.2) (j := 3) (by omega) (by decide)).2.2.1.symm.trans c2)
    exact fun z => by omega
  · obtain ⟨rfl, rfl⟩ := hP
    have c1 := of_decide_eq_false ((cmp_nat (i := (rst b p (ru b n 941 p - p)).2.2.1) (j := 0) (by omega) (by decide)).2.2.2.2.2.symm.trans c)
    have c3 := of_decide_eq_false ((cmp_nat (i := (rst b p (ru b n 941 p - p)).2.2.2) (j := 3) (by omega) (by decide)).2.2.1.symm.trans c2)
    have c4 : (rst b p (ru b n 941 p - p)).2.2.1 = 0 := Classical.not_not.mp c1
    have hD := r1.mp c4
    have h3 : ru b n 941 p - p ≤ 3 := by omega
    have ht1 := tq_num hA ⟨hD, h3⟩
    have hlt := dec_lt _ hD
    have hlt2 : 10 ^ (ru b n 941 p - p) ≤ 10 ^ 3 := Nat.pow_le_pow_right (by decide) h3
    have hlt3 : 10 ^ 3 = 1000 := by decide
    have hv : (Int32.ofInt (rst b p (ru b n 941 p - p)).2.1).toInt64 = Int64.ofNat (dec (byl b p (ru b n 941 p - p)) 0) := by
      rw [r3 hD]
      exact i32_64 (by omega)
    refine xw_go nostop 10 (fun K e => e _ _ _ _ (kT_end rfl (ret_i _) ⟨?_, ?_⟩))
    · rw [ht1]
      exact congrArg (fun x => some (Value.int (Int32.ofNat x))) hend
    · rw [ht1]
      show _ = txP b _ _ (vp_updL vl k (Int64.ofNat (dec (byl b p (ru b n 941 p - p)) 0))) _ _ _ _ _ _ _ _
      rw [← hv]
      rfl
theorem s_scan {n p k : Nat} (hn : n ≤ 940) (hp : p < n) (hky : keysOk ky) (ht : k < 901) : mS nj_M nX0 L xs (d + 2) 25 [.ref 1, .int (Int32.ofNat p)] (txP b kd pl vl ky (Int32.ofNat n) (Int32.ofNat k) cur tak tl fk fp) (pSc b kd pl vl ky n k (tq b n p) cur tak tl fk fp) := by
  refine mS_of rfl (fun h0 => ?_)
  have hx := ix_nat (i := p) (n := 940) (by omega) (by decide)
  have hb : b (Int32.ofNat p).toNatClampNeg = b p := by rw [hx.2]
  have hadd : ∀ (kk : Int32), isA (b p) = false → kk = Int32.ofNat (tq b n p).1 → kT nj_M nX0 L xs (d + 2) nm_25 (mQ (txP b kd pl vl ky (Int32.ofNat n) (Int32.ofNat k) cur tak tl fk fp) (pSc b kd pl vl ky n k (tq b n p) cur tak tl fk fp) h0) (hk (txP b kd pl vl ky (Int32.ofNat n) (Int32.ofNat k) cur tak tl fk fp)) h0 67 [(0, .ref 1), (1, .int (Int32.ofNat p)), (2, .int (b p)), (3, .int (b01 (isS (b p))))] [.int kk, .ref 1] (txP b kd pl vl ky (Int32.ofNat n) (Int32.ofNat k) cur tak tl fk fp) := by
    intro kk hA e1
    have ht1 : tq b n p = ((tq b n p).1, p, [], 0, p + 1) := by
      unfold tq
      rw [if_neg (by rw [hA]; decide)]
      split <;> rfl
    have ht3 : ¬ (tq b n p).1 = 3 := by
      unfold tq
      rw [if_neg (by rw [hA]; decide)]
      split
      · next h =>
        have := isS_i h
        intro z
        have z2 : (b p).toInt.toNat = 3 := z
        omega
      · exact (by decide : ¬ (1 : Nat) = 3)
    have htv : tv (tq b n p) = 0 := by
      unfold tv
      rw [if_neg ht3, ht1]
      rfl
    refine xw_go nostop 10 (fun K e => e _ _ _ _ (kT_call rfl rfl rfl rfl (s_addN ht _ _ _) ⟨rfl, rfl, rfl, rfl, rfl, rfl, trivial⟩ rfl rfl (fun rv l1 hP _ => ?_)))
    obtain ⟨rfl, rfl⟩ := hP
    refine xw_go nostop 10 (fun K e => e _ _ _ _ (kT_end rfl (ret_i _) ⟨?_, ?_⟩))
    · rw [ht1]
      show some (Value.int (Int32.ofNat p + Int32.ofInt 1)) = some (Value.int (Int32.ofNat (p + 1)))
      rw [i32_succ]
    · rw [htv, ← e1, ht1]
      rfl
  have h56 : isA (b p) = false → kT nj_M nX0 L xs (d + 2) nm_25 (mQ (txP b kd pl vl ky (Int32.ofNat n) (Int32.ofNat k) cur tak tl fk fp) (pSc b kd pl vl ky n k (tq b n p) cur tak tl fk fp) h0) (hk (txP b kd pl vl ky (Int32.ofNat n) (Int32.ofNat k) cur tak tl fk fp)) h0 56 [(0, .ref 1), (1, .int (Int32.ofNat p)), (2, .int (b p))] [.int (b01 (isS (b p)))] (txP b kd pl vl ky (Int32.ofNat n) (Int32.ofNat k) cur tak tl fk fp) := by
    intro hA
    refine xw_go (fun pc => pc == 67) 20 (fun K e => And.intro (fun c => e _ _ _ _ (kT_sort rfl (hadd _ hA ?_))) (fun c => e _ _ _ _ (kT_sort rfl (hadd _ hA ?_))))
    · have hS : isS (b p) = false := by
        have := (cmp_eq01 _).symm.trans c
        simpa using this
      unfold tq
      rw [if_neg (by rw [hA]; decide), if_neg (by rw [hS]; decide)]
      rfl
    · have hS : isS (b p) = true := by
        have := (cmp_eq01 _).symm.trans c
        simpa using this
      unfold tq
      rw [if_neg (by rw [hA]; decide), if_pos hS]
      have := isS_i hS
      apply Int32.toInt_inj.mp
      rw [i32_small (by show (b p).toInt.toNat < 2147483648; omega)]
      show (b p).toInt = ((b p).toInt.toNat : Int)
      omega
  have h51 : isA (b p) = false → isS (b p) = true → kT nj_M nX0 L xs (d + 2) nm_25 (mQ (txP b kd pl vl ky (Int32.ofNat n) (Int32.ofNat k) cur tak tl fk fp) (pSc b kd pl vl ky n k (tq b n p) cur tak tl fk fp) h0) (hk (txP b kd pl vl ky (Int32.ofNat n) (Int32.ofNat k) cur tak tl fk fp)) h0 51 [(0, .ref 1), (1, .int (Int32.ofNat p)), (2, .int (b p))] [] (txP b kd pl vl ky (Int32.ofNat n) (Int32.ofNat k) cur tak tl fk fp) := by
    intro hA hS
    have h := h56 hA
    rw [hS] at h
    exact xw_go (fun pc => pc == 56) 20 (fun K e => e _ _ _ _ h)
  have h39 : isA (b p) = false → (!nj_cmp .lt (b p) 59 && !nj_cmp .gt (b p) 62) = false → kT nj_M nX0 L xs (d + 2) nm_25 (mQ (txP b kd pl vl ky (Int32.ofNat n) (Int32.ofNat k) cur tak tl fk fp) (pSc b kd pl vl ky n k (tq b n p) cur tak tl fk fp) h0) (hk (txP b kd pl vl ky (Int32.ofNat n) (Int32.ofNat k) cur tak tl fk fp)) h0 39 [(0, .ref 1), (1, .int (Int32.ofNat p)), (2, .int (b p))] [] (txP b kd pl vl ky (Int32.ofNat n) (Int32.ofNat k) cur tak tl fk fp) := by
    intro hA h1
    refine xw_go (fun pc => pc == 51 || pc == 56) 20 (fun K e => And.intro (fun c => e _ _ _ _ (h51 hA ?_)) (fun c => And.intro (fun c2 => e _ _ _ _ ?_) (fun c2 => e _ _ _ _ (h51 hA ?_))))
    · unfold isS
      rw [h1, show nj_cmp .eq (b p) 40 = true from c]
      rfl
    · have h := h56 hA
      have hS : isS (b p) = false := by
        unfold isS
        rw [h1, show nj_cmp .eq (b p) 40 = false from c]
        have c3 := of_decide_eq_true (show decide (¬ b p = 41) = true from c2)
        show decide (b p = 41) = false
        exact decide_eq_false c3
      rw [hS] at h
      exact h
    · unfold isS
      rw [h1]
      have c3 := of_decide_eq_false (show decide (¬ b p = 41) = false from c2)
      have c4 : nj_cmp .eq (b p) 41 = true := decide_eq_true (Classical.not_not.mp c3)
      rw [c4, Bool.or_true, Bool.or_true]
  have h27 : isA (b p) = false → kT nj_M nX0 L xs (d + 2) nm_25 (mQ (txP b kd pl vl ky (Int32.ofNat n) (Int32.ofNat k) cur tak tl fk fp) (pSc b kd pl vl ky n k (tq b n p) cur tak tl fk fp) h0) (hk (txP b kd pl vl ky (Int32.ofNat n) (Int32.ofNat k) cur tak tl fk fp)) h0 27 [(0, .ref 1), (1, .int (Int32.ofNat p)), (2, .int (b p))] [] (txP b kd pl vl ky (Int32.ofNat n) (Int32.ofNat k) cur tak tl fk fp) := by
    intro hA
    refine xw_go (fun pc => pc == 51 || pc == 39) 20 (fun K e => And.intro (fun c => e _ _ _ _ (h39 hA ?_)) (fun c => And.intro (fun c2 => e _ _ _ _ (h51 hA ?_)) (fun c2 => e _ _ _ _ (h39 hA ?_))))
    · rw [show nj_cmp .lt (b p) 59 = true from c]
      rfl
    · unfold isS
      rw [show nj_cmp .lt (b p) 59 = false from c]
      have c3 : b p ≤ 62 := of_decide_eq_true (show decide (b p ≤ 62) = true from c2)
      have c4 : nj_cmp .gt (b p) 62 = false := decide_eq_false (fun (z : (62 : Int32) < b p) => by
        have := Int32.lt_iff_toInt_lt.mp z
        have := Int32.le_iff_toInt_le.mp c3
        omega)
      rw [c4]
      rfl
    · have c3 : ¬ b p ≤ 62 := of_decide_eq_false (show decide (b p ≤ 62) = false from c2)
      have c4 : nj_cmp .gt (b p) 62 = true := decide_eq_true (show (62 : Int32) < b p from by
        rw [Int32.lt_iff_toInt_lt]
        have c5 : ¬ (b p).toInt ≤ (62 : Int32).toInt := fun z => c3 (Int32.le_iff_toInt_le.mpr z)
        omega)
      rw [c4, Bool.not_true, Bool.and_false]
  have h21 : isA (b p) = true → kT nj_M nX0 L xs (d + 2) nm_25 (mQ (txP b kd pl vl ky (Int32.ofNat n) (Int32.ofNat k) cur tak tl fk fp) (pSc b kd pl vl ky n k (tq b n p) cur tak tl fk fp) h0) (hk (txP b kd pl vl ky (Int32.ofNat n) (Int32.ofNat k) cur tak tl fk fp)) h0 21 [(0, .ref 1), (1, .int (Int32.ofNat p)), (2, .int (b p))] [] (txP b kd pl vl ky (Int32.ofNat n) (Int32.ofNat k) cur tak tl fk fp) := by
    intro hA
    refine xw_go nostop 20 (fun K e => e _ _ _ _ (kT_call rfl rfl rfl rfl (s_scanRun hn hp hA hky ht) ⟨rfl, rfl, rfl, rfl, rfl, rfl, trivial⟩ rfl rfl (fun rv l1 hP _ => ?_)))
    obtain ⟨rfl, rfl⟩ := hP
    exact xw_go nostop 10 (fun K e => e _ _ _ _ (kT_end rfl (ret_i _) ⟨rfl, rfl⟩))
  rw [← hb] at h21 h27
  refine xw_go (fun pc => pc == 21 || pc == 27) 20 (fun K e => And.intro hx.1 (e _ _ _ _ (kT_call rfl rfl rfl rfl (s_isL _) trivial rfl rfl (fun rv l1 hP _ => ?_))))
  obtain ⟨rfl, rfl⟩ := hP
  refine xw_go (fun pc => pc == 21 || pc == 27) 20 (fun K e => And.intro (fun c => e _ _ _ _ (kT_sort rfl (h21 (isA_or.mpr (Or.inl ((cmp_ne01 _).symm.trans c)))))) (fun c => e _ _ _ _ (kT_call rfl rfl rfl rfl (s_isD _) trivial rfl rfl (fun rv l1 hP _ => ?_))))
  obtain ⟨rfl, rfl⟩ := hP
  have hL := (cmp_ne01 _).symm.trans c
  refine xw_go (fun pc => pc == 21 || pc == 27) 20 (fun K e => And.intro (fun c2 => e _ _ _ _ (kT_sort rfl (h27 ?_))) (fun c2 => e _ _ _ _ (kT_sort rfl (h21 (isA_or.mpr (Or.inr ?_))))))
  · have hD := (cmp_eq01 _).symm.trans c2
    unfold isA
    rw [hL]
    simpa using hD
  · have hD := (cmp_eq01 _).symm.trans c2
    simpa using hD
end SCR
