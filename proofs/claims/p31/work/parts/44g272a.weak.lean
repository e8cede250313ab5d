/-! what the readers of a house need -/
def hW (H : Hs) (z : Ho) : Prop := nmOk H.1 ∧ (z.1 0 = Int32.ofNat H.1.1.length ∧ z.1 1 = Int32.ofNat H.1.2.1.length ∧ z.1 2 = Int32.ofNat H.1.2.2.1.length ∧ z.1 3 = Int32.ofNat H.1.2.2.2.length) ∧ (∀ i, i < H.1.2.1.length → z.2.2.2.1 i = oI (H.2.1.2.1.getD i none)) ∧ (∀ i, i < H.1.2.2.1.length → z.2.2.2.2.2.2.1 i = Int32.ofNat (H.2.2.1.getD i e6).1 ∧ z.2.2.2.2.2.2.2.1 i = Int32.ofNat (H.2.2.1.getD i e6).2.1 ∧ z.2.2.2.2.2.2.2.2.1 i = Int32.ofNat (H.2.2.1.getD i e6).2.2.1 ∧ z.2.2.2.2.2.2.2.2.2.1 i = Int32.ofNat (H.2.2.1.getD i e6).2.2.2.1 ∧ z.2.2.2.2.2.2.2.2.2.2.1 i = Int32.ofNat (H.2.2.1.getD i e6).2.2.2.2.1 ∧ z.2.2.2.2.2.2.2.2.2.2.2.1 i = Int32.ofNat (H.2.2.1.getD i e6).2.2.2.2.2) ∧ (∀ i, i < H.1.2.2.2.length → (H.2.2.2.getD i []).length ≤ 12 ∧ z.2.2.2.2.2.2.2.2.2.2.2.2.1 i = Int32.ofNat (H.2.2.2.getD i []).length ∧ ∀ j, j < (H.2.2.2.getD i []).length → z.2.2.2.2.2.2.2.2.2.2.2.2.2.1 (12 * i + j) = Int32.ofNat ((H.2.2.2.getD i []).getD j 0))
def rW (H : Hs) (s : Nat → Int32) : Prop := cnQ s H.1 ∧ (∀ i, i < H.1.2.1.length → s (14 + i) = oP (H.2.1.2.1.getD i none)) ∧ (∀ i, i < H.1.2.2.1.length → s (74 + i) = Int32.ofNat (H.2.2.1.getD i e6).1 ∧ s (44 + i) = Int32.ofNat (H.2.2.1.getD i e6).2.1 ∧ s (50 + i) = Int32.ofNat (H.2.2.1.getD i e6).2.2.1 ∧ s (56 + i) = Int32.ofNat (H.2.2.1.getD i e6).2.2.2.1 ∧ s (62 + i) = Int32.ofNat (H.2.2.1.getD i e6).2.2.2.2.1 ∧ s (68 + i) = Int32.ofNat (H.2.2.1.getD i e6).2.2.2.2.2) ∧ (∀ i, i < H.1.2.2.2.length → (H.2.2.2.getD i []).length ≤ 12 ∧ s (80 + i) = Int32.ofNat (H.2.2.2.getD i []).length ∧ ∀ j, j < (H.2.2.2.getD i []).length → s (84 + 12 * i + j) = Int32.ofNat ((H.2.2.2.getD i []).getD j 0))
theorem hQ_w {z : Ho} {s : Nat → Int32} (h : hQ z s) : ∃ H, hW H z ∧ rW H s ∧ hX H := by
  rcases h with h | ⟨H, ⟨n1, -, c, -, -, b3, -, -, b6, b7⟩, ⟨-, c2, crs, -, -, d3, -, -, -, d7, d8⟩, hx⟩
  · have no : ∀ {i : Nat} {p : Prop}, i < 0 → p := fun hi => absurd hi (Nat.not_lt_zero _)
    exact ⟨Hs0, ⟨⟨by decide, by decide, by decide, by decide, List.nodup_nil, fun w hw => nomatch hw⟩, ⟨(h 0 (by decide)).1, (h 1 (by decide)).1, (h 2 (by decide)).1, (h 3 (by decide)).1⟩, fun i hi => no hi, fun i hi => no hi, fun i hi => no hi⟩, ⟨⟨(h 0 (by decide)).2, (h 1 (by decide)).2, (h 2 (by decide)).2, (h 3 (by decide)).2⟩, fun i hi => no hi, fun i hi => no hi, fun i hi => no hi⟩, hX_0⟩
  · obtain ⟨l1, l2, l3, l4, -, -⟩ := id n1
    exact ⟨H, ⟨n1, c, fun i hi => b3 i (by omega), b6, b7⟩, ⟨c2, d3, d7, d8⟩, hx⟩
theorem b01_t : b01 true = 1 := rfl
theorem b01_f : b01 false = 0 := rfl
theorem b01_c (c : Bool) : b01 c = 0 ∨ b01 c = 1 := by
  cases c
  · exact Or.inl rfl
  · exact Or.inr rfl
/-- a number among the first n -/
abbrev inN (v : Int32) (n : Nat) : Prop := 0 ≤ v.toInt ∧ v.toInt < (n : Int)
section HAS
variable {L : Nat} {xs : Nat → Int32} {d : Nat} {y : Ho} {o : Nat → Value} {thr len sz lim : Int32} {X : Lx} {flt fat got lns crs : Int32} {b hh s : Nat → Int32} {nms rsv : Nat → Int64} {v : Int32} {n : Nat}
theorem c_has0 (hn : n < 1000) (hk : y.1 0 = Int32.ofNat n) : mS nj_M nX0 L xs d 55 [.ref 7, .int (Int32.ofInt 0), .int v] (hoQ y) (fun rv l => rv = some (.int (b01 (decide (inN v n)))) ∧ l = hoQ y) := by
  have e0 : (0 : Int32).toInt = 0 := rfl
  have en : (Int32.ofNat n).toInt = n := i32_small (by omega)
  refine mS_of rfl (fun h0 => xw_go nostop 20 (fun K e => And.intro (fun c => e _ _ _ _ (kT_end rfl rfl ⟨?_, rfl⟩)) (fun c => And.intro rfl (And.intro (fun c2 => e _ _ _ _ (kT_end rfl rfl ⟨?_, rfl⟩)) (fun c2 => e _ _ _ _ (kT_end rfl rfl ⟨?_, rfl⟩))))))
  · have h2 := Int32.lt_iff_toInt_lt.mp (of_decide_eq_true (show decide (v < 0) = true from c))
    rw [decide_eq_false (show ¬ inN v n from fun q => by have := q.1; omega)]
    rfl
  · have h2 := Int32.le_iff_toInt_le.mp (of_decide_eq_true (show decide (y.1 0 ≤ v) = true from c2))
    rw [hk, en] at h2
    rw [decide_eq_false (show ¬ inN v n from fun q => by have := q.2; omega)]
    rfl
  · have h1 : ¬ v.toInt < (0 : Int32).toInt := fun w => of_decide_eq_false (show decide (v < 0) = false from c) (Int32.lt_iff_toInt_lt.mpr w)
    have h2 : ¬ (y.1 0).toInt ≤ v.toInt := fun w => of_decide_eq_false (show decide (y.1 0 ≤ v) = false from c2) (Int32.le_iff_toInt_le.mpr w)
    rw [hk, en] at h2
    rw [decide_eq_true (show inN v n from ⟨by omega, by omega⟩)]
    rfl
theorem c_has1 (hn : n < 1000) (hk : y.1 1 = Int32.ofNat n) : mS nj_M nX0 L xs d 55 [.ref 7, .int (Int32.ofInt 1), .int v] (hoQ y) (fun rv l => rv = some (.int (b01 (decide (inN v n)))) ∧ l = hoQ y) := by
  have e0 : (0 : Int32).toInt = 0 := rfl
  have en : (Int32.ofNat n).toInt = n := i32_small (by omega)
  refine mS_of rfl (fun h0 => xw_go nostop 20 (fun K e => And.intro (fun c => e _ _ _ _ (kT_end rfl rfl ⟨?_, rfl⟩)) (fun c => And.intro rfl (And.intro (fun c2 => e _ _ _ _ (kT_end rfl rfl ⟨?_, rfl⟩)) (fun c2 => e _ _ _ _ (kT_end rfl rfl ⟨?_, rfl⟩))))))
  · have h2 := Int32.lt_iff_toInt_lt.mp (of_decide_eq_true (show decide (v < 0) = true from c))
    rw [decide_eq_false (show ¬ inN v n from fun q => by have := q.1; omega)]
    rfl
  · have h2 := Int32.le_iff_toInt_le.mp (of_decide_eq_true (show decide (y.1 1 ≤ v) = true from c2))
    rw [hk, en] at h2
    rw [decide_eq_false (show ¬ inN v n from fun q => by have := q.2; omega)]
    rfl
  · have h1 : ¬ v.toInt < (0 : Int32).toInt := fun w => of_decide_eq_false (show decide (v < 0) = false from c) (Int32.lt_iff_toInt_lt.mpr w)
    have h2 : ¬ (y.1 1).toInt ≤ v.toInt := fun w => of_decide_eq_false (show decide (y.1 1 ≤ v) = false from c2) (Int32.le_iff_toInt_le.mpr w)
    rw [hk, en] at h2
    rw [decide_eq_true (show inN v n from ⟨by omega, by omega⟩)]
    rfl
theorem c_has2 (hn : n < 1000) (hk : y.1 2 = Int32.ofNat n) : mS nj_M nX0 L xs d 55 [.ref 7, .int (Int32.ofInt 2), .int v] (hoQ y) (fun rv l => rv = some (.int (b01 (decide (inN v n)))) ∧ l = hoQ y) := by
  have e0 : (0 : Int32).toInt = 0 := rfl
  have en : (Int32.ofNat n).toInt = n := i32_small (by omega)
  refine mS_of rfl (fun h0 => xw_go nostop 20 (fun K e => And.intro (fun c => e _ _ _ _ (kT_end rfl rfl ⟨?_, rfl⟩)) (fun c => And.intro rfl (And.intro (fun c2 => e _ _ _ _ (kT_end rfl rfl ⟨?_, rfl⟩)) (fun c2 => e _ _ _ _ (kT_end rfl rfl ⟨?_, rfl⟩))))))
  · have h2 := Int32.lt_iff_toInt_lt.mp (of_decide_eq_true (show decide (v < 0) = true from c))
    rw [decide_eq_false (show ¬ inN v n from fun q => by have := q.1; omega)]
    rfl
  · have h2 := Int32.le_iff_toInt_le.mp (of_decide_eq_true (show decide (y.1 2 ≤ v) = true from c2))
    rw [hk, en] at h2
    rw [decide_eq_false (show ¬ inN v n from fun q => by have := q.2; omega)]
    rfl
  · have h1 : ¬ v.toInt < (0 : Int32).toInt := fun w => of_decide_eq_false (show decide (v < 0) = false from c) (Int32.lt_iff_toInt_lt.mpr w)
    have h2 : ¬ (y.1 2).toInt ≤ v.toInt := fun w => of_decide_eq_false (show decide (y.1 2 ≤ v) = false from c2) (Int32.le_iff_toInt_le.mpr w)
    rw [hk, en] at h2
    rw [decide_eq_true (show inN v n from ⟨by omega, by omega⟩)]
    rfl
theorem c_has3 (hn : n < 1000) (hk : y.1 3 = Int32.ofNat n) : mS nj_M nX0 L xs d 55 [.ref 7, .int (Int32.ofInt 3), .int v] (hoQ y) (fun rv l => rv = some (.int (b01 (decide (inN v n)))) ∧ l = hoQ y) := by
  have e0 : (0 : Int32).toInt = 0 := rfl
  have en : (Int32.ofNat n).toInt = n := i32_small (by omega)
  refine mS_of rfl (fun h0 => xw_go nostop 20 (fun K e => And.intro (fun c => e _ _ _ _ (kT_end rfl rfl ⟨?_, rfl⟩)) (fun c => And.intro rfl (And.intro (fun c2 => e _ _ _ _ (kT_end rfl rfl ⟨?_, rfl⟩)) (fun c2 => e _ _ _ _ (kT_end rfl rfl ⟨?_, rfl⟩))))))
  · have h2 := Int32.lt_iff_toInt_lt.mp (of_decide_eq_true (show decide (v < 0) = true from c))
    rw [decide_eq_false (show ¬ inN v n from fun q => by have := q.1; omega)]
    rfl
  · have h2 := Int32.le_iff_toInt_le.mp (of_decide_eq_true (show decide (y.1 3 ≤ v) = true from c2))
    rw [hk, en] at h2
    rw [decide_eq_false (show ¬ inN v n from fun q => by have := q.2; omega)]
    rfl
  · have h1 : ¬ v.toInt < (0 : Int32).toInt := fun w => of_decide_eq_false (show decide (v < 0) = false from c) (Int32.lt_iff_toInt_lt.mpr w)
    have h2 : ¬ (y.1 3).toInt ≤ v.toInt := fun w => of_decide_eq_false (show decide (y.1 3 ≤ v) = false from c2) (Int32.le_iff_toInt_le.mpr w)
    rw [hk, en] at h2
    rw [decide_eq_true (show inN v n from ⟨by omega, by omega⟩)]
    rfl
theorem isIn_n (hn : n < 1000) : (!nj_cmp .lt v (Int32.ofInt 0) && !nj_cmp .gt v (Int32.ofNat n - Int32.ofInt 1)) = decide (inN v n) := by
  have e0 : (Int32.ofInt 0).toInt = 0 := rfl
  have en : (Int32.ofNat n - Int32.ofInt 1).toInt = (n : Int) - 1 := by
    rw [← Int32.ofInt_eq_ofNat, ← Int32.ofInt_sub, a32 (by omega) (by omega)]
  by_cases c : inN v n
  · rw [decide_eq_true c, show nj_cmp .lt v (Int32.ofInt 0) = false from decide_eq_false (fun w => by have := Int32.lt_iff_toInt_lt.mp w; have := c.1; omega), show nj_cmp .gt v (Int32.ofNat n - Int32.ofInt 1) = false from decide_eq_false (fun w => by have := Int32.lt_iff_toInt_lt.mp w; have := c.2; omega)]
    rfl
  · rw [decide_eq_false c]
    by_cases c1 : v.toInt < 0
    · rw [show nj_cmp .lt v (Int32.ofInt 0) = true from decide_eq_true (Int32.lt_iff_toInt_lt.mpr (by omega))]
      rfl
    · have c2 : (n : Int) ≤ v.toInt := Int.not_lt.mp (fun w => c ⟨by omega, w⟩)
      rw [show nj_cmp .gt v (Int32.ofNat n - Int32.ofInt 1) = true from decide_eq_true (Int32.lt_iff_toInt_lt.mpr (by omega)), Bool.not_true, Bool.and_false]
theorem q_isPerson (hn : n < 1000) (hk : s 1 = Int32.ofNat n) : mS nj_M nX0 L xs (d + 1) 187 [.ref 175, .int v] (rfS o thr len sz lim X flt fat got lns crs b hh nms rsv s) (fun rv l => rv = some (.int (b01 (decide (inN v n)))) ∧ l = rfS o thr len sz lim X flt fat got lns crs b hh nms rsv s) := by
  refine mS_of rfl (fun h0 => ?_)
  refine xw_go nostop 20 (fun K e => And.intro rfl (e _ _ _ _ (kT_call rfl rfl rfl rfl (q_isIn _ _ _) trivial rfl rfl (fun rv l1 hP _ => ?_))))
  obtain ⟨rfl, rfl⟩ := hP
  exact xw_go nostop 20 (fun K e => e _ _ _ _ (kT_end rfl (ret_b (b01_c _)) ⟨by rw [← isIn_n hn, ← hk]; rfl, rfl⟩))
theorem q_isDeed (hn : n < 1000) (hk : s 3 = Int32.ofNat n) : mS nj_M nX0 L xs (d + 1) 195 [.ref 175, .int v] (rfS o thr len sz lim X flt fat got lns crs b hh nms rsv s) (fun rv l => rv = some (.int (b01 (decide (inN v n)))) ∧ l = rfS o thr len sz lim X flt fat got lns crs b hh nms rsv s) := by
  refine mS_of rfl (fun h0 => ?_)
  refine xw_go nostop 20 (fun K e => And.intro rfl (e _ _ _ _ (kT_call rfl rfl rfl rfl (q_isIn _ _ _) trivial rfl rfl (fun rv l1 hP _ => ?_))))
  obtain ⟨rfl, rfl⟩ := hP
  exact xw_go nostop 20 (fun K e => e _ _ _ _ (kT_end rfl (ret_b (b01_c _)) ⟨by rw [← isIn_n hn, ← hk]; rfl, rfl⟩))
end HAS
