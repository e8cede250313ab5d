/-! bytes that are alike where there are any say the same -/
section SAM
variable {f g : Nat → Int32} {n m : Nat}
theorem feed5_cg (h : ∀ j, j < 940 → f j = g j) (a1 a2 a3 a4 a5 : Int32) : ∀ j, j < 940 → feed5 f n a1 a2 a3 a4 a5 j = feed5 g n a1 a2 a3 a4 a5 j := by
  have cg : ∀ (f g : Nat → Int32) (k : Nat) (v : Int32), (∀ j, j < 940 → f j = g j) → ∀ j, j < 940 → upd f k v j = upd g k v j := by
    intro f g k v h j hj
    show (if j = k then v else f j) = (if j = k then v else g j)
    rw [h j hj]
  have c4 : ∀ (f g : Nat → Int32) (n : Nat) (v : Int32), (∀ j, j < 940 → f j = g j) → ∀ j, j < 940 → put4 f n v j = put4 g n v j := by
    intro f g n v h
    unfold put4
    exact cg _ _ _ _ (cg _ _ _ _ (cg _ _ _ _ (cg _ _ _ _ h)))
  unfold feed5
  exact c4 _ _ _ _ (c4 _ _ _ _ (c4 _ _ _ _ (c4 _ _ _ _ (c4 _ _ _ _ h))))
theorem sk_cg (h : ∀ j, j < n → f j = g j) : ∀ k p, sk f n k p = sk g n k p := by
  intro k
  induction k with
  | zero => intro p; rfl
  | succ k ih =>
    intro p
    show (if p < n ∧ isB (f p) = true then sk f n k (p + 1) else p) = (if p < n ∧ isB (g p) = true then sk g n k (p + 1) else p)
    by_cases hp : p < n
    · rw [h p hp, ih]
    · rw [if_neg (fun z => hp z.1), if_neg (fun z => hp z.1)]
theorem ru_cg (h : ∀ j, j < n → f j = g j) : ∀ k p, ru f n k p = ru g n k p := by
  intro k
  induction k with
  | zero => intro p; rfl
  | succ k ih =>
    intro p
    show (if p < n ∧ isA (f p) = true then ru f n k (p + 1) else p) = (if p < n ∧ isA (g p) = true then ru g n k (p + 1) else p)
    by_cases hp : p < n
    · rw [h p hp, ih]
    · rw [if_neg (fun z => hp z.1), if_neg (fun z => hp z.1)]
theorem alP_cg (h : ∀ j, j < n → f j = g j) (P : Int32 → Bool) (q : Nat) : ∀ j, q + j ≤ n → alP f P q j = alP g P q j := by
  intro j
  induction j with
  | zero => intro _; rfl
  | succ j ih =>
    intro hj
    rw [alP_s, alP_s, ih (by omega), h (q + j) (by omega)]
theorem byl_cg (h : ∀ j, j < n → f j = g j) (q : Nat) : ∀ j, q + j ≤ n → byl f q j = byl g q j := by
  intro j
  induction j with
  | zero => intro _; rfl
  | succ j ih =>
    intro hj
    show byl f q j ++ [(f (q + j)).toInt.toNat] = byl g q j ++ [(g (q + j)).toInt.toNat]
    rw [ih (by omega), h (q + j) (by omega)]
theorem tq_cg (h : ∀ j, j < n → f j = g j) {q : Nat} (hq : q < n) : tq f n q = tq g n q := by
  have hr := ru_cg h 941 q
  have hle := ru_le (b := g) (n := n) 941 q (by omega)
  unfold tq
  rw [hr, h q hq, alP_cg h isD q _ (by omega), alP_cg h isL q _ (by omega), byl_cg h q _ (by omega)]
theorem tk_cg (h : ∀ j, j < n → f j = g j) : tk f n m = tk g n m := by
  funext p
  have hs := sk_cg h 941 p
  unfold tk
  rw [hs]
  by_cases hc : min n m ≤ sk g n 941 p
  · rw [if_pos hc, if_pos hc]
  · rw [if_neg hc, if_neg hc, tq_cg h (by omega)]
end SAM
