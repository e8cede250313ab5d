/-! small -/
theorem sBind_r {α β : Type} {r : Rs α} {f : Nat → α → Rs β} {x : Nat × β} (h : sBind r f = .inr x) : ∃ p a, r = .inr (p, a) ∧ f p a = .inr x := by
  cases r with
  | inl e => cases h
  | inr z => exact ⟨z.1, z.2, rfl, h⟩
theorem eq_of {a b : Nat} (ha : a < 1000) (hb : b < 1000) : nj_cmp .eq (Int32.ofNat a) (Int32.ofNat b) = decide (a = b) := by
  unfold nj_cmp
  by_cases e : a = b
  · rw [e, decide_eq_true rfl, decide_eq_true rfl]
  · rw [decide_eq_false e]
    refine decide_eq_false (fun w => e ?_)
    have h := congrArg Int32.toInt w
    rw [i32_small (by omega), i32_small (by omega)] at h
    omega
theorem gd_mem {α : Type} {l : List α} {i : Nat} {x : α} (h : i < l.length) : l.getD i x ∈ l := by
  rw [List.getD_eq_getElem?_getD, List.getElem?_eq_getElem h]
  exact List.getElem_mem h
theorem ne_of {a c : Nat} (ha : a < 1000) (hc : c < 1000) : nj_cmp .ne (Int32.ofNat a) (Int32.ofNat c) = !decide (a = c) := by
  have k := eq_of ha hc
  unfold nj_cmp at k ⊢
  by_cases e : a = c
  · rw [decide_eq_true e] at k ⊢
    exact decide_eq_false (fun w => w (of_decide_eq_true k))
  · rw [decide_eq_false e] at k ⊢
    exact decide_eq_true (fun w => of_decide_eq_false k w)
