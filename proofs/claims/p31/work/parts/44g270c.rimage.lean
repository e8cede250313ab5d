/-! the reference keeps an image and goes back to it -/
section IMR
variable {L : Nat} {xs : Nat → Int32} {d : Nat} {o : Nat → Value} {thr len sz lim : Int32} {X : Lx} {flt fat got lns crs : Int32} {b hh s kp ak : Nat → Int32} {nms rsv nk : Nat → Int64} {k : Nat}
theorem ix_k {m lim n k i : Nat} {v : Int32} (hv : v = Int32.ofNat k) (h : m * k + i < n) (hn : n < 2147483648) : nj_ix (Int32.ofNat m * v + Int32.ofNat i) n = true ∧ (Int32.ofNat m * v + Int32.ofNat i).toNatClampNeg = m * k + i := by
  rw [hv, ← Int32.ofNat_mul, ← Int32.ofNat_add]
  exact ix_nat h hn
theorem is_loop {Q : Option Value → List nC → Prop} {ks : List Nat} {h0 : List nC} {v : Int32} (hv : v = Int32.ofNat k) (hk2 : k < 2) (hexit : ∀ kx : Nat → Int32, (∀ j, kx j = if 360 * k ≤ j ∧ j < 360 * k + 360 then s (j - 360 * k) else kp j) → kT nj_M nX0 L xs d nm_262 Q ks h0 49 [(0, .ref 175), (1, .int v), (2, .int (Int32.ofNat 360))] [] (rfS (fun k => if k = 45 then .ref 192 else if k = 46 then .ref 193 else if k = 47 then .ref 194 else o k) thr len sz lim X flt fat got lns crs b hh nms rsv s ++ [(192, .inl (0, 720, .inl kx)), (193, .inl (3, 52, .inr (.inl nk))), (194, .inl (2, 2, .inl ak))])) : ∀ (r i : Nat) (kx : Nat → Int32), i + r = 360 → (∀ j, kx j = if 360 * k ≤ j ∧ j < 360 * k + i then s (j - 360 * k) else kp j) → kT nj_M nX0 L xs d nm_262 Q ks h0 18 [(0, .ref 175), (1, .int v), (2, .int (Int32.ofNat i))] [] (rfS (fun k => if k = 45 then .ref 192 else if k = 46 then .ref 193 else if k = 47 then .ref 194 else o k) thr len sz lim X flt fat got lns crs b hh nms rsv s ++ [(192, .inl (0, 720, .inl kx)), (193, .inl (3, 52, .inr (.inl nk))), (194, .inl (2, 2, .inl ak))]) := by
  intro r
  induction r with
  | zero =>
    intro i kx hi h1
    have e : i = 360 := by omega
    subst e
    exact xw_go (fun pc => pc == 49) 10 (fun K e => And.intro (fun _ => e _ _ _ _ (hexit kx h1)) (fun c => nomatch (show true = false from c)))
  | succ r ih =>
    intro i kx hi h1
    have hx := ix_nat (i := i) (n := 360) (by omega) (by decide)
    have hk := ix_k (m := 360) (lim := 0) (n := 720) (i := i) hv (by omega) (by decide)
    have hb := ih (i + 1) (upd kx (360 * k + i) (s i)) (by omega) (fun j => ?_)
    · rw [← i32_succ, ← hk.2, show s i = s (Int32.ofNat i).toNatClampNeg from by rw [hx.2]] at hb
      exact xw_go (fun pc => pc == 18) 30 (fun K e => And.intro (fun c => absurd (of_decide_eq_true ((cmp_nat (i := i) (j := 360) (by omega) (by omega)).1.symm.trans c)) (by omega)) (fun _ => And.intro hx.1 (And.intro hk.1 (e _ _ _ _ (kT_sort rfl hb)))))
    · by_cases ej : j = 360 * k + i
      · subst ej
        rw [up_eq, if_pos (by omega)]
        congr 1; omega
      · rw [up_ne ej, h1 j]
        by_cases c : 360 * k ≤ j ∧ j < 360 * k + i
        · rw [if_pos c, if_pos (by omega)]
        · rw [if_neg c, if_neg (by omega)]
theorem rs_loop {Q : Option Value → List nC → Prop} {ks : List Nat} {h0 : List nC} {v : Int32} (hv : v = Int32.ofNat k) (hk2 : k < 2) (hexit : ∀ kx : Nat → Int32, (∀ j, kx j = if j < 360 then kp (360 * k + j) else s j) → kT nj_M nX0 L xs d nm_263 Q ks h0 58 [(0, .ref 175), (1, .int v), (2, .int (Int32.ofNat 360))] [] (rfS (fun k => if k = 45 then .ref 192 else if k = 46 then .ref 193 else if k = 47 then .ref 194 else o k) thr len sz lim X flt fat got lns crs b hh nms rsv kx ++ [(192, .inl (0, 720, .inl kp)), (193, .inl (3, 52, .inr (.inl nk))), (194, .inl (2, 2, .inl ak))])) : ∀ (r i : Nat) (kx : Nat → Int32), i + r = 360 → (∀ j, kx j = if j < i then kp (360 * k + j) else s j) → kT nj_M nX0 L xs d nm_263 Q ks h0 27 [(0, .ref 175), (1, .int v), (2, .int (Int32.ofNat i))] [] (rfS (fun k => if k = 45 then .ref 192 else if k = 46 then .ref 193 else if k = 47 then .ref 194 else o k) thr len sz lim X flt fat got lns crs b hh nms rsv kx ++ [(192, .inl (0, 720, .inl kp)), (193, .inl (3, 52, .inr (.inl nk))), (194, .inl (2, 2, .inl ak))]) := by
  intro r
  induction r with
  | zero =>
    intro i kx hi h1
    have e : i = 360 := by omega
    subst e
    exact xw_go (fun pc => pc == 58) 10 (fun K e => And.intro (fun _ => e _ _ _ _ (hexit kx h1)) (fun c => nomatch (show true = false from c)))
  | succ r ih =>
    intro i kx hi h1
    have hx := ix_nat (i := i) (n := 360) (by omega) (by decide)
    have hk := ix_k (m := 360) (lim := 0) (n := 720) (i := i) hv (by omega) (by decide)
    have hb := ih (i + 1) (upd kx i (kp (360 * k + i))) (by omega) (fun j => ?_)
    · rw [← i32_succ, ← hk.2, show upd kx i = upd kx (Int32.ofNat i).toNatClampNeg from by rw [hx.2]] at hb
      exact xw_go (fun pc => pc == 27) 30 (fun K e => And.intro (fun c => absurd (of_decide_eq_true ((cmp_nat (i := i) (j := 360) (by omega) (by omega)).1.symm.trans c)) (by omega)) (fun _ => And.intro hk.1 (And.intro hx.1 (e _ _ _ _ (kT_sort rfl hb)))))
    · by_cases ej : j = i
      · subst ej
        rw [up_eq, if_pos (by omega)]
        try rfl
      · rw [up_ne ej, h1 j]
        by_cases c : j < i
        · rw [if_pos c, if_pos (by omega)]
        · rw [if_neg c, if_neg (by omega)]
end IMR
