/-! bits: each round takes a bit away -/
theorem bits_down (v : Int32) (h : ¬ v = 0) : (v &&& (v - Int32.ofInt 1)).toBitVec.toNat < v.toBitVec.toNat := by
  have h1 : (v &&& (v - Int32.ofInt 1)).toBitVec.toNat ≤ (v - Int32.ofInt 1).toBitVec.toNat := by
    rw [Int32.toBitVec_and, BitVec.toNat_and]
    exact Nat.and_le_right
  have h2 : ¬ v.toBitVec.toNat = 0 := fun e => h (by
    apply Int32.toBitVec_inj.mp
    apply BitVec.eq_of_toNat_eq
    rw [e]
    rfl)
  have h3 : (v - Int32.ofInt 1).toBitVec.toNat = v.toBitVec.toNat - 1 := by
    rw [Int32.toBitVec_sub, BitVec.toNat_sub]
    have e1 : (Int32.ofInt 1).toBitVec.toNat = 1 := rfl
    rw [e1]
    have := v.toBitVec.isLt
    omega
  omega
theorem bits_loop {X : nX} {L : Nat} {xs : Nat → Int32} {g d : Nat} {h : List nC} (x0 : Int32) : ∀ (N : Nat) (v n : Int32), v.toBitVec.toNat < N → nT nj_M X L xs g d nm_261 (fun rv h1 => h1 = h ∧ ∃ y : Int32, rv = some (.int y)) 4 [(2, .int v), (1, .int n), (0, .int x0)] [] h := by
  intro N
  induction N with
  | zero => intro v n hv; exact absurd hv (Nat.not_lt_zero _)
  | succ N ih =>
    intro v n hv
    refine nT_pure (pc1 := 5) (lv1 := [(2, .int v), (1, .int n), (0, .int x0)]) (st1 := [.int v]) rfl rfl rfl ?_
    by_cases e : v = 0
    · subst e
      refine nT_pure (pc1 := 20) (lv1 := [(2, .int 0), (1, .int n), (0, .int x0)]) (st1 := []) rfl rfl rfl ?_
      refine nT_pure (pc1 := 21) (lv1 := [(2, .int 0), (1, .int n), (0, .int x0)]) (st1 := [.int n]) rfl rfl rfl ?_
      exact nT_ret (rv := some (.int n)) rfl (if_pos rfl) ⟨rfl, n, rfl⟩
    · refine nT_pure (pc1 := 8) (lv1 := [(2, .int v), (1, .int n), (0, .int x0)]) (st1 := []) rfl rfl ?_ ?_
      · show nj_br 5 15 (decide (v = 0)) _ _ = _
        rw [decide_eq_false e]
        rfl
      refine nT_pure (pc1 := 11) (lv1 := [(1, .int (n + Int32.ofInt 1)), (2, .int v), (0, .int x0)]) (st1 := []) rfl rfl rfl ?_
      refine nT_pure (pc1 := 12) (lv1 := [(1, .int (n + Int32.ofInt 1)), (2, .int v), (0, .int x0)]) (st1 := [.int v]) rfl rfl rfl ?_
      refine nT_pure (pc1 := 13) (lv1 := [(1, .int (n + Int32.ofInt 1)), (2, .int v), (0, .int x0)]) (st1 := [.int v, .int v]) rfl rfl rfl ?_
      refine nT_pure (pc1 := 14) (lv1 := [(1, .int (n + Int32.ofInt 1)), (2, .int v), (0, .int x0)]) (st1 := [.int (Int32.ofInt 1), .int v, .int v]) rfl rfl rfl ?_
      refine nT_pure (pc1 := 15) (lv1 := [(1, .int (n + Int32.ofInt 1)), (2, .int v), (0, .int x0)]) (st1 := [.int (v - Int32.ofInt 1), .int v]) rfl rfl rfl ?_
      refine nT_pure (pc1 := 16) (lv1 := [(1, .int (n + Int32.ofInt 1)), (2, .int v), (0, .int x0)]) (st1 := [.int (v &&& (v - Int32.ofInt 1))]) rfl rfl rfl ?_
      refine nT_pure (pc1 := 17) (lv1 := [(2, .int (v &&& (v - Int32.ofInt 1))), (1, .int (n + Int32.ofInt 1)), (0, .int x0)]) (st1 := []) rfl rfl rfl ?_
      refine nT_pure (pc1 := 4) (lv1 := [(2, .int (v &&& (v - Int32.ofInt 1))), (1, .int (n + Int32.ofInt 1)), (0, .int x0)]) (st1 := []) rfl rfl rfl ?_
      exact ih _ _ (by have := bits_down v e; omega)
theorem man_bits {X : nX} {L : Nat} {xs : Nat → Int32} {g : Nat} {S : List Nat} : nV nj_M X L xs g nFT nAT S (nJJ S) (261, 0, ([((-2147483648), 2147483647)], [], [], [], []), [.inr (.inl (0, 0))], [], [], [(([((-2147483648), 2147483647), ((-2147483648), 2147483647)], [], [], [], []), some (.inr (.inl (1, 0))))]) := by
  intro d hd mt hM h nu mu vs hJ hT k hs
  cases (show some nm_261 = some mt from hM)
  obtain ⟨z0, zr0, rfl, ze0⟩ := lc (show 1 = nu.length from k.1.1)
  cases l0 ze0
  cases l0 (show 0 = mu.length from k.2.1.1)
  obtain ⟨v0, vl0, rfl, vh0, hv0⟩ := hs.cons
  have vx0 := aRs vh0 (show _ = some z0 from rfl)
  subst vx0
  have vnil : vl0 = [] := by cases vl0 with
    | nil => rfl
    | cons a b => exact hv0.elim
  subst vnil
  refine nT.mono (Q := fun rv h1 => h1 = h ∧ ∃ y : Int32, rv = some (.int y)) ?_ ?_
  · rintro rv h1 ⟨rfl, y, rfl⟩
    refine ⟨hJ, hT, nFr.rf, _, List.mem_singleton.mpr rfl, [z0, y.toInt], [], ⟨[y.toInt], [], rfl, rfl⟩, ⟨aE2 (k.1.2 0 z0 _ rfl rfl) (aFull_ok y), k.2.1, (fun e he => nomatch he), (fun e he => nomatch he), (fun e he => nomatch he)⟩, aRi (mu := []) rfl (Int.add_zero _).symm⟩
  · refine nT_pure (pc1 := 1) (lv1 := [(0, .int (Int32.ofInt (z0 + 0)))]) (st1 := [.int (Int32.ofInt 0)]) rfl rfl rfl ?_
    refine nT_pure (pc1 := 2) (lv1 := [(1, .int (Int32.ofInt 0)), (0, .int (Int32.ofInt (z0 + 0)))]) (st1 := []) rfl rfl rfl ?_
    refine nT_pure (pc1 := 3) (lv1 := [(1, .int (Int32.ofInt 0)), (0, .int (Int32.ofInt (z0 + 0)))]) (st1 := [.int (Int32.ofInt (z0 + 0))]) rfl rfl rfl ?_
    refine nT_pure (pc1 := 4) (lv1 := [(2, .int (Int32.ofInt (z0 + 0))), (1, .int (Int32.ofInt 0)), (0, .int (Int32.ofInt (z0 + 0)))]) (st1 := []) rfl rfl rfl ?_
    exact bits_loop _ _ _ _ (Nat.lt_succ_self _)
