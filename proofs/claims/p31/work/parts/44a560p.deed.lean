/-! the class reads a deed -/
section RLD
variable {L : Nat} {xs : Nat → Int32} {d : Nat} {b kd pl : Nat → Int32} {vl ky : Nat → Int64} {len tok cur tak tl fk fp : Int32} {T : Nat → Tk} {p : Nat} {z : Ho} {H : Hs}
theorem ix_12 {c i : Nat} (hc : c < 4) (hi : i < 12) : nj_ix (Int32.ofNat c * (Int8.ofInt 12).toInt32 + Int32.ofNat i) 48 = true ∧ (Int32.ofNat c * (Int8.ofInt 12).toInt32 + Int32.ofNat i).toNatClampNeg = 12 * c + i := by
  have e : Int32.ofNat c * (Int8.ofInt 12).toInt32 + Int32.ofNat i = Int32.ofNat (12 * c + i) := by
    rw [Int32.ofNat_add, Int32.ofNat_mul, Int32.mul_comm]
    rfl
  rw [e]
  exact ix_nat (by omega) (by decide)
theorem deed_loop {N : List (List Nat) × List (List Nat) × List (List Nat) × List (List Nat)} {l0 : nL} {P : Option Value → nL → Prop} {h0 : List nC} {v2 : Int32} {c : Nat} {R : Rs (List Nat)} {le0 st0 : Nat → Int32} (hks : hk l0 = hk (th b kd pl vl ky len tok cur tak tl fk fp z)) (hT : tkOk T) (hN : nmOk N) (hn : nmR z.2.1 (nsl N)) (hc : c < 4) (hv2 : v2 = Int32.ofNat c)
    (hs : ∀ q acc cur1 le st, R = .inr (q, acc) → txR T kd pl vl tok cur1 q → acc.length ≤ 12 → (∀ j, j < acc.length → st (12 * c + j) = Int32.ofNat (acc.getD j 0)) → le c = Int32.ofNat acc.length → (∀ k, ¬ k = c → le k = le0 k) → (∀ k, k < 12 * c → st k = st0 k) → P (some (.int 1)) (th b kd pl vl ky len tok cur1 tak tl fk fp (z.1, z.2.1, z.2.2.1, z.2.2.2.1, z.2.2.2.2.1, z.2.2.2.2.2.1, z.2.2.2.2.2.2.1, z.2.2.2.2.2.2.2.1, z.2.2.2.2.2.2.2.2.1, z.2.2.2.2.2.2.2.2.2.1, z.2.2.2.2.2.2.2.2.2.2.1, z.2.2.2.2.2.2.2.2.2.2.2.1, le, st, z.2.2.2.2.2.2.2.2.2.2.2.2.2.2)))
    (hf : ∀ e q cur1 le st, R = .inl (e, q) → P (some (.int 0)) (th b kd pl vl ky len tok cur1 tak tl (Int32.ofNat e) (Int32.ofNat q) (z.1, z.2.1, z.2.2.1, z.2.2.2.1, z.2.2.2.2.1, z.2.2.2.2.2.1, z.2.2.2.2.2.2.1, z.2.2.2.2.2.2.2.1, z.2.2.2.2.2.2.2.2.1, z.2.2.2.2.2.2.2.2.2.1, z.2.2.2.2.2.2.2.2.2.2.1, z.2.2.2.2.2.2.2.2.2.2.2.1, le, st, z.2.2.2.2.2.2.2.2.2.2.2.2.2.2))) : ∀ (r i : Nat) (acc : List Nat) (p : Nat) (cur : Int32) (le st : Nat → Int32), i + r = 12 → acc.length = i → R = sSts T (r + 2) p acc N.1 → txR T kd pl vl tok cur p → (∀ j, j < i → st (12 * c + j) = Int32.ofNat (acc.getD j 0)) → (i = 0 ∨ le c = Int32.ofNat i) → (∀ k, ¬ k = c → le k = le0 k) → (∀ k, k < 12 * c → st k = st0 k) → ∀ lv : nLv, (lv = [(0, .ref 22), (1, .ref 1), (2, .int v2), (3, .int (Int32.ofNat i))] ∨ ∃ x, lv = [(0, .ref 22), (1, .ref 1), (2, .int v2), (3, .int (Int32.ofNat i)), (4, .int x)]) → kT nj_M nX0 L xs (d + 2) nm_45 (mQ l0 P h0) (hk l0) h0 20 lv [] (th b kd pl vl ky len tok cur tak tl fk fp (z.1, z.2.1, z.2.2.1, z.2.2.2.1, z.2.2.2.2.1, z.2.2.2.2.2.1, z.2.2.2.2.2.2.1, z.2.2.2.2.2.2.2.1, z.2.2.2.2.2.2.2.2.1, z.2.2.2.2.2.2.2.2.2.1, z.2.2.2.2.2.2.2.2.2.2.1, z.2.2.2.2.2.2.2.2.2.2.2.1, le, st, z.2.2.2.2.2.2.2.2.2.2.2.2.2.2)) := by
  intro r
  induction r with
  | zero =>
    intro i acc p cur le st hir hacc hR h hst hle hle0 hst0 lv hlv
    have hci : v2.toNatClampNeg = c := by rw [hv2]; exact ofN_cl (by omega)
    have hix4 : nj_ix v2 4 = true := by rw [hv2]; exact (ix_nat (by omega) (by decide)).1
    have b3 := hT.2.2.1 p
    have hSS : sSts T (0 + 2) p acc N.1 = if 0 < acc.length ∧ (T p).1 = 59 then .inr (p, acc) else sBind (sKno T p N.1) (fun p1 s => if acc.length = 12 then .inl (4, (T p1).2.1) else sSts T (0 + 1) (T p1).2.2.2.2 (acc ++ [s]) N.1) := rfl
    rw [hSS] at hR
    have h49f : ∀ e q, sKno T p N.1 = .inl (e, q) → ¬ (0 < acc.length ∧ (T p).1 = 59) → kT nj_M nX0 L xs (d + 2) nm_45 (mQ l0 P h0) (hk l0) h0 49 [(0, .ref 22), (1, .ref 1), (2, .int v2), (3, .int (Int32.ofNat i)), (4, .int (Int32.ofInt (-1)))] [] (th b kd pl vl ky len tok cur tak tl (Int32.ofNat e) (Int32.ofNat q) (z.1, z.2.1, z.2.2.1, z.2.2.2.1, z.2.2.2.2.1, z.2.2.2.2.2.1, z.2.2.2.2.2.2.1, z.2.2.2.2.2.2.2.1, z.2.2.2.2.2.2.2.2.1, z.2.2.2.2.2.2.2.2.2.1, z.2.2.2.2.2.2.2.2.2.2.1, z.2.2.2.2.2.2.2.2.2.2.2.1, le, st, z.2.2.2.2.2.2.2.2.2.2.2.2.2.2)) := by
      intro e q e1 hcnd
      rw [if_neg hcnd, e1] at hR
      exact xw_go nostop 20 (fun K e => And.intro (fun c1 => nomatch (show false = true from c1)) (fun _ => e _ _ _ _ (kT_end rfl rfl (hf _ _ _ _ _ hR))))
    have h49s : ∀ s, sKno T p N.1 = .inr (p, s) → s < 1000 → ¬ (0 < acc.length ∧ (T p).1 = 59) → kT nj_M nX0 L xs (d + 2) nm_45 (mQ l0 P h0) (hk l0) h0 49 [(0, .ref 22), (1, .ref 1), (2, .int v2), (3, .int (Int32.ofNat i)), (4, .int (Int32.ofNat s))] [] (th b kd pl vl ky len tok cur tak tl fk fp (z.1, z.2.1, z.2.2.1, z.2.2.2.1, z.2.2.2.2.1, z.2.2.2.2.2.1, z.2.2.2.2.2.2.1, z.2.2.2.2.2.2.2.1, z.2.2.2.2.2.2.2.2.1, z.2.2.2.2.2.2.2.2.2.1, z.2.2.2.2.2.2.2.2.2.2.1, z.2.2.2.2.2.2.2.2.2.2.2.1, le, st, z.2.2.2.2.2.2.2.2.2.2.2.2.2.2)) := by
      intro s e1 hs1 hcnd
      rw [if_neg hcnd, e1] at hR
      have hR2 : R = if acc.length = 12 then .inl (4, (T p).2.1) else sSts T (0 + 1) (T p).2.2.2.2 (acc ++ [s]) N.1 := hR
      have hne := ofN_ne hs1
      have hi12 : i = 12 := by omega
      subst hi12
      refine xw_go nostop 30 (fun K e => And.intro (fun _ => And.intro (fun c2 => nomatch (show false = true from c2)) (fun _ => e _ _ _ _ (kT_call rfl rfl rfl rfl (r_fails hT h _) ⟨rfl, rfl, rfl, rfl, rfl, rfl, trivial⟩ rfl rfl (fun rv l1 hP _ => ?_)))) (fun c2 => absurd (Classical.not_not.mp (of_decide_eq_false (show decide (¬ Int32.ofNat s = Int32.ofInt (-1)) = false from c2))) hne))
      obtain ⟨rfl, rfl⟩ := hP
      rw [if_pos hacc] at hR2
      exact xw_go nostop 20 (fun K e => e _ _ _ _ (kT_end rfl rfl (hf 4 _ _ _ _ hR2)))
    have hc59 : nj_cmp .ne (Int32.ofNat (T p).1) 59 = decide (¬ (T p).1 = 59) := (cmp_nat (i := (T p).1) (j := 59) (by omega) (by omega)).2.2.2.2.2
    have hcgt := (cmp_nat (i := i) (j := 12) (by omega) (by omega)).2.2.1
    have hcle := (cmp_nat (i := i) (j := 0) (by omega) (by omega)).2.2.2.1
    rcases hlv with rfl | ⟨x, rfl⟩
    · have h41 : ¬ (0 < acc.length ∧ (T p).1 = 59) → kT nj_M nX0 L xs (d + 2) nm_45 (mQ l0 P h0) (hk l0) h0 41 [(0, .ref 22), (1, .ref 1), (2, .int v2), (3, .int (Int32.ofNat i))] [] (th b kd pl vl ky len tok cur tak tl fk fp (z.1, z.2.1, z.2.2.1, z.2.2.2.1, z.2.2.2.2.1, z.2.2.2.2.2.1, z.2.2.2.2.2.2.1, z.2.2.2.2.2.2.2.1, z.2.2.2.2.2.2.2.2.1, z.2.2.2.2.2.2.2.2.2.1, z.2.2.2.2.2.2.2.2.2.2.1, z.2.2.2.2.2.2.2.2.2.2.2.1, le, st, z.2.2.2.2.2.2.2.2.2.2.2.2.2.2)) := by
        intro hcnd
        refine xw_go nostop 20 (fun K e => e _ _ _ _ (kT_call rfl rfl rfl rfl (r_stp (z := (z.1, z.2.1, z.2.2.1, z.2.2.2.1, z.2.2.2.2.1, z.2.2.2.2.2.1, z.2.2.2.2.2.2.1, z.2.2.2.2.2.2.2.1, z.2.2.2.2.2.2.2.2.1, z.2.2.2.2.2.2.2.2.2.1, z.2.2.2.2.2.2.2.2.2.2.1, z.2.2.2.2.2.2.2.2.2.2.2.1, le, st, z.2.2.2.2.2.2.2.2.2.2.2.2.2.2)) hT h hN hn) ⟨rfl, rfl, rfl, rfl, rfl, rfl, rfl, rfl, rfl, rfl, rfl, rfl, rfl, rfl, rfl, rfl, rfl, rfl, rfl, rfl, rfl, trivial⟩ rfl rfl (fun rv l1 hP _ => ?_)))
        rcases hP with ⟨s, e1, hs1, rfl, rfl⟩ | ⟨e, q, e1, rfl, rfl⟩
        · exact xw_go (fun pc => pc == 49) 20 (fun K e => e _ _ _ _ (kT_sort rfl (h49s s e1 (by have := hN.1; omega) hcnd)))
        · exact xw_go (fun pc => pc == 49) 20 (fun K e2 => e2 _ _ _ _ (kT_sort rfl (h49f e q e1 hcnd)))
      refine xw_go (fun pc => pc == 41) 20 (fun K e => And.intro (fun c1 => absurd (of_decide_eq_true (hcgt.symm.trans c1)) (by omega)) (fun _ => And.intro (fun c1 => e _ _ _ _ (h41 ?_)) (fun c1 => e _ _ _ _ (kT_call rfl rfl rfl rfl (r_kind hT h) ⟨rfl, rfl, rfl, rfl, rfl, rfl, trivial⟩ rfl rfl (fun rv l1 hP _ => ?_)))))
      · have := of_decide_eq_true (hcle.symm.trans c1)
        omega
      · obtain ⟨rfl, rfl⟩ := hP
        have hi0 := of_decide_eq_false (hcle.symm.trans c1)
        refine xw_go (fun pc => pc == 41) 20 (fun K e => And.intro (fun c2 => e _ _ _ _ (h41 (fun y => of_decide_eq_true (hc59.symm.trans c2) y.2))) (fun c2 => e _ _ _ _ (kT_end rfl rfl (hs p acc _ le st ?_ h (by omega) (fun j hj => hst j (by omega)) ?_ hle0 hst0))))
        · rw [hR, if_pos ⟨by omega, Classical.not_not.mp (of_decide_eq_false (hc59.symm.trans c2))⟩]
        · rcases hle with y | y
          · omega
          · rw [hacc]; exact y
    · have h41 : ¬ (0 < acc.length ∧ (T p).1 = 59) → kT nj_M nX0 L xs (d + 2) nm_45 (mQ l0 P h0) (hk l0) h0 41 [(0, .ref 22), (1, .ref 1), (2, .int v2), (3, .int (Int32.ofNat i)), (4, .int x)] [] (th b kd pl vl ky len tok cur tak tl fk fp (z.1, z.2.1, z.2.2.1, z.2.2.2.1, z.2.2.2.2.1, z.2.2.2.2.2.1, z.2.2.2.2.2.2.1, z.2.2.2.2.2.2.2.1, z.2.2.2.2.2.2.2.2.1, z.2.2.2.2.2.2.2.2.2.1, z.2.2.2.2.2.2.2.2.2.2.1, z.2.2.2.2.2.2.2.2.2.2.2.1, le, st, z.2.2.2.2.2.2.2.2.2.2.2.2.2.2)) := by
        intro hcnd
        refine xw_go nostop 20 (fun K e => e _ _ _ _ (kT_call rfl rfl rfl rfl (r_stp (z := (z.1, z.2.1, z.2.2.1, z.2.2.2.1, z.2.2.2.2.1, z.2.2.2.2.2.1, z.2.2.2.2.2.2.1, z.2.2.2.2.2.2.2.1, z.2.2.2.2.2.2.2.2.1, z.2.2.2.2.2.2.2.2.2.1, z.2.2.2.2.2.2.2.2.2.2.1, z.2.2.2.2.2.2.2.2.2.2.2.1, le, st, z.2.2.2.2.2.2.2.2.2.2.2.2.2.2)) hT h hN hn) ⟨rfl, rfl, rfl, rfl, rfl, rfl, rfl, rfl, rfl, rfl, rfl, rfl, rfl, rfl, rfl, rfl, rfl, rfl, rfl, rfl, rfl, trivial⟩ rfl rfl (fun rv l1 hP _ => ?_)))
        rcases hP with ⟨s, e1, hs1, rfl, rfl⟩ | ⟨e, q, e1, rfl, rfl⟩
        · exact xw_go (fun pc => pc == 49) 20 (fun K e => e _ _ _ _ (kT_sort rfl (h49s s e1 (by have := hN.1; omega) hcnd)))
        · exact xw_go (fun pc => pc == 49) 20 (fun K e2 => e2 _ _ _ _ (kT_sort rfl (h49f e q e1 hcnd)))
      refine xw_go (fun pc => pc == 41) 20 (fun K e => And.intro (fun c1 => absurd (of_decide_eq_true (hcgt.symm.trans c1)) (by omega)) (fun _ => And.intro (fun c1 => e _ _ _ _ (h41 ?_)) (fun c1 => e _ _ _ _ (kT_call rfl rfl rfl rfl (r_kind hT h) ⟨rfl, rfl, rfl, rfl, rfl, rfl, trivial⟩ rfl rfl (fun rv l1 hP _ => ?_)))))
      · have := of_decide_eq_true (hcle.symm.trans c1)
        omega
      · obtain ⟨rfl, rfl⟩ := hP
        have hi0 := of_decide_eq_false (hcle.symm.trans c1)
        refine xw_go (fun pc => pc == 41) 20 (fun K e => And.intro (fun c2 => e _ _ _ _ (h41 (fun y => of_decide_eq_true (hc59.symm.trans c2) y.2))) (fun c2 => e _ _ _ _ (kT_end rfl rfl (hs p acc _ le st ?_ h (by omega) (fun j hj => hst j (by omega)) ?_ hle0 hst0))))
        · rw [hR, if_pos ⟨by omega, Classical.not_not.mp (of_decide_eq_false (hc59.symm.trans c2))⟩]
        · rcases hle with y | y
          · omega
          · rw [hacc]; exact y
  | succ r ih =>
    intro i acc p cur le st hir hacc hR h hst hle hle0 hst0 lv hlv
    have hci : v2.toNatClampNeg = c := by rw [hv2]; exact ofN_cl (by omega)
    have hix4 : nj_ix v2 4 = true := by rw [hv2]; exact (ix_nat (by omega) (by decide)).1
    have b3 := hT.2.2.1 p
    have hSS : sSts T (r + 1 + 2) p acc N.1 = if 0 < acc.length ∧ (T p).1 = 59 then .inr (p, acc) else sBind (sKno T p N.1) (fun p1 s => if acc.length = 12 then .inl (4, (T p1).2.1) else sSts T (r + 2) (T p1).2.2.2.2 (acc ++ [s]) N.1) := rfl
    rw [hSS] at hR
    have h49f : ∀ e q, sKno T p N.1 = .inl (e, q) → ¬ (0 < acc.length ∧ (T p).1 = 59) → kT nj_M nX0 L xs (d + 2) nm_45 (mQ l0 P h0) (hk l0) h0 49 [(0, .ref 22), (1, .ref 1), (2, .int v2), (3, .int (Int32.ofNat i)), (4, .int (Int32.ofInt (-1)))] [] (th b kd pl vl ky len tok cur tak tl (Int32.ofNat e) (Int32.ofNat q) (z.1, z.2.1, z.2.2.1, z.2.2.2.1, z.2.2.2.2.1, z.2.2.2.2.2.1, z.2.2.2.2.2.2.1, z.2.2.2.2.2.2.2.1, z.2.2.2.2.2.2.2.2.1, z.2.2.2.2.2.2.2.2.2.1, z.2.2.2.2.2.2.2.2.2.2.1, z.2.2.2.2.2.2.2.2.2.2.2.1, le, st, z.2.2.2.2.2.2.2.2.2.2.2.2.2.2)) := by
      intro e q e1 hcnd
      rw [if_neg hcnd, e1] at hR
      exact xw_go nostop 20 (fun K e => And.intro (fun c1 => nomatch (show false = true from c1)) (fun _ => e _ _ _ _ (kT_end rfl rfl (hf _ _ _ _ _ hR))))
    have h49s : ∀ s, sKno T p N.1 = .inr (p, s) → s < 1000 → ¬ (0 < acc.length ∧ (T p).1 = 59) → kT nj_M nX0 L xs (d + 2) nm_45 (mQ l0 P h0) (hk l0) h0 49 [(0, .ref 22), (1, .ref 1), (2, .int v2), (3, .int (Int32.ofNat i)), (4, .int (Int32.ofNat s))] [] (th b kd pl vl ky len tok cur tak tl fk fp (z.1, z.2.1, z.2.2.1, z.2.2.2.1, z.2.2.2.2.1, z.2.2.2.2.2.1, z.2.2.2.2.2.2.1, z.2.2.2.2.2.2.2.1, z.2.2.2.2.2.2.2.2.1, z.2.2.2.2.2.2.2.2.2.1, z.2.2.2.2.2.2.2.2.2.2.1, z.2.2.2.2.2.2.2.2.2.2.2.1, le, st, z.2.2.2.2.2.2.2.2.2.2.2.2.2.2)) := by
      intro s e1 hs1 hcnd
      rw [if_neg hcnd, e1] at hR
      have hR2 : R = if acc.length = 12 then .inl (4, (T p).2.1) else sSts T (r + 2) (T p).2.2.2.2 (acc ++ [s]) N.1 := hR
      have hne := ofN_ne hs1
      have hx := ix_12 (c := c) (i := i) hc (by omega)
      rw [← hv2] at hx
      have hc12 := cmp_nat (i := i) (j := 12) (by omega) (by omega)
      rw [if_neg (by omega)] at hR2
      refine xw_go nostop 40 (fun K e => And.intro (fun _ => And.intro (fun _ => And.intro hx.1 (And.intro hix4 (e _ _ _ _ (kT_call rfl rfl rfl rfl (r_adv hT h) ⟨rfl, rfl, rfl, rfl, rfl, rfl, trivial⟩ rfl rfl (fun rv l1 hP _ => ?_))))) (fun c2 => absurd (Classical.not_not.mp (of_decide_eq_false (hc12.2.2.2.2.2.symm.trans c2))) (by omega))) (fun c2 => absurd (Classical.not_not.mp (of_decide_eq_false (show decide (¬ Int32.ofNat s = Int32.ofInt (-1)) = false from c2))) hne))
      obtain ⟨rfl, cur1, h1, rfl⟩ := hP
      have ih1 := ih (i + 1) (acc ++ [s]) _ cur1 (upd le v2.toNatClampNeg (Int32.ofNat i + Int32.ofInt 1)) (upd st (v2 * (Int8.ofInt 12).toInt32 + Int32.ofNat i).toNatClampNeg (Int32.ofNat s)) (by omega) (by rw [List.length_append, hacc]; rfl) hR2 h1 (fun j hj => ?_) (Or.inr ?_) (fun k hk1 => ?_) (fun k hk1 => ?_) _ (Or.inr ⟨Int32.ofNat s, rfl⟩)
      · rw [← i32_succ] at ih1
        exact xw_go (fun pc => pc == 20) 20 (fun K e => e _ _ _ _ (kT_sort rfl ih1))
      · rw [hx.2, gd_app, hacc]
        by_cases ej : j = i
        · rw [if_neg (by omega), if_pos ej]
          exact if_pos (by omega)
        · rw [if_pos (by omega)]
          exact (if_neg (by omega)).trans (hst j (by omega))
      · rw [hci, i32_succ]
        exact if_pos rfl
      · rw [hci]
        exact (if_neg hk1).trans (hle0 k hk1)
      · rw [hx.2]
        exact (if_neg (by omega)).trans (hst0 k hk1)
    have hc59 : nj_cmp .ne (Int32.ofNat (T p).1) 59 = decide (¬ (T p).1 = 59) := (cmp_nat (i := (T p).1) (j := 59) (by omega) (by omega)).2.2.2.2.2
    have hcgt := (cmp_nat (i := i) (j := 12) (by omega) (by omega)).2.2.1
    have hcle := (cmp_nat (i := i) (j := 0) (by omega) (by omega)).2.2.2.1
    rcases hlv with rfl | ⟨x, rfl⟩
    · have h41 : ¬ (0 < acc.length ∧ (T p).1 = 59) → kT nj_M nX0 L xs (d + 2) nm_45 (mQ l0 P h0) (hk l0) h0 41 [(0, .ref 22), (1, .ref 1), (2, .int v2), (3, .int (Int32.ofNat i))] [] (th b kd pl vl ky len tok cur tak tl fk fp (z.1, z.2.1, z.2.2.1, z.2.2.2.1, z.2.2.2.2.1, z.2.2.2.2.2.1, z.2.2.2.2.2.2.1, z.2.2.2.2.2.2.2.1, z.2.2.2.2.2.2.2.2.1, z.2.2.2.2.2.2.2.2.2.1, z.2.2.2.2.2.2.2.2.2.2.1, z.2.2.2.2.2.2.2.2.2.2.2.1, le, st, z.2.2.2.2.2.2.2.2.2.2.2.2.2.2)) := by
        intro hcnd
        refine xw_go nostop 20 (fun K e => e _ _ _ _ (kT_call rfl rfl rfl rfl (r_stp (z := (z.1, z.2.1, z.2.2.1, z.2.2.2.1, z.2.2.2.2.1, z.2.2.2.2.2.1, z.2.2.2.2.2.2.1, z.2.2.2.2.2.2.2.1, z.2.2.2.2.2.2.2.2.1, z.2.2.2.2.2.2.2.2.2.1, z.2.2.2.2.2.2.2.2.2.2.1, z.2.2.2.2.2.2.2.2.2.2.2.1, le, st, z.2.2.2.2.2.2.2.2.2.2.2.2.2.2)) hT h hN hn) ⟨rfl, rfl, rfl, rfl, rfl, rfl, rfl, rfl, rfl, rfl, rfl, rfl, rfl, rfl, rfl, rfl, rfl, rfl, rfl, rfl, rfl, trivial⟩ rfl rfl (fun rv l1 hP _ => ?_)))
        rcases hP with ⟨s, e1, hs1, rfl, rfl⟩ | ⟨e, q, e1, rfl, rfl⟩
        · exact xw_go (fun pc => pc == 49) 20 (fun K e => e _ _ _ _ (kT_sort rfl (h49s s e1 (by have := hN.1; omega) hcnd)))
        · exact xw_go (fun pc => pc == 49) 20 (fun K e2 => e2 _ _ _ _ (kT_sort rfl (h49f e q e1 hcnd)))
      refine xw_go (fun pc => pc == 41) 20 (fun K e => And.intro (fun c1 => absurd (of_decide_eq_true (hcgt.symm.trans c1)) (by omega)) (fun _ => And.intro (fun c1 => e _ _ _ _ (h41 ?_)) (fun c1 => e _ _ _ _ (kT_call rfl rfl rfl rfl (r_kind hT h) ⟨rfl, rfl, rfl, rfl, rfl, rfl, trivial⟩ rfl rfl (fun rv l1 hP _ => ?_)))))
      · have := of_decide_eq_true (hcle.symm.trans c1)
        omega
      · obtain ⟨rfl, rfl⟩ := hP
        have hi0 := of_decide_eq_false (hcle.symm.trans c1)
        refine xw_go (fun pc => pc == 41) 20 (fun K e => And.intro (fun c2 => e _ _ _ _ (h41 (fun y => of_decide_eq_true (hc59.symm.trans c2) y.2))) (fun c2 => e _ _ _ _ (kT_end rfl rfl (hs p acc _ le st ?_ h (by omega) (fun j hj => hst j (by omega)) ?_ hle0 hst0))))
        · rw [hR, if_pos ⟨by omega, Classical.not_not.mp (of_decide_eq_false (hc59.symm.trans c2))⟩]
        · rcases hle with y | y
          · omega
          · rw [hacc]; exact y
    · have h41 : ¬ (0 < acc.length ∧ (T p).1 = 59) → kT nj_M nX0 L xs (d + 2) nm_45 (mQ l0 P h0) (hk l0) h0 41 [(0, .ref 22), (1, .ref 1), (2, .int v2), (3, .int (Int32.ofNat i)), (4, .int x)] [] (th b kd pl vl ky len tok cur tak tl fk fp (z.1, z.2.1, z.2.2.1, z.2.2.2.1, z.2.2.2.2.1, z.2.2.2.2.2.1, z.2.2.2.2.2.2.1, z.2.2.2.2.2.2.2.1, z.2.2.2.2.2.2.2.2.1, z.2.2.2.2.2.2.2.2.2.1, z.2.2.2.2.2.2.2.2.2.2.1, z.2.2.2.2.2.2.2.2.2.2.2.1, le, st, z.2.2.2.2.2.2.2.2.2.2.2.2.2.2)) := by
        intro hcnd
        refine xw_go nostop 20 (fun K e => e _ _ _ _ (kT_call rfl rfl rfl rfl (r_stp (z := (z.1, z.2.1, z.2.2.1, z.2.2.2.1, z.2.2.2.2.1, z.2.2.2.2.2.1, z.2.2.2.2.2.2.1, z.2.2.2.2.2.2.2.1, z.2.2.2.2.2.2.2.2.1, z.2.2.2.2.2.2.2.2.2.1, z.2.2.2.2.2.2.2.2.2.2.1, z.2.2.2.2.2.2.2.2.2.2.2.1, le, st, z.2.2.2.2.2.2.2.2.2.2.2.2.2.2)) hT h hN hn) ⟨rfl, rfl, rfl, rfl, rfl, rfl, rfl, rfl, rfl, rfl, rfl, rfl, rfl, rfl, rfl, rfl, rfl, rfl, rfl, rfl, rfl, trivial⟩ rfl rfl (fun rv l1 hP _ => ?_)))
        rcases hP with ⟨s, e1, hs1, rfl, rfl⟩ | ⟨e, q, e1, rfl, rfl⟩
        · exact xw_go (fun pc => pc == 49) 20 (fun K e => e _ _ _ _ (kT_sort rfl (h49s s e1 (by have := hN.1; omega) hcnd)))
        · exact xw_go (fun pc => pc == 49) 20 (fun K e2 => e2 _ _ _ _ (kT_sort rfl (h49f e q e1 hcnd)))
      refine xw_go (fun pc => pc == 41) 20 (fun K e => And.intro (fun c1 => absurd (of_decide_eq_true (hcgt.symm.trans c1)) (by omega)) (fun _ => And.intro (fun c1 => e _ _ _ _ (h41 ?_)) (fun c1 => e _ _ _ _ (kT_call rfl rfl rfl rfl (r_kind hT h) ⟨rfl, rfl, rfl, rfl, rfl, rfl, trivial⟩ rfl rfl (fun rv l1 hP _ => ?_)))))
      · have := of_decide_eq_true (hcle.symm.trans c1)
        omega
      · obtain ⟨rfl, rfl⟩ := hP
        have hi0 := of_decide_eq_false (hcle.symm.trans c1)
        refine xw_go (fun pc => pc == 41) 20 (fun K e => And.intro (fun c2 => e _ _ _ _ (h41 (fun y => of_decide_eq_true (hc59.symm.trans c2) y.2))) (fun c2 => e _ _ _ _ (kT_end rfl rfl (hs p acc _ le st ?_ h (by omega) (fun j hj => hst j (by omega)) ?_ hle0 hst0))))
        · rw [hR, if_pos ⟨by omega, Classical.not_not.mp (of_decide_eq_false (hc59.symm.trans c2))⟩]
        · rcases hle with y | y
          · omega
          · rw [hacc]; exact y
theorem r_deed (hT : tkOk T) (h : txR T kd pl vl tok cur p) (hH : hoR H z) : mS nj_M nX0 L xs (d + 2) 45 [.ref 22, .ref 1] (th b kd pl vl ky len tok cur tak tl fk fp z) (pLn T b kd pl vl ky len tok tl fk fp z (sDeed T p H)) := by
  obtain ⟨n1, n2, n3, n4⟩ := hH
  have hb := sBe_ok (p := p) hT n1 H.1.2.2.2.length 4
  have hl4 := n1.2.2.2.1
  refine mS_of rfl (fun h0 => ?_)
  refine xw_go nostop 20 (fun K e => And.intro rfl (e _ _ _ _ (kT_call rfl rfl rfl rfl (r_begins (c := H.1.2.2.2.length) (s := 3) (lo := 22) (hi := 26) hT h n2 (by decide) rfl rfl (by decide) (by omega) n3.2.2.2) ⟨rfl, rfl, rfl, rfl, rfl, rfl, rfl, rfl, rfl, rfl, rfl, rfl, rfl, rfl, rfl, rfl, rfl, rfl, rfl, rfl, rfl, trivial⟩ rfl rfl (fun rv l1 hP _ => ?_))))
  rcases hP with ⟨q, w, cur1, e1, hlt, w1, w2, w3, rfl, h1, rfl⟩ | ⟨e, q, cur1, e1, rfl, rfl⟩
  · have hnew := hb.2 q w e1
    have e1' := hb.1.symm.trans e1
    have hlen : H.1.2.2.2.length < 4 := by omega
    have hN' := nmOk_4 n1 ⟨w1, w2, w3⟩ hnew hlen
    have hn' : nmR (vp_updL z.2.1 (22 + H.1.2.2.2.length) (Int64.ofNat (e32 w 0))) (nsl (H.1.1, H.1.2.1, H.1.2.2.1, H.1.2.2.2 ++ [w])) := by
      have := nmR_set n2 (k := 22 + H.1.2.2.2.length) (by omega) (w := w) ⟨w1, w2, w3⟩
      rw [nsl_4 n1 hlen] at this
      exact this
    have hS : sDeed T p H = sBind (sSts T 14 q [] H.1.1) (fun p2 ss => .inr (p2, ((H.1.1, H.1.2.1, H.1.2.2.1, H.1.2.2.2 ++ [w]), H.2.1, H.2.2.1, H.2.2.2 ++ [ss]))) := by
      unfold sDeed
      rw [e1']
      rfl
    refine xw_go (fun pc => pc == 20) 20 (fun K e => And.intro (fun _ => e _ _ _ _ (kT_sort rfl (deed_loop (z := (upd z.1 3 (Int32.ofNat (H.1.2.2.2.length + 1)), vp_updL z.2.1 (22 + H.1.2.2.2.length) (Int64.ofNat (e32 w 0)), z.2.2)) (cur := cur1) (tak := tak) (fk := fk) (fp := fp) (le0 := z.2.2.2.2.2.2.2.2.2.2.2.2.1) (st0 := z.2.2.2.2.2.2.2.2.2.2.2.2.2.1) rfl hT hN' hn' hlen n3.2.2.2 (fun q2 acc cur2 le st hR h2 ha hst hle hle0 hst0 => ?_) (fun e2 q2 cur2 le st hR => ?_) 12 0 [] q cur1 _ _ rfl rfl rfl h1 (fun j hj => absurd hj (Nat.not_lt_zero j)) (Or.inl rfl) (fun k _ => rfl) (fun k _ => rfl) _ (Or.inl rfl)))) (fun c1 => nomatch (show true = false from c1)))
    · have hS2 : sDeed T p H = .inr (q2, ((H.1.1, H.1.2.1, H.1.2.2.1, H.1.2.2.2 ++ [w]), H.2.1, H.2.2.1, H.2.2.2 ++ [acc])) := by
        rw [hS, show sSts T 14 q [] H.1.1 = .inr (q2, acc) from hR]
        rfl
      refine Or.inl ⟨q2, _, (upd z.1 3 (Int32.ofNat (H.1.2.2.2.length + 1)), vp_updL z.2.1 (22 + H.1.2.2.2.length) (Int64.ofNat (e32 w 0)), z.2.2.1, z.2.2.2.1, z.2.2.2.2.1, z.2.2.2.2.2.1, z.2.2.2.2.2.2.1, z.2.2.2.2.2.2.2.1, z.2.2.2.2.2.2.2.2.1, z.2.2.2.2.2.2.2.2.2.1, z.2.2.2.2.2.2.2.2.2.2.1, z.2.2.2.2.2.2.2.2.2.2.2.1, le, st, z.2.2.2.2.2.2.2.2.2.2.2.2.2.2), cur2, tak, hS2, rfl, h2, ⟨hN', hn', ⟨n3.1, n3.2.1, n3.2.2.1, ?_⟩, ?_⟩, rfl, rfl⟩
      · show Int32.ofNat (H.1.2.2.2.length + 1) = Int32.ofNat (H.1.2.2.2 ++ [w]).length
        rw [List.length_append]; rfl
      · obtain ⟨⟨a1, a2, a3, a4, a5, a6⟩, g2, g3, g4, g5, g6, g7⟩ := n4
        refine ⟨⟨a1, a2, a3, a4, a5, ?_⟩, g2, g3, g4, g5, g6, ?_⟩
        · show (H.2.2.2 ++ [acc]).length = (H.1.2.2.2 ++ [w]).length
          rw [List.length_append, List.length_append, a6]; rfl
        · intro i hi
          have hi2 : i < H.1.2.2.2.length + 1 := by
            have : i < (H.1.2.2.2 ++ [w]).length := hi
            rw [List.length_append] at this
            exact this
          show ((H.2.2.2 ++ [acc]).getD i []).length ≤ 12 ∧ le i = Int32.ofNat ((H.2.2.2 ++ [acc]).getD i []).length ∧ ∀ j, j < ((H.2.2.2 ++ [acc]).getD i []).length → st (12 * i + j) = Int32.ofNat (((H.2.2.2 ++ [acc]).getD i []).getD j 0)
          rw [gd_app, a6]
          by_cases ei : i = H.1.2.2.2.length
          · rw [if_neg (by omega), if_pos ei, ei]
            exact ⟨ha, hle, hst⟩
          · rw [if_pos (by omega)]
            have g := g7 i (by omega)
            refine ⟨g.1, (hle0 i ei).trans g.2.1, fun j hj => (hst0 _ ?_).trans (g.2.2 j hj)⟩
            have := g.1
            omega
    · refine Or.inr ⟨e2, q2, (upd z.1 3 (Int32.ofNat (H.1.2.2.2.length + 1)), vp_updL z.2.1 (22 + H.1.2.2.2.length) (Int64.ofNat (e32 w 0)), z.2.2.1, z.2.2.2.1, z.2.2.2.2.1, z.2.2.2.2.2.1, z.2.2.2.2.2.2.1, z.2.2.2.2.2.2.2.1, z.2.2.2.2.2.2.2.2.1, z.2.2.2.2.2.2.2.2.2.1, z.2.2.2.2.2.2.2.2.2.2.1, z.2.2.2.2.2.2.2.2.2.2.2.1, le, st, z.2.2.2.2.2.2.2.2.2.2.2.2.2.2), cur2, tak, ?_, rfl, rfl⟩
      rw [hS, show sSts T 14 q [] H.1.1 = .inl (e2, q2) from hR]
      rfl
  · refine xw_go nostop 20 (fun K e => And.intro (fun c1 => nomatch (show false = true from c1)) (fun _ => e _ _ _ _ (kT_end rfl rfl (Or.inr ⟨_, _, z, cur1, tak, ?_, rfl, rfl⟩))))
    unfold sDeed
    rw [hb.1.symm.trans e1]
    rfl
end RLD
