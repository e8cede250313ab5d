/-! the law's loop; what stands outside is a premise here -/
theorem nj_get_put_eq {lv : nLv} {k : Nat} {v : Value} : nj_get (nj_put lv k v) k = some v := by
  unfold nj_get nj_put
  rw [List.find?_cons_of_pos (by simp)]
  rfl
theorem nj_get_put_ne {k j : Nat} {v : Value} (hj : ¬ j = k) : ∀ {lv : nLv}, (∀ w, nj_get lv j = some w → ¬ w.category = 2) → nj_get (nj_put lv k v) j = nj_get lv j := by
  intro lv hc
  unfold nj_get nj_put
  rw [List.find?_cons_of_neg (by simp; exact fun e => hj e.symm)]
  congr 1
  induction lv with
  | nil => rfl
  | cons q t ih =>
    by_cases e : q.1 = j
    · have h2 : ¬ q.2.category = 2 := hc q.2 (by unfold nj_get; rw [List.find?_cons_of_pos (by simp [e])]; rfl)
      rw [List.filter_cons_of_pos (by simp [e, hj, h2]), List.find?_cons_of_pos (by simp [e]), List.find?_cons_of_pos (by simp [e])]
    · have ih2 := ih (fun w hw => hc w (by unfold nj_get; rw [List.find?_cons_of_neg (by simp [e])]; exact hw))
      rw [List.find?_cons_of_neg (by simp [e]), ← ih2]
      by_cases f : (!(q.1 == k) && !(q.1 + 1 == k && q.2.category == 2)) = true
      · rw [List.filter_cons_of_pos (p := fun q : Nat × Value => !(q.1 == k) && !(q.1 + 1 == k && q.2.category == 2)) (a := q) (l := t) f, List.find?_cons_of_neg (by simp [e])]
      · rw [List.filter_cons_of_neg (p := fun q : Nat × Value => !(q.1 == k) && !(q.1 + 1 == k && q.2.category == 2)) (a := q) (l := t) f]
/-- the round's instructions look at five locals and write none -/
def vI (i : Instr) : Bool := match i with
  | .iload k => decide (k < 5)
  | .aload_n _ | .iadd | .iaload | .iand | .pop | .iconst _ | .bipush _ | .invokevirtual _ | .goto _ | .tableswitch _ _ _ _ | .ireturn => true
  | _ => false
theorem vI_all : nm_v.2.2.2.2.2.all (fun q => vI q.2.1) = true := by decide +kernel
theorem v_pureL {lv lv2 : nLv} {mL pc : Nat} {st : List Value} {i : Instr} (hg : ∀ k, k < 5 → nj_get lv2 k = nj_get lv k) (hi : vI i = true) : nj_pure lv2 mL pc st i = (nj_pure lv mL pc st i).map (fun r => (r.1, lv2, r.2.2)) := by
  unfold vI at hi
  split at hi
  · next k =>
    show nj_ldi lv2 (pc + 2) k st = (nj_ldi lv (pc + 2) k st).map _
    unfold nj_ldi
    rw [hg k (of_decide_eq_true hi)]
    cases nj_get lv k with
    | none => rfl
    | some w => cases w <;> rfl
  · next k =>
    show nj_lda lv2 (pc + 1) k st = (nj_lda lv (pc + 1) k st).map _
    unfold nj_lda
    rw [hg k (by omega)]
    cases nj_get lv k with
    | none => rfl
    | some w => cases w <;> rfl
  · show nj_b2 _ lv2 pc st = (nj_b2 _ lv pc st).map _
    unfold nj_b2
    split <;> rfl
  · rfl
  · show nj_b2 _ lv2 pc st = (nj_b2 _ lv pc st).map _
    unfold nj_b2
    split <;> rfl
  · simp only [nj_pure]
    repeat' (first | rfl | split)
  · rfl
  · rfl
  · rfl
  · show nj_go pc _ lv2 st = (nj_go pc _ lv st).map _
    unfold nj_go
    split <;> rfl
  · simp only [nj_pure, nj_tab, nj_go]
    repeat' (first | rfl | split)
  · rfl
  · cases hi
theorem v_callsL {M : Nat → Option nM} {X : nX} {run : Nat → nM → nLv → List nC → Nat → Option nRes} {d pc a b g : Nat} {v : Int} {lv lv2 : nLv} {st : List Value} {h : List nC} {i : Instr} : nj_calls M X run d pc i a b v lv2 st h g = (nj_calls M X run d pc i a b v lv st h g).map (fun r => (r.1, lv2, r.2.2)) := by
  unfold nj_calls nj_inv
  repeat' (first | rfl | split)
theorem v_stepL {M : Nat → Option nM} {X : nX} {L : Nat} {xs : Nat → Int32} {run : Nat → nM → nLv → List nC → Nat → Option nRes} {d : Nat} {mt : nM} {i : Instr} {a b : Nat} {v : Int} {pc : Nat} {lv lv2 : nLv} {st : List Value} {h : List nC} {g : Nat} (hg : ∀ k, k < 5 → nj_get lv2 k = nj_get lv k) (hi : vI i = true) : nj_step M X L xs run d mt i a b v pc lv2 st h g = (nj_step M X L xs run d mt i a b v pc lv st h g).map (fun r => (r.1, lv2, r.2.2)) := by
  unfold nj_step
  rw [v_pureL hg hi]
  cases nj_pure lv mt.2.2.1 pc st i with
  | some r => rfl
  | none =>
    simp only [Option.map_none]
    cases nj_mem L xs (mt.1.name == "<init>") pc a b v st h i with
    | some r => rfl
    | none =>
      simp only
      cases nj_new pc a st h i with
      | some r =>
        simp only
        split <;> rfl
      | none => exact v_callsL
theorem v_runL {X : nX} {L : Nat} {xs : Nat → Int32} : ∀ (n d pc : Nat) (lv lv2 : nLv) (st : List Value) (h : List nC) (g : Nat) (r : nRes), (∀ k, k < 5 → nj_get lv2 k = nj_get lv k) → nj_run nj_M X L xs n d nm_v pc lv st h g = some r → nj_run nj_M X L xs n d nm_v pc lv2 st h g = some r := by
  intro n
  induction n with
  | zero => intro d pc lv lv2 st h g r _ hr; cases hr
  | succ n ih =>
    intro d pc lv lv2 st h g r hg hr
    unfold nj_run at hr ⊢
    cases hf : nm_v.2.2.2.2.2.find? (fun q => q.1 == pc) with
    | none => rw [hf] at hr; cases hr
    | some e =>
      obtain ⟨q, i, a, b, v, pos⟩ := e
      rw [hf] at hr
      simp only at hr ⊢
      have hi : vI i = true := List.all_eq_true.mp vI_all _ (List.mem_of_find?_eq_some hf)
      cases hret : nj_ret nm_v.2.2.2.1 i st with
      | some rv => rw [hret] at hr; exact hr
      | none =>
        rw [hret] at hr
        simp only at hr ⊢
        rw [v_stepL hg hi]
        have hself := v_stepL (M := nj_M) (X := X) (L := L) (xs := xs) (run := fun d1 mz lv0 h0 g0 => nj_run nj_M X L xs n d1 mz 0 lv0 [] h0 g0) (d := d) (mt := nm_v) (a := a) (b := b) (v := v) (pc := pc) (st := st) (h := h) (g := g) (fun k _ => (rfl : nj_get lv k = nj_get lv k)) hi
        cases hs : nj_step nj_M X L xs (fun d1 mz lv0 h0 g0 => nj_run nj_M X L xs n d1 mz 0 lv0 [] h0 g0) d nm_v i a b v pc lv st h g with
        | none => rw [hs] at hr; cases hr
        | some res =>
          obtain ⟨pc1, lv1, st1, h1, g1, mc1, ms1⟩ := res
          rw [hs] at hself
          have e1 : lv1 = lv := congrArg (fun r => r.2.1) (Option.some.inj hself)
          subst e1
          rw [hs] at hr
          simp only [Option.map_some] at hr ⊢
          cases hr2 : nj_run nj_M X L xs n d nm_v pc1 lv1 st1 h1 g1 with
          | none => rw [hr2] at hr; cases hr
          | some res2 =>
            rw [hr2] at hr
            rw [ih d pc1 lv1 lv2 st1 h1 g1 res2 hg hr2]
            exact hr
/-- what holds between two rounds -/
def lwI (S : List Nat) (qx qm ql qb : Nat) (h : List nC) : Prop := nJJ S h ∧ tOk nFT nAT S h ∧ (∃ fm, h[qm]? = some (.inr (9, fm)) ∧ nGh 1002 h 9 fm = 1 ∧ nGh 1003 h 9 fm = 1 ∧ nGh 1004 h 9 fm = 1) ∧ (∃ fx, h[qx]? = some (.inr (8, fx)) ∧ fx[3]? = some (.ref ql)) ∧ ∃ fl, h[ql]? = some (.inr (2, fl)) ∧ fl[0]? = some (.ref qb)
/-- the law ends with 1; at most K calls of what stands outside make cells -/
def nU (X : nX) (L : Nat) (xs : Nat → Int32) (C : Nat × Nat) (d K pc : Nat) (lv : nLv) (st : List Value) (h : List nC) (g : Nat) : Prop := ∃ (n : Nat) (h1 : List nC) (g1 mc ms : Nat), nj_run nj_M X L xs n d nm_265 pc lv st h g = some (some (.int (Int32.ofInt 1)), h1, g1, mc, ms) ∧ mc ≤ C.1 * K ∧ ms ≤ C.2 * K
section NUU
variable {X : nX} {L : Nat} {xs : Nat → Int32} {C : Nat × Nat} {d K pc g : Nat} {lv : nLv} {st : List Value} {h : List nC} {i : Instr} {q a b pos : Nat} {v : Int}
theorem nU_step (hf : nm_265.2.2.2.2.2.find? (fun q => q.1 == pc) = some (q, i, a, b, v, pos)) (hr : nj_ret nm_265.2.2.2.1 i st = none) {pc1 : Nat} {lv1 : nLv} {st1 : List Value} {h1 : List nC} (hs : ∀ run, nj_step nj_M X L xs run d nm_265 i a b v pc lv st h g = some (pc1, lv1, st1, h1, g, 0, 0)) (k : nU X L xs C d K pc1 lv1 st1 h1 g) : nU X L xs C d K pc lv st h g := by
  obtain ⟨n, h2, g1, mc, ms, e1, e2⟩ := k
  refine ⟨n + 1, h2, g1, 0 + mc, 0 + ms, ?_, by omega, by omega⟩
  unfold nj_run
  simp only [hf, hr, hs, e1]
theorem nU_pure (hf : nm_265.2.2.2.2.2.find? (fun q => q.1 == pc) = some (q, i, a, b, v, pos)) (hr : nj_ret nm_265.2.2.2.1 i st = none) {pc1 : Nat} {lv1 : nLv} {st1 : List Value} (hs : nj_pure lv nm_265.2.2.1 pc st i = some (pc1, lv1, st1)) (k : nU X L xs C d K pc1 lv1 st1 h g) : nU X L xs C d K pc lv st h g :=
  nU_step hf hr (fun run => by unfold nj_step; rw [hs]) k
theorem nU_mem (hf : nm_265.2.2.2.2.2.find? (fun q => q.1 == pc) = some (q, i, a, b, v, pos)) (hr : nj_ret nm_265.2.2.2.1 i st = none) (hp : nj_pure lv nm_265.2.2.1 pc st i = none) {pc1 : Nat} {st1 : List Value} {h1 : List nC} (hs : nj_mem L xs (nm_265.1.name == "<init>") pc a b v st h i = some (pc1, st1, h1)) (k : nU X L xs C d K pc1 lv st1 h1 g) : nU X L xs C d K pc lv st h g :=
  nU_step hf hr (fun run => by unfold nj_step; rw [hp]; simp only [hs]) k
theorem nU_call {d1 : Nat} {mz : nM} (hf : nm_265.2.2.2.2.2.find? (fun q => q.1 == pc) = some (q, i, a, b, v, pos)) (hi : nj_isinv i = true) (h4 : ¬ v = 4) (h5 : ¬ v = 5) (h6 : ¬ v = 6) (h7 : ¬ v = 7) (hM : nj_M a = some mz) (hp : nj_pass mz i b st h = true) (k : nT nj_M X L xs g d1 mz (fun rv h1 => nU X L xs C (d1 + 1) K (pc + 3) lv (rv.toList ++ st.drop b) h1 g) 0 (lv_args 0 (st.take b).reverse) [] h) : nU X L xs C (d1 + 1) K pc lv st h g := by
  obtain ⟨n1, rv1, h1, e1, n2, h2, g1, mc, ms, e2, e3⟩ := k
  refine ⟨max n1 n2 + 1, h2, g1, 0 + mc, 0 + ms, ?_, by omega, by omega⟩
  unfold nj_run
  have e1' := nj_run_mono (Nat.le_max_left n1 n2) e1
  have e2' := nj_run_mono (Nat.le_max_right n1 n2) e2
  simp only [hf, nj_inv_ret hi]
  have hs : nj_step nj_M X L xs (fun d1 mz lv0 h0 g0 => nj_run nj_M X L xs (max n1 n2) d1 mz 0 lv0 [] h0 g0) (d1 + 1) nm_265 i a b v pc lv st h g = some (pc + 3, lv, rv1.toList ++ st.drop b, h1, g, 0, 0) := by
    unfold nj_step
    rw [nj_inv_pure hi, nj_inv_mem hi, nj_inv_new hi]
    unfold nj_calls
    rw [if_neg (by rw [hi]; decide), if_neg h4, if_neg h5, if_neg h6, if_neg h7]
    unfold nj_inv
    simp only [hM, hp, if_true, e1']
  rw [hs]
  simp only [e2']
theorem nU_X (hf : nm_265.2.2.2.2.2.find? (fun q => q.1 == pc) = some (q, i, a, b, 6, pos)) (hi : nj_isinv i = true) (hb : b ≤ st.length) (hsm : nj_sum (st.drop b) ≤ 8) {r : Int32} {h1 : List nC} {dg ms0 : Nat} (hx : X a (st.take b).reverse h = some (r, h1, dg, ms0)) (c1 : dg ≤ C.1) (c2 : ms0 ≤ C.2) (k : nU X L xs C d K (pc + 3) lv (.int r :: st.drop b) h1 (g + dg)) : nU X L xs C d (K + 1) pc lv st h g := by
  obtain ⟨n, h2, g1, mc, ms, e1, e2, e3⟩ := k
  refine ⟨n + 1, h2, g1, dg + mc, ms0 + ms, ?_, by rw [Nat.mul_succ]; omega, by rw [Nat.mul_succ]; omega⟩
  unfold nj_run
  simp only [hf, nj_inv_ret hi]
  have hs : nj_step nj_M X L xs (fun d1 mz lv0 h0 g0 => nj_run nj_M X L xs n d1 mz 0 lv0 [] h0 g0) d nm_265 i a b 6 pc lv st h g = some (pc + 3, lv, .int r :: st.drop b, h1, g + dg, dg, ms0) := by
    unfold nj_step
    rw [nj_inv_pure hi, nj_inv_mem hi, nj_inv_new hi]
    unfold nj_calls
    rw [if_neg (by rw [hi]; decide), if_neg (by decide), if_neg (by decide), if_pos rfl, if_pos ⟨hb, hsm⟩]
    simp only [hx]
  rw [hs]
  simp only [e1]
theorem nU_more {K2 : Nat} (hK : K ≤ K2) (k : nU X L xs C d K pc lv st h g) : nU X L xs C d K2 pc lv st h g := by
  obtain ⟨n, h2, g1, mc, ms, e1, e2, e3⟩ := k
  exact ⟨n, h2, g1, mc, ms, e1, Nat.le_trans e2 (Nat.mul_le_mul_left _ hK), Nat.le_trans e3 (Nat.mul_le_mul_left _ hK)⟩
/-- a number of the script -/
theorem nU_rd {p : Nat} {k : Int} {x : Int} (g0 : nj_get lv 0 = some (.retAddr 0)) (g4 : nj_get lv 4 = some (.int (Int32.ofInt x))) (hx : 0 ≤ x) (hk : 0 ≤ k) (hxk : x + k < (L : Int)) (hL : L ≤ 3072) (f1 : nm_265.2.2.2.2.2.find? (fun q => q.1 == p) = some (p, .aload_n 0, 0, 0, 0, 0)) (f2 : nm_265.2.2.2.2.2.find? (fun q => q.1 == p + 1) = some (p + 1, .iload 4, 0, 0, 0, 0)) (f3 : nm_265.2.2.2.2.2.find? (fun q => q.1 == p + 3) = some (p + 3, .iconst k, 0, 0, 0, 0)) (f4 : nm_265.2.2.2.2.2.find? (fun q => q.1 == p + 4) = some (p + 4, .iadd, 0, 0, 0, 0)) (f5 : nm_265.2.2.2.2.2.find? (fun q => q.1 == p + 5) = some (p + 5, .iaload, 0, 0, 0, 0)) (kk : nU X L xs C d K (p + 6) lv (.int (xs (x + k).toNat) :: st) h g) : nU X L xs C d K p lv st h g := by
  refine nU_pure (lv1 := lv) (st1 := .retAddr 0 :: st) f1 rfl (by show nj_lda lv (p + 1) 0 st = _; unfold nj_lda; rw [g0]) ?_
  refine nU_pure (lv1 := lv) (st1 := .int (Int32.ofInt x) :: .retAddr 0 :: st) f2 rfl (by show nj_ldi lv (p + 1 + 2) 4 _ = _; unfold nj_ldi; rw [g4]) ?_
  refine nU_pure (lv1 := lv) (st1 := .int (Int32.ofInt k) :: .int (Int32.ofInt x) :: .retAddr 0 :: st) f3 rfl rfl ?_
  refine nU_pure (lv1 := lv) (st1 := .int (Int32.ofInt (x + k)) :: .retAddr 0 :: st) f4 rfl (by rw [← a32_add]; rfl) ?_
  have hz : (Int32.ofInt (x + k)).toNatClampNeg = (Int32.ofInt (x + k)).toInt.toNat := rfl
  rw [a32 (by omega) (by omega)] at hz
  have h0 : ¬ Int32.ofInt (x + k) < 0 := by
    rw [Int32.lt_iff_toInt_lt, a32 (by omega) (by omega)]
    have : (0 : Int32).toInt = 0 := rfl
    omega
  have hix : nj_ix (Int32.ofInt (x + k)) L = true := by
    simp only [nj_ix, Bool.and_eq_true, decide_eq_true_eq]
    exact ⟨h0, by omega⟩
  refine nU_mem (st1 := .int (xs (x + k).toNat) :: st) (h1 := h) f5 rfl rfl (by
    show nj_iald L xs (p + 5) (.int (Int32.ofInt (x + k)) :: .retAddr 0 :: st) h = _
    simp only [nj_iald, nj_xr, if_true, hix, hz]) kk
end NUU
