def goodX (mt : nM) : Bool := mt.2.2.2.2.2.all (fun q => !(q.2.2.2.2.1 == 6))
theorem goodX_all : nj_ms.all goodX = true := by decide +kernel
theorem goodX_of {k : Nat} {mt : nM} (h : nj_M k = some mt) : goodX mt = true := List.all_eq_true.mp goodX_all mt (List.mem_of_getElem? h)
section RXX
variable {X : nX} {L : Nat} {xs : Nat → Int32}
theorem nj_step_X {run run2 : Nat → nM → nLv → List nC → Nat → Option nRes} (hr : ∀ d1 mz lv0 h0 g0, goodX mz = true → run2 d1 mz lv0 h0 g0 = run d1 mz lv0 h0 g0) {d : Nat} {mt : nM} {i : Instr} {a b : Nat} {v : Int} {pc : Nat} {lv : nLv} {st : List Value} {h : List nC} {g : Nat} (hv : ¬ v = 6) : nj_step nj_M X L xs run2 d mt i a b v pc lv st h g = nj_step nj_M nX0 L xs run d mt i a b v pc lv st h g := by
  have e : nj_inv nj_M run2 d pc i a b lv st h g = nj_inv nj_M run d pc i a b lv st h g := by
    unfold nj_inv
    cases d with
    | zero => rfl
    | succ d =>
      cases hMa : nj_M a with
      | none => rfl
      | some mz => simp only [hr d mz _ _ _ (goodX_of hMa)]
  unfold nj_step nj_calls
  simp only [if_neg hv, e]
theorem nj_run_X : ∀ (n d : Nat) (mt : nM) (pc : Nat) (lv : nLv) (st : List Value) (h : List nC) (g : Nat), goodX mt = true → nj_run nj_M X L xs n d mt pc lv st h g = nj_run nj_M nX0 L xs n d mt pc lv st h g := by
  intro n
  induction n with
  | zero => intro d mt pc lv st h g _; rfl
  | succ n ih =>
    intro d mt pc lv st h g hg
    unfold nj_run
    cases hf : mt.2.2.2.2.2.find? (fun q => q.1 == pc) with
    | none => rfl
    | some e =>
      obtain ⟨q, i, a, b, v, pos⟩ := e
      have ha : ¬ v = 6 := by
        have := List.all_eq_true.mp hg _ (List.mem_of_find?_eq_some hf)
        simpa using this
      simp only
      rw [nj_step_X (run := fun d1 mz lv0 h0 g0 => nj_run nj_M nX0 L xs n d1 mz 0 lv0 [] h0 g0) (fun d1 mz lv0 h0 g0 hz => ih d1 mz 0 lv0 [] h0 g0 hz) ha]
      cases nj_ret mt.2.2.2.1 i st with
      | some rv => rfl
      | none =>
        simp only
        cases nj_step nj_M nX0 L xs (fun d1 mz lv0 h0 g0 => nj_run nj_M nX0 L xs n d1 mz 0 lv0 [] h0 g0) d mt i a b v pc lv st h g with
        | none => rfl
        | some r =>
          obtain ⟨pc1, lv1, st1, h1, g1, mc1, ms1⟩ := r
          simp only [ih d mt pc1 lv1 st1 h1 g1 hg]
end RXX
theorem nT_up {X : nX} {L : Nat} {xs : Nat → Int32} {g d : Nat} {mt : nM} {Q : Option Value → List nC → Prop} {pc : Nat} {lv : nLv} {st : List Value} {h : List nC} (hg : goodX mt = true) (k : nT nj_M nX0 L xs 0 d mt Q pc lv st h) : nT nj_M X L xs g d mt Q pc lv st h := by
  obtain ⟨n, rv, h1, e, q⟩ := k
  exact ⟨n, rv, h1, by rw [nj_run_X _ _ _ _ _ _ _ _ hg]; exact (nj_run_g _ _ _ _ _ _ _ _ _ _ _ e).2 g, q⟩
