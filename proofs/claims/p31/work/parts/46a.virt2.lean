/-! person and loss with a return in place of their throw -/
def nj_Mz (zz : nM) (k : Nat) : Option nM := if k = 265 then some zz else nj_M k
section RMZ
variable {zz : nM} {X : nX} {L : Nat} {xs : Nat → Int32}
theorem nj_step_Mz {run run2 : Nat → nM → nLv → List nC → Nat → Option nRes} (hr : ∀ d1 mz lv0 h0 g0, goodB mz = true → run2 d1 mz lv0 h0 g0 = run d1 mz lv0 h0 g0) {d : Nat} {mt : nM} {i : Instr} {a b : Nat} {v : Int} {pc : Nat} {lv : nLv} {st : List Value} {h : List nC} {g : Nat} (ha : ¬ a = 265) : nj_step (nj_Mz zz) X L xs run2 d mt i a b v pc lv st h g = nj_step nj_M X L xs run d mt i a b v pc lv st h g := by
  have e : nj_inv (nj_Mz zz) run2 d pc i a b lv st h g = nj_inv nj_M run d pc i a b lv st h g := by
    unfold nj_inv
    have hM : nj_Mz zz a = nj_M a := if_neg ha
    rw [hM]
    cases d with
    | zero => rfl
    | succ d =>
      cases hMa : nj_M a with
      | none => rfl
      | some mz => simp only [hr d mz _ _ _ (good_of hMa)]
  unfold nj_step nj_calls
  rw [e]
theorem nj_run_Mz : ∀ (n d : Nat) (mt : nM) (pc : Nat) (lv : nLv) (st : List Value) (h : List nC) (g : Nat), goodB mt = true → nj_run (nj_Mz zz) X L xs n d mt pc lv st h g = nj_run nj_M X L xs n d mt pc lv st h g := by
  intro n
  induction n with
  | zero => intro d mt pc lv st h g _; rfl
  | succ n ih =>
    intro d mt pc lv st h g hg
    unfold nj_run
    cases hf : mt.2.2.2.2.2.find? (fun q => q.1 == pc) with
    | none => rfl
    | some e =>
      obtain ⟨q, i, a, b, v, pos⟩ := e
      have ha : ¬ a = 265 := by
        have := List.all_eq_true.mp hg _ (List.mem_of_find?_eq_some hf)
        simpa using this
      simp only
      rw [nj_step_Mz (run := fun d1 mz lv0 h0 g0 => nj_run nj_M X L xs n d1 mz 0 lv0 [] h0 g0) (fun d1 mz lv0 h0 g0 hz => ih d1 mz 0 lv0 [] h0 g0 hz) ha]
      cases nj_ret mt.2.2.2.1 i st with
      | some rv => rfl
      | none =>
        simp only
        cases nj_step nj_M X L xs (fun d1 mz lv0 h0 g0 => nj_run nj_M X L xs n d1 mz 0 lv0 [] h0 g0) d mt i a b v pc lv st h g with
        | none => rfl
        | some r =>
          obtain ⟨pc1, lv1, st1, h1, g1, mc1, ms1⟩ := r
          simp only [ih d mt pc1 lv1 st1 h1 g1 hg]
theorem nT_Mz {g d : Nat} {mt : nM} {Q : Option Value → List nC → Prop} {pc : Nat} {lv : nLv} {st : List Value} {h : List nC} (hg : goodB mt = true) : nT (nj_Mz zz) X L xs g d mt Q pc lv st h ↔ nT nj_M X L xs g d mt Q pc lv st h := by
  unfold nT
  simp only [nj_run_Mz _ _ _ _ _ _ _ _ hg]
theorem nV_Mz {g : Nat} {FT : Nat → Nat → Option fTy} {AT : Nat → Option aTy} {S : List Nat} {J : List nC → Prop} {c : nK} (hc : ¬ c.1 = 265) (h : nV nj_M X L xs g FT AT S J c) : nV (nj_Mz zz) X L xs g FT AT S J c := by
  intro d hd mt hM h0 nu mu vs hJ hT k hs
  have hM' : nj_M c.1 = some mt := by
    unfold nj_Mz at hM
    rw [if_neg hc] at hM
    exact hM
  exact (nT_Mz (good_of hM')).mpr (h d hd mt hM' h0 nu mu vs hJ hT k hs)
end RMZ
def nm_vP : nM := nv nm_154 22
theorem good_vP : goodB nm_vP = true := by decide +kernel
def nkP : nK := (265, 1, ([((-2147483648), 2147483647), ((-2147483648), 2147483647)], [8], [], [], []), [.inr (.inr (.inl 0)), .inr (.inl (0, 0)), .inr (.inl (1, 0))], [], [], [(([((-2147483648), 2147483647), ((-2147483648), 2147483647), ((-2147483648), 2147483647)], [8], [], [], []), some (.inr (.inl (2, 0))))])
set_option maxRecDepth 100000 in
theorem vkP {X : nX} {L : Nat} {xs : Nat → Int32} {g : Nat} {S : List Nat} : nV (nj_Mz nm_vP) X L xs g nFT nAT S (nJJ S) nkP :=
  aChk_ok (ctx := [nk_28, nk_45]) (W := ([], [])) (ls := none) (cuts := []) (fuel := 44) (nJJ_ok S)
    ⟨(fun c hc => nomatch hc), (fun c hc => nomatch hc)⟩
    ((fun c hc => by
    simp only [List.mem_cons, List.not_mem_nil, or_false] at hc
    rcases hc with rfl | rfl
    · exact nV_Mz (by decide) vk_28
    · exact nV_Mz (by decide) vk_45))
    (fun _ _ _ _ y hy => by cases hy) (by decide +kernel)
def nm_vQ : nM := nv nm_155 9
theorem good_vQ : goodB nm_vQ = true := by decide +kernel
def nkQ : nK := (265, 4, ([((-2147483648), 2147483647), ((-2147483648), 2147483647)], [8], [], [], []), [.inr (.inr (.inl 0)), .inr (.inl (0, 0)), .inr (.inl (1, 0))], [(1002, 5), (1002, 6), (1002, 7), (1002, 8), (1002, 9), (1002, 10), (1002, 11)], [69, 70, 71, 72, 73], [(([((-2147483648), 2147483647), ((-2147483648), 2147483647), ((-2147483648), 2147483647)], [8], [], [], []), some (.inr (.inl (2, 0))))])
set_option maxRecDepth 100000 in
theorem vkQ {X : nX} {L : Nat} {xs : Nat → Int32} {g : Nat} {S : List Nat} : nV (nj_Mz nm_vQ) X L xs g nFT nAT S (nJJ S) nkQ :=
  aChk_ok (ctx := [nk_77]) (W := ([], [])) (ls := none) (cuts := []) (fuel := 71) (nJJ_ok S)
    ⟨(fun c hc => nomatch hc), (fun c hc => nomatch hc)⟩
    ((fun c hc => by
    simp only [List.mem_cons, List.not_mem_nil, or_false] at hc
    subst hc
    · exact nV_Mz (by decide) vk_77))
    (fun _ _ _ _ y hy => by cases hy) (by decide +kernel)
