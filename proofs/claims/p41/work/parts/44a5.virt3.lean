/-! the methods with one of them changed -/
def nj_My (kz : Nat) (zz : nM) (k : Nat) : Option nM := if k = kz then some zz else nj_M k
def goodY (kz : Nat) (mt : nM) : Bool := mt.2.2.2.2.2.all (fun q => !(q.2.2.1 == kz))
theorem goodY_of {kz k : Nat} {mt : nM} (hall : nj_ms.all (goodY kz) = true) (h : nj_M k = some mt) : goodY kz mt = true := List.all_eq_true.mp hall mt (List.mem_of_getElem? h)
section RMY
variable {kz : Nat} {zz : nM} {X : nX} {L : Nat} {xs : Nat → Int32}
theorem nj_step_My (hall : nj_ms.all (goodY kz) = true) {run run2 : Nat → nM → nLv → List nC → Nat → Option nRes} (hr : ∀ d1 mz lv0 h0 g0, goodY kz mz = true → run2 d1 mz lv0 h0 g0 = run d1 mz lv0 h0 g0) {d : Nat} {mt : nM} {i : Instr} {a b : Nat} {v : Int} {pc : Nat} {lv : nLv} {st : List Value} {h : List nC} {g : Nat} (ha : ¬ a = kz) : nj_step (nj_My kz zz) X L xs run2 d mt i a b v pc lv st h g = nj_step nj_M X L xs run d mt i a b v pc lv st h g := by
  have e : nj_inv (nj_My kz zz) run2 d pc i a b lv st h g = nj_inv nj_M run d pc i a b lv st h g := by
    unfold nj_inv
    have hM : nj_My kz zz a = nj_M a := if_neg ha
    rw [hM]
    cases d with
    | zero => rfl
    | succ d =>
      cases hMa : nj_M a with
      | none => rfl
      | some mz => simp only [hr d mz _ _ _ (goodY_of hall hMa)]
  unfold nj_step nj_calls
  rw [e]
theorem nj_run_My (hall : nj_ms.all (goodY kz) = true) : ∀ (n d : Nat) (mt : nM) (pc : Nat) (lv : nLv) (st : List Value) (h : List nC) (g : Nat), goodY kz mt = true → nj_run (nj_My kz zz) X L xs n d mt pc lv st h g = nj_run nj_M X L xs n d mt pc lv st h g := by
  intro n
  induction n with
  | zero => intro d mt pc lv st h g _; rfl
  | succ n ih =>
    intro d mt pc lv st h g hg
    unfold nj_run
    cases hf : mt.2.2.2.2.2.find? (fun q => q.1 == pc) with
    | none => rfl
    | some e =>
      obtain ⟨q, i, a, b, v, pos⟩ := e
      have ha : ¬ a = kz := by
        have := List.all_eq_true.mp hg _ (List.mem_of_find?_eq_some hf)
        simpa using this
      simp only
      rw [nj_step_My hall (run := fun d1 mz lv0 h0 g0 => nj_run nj_M X L xs n d1 mz 0 lv0 [] h0 g0) (fun d1 mz lv0 h0 g0 hz => ih d1 mz 0 lv0 [] h0 g0 hz) ha]
      cases nj_ret mt.2.2.2.1 i st with
      | some rv => rfl
      | none =>
        simp only
        cases nj_step nj_M X L xs (fun d1 mz lv0 h0 g0 => nj_run nj_M X L xs n d1 mz 0 lv0 [] h0 g0) d mt i a b v pc lv st h g with
        | none => rfl
        | some r =>
          obtain ⟨pc1, lv1, st1, h1, g1, mc1, ms1⟩ := r
          simp only [ih d mt pc1 lv1 st1 h1 g1 hg]
theorem nT_My (hall : nj_ms.all (goodY kz) = true) {g d : Nat} {mt : nM} {Q : Option Value → List nC → Prop} {pc : Nat} {lv : nLv} {st : List Value} {h : List nC} (hg : goodY kz mt = true) : nT (nj_My kz zz) X L xs g d mt Q pc lv st h ↔ nT nj_M X L xs g d mt Q pc lv st h := by
  unfold nT
  simp only [nj_run_My hall _ _ _ _ _ _ _ _ hg]
theorem nV_My (hall : nj_ms.all (goodY kz) = true) {g : Nat} {FT : Nat → Nat → Option fTy} {AT : Nat → Option aTy} {S : List Nat} {J : List nC → Prop} {c : nK} (hc : ¬ c.1 = kz) (h : nV nj_M X L xs g FT AT S J c) : nV (nj_My kz zz) X L xs g FT AT S J c := by
  intro d hd mt hM h0 nu mu vs hJ hT k hs
  have hM' : nj_M c.1 = some mt := by
    unfold nj_My at hM
    rw [if_neg hc] at hM
    exact hM
  exact (nT_My hall (goodY_of hall hM')).mpr (h d hd mt hM' h0 nu mu vs hJ hT k hs)
end RMY
