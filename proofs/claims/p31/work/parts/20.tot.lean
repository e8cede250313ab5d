/-! total runs of the small machine -/
section NTT
variable {M : Nat → Option nM} {X : nX} {L : Nat} {xs : Nat → Int32}
theorem nj_step_mono {run run2 : Nat → nM → nLv → List nC → Nat → Option nRes} (hle : ∀ d1 mz lv0 h0 g0 r, run d1 mz lv0 h0 g0 = some r → run2 d1 mz lv0 h0 g0 = some r) {d : Nat} {mt : nM} {i : Instr} {a b : Nat} {v : Int} {pc : Nat} {lv : nLv} {st : List Value} {h : List nC} {g : Nat} {r : nS1} (hs : nj_step M X L xs run d mt i a b v pc lv st h g = some r) : nj_step M X L xs run2 d mt i a b v pc lv st h g = some r := by
  unfold nj_step at hs ⊢
  split at hs
  · next hp => (try rw [hp]); exact hs
  · next hp =>
    (try rw [hp])
    split at hs
    · next hm => (try rw [hm]); exact hs
    · next hm =>
      (try rw [hm])
      split at hs
      · next hn => (try rw [hn]); exact hs
      · next hn =>
        (try rw [hn])
        unfold nj_calls at hs ⊢
        split at hs
        · cases hs
        · next hi =>
          (try rw [if_neg hi])
          split at hs
          · next h4 => (try rw [if_pos h4]); exact hs
          · next h4 =>
            (try rw [if_neg h4])
            split at hs
            · next h5 => (try rw [if_pos h5]); exact hs
            · next h5 =>
              (try rw [if_neg h5])
              split at hs
              · next h6 => (try rw [if_pos h6]); exact hs
              · next h6 =>
                (try rw [if_neg h6])
                split at hs
                · next h7 => (try rw [if_pos h7]); exact hs
                · next h7 =>
                  (try rw [if_neg h7])
                  unfold nj_inv at hs ⊢
                  split at hs
                  · next d1 mz hMa =>
                    split at hs
                    · next hp =>
                      split at hs
                      · next hr =>
                        (try rw [hMa])
                        simp only [hp, if_true, hle _ _ _ _ _ _ hr]
                        exact hs
                      · cases hs
                    · cases hs
                  · cases hs
theorem nj_run_mono1 : ∀ (n d : Nat) (mt : nM) (pc : Nat) (lv : nLv) (st : List Value) (h : List nC) (g : Nat) (r : nRes), nj_run M X L xs n d mt pc lv st h g = some r → nj_run M X L xs (n + 1) d mt pc lv st h g = some r := by
  intro n
  induction n with
  | zero => intro d mt pc lv st h g r hr; cases hr
  | succ n ih =>
    intro d mt pc lv st h g r hr
    unfold nj_run at hr ⊢
    split at hr
    · cases hr
    · next q i a b v pos hf =>
      (try rw [hf])
      split at hr
      · next hret => (try simp only [hret]); exact hr
      · next hret =>
        (try simp only [hret])
        split at hr
        · cases hr
        · next pc1 lv1 st1 h1 g1 mc1 ms1 hs =>
          rw [nj_step_mono (fun d1 mz lv0 h0 g0 r hr => ih d1 mz 0 lv0 [] h0 g0 r hr) hs]
          split at hr
          · cases hr
          · next rv h2 g2 mc2 ms2 hr2 =>
            simp only [ih _ _ _ _ _ _ _ _ hr2]
            exact hr
theorem nj_run_mono {n n2 d : Nat} {mt : nM} {pc : Nat} {lv : nLv} {st : List Value} {h : List nC} {g : Nat} {r : nRes} (hn : n ≤ n2) (hr : nj_run M X L xs n d mt pc lv st h g = some r) : nj_run M X L xs n2 d mt pc lv st h g = some r := by
  obtain ⟨k, rfl⟩ := Nat.le.dest hn
  induction k with
  | zero => exact hr
  | succ k ih => exact nj_run_mono1 _ _ _ _ _ _ _ _ _ (ih (Nat.le_add_right _ _))
end NTT
/-- the method comes to its end, makes no cell, and Q holds there -/
def nT (M : Nat → Option nM) (X : nX) (L : Nat) (xs : Nat → Int32) (g : Nat) (d : Nat) (mt : nM) (Q : Option Value → List nC → Prop) (pc : Nat) (lv : nLv) (st : List Value) (h : List nC) : Prop := ∃ (n : Nat) (rv : Option Value) (h1 : List nC), nj_run M X L xs n d mt pc lv st h g = some (rv, h1, g, 0, 0) ∧ Q rv h1
section NTR
variable {M : Nat → Option nM} {X : nX} {L : Nat} {xs : Nat → Int32} {g d : Nat} {mt : nM} {Q : Option Value → List nC → Prop} {pc : Nat} {lv : nLv} {st : List Value} {h : List nC} {i : Instr} {q a b pos : Nat} {v : Int}
theorem nT.mono {Q2 : Option Value → List nC → Prop} (hQ : ∀ rv h1, Q rv h1 → Q2 rv h1) (k : nT M X L xs g d mt Q pc lv st h) : nT M X L xs g d mt Q2 pc lv st h := by
  obtain ⟨n, rv, h1, h2, h3⟩ := k
  exact ⟨n, rv, h1, h2, hQ _ _ h3⟩
theorem nT_ret (hf : mt.2.2.2.2.2.find? (fun q => q.1 == pc) = some (q, i, a, b, v, pos)) {rv : Option Value} (hr : nj_ret mt.2.2.2.1 i st = some rv) (hQ : Q rv h) : nT M X L xs g d mt Q pc lv st h := by
  refine ⟨1, rv, h, ?_, hQ⟩
  unfold nj_run
  simp only [hf, hr]
theorem nT_step (hf : mt.2.2.2.2.2.find? (fun q => q.1 == pc) = some (q, i, a, b, v, pos)) (hr : nj_ret mt.2.2.2.1 i st = none) {pc1 : Nat} {lv1 : nLv} {st1 : List Value} {h1 : List nC} (hs : ∀ run, nj_step M X L xs run d mt i a b v pc lv st h g = some (pc1, lv1, st1, h1, g, 0, 0)) (k : nT M X L xs g d mt Q pc1 lv1 st1 h1) : nT M X L xs g d mt Q pc lv st h := by
  obtain ⟨n, rv, h2, e1, e2⟩ := k
  refine ⟨n + 1, rv, h2, ?_, e2⟩
  unfold nj_run
  simp only [hf, hr, hs, e1]
theorem nT_pure (hf : mt.2.2.2.2.2.find? (fun q => q.1 == pc) = some (q, i, a, b, v, pos)) (hr : nj_ret mt.2.2.2.1 i st = none) {pc1 : Nat} {lv1 : nLv} {st1 : List Value} (hs : nj_pure lv mt.2.2.1 pc st i = some (pc1, lv1, st1)) (k : nT M X L xs g d mt Q pc1 lv1 st1 h) : nT M X L xs g d mt Q pc lv st h :=
  nT_step hf hr (fun run => by unfold nj_step; rw [hs]) k
theorem nT_mem (hf : mt.2.2.2.2.2.find? (fun q => q.1 == pc) = some (q, i, a, b, v, pos)) (hr : nj_ret mt.2.2.2.1 i st = none) (hp : nj_pure lv mt.2.2.1 pc st i = none) {pc1 : Nat} {st1 : List Value} {h1 : List nC} (hs : nj_mem L xs (mt.1.name == "<init>") pc a b v st h i = some (pc1, st1, h1)) (k : nT M X L xs g d mt Q pc1 lv st1 h1) : nT M X L xs g d mt Q pc lv st h :=
  nT_step hf hr (fun run => by unfold nj_step; rw [hp]; simp only [hs]) k
theorem nj_inv_pure {mL : Nat} (hi : nj_isinv i = true) : nj_pure lv mL pc st i = none := by
  cases i <;> first | rfl | cases hi
theorem nj_inv_mem {ini : Bool} (hi : nj_isinv i = true) : nj_mem L xs ini pc a b v st h i = none := by
  cases i <;> first | rfl | cases hi
theorem nj_inv_new (hi : nj_isinv i = true) : nj_new pc a st h i = none := by
  cases i <;> first | rfl | cases hi
theorem nj_inv_ret {rt : Option FieldType} (hi : nj_isinv i = true) : nj_ret rt i st = none := by
  cases i <;> first | rfl | cases hi
/-- a call without a frame of ours -/
theorem nT_c0 (hf : mt.2.2.2.2.2.find? (fun q => q.1 == pc) = some (q, i, a, b, v, pos)) (hi : nj_isinv i = true) {pc1 : Nat} {lv1 : nLv} {st1 : List Value} {h1 : List nC} (hs : ∀ run, nj_calls M X run d pc i a b v lv st h g = some (pc1, lv1, st1, h1, g, 0, 0)) (k : nT M X L xs g d mt Q pc1 lv1 st1 h1) : nT M X L xs g d mt Q pc lv st h :=
  nT_step hf (nj_inv_ret hi) (fun run => by unfold nj_step; rw [nj_inv_pure hi, nj_inv_mem hi, nj_inv_new hi]; exact hs run) k
theorem nT_call {d1 : Nat} {mz : nM} (hf : mt.2.2.2.2.2.find? (fun q => q.1 == pc) = some (q, i, a, b, v, pos)) (hi : nj_isinv i = true) (h4 : ¬ v = 4) (h5 : ¬ v = 5) (h6 : ¬ v = 6) (h7 : ¬ v = 7) (hM : M a = some mz) (hp : nj_pass mz i b st h = true) (k : nT M X L xs g d1 mz (fun rv h1 => nT M X L xs g (d1 + 1) mt Q (pc + 3) lv (rv.toList ++ st.drop b) h1) 0 (lv_args 0 (st.take b).reverse) [] h) : nT M X L xs g (d1 + 1) mt Q pc lv st h := by
  obtain ⟨n1, rv1, h1, e1, n2, rv2, h2, e2, e3⟩ := k
  refine ⟨max n1 n2 + 1, rv2, h2, ?_, e3⟩
  unfold nj_run
  have e1' := nj_run_mono (Nat.le_max_left n1 n2) e1
  have e2' := nj_run_mono (Nat.le_max_right n1 n2) e2
  simp only [hf, nj_inv_ret hi]
  have hs : nj_step M X L xs (fun d1 mz lv0 h0 g0 => nj_run M X L xs (max n1 n2) d1 mz 0 lv0 [] h0 g0) (d1 + 1) mt i a b v pc lv st h g = some (pc + 3, lv, rv1.toList ++ st.drop b, h1, g, 0, 0) := by
    unfold nj_step
    rw [nj_inv_pure hi, nj_inv_mem hi, nj_inv_new hi]
    unfold nj_calls
    rw [if_neg (by rw [hi]; decide), if_neg h4, if_neg h5, if_neg h6, if_neg h7]
    unfold nj_inv
    simp only [hM, hp, if_true, e1']
  rw [hs]
  simp only [e2']
end NTR
