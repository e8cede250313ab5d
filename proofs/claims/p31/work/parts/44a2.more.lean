/-! runs that make nothing, and that stop at a place -/
def nX0 : nX := fun _ _ _ => none
section RUG
variable {M : Nat → Option nM} {L : Nat} {xs : Nat → Int32}
theorem nj_step_g {run : Nat → nM → nLv → List nC → Nat → Option nRes} {g : Nat} (hr : ∀ d1 mz lv0 h0 rv h1 g1 ms, run d1 mz lv0 h0 0 = some (rv, h1, g1, 0, ms) → g1 = 0 ∧ run d1 mz lv0 h0 g = some (rv, h1, g, 0, ms)) {d : Nat} {mt : nM} {i : Instr} {a b : Nat} {v : Int} {pc : Nat} {lv : nLv} {st : List Value} {h : List nC} {pc1 : Nat} {lv1 : nLv} {st1 : List Value} {h1 : List nC} {g1 ms1 : Nat} (hs : nj_step M nX0 L xs run d mt i a b v pc lv st h 0 = some (pc1, lv1, st1, h1, g1, 0, ms1)) : g1 = 0 ∧ nj_step M nX0 L xs run d mt i a b v pc lv st h g = some (pc1, lv1, st1, h1, g, 0, ms1) := by
  unfold nj_step at hs ⊢
  cases hp : nj_pure lv mt.2.2.1 pc st i with
  | some r =>
    obtain ⟨p1, p2, p3⟩ := r
    rw [hp] at hs
    simp only at hs ⊢
    cases hs
    exact ⟨rfl, rfl⟩
  | none =>
    rw [hp] at hs
    simp only at hs ⊢
    cases hm : nj_mem L xs (mt.1.name == "<init>") pc a b v st h i with
    | some r =>
      obtain ⟨p1, p2, p3⟩ := r
      rw [hm] at hs
      simp only at hs ⊢
      cases hs
      exact ⟨rfl, rfl⟩
    | none =>
      rw [hm] at hs
      simp only at hs ⊢
      cases hn : nj_new pc a st h i with
      | some r =>
        obtain ⟨p1, p2, p3, p4⟩ := r
        rw [hn] at hs
        simp at hs
      | none =>
        rw [hn] at hs
        simp only at hs ⊢
        unfold nj_calls at hs ⊢
        by_cases hi : nj_isinv i = false
        · rw [if_pos hi] at hs; cases hs
        · rw [if_neg hi] at hs ⊢
          by_cases h4 : v = 4
          · rw [if_pos h4] at hs ⊢
            split at hs
            · split at hs
              · next c => cases hs; exact ⟨rfl, if_pos c⟩
              · cases hs
            · cases hs
          · rw [if_neg h4] at hs ⊢
            by_cases h5 : v = 5
            · rw [if_pos h5] at hs ⊢
              cases hcp : nj_copy st h with
              | none => rw [hcp] at hs; cases hs
              | some r =>
                obtain ⟨p1, p2⟩ := r
                rw [hcp] at hs
                simp only at hs ⊢
                split at hs
                · next c => cases hs; exact ⟨rfl, if_pos c⟩
                · cases hs
            · rw [if_neg h5] at hs ⊢
              by_cases h6 : v = 6
              · rw [if_pos h6] at hs
                split at hs
                · exact nomatch (show (none : Option nS1) = some _ from hs)
                · cases hs
              · rw [if_neg h6] at hs ⊢
                by_cases h7 : v = 7
                · rw [if_pos h7] at hs ⊢
                  split at hs
                  · split at hs
                    · next c => cases hs; exact ⟨rfl, if_pos c⟩
                    · cases hs
                  · cases hs
                · rw [if_neg h7] at hs ⊢
                  unfold nj_inv at hs ⊢
                  cases d with
                  | zero => cases hs
                  | succ d =>
                    cases hMa : M a with
                    | none => rw [hMa] at hs; cases hs
                    | some mz =>
                      rw [hMa] at hs
                      simp only at hs ⊢
                      by_cases c : nj_pass mz i b st h = true
                      · rw [if_pos c] at hs ⊢
                        cases hq : run d mz (lv_args 0 (st.take b).reverse) h 0 with
                        | none => rw [hq] at hs; cases hs
                        | some r =>
                          obtain ⟨rv, h2, g2, mc, ms⟩ := r
                          rw [hq] at hs
                          simp only [Option.some.injEq, Prod.mk.injEq] at hs
                          obtain ⟨e1, e2, e3, e4, e5, e6, e7⟩ := hs
                          subst e6
                          obtain ⟨a1, a2⟩ := hr _ _ _ _ _ _ _ _ hq
                          rw [a2]
                          subst e1; subst e2; subst e3; subst e4; subst e7
                          exact ⟨e5.symm.trans a1, rfl⟩
                      · rw [if_neg c] at hs; cases hs
theorem nj_run_g : ∀ (n d : Nat) (mt : nM) (pc : Nat) (lv : nLv) (st : List Value) (h : List nC) (rv : Option Value) (h1 : List nC) (g1 ms : Nat), nj_run M nX0 L xs n d mt pc lv st h 0 = some (rv, h1, g1, 0, ms) → g1 = 0 ∧ ∀ g, nj_run M nX0 L xs n d mt pc lv st h g = some (rv, h1, g, 0, ms) := by
  intro n
  induction n with
  | zero => intro d mt pc lv st h rv h1 g1 ms hr; cases hr
  | succ n ih =>
    intro d mt pc lv st h rv h1 g1 ms hr
    unfold nj_run at hr ⊢
    cases hf : mt.2.2.2.2.2.find? (fun q => q.1 == pc) with
    | none => rw [hf] at hr; cases hr
    | some e =>
      obtain ⟨q, i, a, b, v, pos⟩ := e
      rw [hf] at hr
      simp only at hr ⊢
      cases hret : nj_ret mt.2.2.2.1 i st with
      | some rv0 =>
        rw [hret] at hr
        simp only at hr ⊢
        cases hr
        exact ⟨rfl, fun g => rfl⟩
      | none =>
        rw [hret] at hr
        simp only at hr ⊢
        cases hs : nj_step M nX0 L xs (fun d1 mz lv0 h0 g0 => nj_run M nX0 L xs n d1 mz 0 lv0 [] h0 g0) d mt i a b v pc lv st h 0 with
        | none => rw [hs] at hr; cases hr
        | some r =>
          obtain ⟨pc1, lv1, st1, h2, g2, mc1, ms1⟩ := r
          rw [hs] at hr
          simp only at hr
          cases hr2 : nj_run M nX0 L xs n d mt pc1 lv1 st1 h2 g2 with
          | none => rw [hr2] at hr; cases hr
          | some r2 =>
            obtain ⟨rv3, h3, g3, mc2, ms2⟩ := r2
            rw [hr2] at hr
            simp only [Option.some.injEq, Prod.mk.injEq] at hr
            obtain ⟨e1, e2, e3, e4, e5⟩ := hr
            have z1 : mc1 = 0 := by omega
            have z2 : mc2 = 0 := by omega
            subst z1; subst z2
            have k : ∀ g, g2 = 0 ∧ nj_step M nX0 L xs (fun d1 mz lv0 h0 g0 => nj_run M nX0 L xs n d1 mz 0 lv0 [] h0 g0) d mt i a b v pc lv st h g = some (pc1, lv1, st1, h2, g, 0, ms1) := fun g => nj_step_g (fun d1 mz lv0 h0 rv h1 g1 ms hq => ⟨(ih _ _ _ _ _ _ _ _ _ _ hq).1, (ih _ _ _ _ _ _ _ _ _ _ hq).2 g⟩) hs
            have g20 := (k 0).1
            subst g20
            obtain ⟨a1, a2⟩ := ih _ _ _ _ _ _ _ _ _ _ hr2
            subst e1; subst e2; subst e5
            refine ⟨e3.symm.trans a1, fun g => ?_⟩
            rw [(k g).2]
            simp only [a2 g]
/-- the run comes to the place pT with the stack sT, making nothing, with the cells h1 -/
def nj_stop (M : Nat → Option nM) (L : Nat) (xs : Nat → Int32) (pT : Nat) (sT : List Value) : Nat → Nat → nM → Nat → nLv → List Value → List nC → Nat → List nC → Prop
  | 0, _, _, _, _, _, _, _, _ => False
  | n + 1, d, mt, pc, lv, st, h, g, h1 => (pc = pT ∧ st = sT ∧ h = h1) ∨ ∃ (q : Nat) (i : Instr) (a b : Nat) (v : Int) (pos pc1 : Nat) (lv1 : nLv) (st1 : List Value) (h2 : List nC), mt.2.2.2.2.2.find? (fun q => q.1 == pc) = some (q, i, a, b, v, pos) ∧ nj_step M nX0 L xs (fun d1 mz lv0 h0 g0 => nj_run M nX0 L xs n d1 mz 0 lv0 [] h0 g0) d mt i a b v pc lv st h g = some (pc1, lv1, st1, h2, g, 0, 0) ∧ nj_stop M L xs pT sT n d mt pc1 lv1 st1 h2 g h1
theorem nj_stop_g {pT : Nat} {sT : List Value} : ∀ (n d : Nat) (mt : nM) (pc : Nat) (lv : nLv) (st : List Value) (h h1 : List nC), nj_stop M L xs pT sT n d mt pc lv st h 0 h1 → ∀ g, nj_stop M L xs pT sT n d mt pc lv st h g h1 := by
  intro n
  induction n with
  | zero => intro d mt pc lv st h h1 k; exact k.elim
  | succ n ih =>
    intro d mt pc lv st h h1 k g
    rcases k with k | ⟨q, i, a, b, v, pos, pc1, lv1, st1, h2, k1, k2, k3⟩
    · exact Or.inl k
    · exact Or.inr ⟨q, i, a, b, v, pos, pc1, lv1, st1, h2, k1, (nj_step_g (fun d1 mz lv0 h0 rv h1 g1 ms hq => ⟨(nj_run_g _ _ _ _ _ _ _ _ _ _ _ hq).1, (nj_run_g _ _ _ _ _ _ _ _ _ _ _ hq).2 g⟩) k2).2, ih _ _ _ _ _ _ _ k3 g⟩
end RUG
section STW
variable {L : Nat} {xs : Nat → Int32} {base : Nat} {ext : Nat → Option Nat} {cA : Nat → ClassId} {D : va_G} {l : Launch}
theorem nX0_ok : nj_XOk nX0 L xs base ext cA D l := fun mt d pc idx a b st h g r h1 dg ms hX => nomatch hX
theorem nX0_len : ∀ a as h r, nX0 a as h = some r → r.2.1.length = h.length := fun a as h r hr => nomatch hr
theorem nj_sim0 (n : Nat) : nj_Sim nj_M nX0 L xs base ext cA D l n := nj_sim nj_M nX0 nj_hM nX0_len L xs base ext cA D l nX0_ok n
/-- a run that stops is one of the machine's -/
theorem nj_stop_W {pT : Nat} {sT : List Value} : ∀ (n d : Nat) (mt : nM) (pc : Nat) (lv : nLv) (st : List Value) (h : List nC) (g : Nat) (h1 : List nC), nj_okE nj_M mt → nj_stop nj_M L xs pT sT n d mt pc lv st h g h1 →
  ∀ (p : Program) (e : Env) (R : Room) (s : State) (m : MethodId) (args : Array Value) (below : List Frame) (meth : Method) (c : Code) (H : Heap) (locs : List Loc) (cells slots : Nat) (Q : State → Prop) (ls : Array Slot),
  nj_Cx base ext cA D L xs mt p s m args meth c → lv_has ls mt.2.2.1 (nj_rlv base ext lv) → nj_St base ext cA D s h g H locs cells → d + 1 ≤ R.frames → 64 * (d + 1) ≤ R.locals → cells ≤ R.cells → slots ≤ R.slots →
  (∀ (H1 : Heap) (locs1 : List Loc) (ls1 : Array Slot), lv_has ls1 mt.2.2.1 [] → nj_St base ext cA D s h1 g H1 locs1 cells → W p l e R s m args below meth c H1 locs1 cells slots Q (F0 m pT ls1 (sT.map (nj_rl base ext)))) →
  W p l e R s m args below meth c H locs cells slots Q (F0 m pc ls (st.map (nj_rl base ext))) := by
  intro n
  induction n with
  | zero => intro d mt pc lv st h g h1 _ k; exact k.elim
  | succ n ih =>
    intro d mt pc lv st h g h1 hok k p e R s m args below meth c H locs cells slots Q ls hCx hl hst hR1 hR2 hR3 hR4 kk
    rcases k with ⟨rfl, rfl, rfl⟩ | ⟨q, i, a, b, v, pos, pc1, lv1, st1, h2, k1, k2, k3⟩
    · exact kk H locs ls ⟨hl.1, hl.2.1, fun q hq => nomatch hq⟩ hst
    · have hmem := List.mem_of_find?_eq_some k1
      have hpc : q = pc := by
        have := List.find?_some k1
        simpa using this
      subst hpc
      refine nj_sim_step nj_hM nX0_ok nX0_len (nj_sim0 n) hCx hl hst (hok _ hmem) k2 hR1 hR2 hR3 hR4 (fun H1 locs1 ls1 hl1 hst1 => ?_)
      exact ih d mt pc1 lv1 st1 h2 g h1 hok k3 p e R s m args below meth c H1 locs1 cells slots Q ls1 hCx hl1 hst1 hR1 hR2 hR3 hR4 kk
end STW
/-! a method with a return in place of its throw -/
def nv (mt : nM) (pT : Nat) : nM := (mt.1, mt.2.1, mt.2.2.1, mt.2.2.2.1, mt.2.2.2.2.1, (pT, .iconst 0, 0, 0, 0, 0) :: (pT + 1, .ireturn, 0, 0, 0, 0) :: mt.2.2.2.2.2)
def vT (i : Instr) (pc : Nat) : Option (List Int) := match i with
  | .aload_n _ => some [(pc : Int) + 1]
  | .iload_n _ => some [(pc : Int) + 1]
  | .iconst _ => some [(pc : Int) + 1]
  | .dup => some [(pc : Int) + 1]
  | .isub => some [(pc : Int) + 1]
  | .iaload => some [(pc : Int) + 1]
  | .bipush _ => some [(pc : Int) + 2]
  | .getfield _ => some [(pc : Int) + 3]
  | .invokevirtual _ => some [(pc : Int) + 3]
  | .goto off => some [(pc : Int) + off]
  | .ifCond _ off => some [(pc : Int) + off, (pc : Int) + 3]
  | .if_icmp _ off => some [(pc : Int) + off, (pc : Int) + 3]
  | .tableswitch d _ _ offs => some (((pc : Int) + d) :: offs.toList.map (fun o => (pc : Int) + o))
  | _ => none
def isRet (i : Instr) : Bool := match i with
  | .ireturn => true
  | _ => false
def vTok (pT : Nat) (q : nE) : Bool := isRet q.2.1 || match vT q.2.1 q.1 with
  | some l => l.all (fun z => decide (¬ z = (pT : Int) + 1))
  | none => false
theorem vT_br {pc : Nat} {off : Int} {c : Bool} {lv lv1 : nLv} {st st1 : List Value} {pc1 : Nat} (h : nj_br pc off c lv st = some (pc1, lv1, st1)) : (pc1 : Int) ∈ [(pc : Int) + off, (pc : Int) + 3] := by
  unfold nj_br at h
  split at h
  · next h0 =>
    split at h
    · cases h
      exact List.mem_cons.mpr (.inl (Int.toNat_of_nonneg h0))
    · cases h
      exact List.mem_cons_of_mem _ (List.mem_singleton.mpr rfl)
  · cases h
theorem vT_pure {lv lv1 : nLv} {mL pc pc1 : Nat} {st st1 : List Value} {i : Instr} {l : List Int} (h : nj_pure lv mL pc st i = some (pc1, lv1, st1)) (hl : vT i pc = some l) : (pc1 : Int) ∈ l := by
  unfold vT at hl
  split at hl
  · cases hl
    simp only [nj_pure, nj_lda] at h
    split at h <;> cases h
    · exact List.mem_singleton.mpr rfl
    · exact List.mem_singleton.mpr rfl
  · cases hl
    simp only [nj_pure, nj_ldi] at h
    split at h <;> cases h
    exact List.mem_singleton.mpr rfl
  · cases hl
    cases h
    exact List.mem_singleton.mpr rfl
  · cases hl
    simp only [nj_pure] at h
    split at h
    · split at h <;> cases h
      exact List.mem_singleton.mpr rfl
    · cases h
  · cases hl
    simp only [nj_pure, nj_b2] at h
    split at h <;> cases h
    exact List.mem_singleton.mpr rfl
  · cases h
  · cases hl
    cases h
    exact List.mem_singleton.mpr rfl
  · cases h
  · cases h
  · cases hl
    exact List.mem_singleton.mpr (v_go (show nj_go _ _ _ _ = _ from h)).1
  · cases hl
    simp only [nj_pure] at h
    split at h
    · exact vT_br h
    · cases h
  · cases hl
    simp only [nj_pure] at h
    split at h
    · exact vT_br h
    · cases h
  · next dd lo hi offs =>
    cases hl
    simp only [nj_pure] at h
    split at h
    · unfold nj_tab at h
      split at h
      · exact List.mem_cons.mpr (.inl (v_go h).1)
      · split at h
        · next o ho => exact List.mem_cons_of_mem _ (List.mem_map.mpr ⟨o, Array.mem_toList_iff.mpr (Array.mem_of_getElem? ho), (v_go h).1.symm⟩)
        · cases h
    · cases h
  · cases hl
theorem vT_mem {L : Nat} {xs : Nat → Int32} {ini : Bool} {pc pc1 a b : Nat} {v : Int} {st st1 : List Value} {h h1 : List nC} {i : Instr} {l : List Int} (hm : nj_mem L xs ini pc a b v st h i = some (pc1, st1, h1)) (hl : vT i pc = some l) : (pc1 : Int) ∈ l := by
  unfold vT at hl
  split at hl
  · cases hm
  · cases hm
  · cases hm
  · cases hm
  · cases hm
  · cases hl
    have e : nj_iald L xs pc st h = some (pc1, st1, h1) := hm
    unfold nj_iald at e
    split at e
    · split at e
      · split at e <;> cases e
        exact List.mem_singleton.mpr rfl
      · cases e
    · split at e
      · split at e <;> cases e
        exact List.mem_singleton.mpr rfl
      · cases e
    · cases e
  · cases hm
  · cases hl
    have e : nj_getf pc a b st h = some (pc1, st1, h1) := hm
    unfold nj_getf at e
    split at e
    · split at e
      · split at e
        · split at e <;> cases e
          exact List.mem_singleton.mpr rfl
        · cases e
      · cases e
    · split at e
      · split at e <;> cases e
        · exact List.mem_singleton.mpr rfl
        · exact List.mem_singleton.mpr rfl
      · cases e
    · cases e
  · cases hm
  · cases hm
  · cases hm
  · cases hm
  · cases hm
  · cases hl
theorem vT_new {pc a : Nat} {st : List Value} {h : List nC} {i : Instr} {l : List Int} (hl : vT i pc = some l) : nj_new pc a st h i = none := by
  unfold vT at hl
  split at hl <;> first | rfl | cases hl
theorem vT_step {M : Nat → Option nM} {X : nX} {L : Nat} {xs : Nat → Int32} {run : Nat → nM → nLv → List nC → Nat → Option nRes} {d : Nat} {mt : nM} {i : Instr} {a b : Nat} {v : Int} {pc : Nat} {lv : nLv} {st : List Value} {h : List nC} {g : Nat} {pc1 : Nat} {lv1 : nLv} {st1 : List Value} {h1 : List nC} {g1 mc1 ms1 : Nat} {l : List Int} (hs : nj_step M X L xs run d mt i a b v pc lv st h g = some (pc1, lv1, st1, h1, g1, mc1, ms1)) (hl : vT i pc = some l) : (pc1 : Int) ∈ l := by
  unfold nj_step at hs
  split at hs
  · next pc2 lv2 st2 hp =>
    cases hs
    exact vT_pure hp hl
  · split at hs
    · next pc2 st2 h2 hm =>
      cases hs
      exact vT_mem hm hl
    · split at hs
      · next hn =>
        rw [vT_new hl] at hn
        cases hn
      · have hc := v_calls hs
        simp only at hc
        obtain ⟨e1, e2⟩ := hc
        unfold vT at hl
        split at hl
        · exact absurd hs (by unfold nj_calls; exact fun z => nomatch z)
        · exact absurd hs (by unfold nj_calls; exact fun z => nomatch z)
        · exact absurd hs (by unfold nj_calls; exact fun z => nomatch z)
        · exact absurd hs (by unfold nj_calls; exact fun z => nomatch z)
        · exact absurd hs (by unfold nj_calls; exact fun z => nomatch z)
        · exact absurd hs (by unfold nj_calls; exact fun z => nomatch z)
        · exact absurd hs (by unfold nj_calls; exact fun z => nomatch z)
        · exact absurd hs (by unfold nj_calls; exact fun z => nomatch z)
        · cases hl
          rw [e1]
          exact List.mem_singleton.mpr (by omega)
        · exact absurd hs (by unfold nj_calls; exact fun z => nomatch z)
        · exact absurd hs (by unfold nj_calls; exact fun z => nomatch z)
        · exact absurd hs (by unfold nj_calls; exact fun z => nomatch z)
        · exact absurd hs (by unfold nj_calls; exact fun z => nomatch z)
        · cases hl
/-- a run of the method with its return is a run of the method, or comes to the throw -/
theorem nv_run {L : Nat} {xs : Nat → Int32} {mt : nM} {pT : Nat} (hret : mt.2.2.2.1 = some .int) (hall : mt.2.2.2.2.2.all (vTok pT) = true) : ∀ (n d pc : Nat) (lv : nLv) (st : List Value) (h : List nC) (rv : Option Value) (h1 : List nC) (g1 : Nat), ¬ pc = pT + 1 → nj_run nj_M nX0 L xs n d (nv mt pT) pc lv st h 0 = some (rv, h1, g1, 0, 0) → nj_run nj_M nX0 L xs n d mt pc lv st h 0 = some (rv, h1, g1, 0, 0) ∨ nj_stop nj_M L xs pT [] n d mt pc lv st h 0 h1 := by
  intro n
  induction n with
  | zero => intro d pc lv st h rv h1 g1 _ hr; cases hr
  | succ n ih =>
    intro d pc lv st h rv h1 g1 hne hr
    by_cases hp : pc = pT
    · subst hp
      refine Or.inr (Or.inl ⟨rfl, ?_⟩)
      unfold nj_run at hr
      have f1 : (nv mt pc).2.2.2.2.2.find? (fun q => q.1 == pc) = some (pc, .iconst 0, 0, 0, 0, 0) := by simp [nv]
      have f2 : (nv mt pc).2.2.2.2.2.find? (fun q => q.1 == pc + 1) = some (pc + 1, .ireturn, 0, 0, 0, 0) := by simp [nv]
      have s1 : nj_ret (nv mt pc).2.2.2.1 (.iconst 0) st = none := rfl
      have s2 : nj_step nj_M nX0 L xs (fun d1 mz lv0 h0 g0 => nj_run nj_M nX0 L xs n d1 mz 0 lv0 [] h0 g0) d (nv mt pc) (.iconst 0) 0 0 0 pc lv st h 0 = some (pc + 1, lv, .int (Int32.ofInt 0) :: st, h, 0, 0, 0) := rfl
      simp only [f1, s1, s2] at hr
      cases n with
      | zero => cases hr
      | succ n =>
        unfold nj_run at hr
        simp only [f2] at hr
        cases hret : nj_ret (nv mt pc).2.2.2.1 .ireturn (.int (Int32.ofInt 0) :: st) with
        | none =>
          rw [hret] at hr
          simp only at hr
          have s3 : nj_step nj_M nX0 L xs (fun d1 mz lv0 h0 g0 => nj_run nj_M nX0 L xs n d1 mz 0 lv0 [] h0 g0) d (nv mt pc) .ireturn 0 0 0 (pc + 1) lv (.int (Int32.ofInt 0) :: st) h 0 = none := rfl
          simp only [s3] at hr
          cases hr
        | some rv0 =>
          rw [hret] at hr
          simp only [Option.some.injEq, Prod.mk.injEq] at hr
          refine ⟨?_, hr.2.1⟩
          cases st with
          | nil => rfl
          | cons x y =>
            exact nomatch (show (none : Option (Option Value)) = some rv0 from hret)
    · unfold nj_run at hr
      have ef : (nv mt pT).2.2.2.2.2.find? (fun q => q.1 == pc) = mt.2.2.2.2.2.find? (fun q => q.1 == pc) := by
        have e1 : (pT == pc) = false := by simpa using fun e => hp e.symm
        have e2 : (pT + 1 == pc) = false := by simpa using fun e => hne e.symm
        simp [nv, List.find?_cons, e1, e2]
      rw [ef] at hr
      cases hf : mt.2.2.2.2.2.find? (fun q => q.1 == pc) with
      | none => rw [hf] at hr; cases hr
      | some e =>
        obtain ⟨q, i, a, b, v, pos⟩ := e
        rw [hf] at hr
        simp only at hr
        have hq : q = pc := by simpa using List.find?_some hf
        subst hq
        have hok := List.all_eq_true.mp hall _ (List.mem_of_find?_eq_some hf)
        have er : nj_ret (nv mt pT).2.2.2.1 i st = nj_ret mt.2.2.2.1 i st := rfl
        rw [er] at hr
        cases hre : nj_ret mt.2.2.2.1 i st with
        | some rv0 =>
          rw [hre] at hr
          simp only at hr
          refine Or.inl ?_
          unfold nj_run
          simp only [hf, hre]
          exact hr
        | none =>
          rw [hre] at hr
          simp only at hr
          have estep : nj_step nj_M nX0 L xs (fun d1 mz lv0 h0 g0 => nj_run nj_M nX0 L xs n d1 mz 0 lv0 [] h0 g0) d (nv mt pT) i a b v q lv st h 0 = nj_step nj_M nX0 L xs (fun d1 mz lv0 h0 g0 => nj_run nj_M nX0 L xs n d1 mz 0 lv0 [] h0 g0) d mt i a b v q lv st h 0 := rfl
          rw [estep] at hr
          cases hs : nj_step nj_M nX0 L xs (fun d1 mz lv0 h0 g0 => nj_run nj_M nX0 L xs n d1 mz 0 lv0 [] h0 g0) d mt i a b v q lv st h 0 with
          | none => rw [hs] at hr; cases hr
          | some res =>
            obtain ⟨pc1, lv1, st1, h3, g3, mc1, ms1⟩ := res
            rw [hs] at hr
            simp only at hr
            cases hr2 : nj_run nj_M nX0 L xs n d (nv mt pT) pc1 lv1 st1 h3 g3 with
            | none => rw [hr2] at hr; cases hr
            | some r2 =>
              obtain ⟨rv3, h4, g4, mc2, ms2⟩ := r2
              rw [hr2] at hr
              simp only [Option.some.injEq, Prod.mk.injEq] at hr
              obtain ⟨e1, e2, e3, e4, e5⟩ := hr
              have z1 : mc1 = 0 := by omega
              have z2 : mc2 = 0 := by omega
              have z3 : ms1 = 0 := by omega
              have z4 : ms2 = 0 := by omega
              subst z1; subst z2; subst z3; subst z4; subst e1; subst e2; subst e3
              have g30 := (nj_step_g (g := 0) (fun d1 mz lv0 h0 rv h1 g1 ms hq => ⟨(nj_run_g _ _ _ _ _ _ _ _ _ _ _ hq).1, (nj_run_g _ _ _ _ _ _ _ _ _ _ _ hq).2 0⟩) hs).1
              subst g30
              have hpc1 : ¬ pc1 = pT + 1 := by
                unfold vTok at hok
                simp only [Bool.or_eq_true] at hok
                rcases hok with hok | hok
                · cases i with
                  | ireturn => exact nomatch (show (none : Option nS1) = some _ from hs)
                  | _ => cases hok
                · cases hl : vT i q with
                  | none => rw [hl] at hok; cases hok
                  | some l =>
                    rw [hl] at hok
                    have k := List.all_eq_true.mp hok _ (vT_step hs hl)
                    simp only [decide_eq_true_eq] at k
                    omega
              rcases ih d pc1 lv1 st1 h3 rv3 h4 g4 hpc1 hr2 with k | k
              · refine Or.inl ?_
                unfold nj_run
                simp only [hf, hre, hs, k]
              · exact Or.inr (Or.inr ⟨q, i, a, b, v, pos, pc1, lv1, st1, h3, hf, hs, k⟩)
