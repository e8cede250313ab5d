/-! a field that nobody writes: runs keep it -/
def hF (c k : Nat) (h h1 : List nC) : Prop := ∀ (q : Nat) (fs : List Value), h[q]? = some (.inr (c, fs)) → ∃ fs1 : List Value, h1[q]? = some (.inr (c, fs1)) ∧ fs1[k]? = fs[k]?
theorem hF.rf {c k : Nat} {h : List nC} : hF c k h h := fun _ fs e => ⟨fs, e, rfl⟩
theorem hF.tr {c k : Nat} {h h1 h2 : List nC} (a : hF c k h h1) (b : hF c k h1 h2) : hF c k h h2 := fun q fs e => by
  obtain ⟨fs1, e1, e2⟩ := a q fs e
  obtain ⟨fs2, e3, e4⟩ := b q fs1 e1
  exact ⟨fs2, e3, e4.trans e2⟩
theorem hF.row {c k : Nat} {h : List nC} {q : Nat} {x y : Nat × Nat × ((Nat → Int32) ⊕ (Nat → Int64) ⊕ (Nat → Option Nat))} (hq : h[q]? = some (.inl x)) : hF c k h (h.set q (.inl y)) := fun q2 fs e => by
  by_cases z : q = q2
  · subst z
    rw [hq] at e
    cases e
  · exact ⟨fs, by rw [List.getElem?_set_ne z]; exact e, rfl⟩
theorem hF.fld {c k : Nat} {h : List nC} {q ci b : Nat} {fs0 : List Value} {x : Value} (hq : h[q]? = some (.inr (ci, fs0))) (hn : ¬ (ci = c ∧ b = k)) : hF c k h (h.set q (.inr (ci, fs0.set b x))) := fun q2 fs e => by
  by_cases z : q = q2
  · subst z
    rw [hq] at e
    cases e
    refine ⟨_, List.getElem?_set_self (List.getElem?_eq_some_iff.mp hq).1, ?_⟩
    exact List.getElem?_set_ne (fun w => hn ⟨rfl, w⟩)
  · exact ⟨fs, by rw [List.getElem?_set_ne z]; exact e, rfl⟩
theorem hF.app {c k : Nat} {h : List nC} {x : nC} : hF c k h (h ++ [x]) := fun q fs e => ⟨fs, by rw [List.getElem?_append_left (List.getElem?_eq_some_iff.mp e).1]; exact e, rfl⟩
def isPf (i : Instr) : Bool := match i with
  | .putfield _ => true
  | _ => false
def isSw (i : Instr) : Bool := match i with
  | .tableswitch _ _ _ _ => true
  | .lookupswitch _ _ => true
  | _ => false
def offI (i : Instr) : List Int := match i with
  | .ifCond _ off => [off]
  | .if_icmp _ off => [off]
  | .goto off => [off]
  | _ => []
theorem mem_hF {L : Nat} {xs : Nat → Int32} {ini : Bool} {pc a b c k : Nat} {v : Int} {st : List Value} {h : List nC} {i : Instr} {r : Nat × List Value × List nC} (hm : nj_mem L xs ini pc a b v st h i = some r) (hn : ¬ (isPf i = true ∧ a = c ∧ b = k)) : hF c k h r.2.2 ∧ pc ≤ r.1 := by
  unfold nj_mem at hm
  split at hm
  · unfold nj_getf at hm
    split at hm
    · split at hm
      · split at hm
        · split at hm <;> cases hm
          exact ⟨hF.rf, by show pc ≤ pc + 3; omega⟩
        · cases hm
      · cases hm
    · split at hm
      · split at hm <;> cases hm
        · exact ⟨hF.rf, by show pc ≤ pc + 3; omega⟩
        · exact ⟨hF.rf, by show pc ≤ pc + 3; omega⟩
      · cases hm
    · cases hm
  · unfold nj_putf at hm
    split at hm
    · split at hm
      · next ci fs e =>
        split at hm
        · next hc =>
          cases hm
          exact ⟨hF.fld e (fun z => hn ⟨rfl, hc.1.symm.trans z.1, z.2⟩), by show pc ≤ pc + 3; omega⟩
        · cases hm
      · cases hm
    · cases hm
  · unfold nj_iald at hm
    split at hm
    · split at hm
      · split at hm <;> cases hm
        exact ⟨hF.rf, by show pc ≤ pc + 1; omega⟩
      · cases hm
    · split at hm
      · split at hm <;> cases hm
        exact ⟨hF.rf, by show pc ≤ pc + 1; omega⟩
      · cases hm
    · cases hm
  · unfold nj_bald at hm
    split at hm
    · split at hm
      · split at hm <;> cases hm
        exact ⟨hF.rf, by show pc ≤ pc + 1; omega⟩
      · cases hm
    · split at hm <;> cases hm
      exact ⟨hF.rf, by show pc ≤ pc + 1; omega⟩
    · cases hm
  · unfold nj_lald at hm
    split at hm
    · split at hm
      · split at hm <;> cases hm
        exact ⟨hF.rf, by show pc ≤ pc + 1; omega⟩
      · cases hm
    · cases hm
  · unfold nj_aald at hm
    split at hm
    · split at hm
      · split at hm
        · split at hm <;> cases hm
          exact ⟨hF.rf, by show pc ≤ pc + 1; omega⟩
        · cases hm
      · cases hm
    · cases hm
  · unfold nj_iast at hm
    split at hm
    · split at hm
      · next e =>
        split at hm <;> cases hm
        exact ⟨hF.row e, by show pc ≤ pc + 1; omega⟩
      · cases hm
    · cases hm
  · unfold nj_bast at hm
    split at hm
    · split at hm
      · next e =>
        split at hm <;> cases hm
        exact ⟨hF.row e, by show pc ≤ pc + 1; omega⟩
      · cases hm
    · cases hm
  · unfold nj_last at hm
    split at hm
    · split at hm
      · next e =>
        split at hm <;> cases hm
        exact ⟨hF.row e, by show pc ≤ pc + 1; omega⟩
      · cases hm
    · cases hm
  · unfold nj_aast at hm
    split at hm
    · split at hm
      · next e _ =>
        split at hm <;> cases hm
        exact ⟨hF.row e, by show pc ≤ pc + 1; omega⟩
      · cases hm
    · cases hm
  · unfold nj_alen at hm
    split at hm
    · split at hm
      · split at hm <;> cases hm
        exact ⟨hF.rf, by show pc ≤ pc + 1; omega⟩
      · cases hm
    · split at hm
      · cases hm
        exact ⟨hF.rf, by show pc ≤ pc + 1; omega⟩
      · split at hm
        · cases hm
          exact ⟨hF.rf, by show pc ≤ pc + 1; omega⟩
        · split at hm <;> cases hm
          exact ⟨hF.rf, by show pc ≤ pc + 1; omega⟩
    · cases hm
  · split at hm <;> cases hm
    · exact ⟨hF.rf, by show pc ≤ pc + 2; omega⟩
    · exact ⟨hF.rf, by show pc ≤ pc + 2; omega⟩
  · cases hm
    exact ⟨hF.rf, by show pc ≤ pc + 3; omega⟩
  · cases hm
    exact ⟨hF.rf, by show pc ≤ pc + 3; omega⟩
  · split at hm
    · cases hm
      exact ⟨hF.rf, by show pc ≤ pc + 3; omega⟩
    · split at hm
      · cases hm
        exact ⟨hF.rf, by show pc ≤ pc + 3; omega⟩
      · split at hm <;> cases hm
        exact ⟨hF.rf, by show pc ≤ pc + 3; omega⟩
  · cases hm
theorem ldi_pc {lv lv1 : nLv} {pc k pc1 : Nat} {st st1 : List Value} (h : nj_ldi lv pc k st = some (pc1, lv1, st1)) : pc1 = pc := by
  unfold nj_ldi at h
  split at h <;> cases h
  rfl
theorem ldl_pc {lv lv1 : nLv} {pc k pc1 : Nat} {st st1 : List Value} (h : nj_ldl lv pc k st = some (pc1, lv1, st1)) : pc1 = pc := by
  unfold nj_ldl at h
  split at h <;> cases h
  rfl
theorem lda_pc {lv lv1 : nLv} {pc k pc1 : Nat} {st st1 : List Value} (h : nj_lda lv pc k st = some (pc1, lv1, st1)) : pc1 = pc := by
  unfold nj_lda at h
  split at h <;> cases h
  · rfl
  · rfl
theorem sti_pc {lv lv1 : nLv} {mL pc k pc1 : Nat} {st st1 : List Value} (h : nj_sti lv mL pc k st = some (pc1, lv1, st1)) : pc1 = pc := by
  unfold nj_sti at h
  split at h
  · split at h <;> cases h
    rfl
  · cases h
theorem stl_pc {lv lv1 : nLv} {mL pc k pc1 : Nat} {st st1 : List Value} (h : nj_stl lv mL pc k st = some (pc1, lv1, st1)) : pc1 = pc := by
  unfold nj_stl at h
  split at h
  · split at h <;> cases h
    rfl
  · cases h
theorem sta_pc {lv lv1 : nLv} {mL pc k pc1 : Nat} {st st1 : List Value} (h : nj_sta lv mL pc k st = some (pc1, lv1, st1)) : pc1 = pc := by
  unfold nj_sta at h
  split at h
  · split at h <;> cases h
    rfl
  · split at h <;> cases h
    rfl
  · cases h
theorem b2_pc {f : Int32 → Int32 → Int32} {lv lv1 : nLv} {pc pc1 : Nat} {st st1 : List Value} (h : nj_b2 f lv pc st = some (pc1, lv1, st1)) : pc1 = pc + 1 := by
  unfold nj_b2 at h
  split at h <;> cases h
  rfl
theorem l2_pc {f : Int64 → Int64 → Int64} {lv lv1 : nLv} {pc pc1 : Nat} {st st1 : List Value} (h : nj_l2 f lv pc st = some (pc1, lv1, st1)) : pc1 = pc + 1 := by
  unfold nj_l2 at h
  split at h <;> cases h
  rfl
theorem i1_pc {f : Int32 → Int32} {lv lv1 : nLv} {pc pc1 : Nat} {st st1 : List Value} (h : nj_i1 f lv pc st = some (pc1, lv1, st1)) : pc1 = pc + 1 := by
  unfold nj_i1 at h
  split at h <;> cases h
  rfl
theorem br_pc {lv lv1 : nLv} {pc pc1 : Nat} {off : Int} {c : Bool} {st st1 : List Value} (h : nj_br pc off c lv st = some (pc1, lv1, st1)) : pc1 = pc + 3 ∨ (pc1 : Int) = (pc : Int) + off := by
  unfold nj_br at h
  split at h
  · next h0 =>
    split at h <;> cases h
    · exact Or.inr (Int.toNat_of_nonneg h0)
    · exact Or.inl rfl
  · cases h
set_option maxHeartbeats 2000000 in
theorem pure_pc {lv lv1 : nLv} {mL pc pc1 : Nat} {st st1 : List Value} {i : Instr} (h : nj_pure lv mL pc st i = some (pc1, lv1, st1)) (hs : isSw i = false) : pc ≤ pc1 ∨ ∃ off ∈ offI i, (pc1 : Int) = (pc : Int) + off := by
  unfold nj_pure at h
  split at h
  all_goals first
    | (exact nomatch (show true = false from hs))
    | (cases h; exact Or.inl (by omega))
    | (have := ldi_pc h; exact Or.inl (by omega))
    | (have := ldl_pc h; exact Or.inl (by omega))
    | (have := lda_pc h; exact Or.inl (by omega))
    | (have := sti_pc h; exact Or.inl (by omega))
    | (have := stl_pc h; exact Or.inl (by omega))
    | (have := sta_pc h; exact Or.inl (by omega))
    | (have := b2_pc h; exact Or.inl (by omega))
    | (have := l2_pc h; exact Or.inl (by omega))
    | (have := i1_pc h; exact Or.inl (by omega))
    | (have := (v_go h).1; exact Or.inr ⟨_, List.mem_singleton.mpr rfl, this⟩)
    | (split at h
       · rcases br_pc h with e | e
         · exact Or.inl (by omega)
         · exact Or.inr ⟨_, List.mem_singleton.mpr rfl, e⟩
       · cases h)
    | (split at h <;> cases h; exact Or.inl (by omega))
    | (split at h
       · split at h <;> cases h
         exact Or.inl (by omega)
       · cases h)
    | (cases h)
theorem copy_hF {c k : Nat} {st : List Value} {h : List nC} {r : List Value × List nC} (hc : nj_copy st h = some r) : hF c k h r.2 := by
  unfold nj_copy at hc
  split at hc
  · split at hc
    · next e =>
      split at hc <;> cases hc
      exact hF.row e
    · next e =>
      split at hc <;> cases hc
      exact hF.row e
    · cases hc
  · cases hc
theorem new_pc {pc a : Nat} {st : List Value} {h : List nC} {i : Instr} {r : Nat × List Value × nC × Nat} (hn : nj_new pc a st h i = some r) : pc ≤ r.1 := by
  unfold nj_new at hn
  split at hn
  · split at hn <;> cases hn
    show pc ≤ pc + 3
    omega
  · split at hn
    · split at hn
      · split at hn
        · cases hn
          show pc ≤ pc + 2
          omega
        · split at hn <;> cases hn
          show pc ≤ pc + 2
          omega
      · cases hn
    · cases hn
  · split at hn
    · split at hn <;> cases hn
      show pc ≤ pc + 3
      omega
    · cases hn
  · cases hn
/-- an instruction that doesn't write the field, goes to no place ahead of N, and calls such methods alone -/
def okE (c k : Nat) (ok : List Nat) (N : Nat) (e : nE) : Bool := !(isPf e.2.1 && (Nat.beq e.2.2.1 c && Nat.beq e.2.2.2.1 k)) && ((Nat.beq N 0 || (!(isSw e.2.1) && (offI e.2.1).all (fun off => decide ((N : Int) ≤ (e.1 : Int) + off)))) && (!(nj_isinv e.2.1) || (decide (e.2.2.2.2.1 = 4) || (decide (e.2.2.2.2.1 = 5) || (decide (e.2.2.2.2.1 = 7) || (!(decide (e.2.2.2.2.1 = 6)) && ok.elem e.2.2.1))))))
def okL (c k : Nat) (ok : List Nat) (ms : List nM) : Bool := ok.all (fun a => match ms[a]? with
  | some mz => mz.2.2.2.2.2.all (okE c k ok 0)
  | none => true)
section RFR
variable {L : Nat} {xs : Nat → Int32} {c k : Nat} {ok : List Nat}
theorem run_fr {X : nX} (hok : okL c k ok nj_ms = true) : ∀ (n d : Nat) (mt : nM) (pc : Nat) (lv : nLv) (st : List Value) (h : List nC) (g : Nat) (rv : Option Value) (h1 : List nC) (g1 mc ms N : Nat), mt.2.2.2.2.2.all (fun e => !(Nat.ble N e.1) || okE c k ok N e) = true → N ≤ pc → nj_run nj_M X L xs n d mt pc lv st h g = some (rv, h1, g1, mc, ms) → hF c k h h1 := by
  intro n
  induction n with
  | zero => intro d mt pc lv st h g rv h1 g1 mc ms N _ _ hr; cases hr
  | succ n ih =>
    intro d mt pc lv st h g rv h1 g1 mc ms N hall hN hr
    unfold nj_run at hr
    cases hf : mt.2.2.2.2.2.find? (fun q => q.1 == pc) with
    | none => rw [hf] at hr; cases hr
    | some e =>
      have hm := List.all_eq_true.mp hall _ (List.mem_of_find?_eq_some hf)
      have hq : e.1 = pc := by simpa using List.find?_some hf
      obtain ⟨q, i, a, b, v, pos⟩ := e
      simp only at hq
      subst hq
      rw [hf] at hr
      simp only at hr hm
      rw [Nat.ble_eq_true_of_le hN, Bool.not_true, Bool.false_or] at hm
      unfold okE at hm
      simp only [Bool.and_eq_true, Bool.or_eq_true, Bool.not_eq_true', decide_eq_true_eq, decide_eq_false_iff_not] at hm
      obtain ⟨m1, m2, m3⟩ := hm
      have m1' : ¬ (isPf i = true ∧ a = c ∧ b = k) := fun z => by
        rw [z.1, z.2.1, z.2.2, Nat.beq_refl, Nat.beq_refl] at m1
        cases m1
      cases hret : nj_ret mt.2.2.2.1 i st with
      | some rv0 =>
        rw [hret] at hr
        cases hr
        exact hF.rf
      | none =>
        rw [hret] at hr
        simp only at hr
        cases hs : nj_step nj_M X L xs (fun d1 mz lv0 h0 g0 => nj_run nj_M X L xs n d1 mz 0 lv0 [] h0 g0) d mt i a b v q lv st h g with
        | none => rw [hs] at hr; cases hr
        | some r =>
          obtain ⟨pc1, lv1, st1, h2, g2, mc1, ms1⟩ := r
          rw [hs] at hr
          simp only at hr
          cases hr2 : nj_run nj_M X L xs n d mt pc1 lv1 st1 h2 g2 with
          | none => rw [hr2] at hr; cases hr
          | some r2 =>
            obtain ⟨rv3, h3, g3, mc2, ms2⟩ := r2
            rw [hr2] at hr
            simp only [Option.some.injEq, Prod.mk.injEq] at hr
            obtain ⟨-, e2, -, -, -⟩ := hr
            subst e2
            suffices key : hF c k h h2 ∧ N ≤ pc1 from key.1.tr (ih _ _ _ _ _ _ _ _ _ _ _ _ N hall key.2 hr2)
            unfold nj_step at hs
            split at hs
            · next p1 p2 p3 hp =>
              cases hs
              refine ⟨hF.rf, ?_⟩
              rcases m2 with m2 | ⟨m2, m4⟩
              · have := Nat.eq_of_beq_eq_true m2
                omega
              · rcases pure_pc hp m2 with e | ⟨off, e1, e2⟩
                · omega
                · have := of_decide_eq_true (List.all_eq_true.mp m4 off e1)
                  omega
            · split at hs
              · next p1 p2 p3 hm =>
                cases hs
                have := mem_hF hm m1'
                exact ⟨this.1, Nat.le_trans hN this.2⟩
              · split at hs
                · next p1 p2 p3 p4 hn =>
                  split at hs <;> cases hs
                  exact ⟨hF.app, Nat.le_trans hN (new_pc hn)⟩
                · unfold nj_calls at hs
                  split at hs
                  · cases hs
                  · next hinv =>
                    have hi : nj_isinv i = true := by simpa using hinv
                    rw [hi] at m3
                    split at hs
                    · split at hs
                      · split at hs <;> cases hs
                        exact ⟨hF.rf, by omega⟩
                      · cases hs
                    · next n4 =>
                      split at hs
                      · split at hs
                        · next hcp =>
                          split at hs <;> cases hs
                          exact ⟨copy_hF hcp, by omega⟩
                        · cases hs
                      · next n5 =>
                        split at hs
                        · next y6 =>
                          rcases m3 with m3 | m3 | m3 | m3 | m3
                          · cases m3
                          · exact absurd m3 n4
                          · exact absurd m3 n5
                          · omega
                          · exact absurd y6 m3.1
                        · next n6 =>
                          split at hs
                          · split at hs
                            · split at hs <;> cases hs
                              exact ⟨hF.rf, by omega⟩
                            · cases hs
                          · next n7 =>
                            have ha : ok.elem a = true := by
                              rcases m3 with m3 | m3 | m3 | m3 | m3
                              · cases m3
                              · exact absurd m3 n4
                              · exact absurd m3 n5
                              · exact absurd m3 n7
                              · exact m3.2
                            unfold nj_inv at hs
                            split at hs
                            · next d1 mz hMa =>
                              split at hs
                              · split at hs
                                · next rv4 h4 g4 mc4 ms4 hq =>
                                  cases hs
                                  refine ⟨?_, by omega⟩
                                  have hz := List.all_eq_true.mp hok a (by simpa using ha)
                                  have hMa2 : nj_ms[a]? = some mz := hMa
                                  rw [hMa2] at hz
                                  refine ih _ mz 0 _ _ _ _ _ _ _ _ _ 0 ?_ (Nat.le_refl 0) hq
                                  exact List.all_eq_true.mpr (fun e he => by rw [List.all_eq_true.mp hz e he, Bool.or_true])
                                · cases hs
                              · cases hs
                            · cases hs
/-- the method that stops at the place pT, as a method of nothing -/
def nvV (mt : nM) (pT : Nat) : nM := (mt.1, mt.2.1, mt.2.2.1, none, mt.2.2.2.2.1, (pT, .return_, 0, 0, 0, 0) :: mt.2.2.2.2.2)
def isRt (i : Instr) : Bool := match i with
  | .return_ => true
  | .lreturn => true
  | _ => false
theorem ret_none {i : Instr} {st : List Value} (h : isRt i = false) : nj_ret none i st = none := by
  unfold nj_ret
  split
  · split
    · next e => cases e
    · rfl
  · cases h
  · cases h
  · rfl
/-- a run of it, beside a run of the method itself -/
theorem nvV_run {mt : nM} {pT : Nat} (hall : mt.2.2.2.2.2.all (fun e => !(isRt e.2.1)) = true) : ∀ (n d pc : Nat) (lv : nLv) (st : List Value) (h : List nC) (rv : Option Value) (h1 : List nC) (g1 : Nat), nj_run nj_M nX0 L xs n d (nvV mt pT) pc lv st h 0 = some (rv, h1, g1, 0, 0) → ∀ (n2 : Nat) (rv2 : Option Value) (h2 : List nC) (g2 mc2 ms2 : Nat), nj_run nj_M nX0 L xs n2 d mt pc lv st h 0 = some (rv2, h2, g2, mc2, ms2) → ∃ n3 lv1 g3 g4 mc3 ms3, nj_run nj_M nX0 L xs n3 d mt pT lv1 [] h1 g3 = some (rv2, h2, g4, mc3, ms3) := by
  intro n
  induction n with
  | zero => intro d pc lv st h rv h1 g1 hr; cases hr
  | succ n ih =>
    intro d pc lv st h rv h1 g1 hr n2 rv2 h2 g2 mc2 ms2 hr2
    by_cases hp : pc = pT
    · subst hp
      unfold nj_run at hr
      have f1 : (nvV mt pc).2.2.2.2.2.find? (fun q => q.1 == pc) = some (pc, .return_, 0, 0, 0, 0) := by simp [nvV]
      simp only [f1] at hr
      cases st with
      | nil =>
        have e1 : nj_ret (nvV mt pc).2.2.2.1 .return_ [] = some none := rfl
        simp only [e1, Option.some.injEq, Prod.mk.injEq] at hr
        obtain ⟨-, e2, -, -, -⟩ := hr
        subst e2
        exact ⟨n2, lv, 0, g2, mc2, ms2, hr2⟩
      | cons x y =>
        have e1 : nj_ret (nvV mt pc).2.2.2.1 .return_ (x :: y) = none := rfl
        have e2 : nj_step nj_M nX0 L xs (fun d1 mz lv0 h0 g0 => nj_run nj_M nX0 L xs n d1 mz 0 lv0 [] h0 g0) d (nvV mt pc) .return_ 0 0 0 pc lv (x :: y) h 0 = none := rfl
        simp only [e1, e2] at hr
        cases hr
    · cases n2 with
      | zero => cases hr2
      | succ n2 =>
        unfold nj_run at hr hr2
        have ef : (nvV mt pT).2.2.2.2.2.find? (fun q => q.1 == pc) = mt.2.2.2.2.2.find? (fun q => q.1 == pc) := by
          have e1 : (pT == pc) = false := by simpa using fun e => hp e.symm
          simp [nvV, List.find?_cons, e1]
        rw [ef] at hr
        cases hf : mt.2.2.2.2.2.find? (fun q => q.1 == pc) with
        | none => rw [hf] at hr; cases hr
        | some e =>
          have hm := List.all_eq_true.mp hall _ (List.mem_of_find?_eq_some hf)
          obtain ⟨q, i, a, b, v, pos⟩ := e
          rw [hf] at hr hr2
          simp only at hr hr2 hm
          have hrt : isRt i = false := by simpa using hm
          have e1 : nj_ret (nvV mt pT).2.2.2.1 i st = none := ret_none hrt
          rw [e1] at hr
          simp only at hr
          cases hs : nj_step nj_M nX0 L xs (fun d1 mz lv0 h0 g0 => nj_run nj_M nX0 L xs n d1 mz 0 lv0 [] h0 g0) d (nvV mt pT) i a b v pc lv st h 0 with
          | none => rw [hs] at hr; cases hr
          | some r =>
            obtain ⟨pc1, lv1, st1, h3, g3, mc1, ms1⟩ := r
            rw [hs] at hr
            simp only at hr
            cases hr3 : nj_run nj_M nX0 L xs n d (nvV mt pT) pc1 lv1 st1 h3 g3 with
            | none => rw [hr3] at hr; cases hr
            | some r3 =>
              obtain ⟨rv4, h4, g4, mc4, ms4⟩ := r3
              rw [hr3] at hr
              simp only [Option.some.injEq, Prod.mk.injEq] at hr
              obtain ⟨z1, z2, z3, z4, z5⟩ := hr
              have y1 : mc1 = 0 := by omega
              have y2 : mc4 = 0 := by omega
              have y3 : ms1 = 0 := by omega
              have y4 : ms4 = 0 := by omega
              subst y1; subst y2; subst y3; subst y4
              have hs0 : nj_step nj_M nX0 L xs (fun d1 mz lv0 h0 g0 => nj_run nj_M nX0 L xs n d1 mz 0 lv0 [] h0 g0) d mt i a b v pc lv st h 0 = some (pc1, lv1, st1, h3, g3, 0, 0) := hs
              have g30 : g3 = 0 := (nj_step_g (g := 0) (fun d1 mz lv0 h0 rv h1 g1 ms hq => ⟨(nj_run_g _ _ _ _ _ _ _ _ _ _ _ hq).1, (nj_run_g _ _ _ _ _ _ _ _ _ _ _ hq).2 0⟩) hs0).1
              subst g30
              have k1 := nj_step_mono (run2 := fun d1 mz lv0 h0 g0 => nj_run nj_M nX0 L xs (max n n2) d1 mz 0 lv0 [] h0 g0) (fun d1 mz lv0 h0 g0 r hq => nj_run_mono (Nat.le_max_left n n2) hq) hs0
              cases hret : nj_ret mt.2.2.2.1 i st with
              | some rv0 =>
                exfalso
                have : nj_step nj_M nX0 L xs (fun d1 mz lv0 h0 g0 => nj_run nj_M nX0 L xs n d1 mz 0 lv0 [] h0 g0) d mt i a b v pc lv st h 0 = none := by
                  unfold nj_ret at hret
                  split at hret
                  · rfl
                  · rfl
                  · rfl
                  · cases hret
                rw [this] at hs0
                cases hs0
              | none =>
                rw [hret] at hr2
                simp only at hr2
                cases hs2 : nj_step nj_M nX0 L xs (fun d1 mz lv0 h0 g0 => nj_run nj_M nX0 L xs n2 d1 mz 0 lv0 [] h0 g0) d mt i a b v pc lv st h 0 with
                | none => rw [hs2] at hr2; cases hr2
                | some r5 =>
                  have k2 := nj_step_mono (run2 := fun d1 mz lv0 h0 g0 => nj_run nj_M nX0 L xs (max n n2) d1 mz 0 lv0 [] h0 g0) (fun d1 mz lv0 h0 g0 r hq => nj_run_mono (Nat.le_max_right n n2) hq) hs2
                  rw [k1] at k2
                  cases k2
                  rw [hs2] at hr2
                  simp only at hr2
                  cases hr6 : nj_run nj_M nX0 L xs n2 d mt pc1 lv1 st1 h3 0 with
                  | none => rw [hr6] at hr2; cases hr2
                  | some r6 =>
                    obtain ⟨rv6, h6, g6, mc6, ms6⟩ := r6
                    rw [hr6] at hr2
                    simp only [Option.some.injEq, Prod.mk.injEq] at hr2
                    obtain ⟨w1, w2, w3, w4, w5⟩ := hr2
                    subst w1; subst w2
                    subst z2
                    exact ih d pc1 lv1 st1 h3 _ _ _ hr3 n2 _ _ _ _ _ hr6
theorem nT_hF {X : nX} {g d : Nat} {mt : nM} {Q : Option Value → List nC → Prop} {pc : Nat} {lv : nLv} {st : List Value} {h : List nC} (hok : okL c k ok nj_ms = true) (hm : mt.2.2.2.2.2.all (okE c k ok 0) = true) (q : nT nj_M X L xs g d mt Q pc lv st h) : nT nj_M X L xs g d mt (fun rv h1 => Q rv h1 ∧ hF c k h h1) pc lv st h := by
  obtain ⟨n, rv, h1, e, q1⟩ := q
  exact ⟨n, rv, h1, e, q1, run_fr hok _ _ _ _ _ _ _ _ _ _ _ _ _ 0 (List.all_eq_true.mpr (fun e he => by rw [List.all_eq_true.mp hm e he, Bool.or_true])) (Nat.zero_le _) e⟩
end RFR
