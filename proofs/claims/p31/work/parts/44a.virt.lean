/-! one round of the law, as a method of its own that says where it stops -/
def vK (pc : Nat) : Bool := decide (33 ≤ pc) && (decide (pc < 1395) && (!(decide (344 ≤ pc) && decide (pc < 384)) && (!(decide (719 ≤ pc) && decide (pc < 759)) && (!(decide (1232 ≤ pc) && decide (pc < 1257)) && (!(decide (293 ≤ pc) && decide (pc < 318)) && (!(decide (220 ≤ pc) && decide (pc < 293)) && (!(decide (318 ≤ pc) && decide (pc < 331)) && (!(decide (1320 ≤ pc) && decide (pc < 1345)) && (!(decide (1345 ≤ pc) && decide (pc < 1370)) && (!(decide (1047 ≤ pc) && decide (pc < 1084))))))))))))
def vO : List nE := [(0, .goto 33, 0, 0, 0, 0), (1395, .iconst 0, 0, 0, 0, 0), (1396, .ireturn, 0, 0, 0, 0), (344, .iconst 1, 0, 0, 0, 0), (345, .ireturn, 0, 0, 0, 0), (719, .iconst 2, 0, 0, 0, 0), (720, .ireturn, 0, 0, 0, 0), (1232, .iconst 3, 0, 0, 0, 0), (1233, .ireturn, 0, 0, 0, 0), (293, .iconst 4, 0, 0, 0, 0), (294, .ireturn, 0, 0, 0, 0), (220, .iconst 5, 0, 0, 0, 0), (221, .ireturn, 0, 0, 0, 0), (318, .iconst 6, 0, 0, 0, 0), (319, .ireturn, 0, 0, 0, 0), (1320, .iconst 7, 0, 0, 0, 0), (1321, .ireturn, 0, 0, 0, 0), (1345, .iconst 8, 0, 0, 0, 0), (1346, .ireturn, 0, 0, 0, 0), (1047, .iconst 9, 0, 0, 0, 0), (1048, .ireturn, 0, 0, 0, 0)]
def nm_v : nM := (nm_265.1, nm_265.2.1, nm_265.2.2.1, some .int, nm_265.2.2.2.2.1, vO ++ nm_265.2.2.2.2.2.filter (fun q => vK q.1))
def nj_M2 (k : Nat) : Option nM := if k = 265 then some nm_v else nj_M k
def goodB (mt : nM) : Bool := mt.2.2.2.2.2.all (fun q => !(q.2.2.1 == 265))
theorem good_all : nj_ms.all goodB = true := by decide +kernel
theorem good_v : goodB nm_v = true := by decide +kernel
theorem good_of {k : Nat} {mt : nM} (h : nj_M k = some mt) : goodB mt = true := List.all_eq_true.mp good_all mt (List.mem_of_getElem? h)
section RM2
variable {X : nX} {L : Nat} {xs : Nat → Int32}
theorem nj_step_M2 {run run2 : Nat → nM → nLv → List nC → Nat → Option nRes} (hr : ∀ d1 mz lv0 h0 g0, goodB mz = true → run2 d1 mz lv0 h0 g0 = run d1 mz lv0 h0 g0) {d : Nat} {mt : nM} {i : Instr} {a b : Nat} {v : Int} {pc : Nat} {lv : nLv} {st : List Value} {h : List nC} {g : Nat} (ha : ¬ a = 265) : nj_step nj_M2 X L xs run2 d mt i a b v pc lv st h g = nj_step nj_M X L xs run d mt i a b v pc lv st h g := by
  have e : nj_inv nj_M2 run2 d pc i a b lv st h g = nj_inv nj_M run d pc i a b lv st h g := by
    unfold nj_inv
    have hM : nj_M2 a = nj_M a := if_neg ha
    rw [hM]
    cases d with
    | zero => rfl
    | succ d =>
      cases hMa : nj_M a with
      | none => rfl
      | some mz => simp only [hr d mz _ _ _ (good_of hMa)]
  unfold nj_step nj_calls
  rw [e]
theorem nj_run_M2 : ∀ (n d : Nat) (mt : nM) (pc : Nat) (lv : nLv) (st : List Value) (h : List nC) (g : Nat), goodB mt = true → nj_run nj_M2 X L xs n d mt pc lv st h g = nj_run nj_M X L xs n d mt pc lv st h g := by
  intro n
  induction n with
  | zero => intro d mt pc lv st h g _; rfl
  | succ n ih =>
    intro d mt pc lv st h g hg
    unfold nj_run
    cases hf : mt.2.2.2.2.2.find? (fun q => q.1 == pc) with
    | none => rfl
    | some e =>
      obtain ⟨q, i, a, b, v, pos⟩ := e
      have ha : ¬ a = 265 := by
        have := List.all_eq_true.mp hg _ (List.mem_of_find?_eq_some hf)
        simpa using this
      simp only
      rw [nj_step_M2 (run := fun d1 mz lv0 h0 g0 => nj_run nj_M X L xs n d1 mz 0 lv0 [] h0 g0) (fun d1 mz lv0 h0 g0 hz => ih d1 mz 0 lv0 [] h0 g0 hz) ha]
      cases nj_ret mt.2.2.2.1 i st with
      | some rv => rfl
      | none =>
        simp only
        cases nj_step nj_M X L xs (fun d1 mz lv0 h0 g0 => nj_run nj_M X L xs n d1 mz 0 lv0 [] h0 g0) d mt i a b v pc lv st h g with
        | none => rfl
        | some r =>
          obtain ⟨pc1, lv1, st1, h1, g1, mc1, ms1⟩ := r
          simp only [ih d mt pc1 lv1 st1 h1 g1 hg]
theorem nT_M2 {g d : Nat} {mt : nM} {Q : Option Value → List nC → Prop} {pc : Nat} {lv : nLv} {st : List Value} {h : List nC} (hg : goodB mt = true) : nT nj_M2 X L xs g d mt Q pc lv st h ↔ nT nj_M X L xs g d mt Q pc lv st h := by
  unfold nT
  simp only [nj_run_M2 _ _ _ _ _ _ _ _ hg]
theorem nV_M2 {g : Nat} {FT : Nat → Nat → Option fTy} {AT : Nat → Option aTy} {S : List Nat} {J : List nC → Prop} {c : nK} (hc : ¬ c.1 = 265) (h : nV nj_M X L xs g FT AT S J c) : nV nj_M2 X L xs g FT AT S J c := by
  intro d hd mt hM h0 nu mu vs hJ hT k hs
  have hM' : nj_M c.1 = some mt := by
    unfold nj_M2 at hM
    rw [if_neg hc] at hM
    exact hM
  exact (nT_M2 (good_of hM')).mpr (h d hd mt hM' h0 nu mu vs hJ hT k hs)
end RM2
section ALS
variable {M : Nat → Option nM} {X : nX} {L : Nat} {xs : Nat → Int32} {g : Nat} {FT : Nat → Nat → Option fTy} {AT : Nat → Option aTy} {S : List Nat} {J : List nC → Prop} {ctx : List nK} {W : nWk} {ls : Option Nat}
/-- the walk from a method's beginning, without places where it is cut, for the script at hand -/
theorem aExec_nT (hJ : nJ FT AT S J) (hW : nWv FT AT S J W) (hctx : ∀ c ∈ ctx, nV M X L xs g FT AT S J c) {fuel : Nat} {c : nK} {d : Nat} (hd : c.2.1 ≤ d) {mt : nM} (hM : M c.1 = some mt) {h : List nC} {nu : List Int} {mu : List Nat} {vs : List Value} (hJh : J h) (hT : tOk FT AT S h) (hpre : aOk S h nu mu c.2.2.1) (hst : aSt nu mu c.2.2.2.1 vs) (hls : ∀ y, ls = some y → nu[y]? = some (L : Int)) (hent : aExec M FT AT ctx W ls c.2.2.2.2.1 c.2.2.2.2.2.1 c.2.2.2.2.2.2 c.2.2.1.1.length c.2.2.1.2.1.length c.2.1 c.1 [] none fuel c.2.2.1 [(c.1, 0, aArgs 0 c.2.2.2.1, [])] = true) : nT M X L xs g d mt (aQ FT AT S J c.2.2.2.2.1 c.2.2.2.2.2.1 c.2.2.2.2.2.2 nu mu h) 0 (lv_args 0 vs) [] h := by
  have e1 : c.2.2.1.1.length = nu.length := hpre.1.1
  have e2 : c.2.2.1.2.1.length = mu.length := hpre.2.1.1
  rw [e1, e2] at hent
  exact aExec_ok (rk := none) (cuts := []) hJ hW hctx hls aX.rf hd hM (fun r0 hr0 => by cases hr0) (fun c hc => nomatch hc) fuel c.2.2.1 [(c.1, 0, aArgs 0 c.2.2.2.1, [])] h [(mt, 0, lv_args 0 vs, [])] d ⟨nu, mu, aX.rf, hpre, ⟨⟨hM, rfl, aArgs_ok _ _ 0 hst, trivial⟩, trivial⟩, hJh, hT, nFr.rf⟩ (by simp) hent
end ALS
/-- where an instruction of the round goes -/
def vS (i : Instr) (pc : Nat) : Option (List Int) := match i with
  | .aload_n _ | .iadd | .iaload | .iand | .pop | .iconst _ => some [(pc : Int) + 1]
  | .iload _ | .bipush _ => some [(pc : Int) + 2]
  | .invokevirtual _ => some [(pc : Int) + 3]
  | .goto off => some [(pc : Int) + off]
  | .tableswitch d _ _ offs => some (((pc : Int) + d) :: offs.toList.map (fun o => (pc : Int) + o))
  | _ => none
def vX (p : Int) : Bool := decide (0 ≤ p) && (vK p.toNat || (p == 1395 || (p == 344 || (p == 719 || (p == 1232 || (p == 293 || (p == 220 || (p == 318 || (p == 1320 || (p == 1345 || (p == 1047)))))))))))
theorem vS_all : (nm_265.2.2.2.2.2.filter (fun q => vK q.1)).all (fun q => match vS q.2.1 q.1 with
  | some l => l.all vX && decide (0 ≤ q.2.2.2.2.1 ∧ q.2.2.2.2.1 < 4)
  | none => false) = true := by decide +kernel
theorem v_go {pc : Nat} {off : Int} {lv lv1 : nLv} {st st1 : List Value} {pc1 : Nat} (h : nj_go pc off lv st = some (pc1, lv1, st1)) : (pc1 : Int) = (pc : Int) + off ∧ lv1 = lv := by
  unfold nj_go at h
  split at h
  · next h0 =>
    cases h
    exact ⟨Int.toNat_of_nonneg h0, rfl⟩
  · cases h
theorem v_pure {lv lv1 : nLv} {mL pc pc1 : Nat} {st st1 : List Value} {i : Instr} {l : List Int} (h : nj_pure lv mL pc st i = some (pc1, lv1, st1)) (hl : vS i pc = some l) : (pc1 : Int) ∈ l ∧ lv1 = lv := by
  unfold vS at hl
  split at hl
  · cases hl
    simp only [nj_pure, nj_lda] at h
    split at h <;> cases h
    · exact ⟨List.mem_singleton.mpr rfl, rfl⟩
    · exact ⟨List.mem_singleton.mpr rfl, rfl⟩
  · cases hl
    simp only [nj_pure, nj_b2] at h
    split at h <;> cases h
    exact ⟨List.mem_singleton.mpr rfl, rfl⟩
  · cases hl
    cases h
  · cases hl
    simp only [nj_pure, nj_b2] at h
    split at h <;> cases h
    exact ⟨List.mem_singleton.mpr rfl, rfl⟩
  · cases hl
    simp only [nj_pure] at h
    split at h
    · split at h <;> cases h
      exact ⟨List.mem_singleton.mpr rfl, rfl⟩
    · cases h
  · cases hl
    cases h
    exact ⟨List.mem_singleton.mpr rfl, rfl⟩
  · cases hl
    simp only [nj_pure, nj_ldi] at h
    split at h <;> cases h
    exact ⟨List.mem_singleton.mpr rfl, rfl⟩
  · cases hl
    cases h
    exact ⟨List.mem_singleton.mpr rfl, rfl⟩
  · cases hl
    cases h
  · cases hl
    obtain ⟨h1, h2⟩ := v_go (show nj_go _ _ _ _ = _ from h)
    exact ⟨List.mem_singleton.mpr h1, h2⟩
  · next dd lo hi offs =>
    cases hl
    simp only [nj_pure] at h
    split at h
    · unfold nj_tab at h
      split at h
      · obtain ⟨h1, h2⟩ := v_go h
        exact ⟨List.mem_cons.mpr (.inl h1), h2⟩
      · split at h
        · next o ho =>
          obtain ⟨h1, h2⟩ := v_go h
          exact ⟨List.mem_cons_of_mem _ (List.mem_map.mpr ⟨o, Array.mem_toList_iff.mpr (Array.mem_of_getElem? ho), h1.symm⟩), h2⟩
        · cases h
    · cases h
  · cases hl
theorem v_mem {L : Nat} {xs : Nat → Int32} {ini : Bool} {pc pc1 a b : Nat} {v : Int} {st st1 : List Value} {h h1 : List nC} {i : Instr} {l : List Int} (hm : nj_mem L xs ini pc a b v st h i = some (pc1, st1, h1)) (hl : vS i pc = some l) : (pc1 : Int) ∈ l := by
  unfold vS at hl
  split at hl
  · cases hm
  · cases hm
  · cases hl
    have e : nj_iald L xs pc st h = some (pc1, st1, h1) := hm
    unfold nj_iald at e
    split at e
    · split at e
      · split at e <;> cases e
        exact List.mem_singleton.mpr rfl
      · cases e
    · split at e
      · split at e <;> cases e
        exact List.mem_singleton.mpr rfl
      · cases e
    · cases e
  · cases hm
  · cases hm
  · cases hm
  · cases hm
  · cases hm
  · cases hm
  · cases hm
  · cases hm
  · cases hl
theorem v_new {pc a : Nat} {st : List Value} {h : List nC} {i : Instr} {l : List Int} (hl : vS i pc = some l) : nj_new pc a st h i = none := by
  unfold vS at hl
  split at hl <;> first | rfl | cases hl
theorem v_calls {M : Nat → Option nM} {X : nX} {run : Nat → nM → nLv → List nC → Nat → Option nRes} {d pc a b g : Nat} {v : Int} {lv : nLv} {st : List Value} {h : List nC} {i : Instr} {r : nS1} (hc : nj_calls M X run d pc i a b v lv st h g = some r) : r.1 = pc + 3 ∧ r.2.1 = lv := by
  unfold nj_calls at hc
  split at hc
  · cases hc
  · split at hc
    · split at hc
      · split at hc <;> cases hc
        exact ⟨rfl, rfl⟩
      · cases hc
    · split at hc
      · split at hc
        · split at hc <;> cases hc
          exact ⟨rfl, rfl⟩
        · cases hc
      · split at hc
        · split at hc
          · split at hc <;> cases hc
            exact ⟨rfl, rfl⟩
          · cases hc
        · split at hc
          · split at hc
            · split at hc <;> cases hc
              exact ⟨rfl, rfl⟩
            · cases hc
          · unfold nj_inv at hc
            split at hc
            · split at hc
              · split at hc <;> cases hc
                exact ⟨rfl, rfl⟩
              · cases hc
            · cases hc
theorem v_step {M : Nat → Option nM} {X : nX} {L : Nat} {xs : Nat → Int32} {run : Nat → nM → nLv → List nC → Nat → Option nRes} {d : Nat} {mt : nM} {i : Instr} {a b : Nat} {v : Int} {pc : Nat} {lv : nLv} {st : List Value} {h : List nC} {g : Nat} {pc1 : Nat} {lv1 : nLv} {st1 : List Value} {h1 : List nC} {g1 mc1 ms1 : Nat} {l : List Int} (hs : nj_step M X L xs run d mt i a b v pc lv st h g = some (pc1, lv1, st1, h1, g1, mc1, ms1)) (hl : vS i pc = some l) : (pc1 : Int) ∈ l ∧ lv1 = lv := by
  unfold nj_step at hs
  split at hs
  · next pc2 lv2 st2 hp =>
    cases hs
    exact v_pure hp hl
  · split at hs
    · next pc2 st2 h2 hm =>
      cases hs
      exact ⟨v_mem hm hl, rfl⟩
    · split at hs
      · next hn =>
        rw [v_new hl] at hn
        cases hn
      · have hc := v_calls hs
        simp only at hc
        obtain ⟨e1, e2⟩ := hc
        refine ⟨?_, e2⟩
        unfold vS at hl
        split at hl
        · exact absurd hs (by unfold nj_calls; exact fun z => nomatch z)
        · exact absurd hs (by unfold nj_calls; exact fun z => nomatch z)
        · exact absurd hs (by unfold nj_calls; exact fun z => nomatch z)
        · exact absurd hs (by unfold nj_calls; exact fun z => nomatch z)
        · exact absurd hs (by unfold nj_calls; exact fun z => nomatch z)
        · exact absurd hs (by unfold nj_calls; exact fun z => nomatch z)
        · exact absurd hs (by unfold nj_calls; exact fun z => nomatch z)
        · exact absurd hs (by unfold nj_calls; exact fun z => nomatch z)
        · cases hl
          rw [e1]
          exact List.mem_singleton.mpr (by omega)
        · exact absurd hs (by unfold nj_calls; exact fun z => nomatch z)
        · exact absurd hs (by unfold nj_calls; exact fun z => nomatch z)
        · cases hl
def vE (r : Nat) : Nat := if r = 0 then 1395 else if r = 1 then 344 else if r = 2 then 719 else if r = 3 then 1232 else if r = 4 then 293 else if r = 5 then 220 else if r = 6 then 318 else if r = 7 then 1320 else if r = 8 then 1345 else 1047
theorem v_find {pc : Nat} (h : vK pc = true) : nm_v.2.2.2.2.2.find? (fun q => q.1 == pc) = nm_265.2.2.2.2.2.find? (fun q => q.1 == pc) := by
  show (vO ++ nm_265.2.2.2.2.2.filter (fun q => vK q.1)).find? (fun q => q.1 == pc) = _
  rw [List.find?_append]
  have h0 : vO.find? (fun q => q.1 == pc) = none := by
    rw [List.find?_eq_none]
    intro q hq hqp
    have e : q.1 = pc := by simpa using hqp
    have : ∀ q ∈ vO, vK q.1 = false := by decide
    have := this q hq
    rw [e, h] at this
    cases this
  rw [h0, Option.none_or, List.find?_filter]
  congr 1
  funext q
  by_cases e : q.1 = pc
  · rw [e, h]; simp
  · simp [e]
/-- what the round's run says of the law's -/
theorem v_law {X : nX} {L : Nat} {xs : Nat → Int32} : ∀ (n d pc : Nat) (lv : nLv) (st : List Value) (h : List nC) (g : Nat) (rv : Option Value) (h1 : List nC) (g1 mc ms : Nat), vX (pc : Int) = true → nj_run nj_M X L xs n d nm_v pc lv st h g = some (rv, h1, g1, mc, ms) → ∃ r : Nat, r < 10 ∧ rv = some (.int (Int32.ofInt (r : Int))) ∧ ∀ (n2 : Nat) (rv2 : Option Value) (h2 : List nC) (g2 mc2 ms2 : Nat), nj_run nj_M X L xs n2 d nm_265 (vE r) lv [] h1 g1 = some (rv2, h2, g2, mc2, ms2) → ∃ n3, nj_run nj_M X L xs n3 d nm_265 pc lv st h g = some (rv2, h2, g2, mc + mc2, ms + ms2) := by
  intro n
  induction n with
  | zero => intro d pc lv st h g rv h1 g1 mc ms _ hr; cases hr
  | succ n ih =>
    intro d pc lv st h g rv h1 g1 mc ms hv hr
    have exit : ∀ (r : Nat), r < 10 → pc = vE r → nm_v.2.2.2.2.2.find? (fun q => q.1 == vE r) = some (vE r, .iconst (r : Int), 0, 0, 0, 0) → nm_v.2.2.2.2.2.find? (fun q => q.1 == vE r + 1) = some (vE r + 1, .ireturn, 0, 0, 0, 0) → ∃ r : Nat, r < 10 ∧ rv = some (.int (Int32.ofInt (r : Int))) ∧ ∀ (n2 : Nat) (rv2 : Option Value) (h2 : List nC) (g2 mc2 ms2 : Nat), nj_run nj_M X L xs n2 d nm_265 (vE r) lv [] h1 g1 = some (rv2, h2, g2, mc2, ms2) → ∃ n3, nj_run nj_M X L xs n3 d nm_265 pc lv st h g = some (rv2, h2, g2, mc + mc2, ms + ms2) := by
      intro r hr4 hpc f1 f2
      subst hpc
      unfold nj_run at hr
      simp only [f1] at hr
      have s1 : nj_ret nm_v.2.2.2.1 (.iconst (r : Int)) st = none := rfl
      have s2 : nj_step nj_M X L xs (fun d1 mz lv0 h0 g0 => nj_run nj_M X L xs n d1 mz 0 lv0 [] h0 g0) d nm_v (.iconst (r : Int)) 0 0 0 (vE r) lv st h g = some (vE r + 1, lv, .int (Int32.ofInt (r : Int)) :: st, h, g, 0, 0) := rfl
      simp only [s1, s2] at hr
      cases n with
      | zero => cases hr
      | succ n =>
        unfold nj_run at hr
        simp only [f2] at hr
        cases hret : nj_ret nm_v.2.2.2.1 .ireturn (.int (Int32.ofInt (r : Int)) :: st) with
        | none =>
          rw [hret] at hr
          simp only at hr
          have s3 : nj_step nj_M X L xs (fun d1 mz lv0 h0 g0 => nj_run nj_M X L xs n d1 mz 0 lv0 [] h0 g0) d nm_v .ireturn 0 0 0 (vE r + 1) lv (.int (Int32.ofInt (r : Int)) :: st) h g = none := rfl
          simp only [s3] at hr
          cases hr
        | some rv0 =>
          rw [hret] at hr
          simp only at hr
          cases hr
          have hst : st = [] := by
            cases st with
            | nil => rfl
            | cons x y => exact nomatch (show (none : Option (Option Value)) = some rv from hret)
          subst hst
          have hrv : some (some (Value.int (Int32.ofInt (r : Int)))) = some rv := (show nj_ret nm_v.2.2.2.1 .ireturn [.int (Int32.ofInt (r : Int))] = some (some (.int (Int32.ofInt (r : Int)))) from if_pos rfl).symm.trans hret
          cases hrv
          exact ⟨r, hr4, rfl, fun n2 rv2 h2 g2 mc2 ms2 hr2 => ⟨n2, by rw [Nat.zero_add, Nat.zero_add]; exact hr2⟩⟩
    simp only [vX, Bool.and_eq_true, Bool.or_eq_true, decide_eq_true_eq, beq_iff_eq, Int.toNat_natCast] at hv
    obtain ⟨-, hv⟩ := hv
    rcases hv with hk | hk | hk | hk | hk | hk | hk | hk | hk | hk | hk
    · unfold nj_run at hr
      rw [v_find hk] at hr
      cases hf : nm_265.2.2.2.2.2.find? (fun q => q.1 == pc) with
      | none => rw [hf] at hr; cases hr
      | some e =>
        obtain ⟨q, i, a, b, v, pos⟩ := e
        rw [hf] at hr
        simp only at hr
        have hq : q = pc := by simpa using List.find?_some hf
        subst hq
        have hmem : (q, i, a, b, v, pos) ∈ nm_265.2.2.2.2.2.filter (fun q => vK q.1) := List.mem_filter.mpr ⟨List.mem_of_find?_eq_some hf, hk⟩
        have hall := List.all_eq_true.mp vS_all _ hmem
        simp only at hall
        cases hl : vS i q with
        | none => rw [hl] at hall; cases hall
        | some l =>
          rw [hl] at hall
          simp only [Bool.and_eq_true] at hall
          have hret : ∀ ty, nj_ret ty i st = none := by
            intro ty
            unfold vS at hl
            split at hl <;> first | rfl | cases hl
          rw [hret] at hr
          simp only at hr
          have estep : nj_step nj_M X L xs (fun d1 mz lv0 h0 g0 => nj_run nj_M X L xs n d1 mz 0 lv0 [] h0 g0) d nm_v i a b v q lv st h g = nj_step nj_M X L xs (fun d1 mz lv0 h0 g0 => nj_run nj_M X L xs n d1 mz 0 lv0 [] h0 g0) d nm_265 i a b v q lv st h g := rfl
          rw [estep] at hr
          cases hs : nj_step nj_M X L xs (fun d1 mz lv0 h0 g0 => nj_run nj_M X L xs n d1 mz 0 lv0 [] h0 g0) d nm_265 i a b v q lv st h g with
          | none => rw [hs] at hr; cases hr
          | some res =>
            obtain ⟨pc1, lv1, st1, h3, g3, mc1, ms1⟩ := res
            rw [hs] at hr
            simp only at hr
            obtain ⟨m1, m2⟩ := v_step hs hl
            subst m2
            cases hr2 : nj_run nj_M X L xs n d nm_v pc1 lv1 st1 h3 g3 with
            | none => rw [hr2] at hr; cases hr
            | some res2 =>
              obtain ⟨rv4, h4, g4, mc4, ms4⟩ := res2
              rw [hr2] at hr
              simp only at hr
              cases hr
              obtain ⟨r, k1, k2, k3⟩ := ih d pc1 lv1 st1 h3 g3 rv h1 g1 mc4 ms4 (List.all_eq_true.mp hall.1 _ m1) hr2
              refine ⟨r, k1, k2, fun n2 rv2 h2 g2 mc2 ms2 hrun => ?_⟩
              obtain ⟨n3, hn3⟩ := k3 n2 rv2 h2 g2 mc2 ms2 hrun
              refine ⟨max n n3 + 1, ?_⟩
              unfold nj_run
              have hs' := nj_step_mono (run2 := fun d1 mz lv0 h0 g0 => nj_run nj_M X L xs (max n n3) d1 mz 0 lv0 [] h0 g0) (fun d1 mz lv0 h0 g0 r hr => nj_run_mono (Nat.le_max_left n n3) hr) hs
              simp only [hf, hret, hs', nj_run_mono (Nat.le_max_right n n3) hn3, Nat.add_assoc]
    · exact exit 0 (by decide) (show pc = 1395 by omega) (by decide +kernel) (by decide +kernel)
    · exact exit 1 (by decide) (show pc = 344 by omega) (by decide +kernel) (by decide +kernel)
    · exact exit 2 (by decide) (show pc = 719 by omega) (by decide +kernel) (by decide +kernel)
    · exact exit 3 (by decide) (show pc = 1232 by omega) (by decide +kernel) (by decide +kernel)
    · exact exit 4 (by decide) (show pc = 293 by omega) (by decide +kernel) (by decide +kernel)
    · exact exit 5 (by decide) (show pc = 220 by omega) (by decide +kernel) (by decide +kernel)
    · exact exit 6 (by decide) (show pc = 318 by omega) (by decide +kernel) (by decide +kernel)
    · exact exit 7 (by decide) (show pc = 1320 by omega) (by decide +kernel) (by decide +kernel)
    · exact exit 8 (by decide) (show pc = 1345 by omega) (by decide +kernel) (by decide +kernel)
    · exact exit 9 (by decide) (show pc = 1047 by omega) (by decide +kernel) (by decide +kernel)
