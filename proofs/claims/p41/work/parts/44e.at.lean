/-! a run up to a place, with its locals: the method with a 'return' laid there, of no value -/
def nvr (mt : nM) (pT : Nat) (P : Nat → Bool) : nM := (mt.1, mt.2.1, mt.2.2.1, none, mt.2.2.2.2.1, (pT, .return_, 0, 0, 0, 0) :: mt.2.2.2.2.2.filter (fun q => P q.1))
def isVo (i : Instr) : Bool := match i with
  | .return_ => true
  | _ => false
def nj_at (L : Nat) (xs : Nat → Int32) (pT : Nat) (P : Nat → Bool) : Nat → Nat → nM → Nat → nLv → List Value → List nC → nLv → List nC → Prop
  | 0, _, _, _, _, _, _, _, _ => False
  | n + 1, d, mt, pc, lv, st, h, lv1, h1 => (pc = pT ∧ st = [] ∧ lv = lv1 ∧ h = h1) ∨ ∃ (q : Nat) (i : Instr) (a b : Nat) (v : Int) (pos pc1 : Nat) (lv2 : nLv) (st2 : List Value) (h2 : List nC), mt.2.2.2.2.2.find? (fun q => q.1 == pc) = some (q, i, a, b, v, pos) ∧ P pc = true ∧ nj_ret mt.2.2.2.1 i st = none ∧ nj_step nj_M nX0 L xs (fun d1 mz lv0 h0 g0 => nj_run nj_M nX0 L xs n d1 mz 0 lv0 [] h0 g0) d mt i a b v pc lv st h 0 = some (pc1, lv2, st2, h2, 0, 0, 0) ∧ nj_at L xs pT P n d mt pc1 lv2 st2 h2 lv1 h1
theorem ret_none {i : Instr} {st : List Value} {rv : Option Value} (h : nj_ret none i st = some rv) : isVo i = true ∧ st = [] := by
  cases i with
  | ireturn =>
    simp only [nj_ret] at h
    cases h
  | lreturn =>
    simp only [nj_ret] at h
    split at h
    · split at h
      · next c => cases c
      · cases h
    · cases h
  | return_ =>
    simp only [nj_ret] at h
    split at h
    · exact ⟨rfl, rfl⟩
    · cases h
  | _ => exact nomatch (show (none : Option (Option Value)) = some rv from h)
theorem ret_some {ty : Option FieldType} {i : Instr} {st : List Value} {L : Nat} {xs : Nat → Int32} {run : Nat → nM → nLv → List nC → Nat → Option nRes} {d : Nat} {mt : nM} {a b : Nat} {v : Int} {pc : Nat} {lv : nLv} {h : List nC} {r : nS1} (hv : isVo i = false) (hs : nj_step nj_M nX0 L xs run d mt i a b v pc lv st h 0 = some r) : nj_ret ty i st = none := by
  cases i with
  | ireturn => exact nomatch (show (none : Option nS1) = some r from hs)
  | lreturn => exact nomatch (show (none : Option nS1) = some r from hs)
  | return_ => cases hv
  | _ => rfl
theorem nvr_find {mt : nM} {pT pc : Nat} {P : Nat → Bool} (hne : ¬ pc = pT) : (nvr mt pT P).2.2.2.2.2.find? (fun q => q.1 == pc) = if P pc = true then mt.2.2.2.2.2.find? (fun q => q.1 == pc) else none := by
  have e1 : (pT == pc) = false := by simpa using fun e => hne e.symm
  show ((pT, Instr.return_, 0, 0, (0 : Int), 0) :: mt.2.2.2.2.2.filter (fun q => P q.1)).find? (fun q => q.1 == pc) = _
  rw [List.find?_cons, e1, List.find?_filter]
  by_cases hp : P pc = true
  · rw [if_pos hp]
    show List.find? (fun a => decide (P a.1 = true ∧ (a.1 == pc) = true)) mt.2.2.2.2.2 = List.find? (fun q => q.1 == pc) mt.2.2.2.2.2
    congr 1
    funext q
    by_cases e : q.1 = pc
    · rw [e, hp]; simp
    · simp [e]
  · rw [if_neg hp, List.find?_eq_none]
    intro q _ hq
    have hq2 := of_decide_eq_true (show decide (P q.1 = true ∧ (q.1 == pc) = true) = true from hq)
    have e : q.1 = pc := by simpa using hq2.2
    exact hp (e ▸ hq2.1)
theorem nvr_at {L : Nat} {xs : Nat → Int32} {mt : nM} {pT : Nat} {P : Nat → Bool} (hno : mt.2.2.2.2.2.all (fun q => !isVo q.2.1) = true) : ∀ (n d pc : Nat) (lv : nLv) (st : List Value) (h : List nC) (rv : Option Value) (h1 : List nC) (g1 : Nat), nj_run nj_M nX0 L xs n d (nvr mt pT P) pc lv st h 0 = some (rv, h1, g1, 0, 0) → ∃ lv1, nj_at L xs pT P n d mt pc lv st h lv1 h1 := by
  intro n
  induction n with
  | zero => intro d pc lv st h rv h1 g1 hr; cases hr
  | succ n ih =>
    intro d pc lv st h rv h1 g1 hr
    unfold nj_run at hr
    by_cases hp : pc = pT
    · subst hp
      have f1 : (nvr mt pc P).2.2.2.2.2.find? (fun q => q.1 == pc) = some (pc, .return_, 0, 0, 0, 0) := by simp [nvr]
      simp only [f1] at hr
      cases hret : nj_ret (nvr mt pc P).2.2.2.1 .return_ st with
      | none =>
        rw [hret] at hr
        simp only at hr
        have s3 : nj_step nj_M nX0 L xs (fun d1 mz lv0 h0 g0 => nj_run nj_M nX0 L xs n d1 mz 0 lv0 [] h0 g0) d (nvr mt pc P) .return_ 0 0 0 pc lv st h 0 = none := rfl
        simp only [s3] at hr
        cases hr
      | some rv0 =>
        rw [hret] at hr
        simp only [Option.some.injEq, Prod.mk.injEq] at hr
        exact ⟨lv, Or.inl ⟨rfl, (ret_none hret).2, rfl, hr.2.1⟩⟩
    · rw [nvr_find hp] at hr
      by_cases hP : P pc = true
      · rw [if_pos hP] at hr
        cases hf : mt.2.2.2.2.2.find? (fun q => q.1 == pc) with
        | none => rw [hf] at hr; cases hr
        | some e =>
          obtain ⟨q, i, a, b, v, pos⟩ := e
          rw [hf] at hr
          simp only at hr
          have hvo : isVo i = false := by
            have := List.all_eq_true.mp hno _ (List.mem_of_find?_eq_some hf)
            simpa using this
          cases hre : nj_ret (nvr mt pT P).2.2.2.1 i st with
          | some rv0 =>
            have k := (ret_none (show nj_ret none i st = some rv0 from hre)).1
            rw [hvo] at k
            cases k
          | none =>
            rw [hre] at hr
            simp only at hr
            have estep : nj_step nj_M nX0 L xs (fun d1 mz lv0 h0 g0 => nj_run nj_M nX0 L xs n d1 mz 0 lv0 [] h0 g0) d (nvr mt pT P) i a b v pc lv st h 0 = nj_step nj_M nX0 L xs (fun d1 mz lv0 h0 g0 => nj_run nj_M nX0 L xs n d1 mz 0 lv0 [] h0 g0) d mt i a b v pc lv st h 0 := rfl
            rw [estep] at hr
            cases hs : nj_step nj_M nX0 L xs (fun d1 mz lv0 h0 g0 => nj_run nj_M nX0 L xs n d1 mz 0 lv0 [] h0 g0) d mt i a b v pc lv st h 0 with
            | none => rw [hs] at hr; cases hr
            | some res =>
              obtain ⟨pc1, lv1, st1, h3, g3, mc1, ms1⟩ := res
              rw [hs] at hr
              simp only at hr
              cases hr2 : nj_run nj_M nX0 L xs n d (nvr mt pT P) pc1 lv1 st1 h3 g3 with
              | none => rw [hr2] at hr; cases hr
              | some r2 =>
                obtain ⟨rv3, h4, g4, mc2, ms2⟩ := r2
                rw [hr2] at hr
                simp only [Option.some.injEq, Prod.mk.injEq] at hr
                obtain ⟨e1, e2, e3, e4, e5⟩ := hr
                have z1 : mc1 = 0 := by omega
                have z2 : mc2 = 0 := by omega
                have z3 : ms1 = 0 := by omega
                have z4 : ms2 = 0 := by omega
                subst z1; subst z2; subst z3; subst z4; subst e1; subst e2; subst e3
                have g30 := (nj_step_g (g := 0) (fun d1 mz lv0 h0 rv h1 g1 ms hq => ⟨(nj_run_g _ _ _ _ _ _ _ _ _ _ _ hq).1, (nj_run_g _ _ _ _ _ _ _ _ _ _ _ hq).2 0⟩) hs).1
                subst g30
                obtain ⟨lv9, k⟩ := ih d pc1 lv1 st1 h3 rv3 h4 g4 hr2
                exact ⟨lv9, Or.inr ⟨q, i, a, b, v, pos, pc1, lv1, st1, h3, hf, hP, ret_some hvo hs, hs, k⟩⟩
      · rw [if_neg hP] at hr
        cases hr
/-- .. and on from there -/
theorem at_run {L : Nat} {xs : Nat → Int32} {mt : nM} {pT : Nat} {P : Nat → Bool} {n2 : Nat} {rv : Option Value} {h2 h1 : List nC} {lv1 : nLv} {d : Nat} (e2 : nj_run nj_M nX0 L xs n2 d mt pT lv1 [] h1 0 = some (rv, h2, 0, 0, 0)) : ∀ (n pc : Nat) (lv : nLv) (st : List Value) (h : List nC), nj_at L xs pT P n d mt pc lv st h lv1 h1 → ∃ n3, nj_run nj_M nX0 L xs n3 d mt pc lv st h 0 = some (rv, h2, 0, 0, 0) := by
  intro n
  induction n with
  | zero => intro pc lv st h k; exact k.elim
  | succ n ih =>
    intro pc lv st h k
    rcases k with ⟨rfl, rfl, rfl, rfl⟩ | ⟨q, i, a, b, v, pos, pc1, lv2, st2, h3, k1, k2, k3, k4, k5⟩
    · exact ⟨n2, e2⟩
    · obtain ⟨n3, e3⟩ := ih pc1 lv2 st2 h3 k5
      refine ⟨max n n3 + 1, ?_⟩
      unfold nj_run
      have hs' := nj_step_mono (run2 := fun d1 mz lv0 h0 g0 => nj_run nj_M nX0 L xs (max n n3) d1 mz 0 lv0 [] h0 g0) (fun d1 mz lv0 h0 g0 r hr => nj_run_mono (Nat.le_max_left n n3) hr) k4
      simp only [k1, k3, hs', nj_run_mono (Nat.le_max_right n n3) e3]
def sto (i : Instr) : Option Nat := match i with
  | .istore_n k => some k
  | .istore k => some k
  | .astore_n k => some k
  | .astore k => some k
  | .iinc k _ => some k
  | _ => none
def sto2 (i : Instr) : Bool := match i with
  | .lstore_n _ => true
  | .lstore _ => true
  | _ => false
theorem pure_lv {lv lv1 : nLv} {mL pc pc1 : Nat} {st st1 : List Value} {i : Instr} (h : nj_pure lv mL pc st i = some (pc1, lv1, st1)) : lv1 = lv ∨ (∃ k v, lv1 = nj_put lv k v ∧ sto i = some k) ∨ sto2 i = true := by
  unfold nj_pure at h
  split at h
  all_goals (try simp only [nj_ldi, nj_ldl, nj_lda, nj_sti, nj_stl, nj_sta, nj_b2, nj_l2, nj_i1, nj_br, nj_go, nj_tab] at h)
  all_goals (repeat' (split at h))
  all_goals first | (cases h; done) | (cases h; exact Or.inl rfl) | (cases h; exact Or.inr (Or.inl ⟨_, _, rfl, rfl⟩)) | (cases h; exact Or.inr (Or.inr rfl))
def kOK (K : Nat) (i : Instr) : Bool := !sto2 i && match sto i with
  | some k => decide (K ≤ k)
  | none => true
theorem step_lv {L : Nat} {xs : Nat → Int32} {run : Nat → nM → nLv → List nC → Nat → Option nRes} {d : Nat} {mt : nM} {i : Instr} {a b : Nat} {v : Int} {pc : Nat} {lv : nLv} {st : List Value} {h : List nC} {g : Nat} {pc1 : Nat} {lv1 : nLv} {st1 : List Value} {h1 : List nC} {g1 mc ms K : Nat} (hs : nj_step nj_M nX0 L xs run d mt i a b v pc lv st h g = some (pc1, lv1, st1, h1, g1, mc, ms)) (hk : kOK K i = true) : ∀ k, k < K → ∀ w, nj_get lv k = some w → w.category = 1 → nj_get lv1 k = some w := by
  intro k hkK w hw hc
  unfold nj_step at hs
  split at hs
  · next pc2 lv2 st2 hp =>
    cases hs
    unfold kOK at hk
    rw [Bool.and_eq_true] at hk
    rcases pure_lv hp with e | ⟨k2, v2, e, e2⟩ | e
    · rw [e]; exact hw
    · rw [e2] at hk
      have hk2 := of_decide_eq_true hk.2
      rw [e, nj_get_put_ne (by omega) (fun w2 h2 => by rw [hw] at h2; cases h2; omega)]
      exact hw
    · rw [e] at hk
      exact absurd hk.1 (by decide)
  · split at hs
    · cases hs; exact hw
    · split at hs
      · split at hs
        · cases hs; exact hw
        · cases hs
      · have := (v_calls hs).2
        simp only at this
        rw [this]
        exact hw
theorem at_keep {L : Nat} {xs : Nat → Int32} {mt : nM} {pT K : Nat} {P : Nat → Bool} {lv1 : nLv} {h1 : List nC} {d : Nat} (hall : mt.2.2.2.2.2.all (fun q => !P q.1 || kOK K q.2.1) = true) : ∀ (n pc : Nat) (lv : nLv) (st : List Value) (h : List nC), nj_at L xs pT P n d mt pc lv st h lv1 h1 → ∀ k, k < K → ∀ w, nj_get lv k = some w → w.category = 1 → nj_get lv1 k = some w := by
  intro n
  induction n with
  | zero => intro pc lv st h k; exact k.elim
  | succ n ih =>
    intro pc lv st h k j hj w hw hc
    rcases k with ⟨rfl, rfl, rfl, rfl⟩ | ⟨q, i, a, b, v, pos, pc1, lv2, st2, h3, k1, k2, k3, k4, k5⟩
    · exact hw
    · have hm := List.all_eq_true.mp hall _ (List.mem_of_find?_eq_some k1)
      have hq : q = pc := by simpa using List.find?_some k1
      subst hq
      simp only [k2, Bool.not_true, Bool.false_or] at hm
      exact ih pc1 lv2 st2 h3 k5 j hj w (step_lv k4 hm j hj w hw hc) hc
/-! the walk from any place of a method, with its cuts -/
section CAT
variable {M : Nat → Option nM} {X : nX} {L : Nat} {xs : Nat → Int32} {g : Nat} {FT : Nat → Nat → Option fTy} {AT : Nat → Option aTy} {S : List Nat} {J : List nC → Prop} {ctx : List nK} {W : nWk} {ls : Option Nat} {cuts : List aCt}
theorem aAt_ok (hJ : nJ FT AT S J) (hW : nWv FT AT S J W) (hctx : ∀ c ∈ ctx, nV M X L xs g FT AT S J c) {fuel : Nat} {c : nK} {pc0 : Nat} {al0 : List (Nat × aV)} {lv0 : nLv} {d : Nat} (hd : c.2.1 ≤ d) {mt : nM} (hM : M c.1 = some mt) {h : List nC} {nu : List Int} {mu : List Nat} (hJh : J h) (hT : tOk FT AT S h) (hpre : aOk S h nu mu c.2.2.1) (hl0 : aLv nu mu al0 lv0) (hls0 : ∀ y, ls = some y → nu[y]? = some (L : Int))
    (hcuts : cuts.all (aFrom M FT AT ctx W ls c.2.2.2.2.1 c.2.2.2.2.2.1 c.2.2.2.2.2.2 c.2.2.1.1.length c.2.2.1.2.1.length c.2.1 c.1 cuts fuel) = true) (hent : aExec M FT AT ctx W ls c.2.2.2.2.1 c.2.2.2.2.2.1 c.2.2.2.2.2.2 c.2.2.1.1.length c.2.2.1.2.1.length c.2.1 c.1 cuts none fuel c.2.2.1 [(c.1, pc0, al0, [])] = true) : nT M X L xs g d mt (aQ FT AT S J c.2.2.2.2.1 c.2.2.2.2.2.1 c.2.2.2.2.2.2 nu mu h) pc0 lv0 [] h := by
  have e1 : c.2.2.1.1.length = nu.length := hpre.1.1
  have e2 : c.2.2.1.2.1.length = mu.length := hpre.2.1.1
  rw [e1, e2] at hcuts hent
  have heads : ∀ (R : Nat), aHd M X L xs g FT AT S J c.2.2.2.2.1 c.2.2.2.2.2.1 c.2.2.2.2.2.2 nu mu h cuts d mt (fun z => z.toNat < R) := by
    intro R
    induction R with
    | zero => intro c2 _ h2 nu2 mu2 lv2 _ _ _ _ _ _ hz; exact absurd hz (Nat.not_lt_zero _)
    | succ R ih =>
      intro c2 hc2 h2 nu2 mu2 lv2 X2 k2 l2 j2 t2 f2 hz
      have hfrom := List.all_eq_true.mp hcuts c2 hc2
      unfold aFrom at hfrom
      simp only [Bool.and_eq_true] at hfrom
      obtain ⟨⟨hin, -⟩, hst2⟩ := hfrom
      split at hst2
      · cases hst2
      · next l hl =>
        have hlen2 : c2.2.1.1.length = nu2.length := k2.1.1
        have hR : aRel M FT AT S J c.2.2.2.2.1 c.2.2.2.2.2.1 nu2 mu2 h c2.2.1 [(c.1, c2.1, c2.2.2.1, [])] h2 [(mt, c2.1, lv2, [])] := ⟨nu2, mu2, aX.rf, k2, ⟨⟨hM, rfl, l2, trivial⟩, trivial⟩, j2, t2, f2⟩
        have hrk : ∀ r0, some c2.2.2.2 = some r0 → ∀ t ∈ r0.1, t.2 < nu2.length := by
          intro r0 hr0 t ht
          cases hr0
          have := List.all_eq_true.mp hin t ht
          rw [← hlen2]
          simpa using this
        have hH : aHd M X L xs g FT AT S J c.2.2.2.2.1 c.2.2.2.2.2.1 c.2.2.2.2.2.2 nu mu h cuts d mt (aLim nu2 (some c2.2.2.2)) := by
          intro c3 hc3 h3 nu3 mu3 lv3 X3 k3 l3 j3 t3 f3 hz3
          refine ih c3 hc3 h3 nu3 mu3 lv3 X3 k3 l3 j3 t3 f3 ?_
          have hz3' : 0 ≤ lS nu3 c3.2.2.2.1 + c3.2.2.2.2 ∧ lS nu3 c3.2.2.2.1 + c3.2.2.2.2 < lS nu2 c2.2.2.2.1 + c2.2.2.2.2 := hz3
          have hz' : (lS nu2 c2.2.2.2.1 + c2.2.2.2.2).toNat < R + 1 := hz
          show (lS nu3 c3.2.2.2.1 + c3.2.2.2.2).toNat < R
          omega
        exact aStep2_ok X2 hJ hW hctx hls0 hR (by simp) hd hl (fun y hy h' cfs' d' hR' hd' => aExec_ok hJ hW hctx hls0 X2 hd hM hrk hH fuel y.1 y.2 h' cfs' d' hR' hd' (List.all_eq_true.mp hst2 y hy))
  have hHall : aHd M X L xs g FT AT S J c.2.2.2.2.1 c.2.2.2.2.2.1 c.2.2.2.2.2.2 nu mu h cuts d mt (aLim nu none) := fun c3 hc3 h3 nu3 mu3 lv3 X3 k3 l3 j3 t3 f3 _ => heads ((lS nu3 c3.2.2.2.1 + c3.2.2.2.2).toNat + 1) c3 hc3 h3 nu3 mu3 lv3 X3 k3 l3 j3 t3 f3 (Nat.lt_succ_self _)
  exact aExec_ok (rk := none) hJ hW hctx hls0 aX.rf hd hM (fun r0 hr0 => by cases hr0) hHall fuel c.2.2.1 [(c.1, pc0, al0, [])] h [(mt, pc0, lv0, [])] d ⟨nu, mu, aX.rf, hpre, ⟨⟨hM, rfl, hl0, trivial⟩, trivial⟩, hJh, hT, nFr.rf⟩ (by simp) hent
end CAT
