section AVA
variable {M : Nat → Option nM} {X : nX} {L : Nat} {xs : Nat → Int32} {g : Nat} {FT : Nat → Nat → Option fTy} {AT : Nat → Option aTy} {S : List Nat} {J : List nC → Prop} {ctx : List nK} {W : nWk} {ls : Option Nat} {mf : List (Nat × Nat)} {ma : List Nat} {posts : List (aS × Option aV)} {D0 : Nat} {nu0 nuB nu : List Int} {mu0 muB mu : List Nat} {h0 h : List nC} {s : aS}
theorem aCan_ok (hE : aE s.1 nu) {a : aV} {v : Value} (ha : aR nu mu a v) : aR nu mu (aCan s a) v := by
  unfold aCan
  split
  · next i c =>
    split
    · next r hr =>
      split
      · next e =>
        obtain ⟨z, hz, ez⟩ := ha
        have := hE.2 i z r hz hr
        have hzr : z = r.1 := by omega
        rw [hzr] at ez
        exact ez
      · exact ha
    · exact ha
  · exact ha
theorem aCan_st (hE : aE s.1 nu) : ∀ {as : List aV} {vs : List Value}, aSt nu mu as vs → aSt nu mu (as.map (aCan s)) vs := by
  intro as
  induction as with
  | nil => intro vs h; exact h
  | cons a as ih =>
    intro vs h
    obtain ⟨v, r, rfl, ha, hr⟩ := h.cons
    exact ⟨aCan_ok hE ha, ih hr⟩
theorem aCanP_st (hE : aE s.1 nu) : ∀ {ps as : List aV} {vs : List Value}, aSt nu mu as vs → aSt nu mu (aCanP s ps as) vs := by
  intro ps
  induction ps with
  | nil => intro as vs h; cases as <;> exact h
  | cons p ps ih =>
    intro as vs h
    cases as with
    | nil => cases p <;> exact h
    | cons a as =>
      obtain ⟨v, r, rfl, ha, hr⟩ := h.cons
      cases p with
      | inl c => exact ⟨aCan_ok hE ha, ih hr⟩
      | inr q => exact ⟨ha, ih hr⟩
theorem aFitX_ev (k : aOk S h nu mu s) {x : aV} {v : Int32} (hx : aR nu mu x (.int v)) (hf : aFitX s x = true) : v.toInt = aEv nu x := by
  unfold aFitX at hf
  split at hf
  · next c =>
    cases hx
    simp only [aFit, Bool.and_eq_true, decide_eq_true_eq] at hf
    rw [a32 (by omega) (by omega)]
    rfl
  · next i c =>
    obtain ⟨z, hz, ez⟩ := hx
    split at hf
    · next r hr =>
      have b := k.1.2 i z r hz hr
      simp only [aFit, Bool.and_eq_true, decide_eq_true_eq] at hf
      have : v = Int32.ofInt (z + c) := by cases ez; rfl
      rw [this, a32 (by omega) (by omega)]
      simp only [aEv, List.getD_eq_getElem?_getD, hz, Option.getD_some]
    · cases hf
  · cases hf
theorem aRfn_ok : ∀ {xs : List aV} {rs : aRho} {s : aS} {s1 : aS}, aOk S h nu mu s → (∀ x ∈ xs, ∃ v : Int32, aR nu mu x (.int v)) → (∀ (i : Nat) (x : aV) (r : Int × Int), xs[i]? = some x → rs[i]? = some r → r.1 ≤ aEv nu x ∧ aEv nu x ≤ r.2) → ∃ s1, aRfn xs rs s = some s1 ∧ aOk S h nu mu s1 := by
  intro xs
  induction xs with
  | nil => intro rs s s1 k _ _; cases rs <;> exact ⟨s, rfl, k⟩
  | cons x xs ih =>
    intro rs s s1 k hg hr
    cases rs with
    | nil => exact ⟨s, rfl, k⟩
    | cons r rs =>
      have hg2 : ∀ y ∈ xs, ∃ v : Int32, aR nu mu y (.int v) := fun y hy => hg y (List.mem_cons_of_mem _ hy)
      have hr2 : ∀ (i : Nat) (y : aV) (r2 : Int × Int), xs[i]? = some y → rs[i]? = some r2 → r2.1 ≤ aEv nu y ∧ aEv nu y ≤ r2.2 := fun i y r2 h1 h2 => hr (i + 1) y r2 (by simpa using h1) (by simpa using h2)
      simp only [aRfn]
      split
      · next hf =>
        obtain ⟨v, hv⟩ := hg x List.mem_cons_self
        have hb := hr 0 x r rfl rfl
        rw [← aFitX_ev k hv hf] at hb
        obtain ⟨rho1, e1, k1⟩ := aLe_ok k.1 hv hb.2
        obtain ⟨rho2, e2, k2⟩ := aGe_ok k1 hv hb.1
        rw [e1]
        simp only [e2]
        exact ih (s := (rho2, s.2)) (s1 := s1) ⟨k2, k.2.1, k.2.2.1, k.2.2.2.1, k.2.2.2.2⟩ hg2 hr2
      · exact ih (s1 := s1) k hg2 hr2
def nGv (FT : Nat → Nat → Option fTy) (AT : Nat → Option aTy) (S : List Nat) (J : List nC → Prop) (c : nGt) : Prop := ∀ (h : List nC) (nu : List Int) (mu : List Nat) (vs : List Value), J h → tOk FT AT S h → aOk S h nu mu c.2.2.2.1 → aSt nu mu c.2.2.2.2.1 vs → ∃ po ∈ c.2.2.2.2.2, ∃ nu1 mu1, aX nu mu nu1 mu1 ∧ aOk S h nu1 mu1 po
def nSv (FT : Nat → Nat → Option fTy) (AT : Nat → Option aTy) (S : List Nat) (J : List nC → Prop) (c : nSt) : Prop := ∀ (h : List nC) (nu : List Int) (mu : List Nat) (ws vs rst : List Value) (pc : Nat) (ini : Bool), J h → tOk FT AT S h → aOk S h nu mu c.2.1 → aSt nu mu c.1.2.2.2 ws → aSt nu mu c.2.2.1 vs → ∃ h1 : List nC, (c.1.1 = 0 → nj_iast pc (vs ++ rst) h = some (pc + 1, rst, h1)) ∧ (c.1.1 = 1 → nj_putf ini pc c.1.2.1.1 c.1.2.1.2 0 (vs ++ rst) h = some (pc + 3, rst, h1)) ∧ J h1 ∧ tOk FT AT S h1 ∧ nFr c.2.2.2.1 c.2.2.2.2.1 S h h1 ∧ ∃ po ∈ c.2.2.2.2.2, ∃ nu1 mu1, aX nu mu nu1 mu1 ∧ aOk S h1 nu1 mu1 po
def nWv (FT : Nat → Nat → Option fTy) (AT : Nat → Option aTy) (S : List Nat) (J : List nC → Prop) (W : nWk) : Prop := (∀ c ∈ W.1, nGv FT AT S J c) ∧ ∀ c ∈ W.2, nSv FT AT S J c
theorem aSgP_rng {po : aS} {sg : aSg} {nu1 : List Int} {mu1 : List Nat} (hX : aX (aN nu sg) (aU mu sg) nu1 mu1) (kp : aOk S h nu1 mu1 po) : ∀ (i : Nat) (x : aV) (r : Int × Int), sg.1[i]? = some x → po.1[i]? = some r → r.1 ≤ aEv nu x ∧ aEv nu x ≤ r.2 := by
  intro i x r hx hr
  exact kp.1.2 i (aEv nu x) r (hX.nu (by simp [aN, List.getElem?_map, hx])) hr
theorem aGho_ok (hW : nWv FT AT S J W) (hJh : J h) (hT : tOk FT AT S h) (k : aOk S h nu mu s) {kf pc : Nat} {al : List (Nat × aV)} {lv : nLv} (hl : aLv nu mu al lv) : ∃ s1 ∈ aGho W.1 s kf pc al, ∃ nu1 mu1, aX nu mu nu1 mu1 ∧ aOk S h nu1 mu1 s1 := by
  unfold aGho
  split
  · exact ⟨s, List.mem_singleton.mpr rfl, nu, mu, aX.rf, k⟩
  · next c hc =>
    split
    · exact ⟨s, List.mem_singleton.mpr rfl, nu, mu, aX.rf, k⟩
    · next sg hsg0 =>
      unfold aGhoT at hsg0
      split at hsg0
      · cases hsg0
      · next xs0 hxs =>
        have hsg := hsg0
        obtain ⟨vs, v1, v2, v3⟩ := aGetLs_ok hl _ _ hxs
        obtain ⟨y1, y2, y3, y4⟩ := aInst_ok k ⟨fun x hx => (by cases hx), fun y hy => (by cases hy)⟩ (aCanP_st k.1 v1) hsg
        obtain ⟨po, hpo, nu1, mu1, w4, w5⟩ := hW.1 c (List.mem_of_find?_eq_some hc) h _ _ vs hJh hT y3 y4
        obtain ⟨nu2, mu2, q1, q2, -⟩ := aPost_ok (o := none) (rv := none) (mf := []) (ma := []) hT k y2 nFr.rf w4 w5 trivial
        have hg2 : ∀ x ∈ sg.1, ∃ v : Int32, aR nu2 mu2 x (.int v) := fun x hx => by
          obtain ⟨v, hv⟩ := y2.1 x hx
          exact ⟨v, hv.x q1⟩
        have hr2 : ∀ (i : Nat) (x : aV) (r : Int × Int), sg.1[i]? = some x → po.1[i]? = some r → r.1 ≤ aEv nu2 x ∧ aEv nu2 x ≤ r.2 := fun i x r hx hr => by
          obtain ⟨v, hv⟩ := y2.1 x (List.mem_of_getElem? hx)
          rw [aEv_x q1 hv]
          exact aSgP_rng w4 w5 i x r hx hr
        obtain ⟨s1, e1, e2⟩ := aRfn_ok (s1 := s) q2 hg2 hr2
        exact ⟨s1, List.mem_filterMap.mpr ⟨po, hpo, e1⟩, nu2, mu2, q1, e2⟩
theorem aSpec_ok (hW : ∀ c ∈ W.2, nSv FT AT S J c) (hJh : J h) (hT : tOk FT AT S h) (k : aOk S h nu mu s) {a b pc : Nat} {v : Int} {i : Instr} {ini : Bool} {ast : List aV} {st : List Value} {al : List (Nat × aV)} {lv : nLv} (hl : aLv nu mu al lv) (hs : aSt nu mu ast st) {l : List (aS × List aV)} : ∀ {cs : List nSt}, (∀ c ∈ cs, c ∈ W.2) → aSpec mf ma s a b v al ast i cs = some l → ∃ (st1 : List Value) (h1 : List nC) (nu1 : List Int) (mu1 : List Nat), ∃ y ∈ l, nj_mem L xs ini pc a b v st h i = some (pc + nj_len i b, st1, h1) ∧ J h1 ∧ tOk FT AT S h1 ∧ nFr mf ma S h h1 ∧ aX nu mu nu1 mu1 ∧ aOk S h1 nu1 mu1 y.1 ∧ aSt nu1 mu1 y.2 st1 := by
  intro cs
  induction cs with
  | nil => intro _ h; cases h
  | cons c cs ih =>
    intro hcs hr
    simp only [aSpec] at hr
    split at hr
    · next hc =>
      split at hr
      · next xs0 hxs =>
       split at hr
       · next sg hsg =>
        cases hr
        obtain ⟨ws, ws1, ws2, -⟩ := aGetLs_ok hl _ _ hxs
        obtain ⟨tk, dr⟩ := aSt_take c.2.2.1.length hs
        obtain ⟨y1, y2, y3, y4⟩ := aInst_ok k ⟨fun x hx => (by cases hx), fun y hy => (by cases hy)⟩ (aSt_app ws1 tk) hsg
        have hsp2 : ∃ a1 a2, ws ++ st.take c.2.2.1.length = a1 ++ a2 ∧ aSt (aN nu sg) (aU mu sg) c.1.2.2.2 a1 ∧ aSt (aN nu sg) (aU mu sg) c.2.2.1 a2 := by
          obtain ⟨t1, t2⟩ := aSt_take c.1.2.2.2.length y4
          rw [List.take_left' rfl] at t1
          rw [List.drop_left' rfl] at t2
          exact ⟨_, _, (List.take_append_drop _ _).symm, t1, t2⟩
        obtain ⟨a1, a2, ea, ya1, ya2⟩ := hsp2
        have hla : (st.take c.2.2.1.length).length ≤ c.2.2.1.length := by rw [List.length_take]; exact Nat.min_le_left _ _
        have hl1 := aSt_len ya1
        have hl2 := aSt_len ya2
        have hl3 := aSt_len ws1
        have hl4 := aSt_len tk
        have hl5 : c.1.2.2.2.length + c.2.2.1.length = xs0.length + (ast.take c.2.2.1.length).length := by
          have e1 := congrArg List.length ea
          simp only [List.length_append] at e1
          omega
        obtain ⟨h1, c0, c1, w1, w2, w3, po, hpo, nu1, mu1, w4, w5⟩ := hW c (hcs c List.mem_cons_self) h _ _ a1 a2 (st.drop c.2.2.1.length) pc ini hJh hT y3 ya1 ya2
        have ea2 : a2 = st.take c.2.2.1.length ∧ True := by
          have e2 : a1.length = ws.length := by
            have := hc.1
            have h6 := hxs
            have h7 : xs0.length = c.1.2.2.1.length := by rw [hl3, ws2]
            have h8 : c.1.2.2.2.length = c.1.2.2.1.length := hc.2.2
            omega
          exact ⟨(List.append_inj' ea.symm (by
            have e1 := congrArg List.length ea
            simp only [List.length_append] at e1
            omega)).2, trivial⟩
        rw [ea2.1, List.take_append_drop] at c0 c1
        obtain ⟨nu2, mu2, q1, q2, -⟩ := aPost_ok (o := none) (rv := none) hT k y2 w3 w4 w5 trivial
        have hsub : nFr mf ma S h h1 := by
          have u4 := hc.2.1
          simp only [aSubW, Bool.and_eq_true] at u4
          refine w3.wk (fun x hx => ?_) (fun x hx => ?_)
          · simpa using List.all_eq_true.mp u4.1 x hx
          · simpa using List.all_eq_true.mp u4.2 x hx
        refine ⟨st.drop c.2.2.1.length, h1, nu2, mu2, _, List.mem_map.mpr ⟨po, hpo, rfl⟩, ?_, w1, w2, hsub, q1, q2, dr.x q1⟩
        have hi := hc.1
        cases i with
        | iastore =>
          simp only [aSpI, decide_eq_true_eq] at hi
          exact c0 hi
        | putfield idx =>
          simp only [aSpI, Bool.and_eq_true, decide_eq_true_eq] at hi
          obtain ⟨i1, i2, rfl⟩ := hi
          have := c1 i1
          rw [i2] at this
          exact this
        | _ => exact nomatch (show false = true from hi)
       · exact ih (fun c hc => hcs c (List.mem_cons_of_mem _ hc)) hr
      · exact ih (fun c hc => hcs c (List.mem_cons_of_mem _ hc)) hr
    · exact ih (fun c hc => hcs c (List.mem_cons_of_mem _ hc)) hr
theorem aSpec_np {a b : Nat} {v : Int} {i : Instr} {ast : List aV} {al : List (Nat × aV)} {l : List (aS × List aV)} : ∀ {cs : List nSt}, aSpec mf ma s a b v al ast i cs = some l → (∀ {lv : nLv} {mL pc : Nat} {st : List Value}, nj_pure lv mL pc st i = none) ∧ ∀ {rt : Option FieldType} {st : List Value}, nj_ret rt i st = none := by
  intro cs
  induction cs with
  | nil => intro h; cases h
  | cons c cs ih =>
    intro hr
    simp only [aSpec] at hr
    split at hr
    · next hc =>
      have hi := hc.1
      cases i with
      | iastore => exact ⟨rfl, rfl⟩
      | putfield idx => exact ⟨rfl, rfl⟩
      | _ => exact nomatch (show false = true from hi)
    · exact ih hr
theorem aCat2_ok : ∀ {xs : List (Option (List (aS × List aF)))} {l : List (aS × List aF)}, aCat2 xs = some l → ∀ x ∈ xs, ∃ l1, x = some l1 ∧ ∀ y ∈ l1, y ∈ l := by
  intro xs
  induction xs with
  | nil => intro l _ x hx; cases hx
  | cons x xs ih =>
    intro l hl y hy
    simp only [aCat2] at hl
    split at hl
    · next l1 l2 h2 =>
      cases hl
      rcases List.mem_cons.mp hy with rfl | hy
      · exact ⟨l1, rfl, fun z hz => List.mem_append_left _ hz⟩
      · obtain ⟨l3, e1, e2⟩ := ih h2 y hy
        exact ⟨l3, e1, fun z hz => List.mem_append_right _ (e2 z hz)⟩
    · cases hl
theorem aStep2_ok (hB : aX nu0 mu0 nuB muB) (hJ : nJ FT AT S J) (hW : nWv FT AT S J W) (hctx : ∀ c ∈ ctx, nV M X L xs g FT AT S J c) (hls : ∀ y, ls = some y → nu0[y]? = some (L : Int)) {fs : List aF} {cfs : List cF} {l : List (aS × List aF)} {d d0 : Nat} (hR : aRel M FT AT S J mf ma nuB muB h0 s fs h cfs) (hd : d + (cfs.length - 1) = d0) (hD : D0 ≤ d0)
    (hr : aStep2 M FT AT ctx W ls mf ma posts nu0.length mu0.length D0 s fs = some l) (kk : ∀ y ∈ l, ∀ (h' : List nC) (cfs' : List cF) (d' : Nat), aRel M FT AT S J mf ma nuB muB h0 y.1 y.2 h' cfs' → d' + (cfs'.length - 1) = d0 → nG M X L xs g (aQ FT AT S J mf ma posts nu0 mu0 h0) d' h' cfs') : nG M X L xs g (aQ FT AT S J mf ma posts nu0 mu0 h0) d h cfs := by
  unfold aStep2 at hr
  split at hr
  · cases hr
  · next kf pc al st r =>
    obtain ⟨nu, mu, X0, k, hF, hJh, hT, hfr⟩ := hR
    cases cfs with
    | nil => exact hF.elim
    | cons f cr =>
      obtain ⟨mt, pc', lv, cst⟩ := f
      obtain ⟨⟨hM, hpc, hlv, hst⟩, hFr⟩ := hF
      simp only at hM hpc hlv hst
      subst hpc
      obtain ⟨s1, hs1, nu1, mu1, X1, k1⟩ := aGho_ok (kf := kf) (pc := pc) hW hJh hT k hlv
      obtain ⟨l1, hl1, hsub⟩ := aCat2_ok hr _ (List.mem_map.mpr ⟨s1, hs1, rfl⟩)
      have hst1 := aCan_st k1.1 (hst.x X1)
      unfold aStep3 at hl1
      split at hl1
      · next l2 hl2 =>
        cases hl1
        exact aStep_ok hB hJ hctx hls (s := s1) (fs := (kf, pc, al, st.map (aCan s1)) :: r) ⟨nu1, mu1, X0.tr X1, k1, ⟨⟨hM, rfl, hlv.x X1, hst1⟩, hFr.x X1⟩, hJh, hT, hfr⟩ hd hD hl2 (fun y hy => kk y (hsub y hy))
      · split at hl1
        · cases hl1
        · next mt2 hM2 =>
          cases hM.symm.trans hM2
          split at hl1
          · cases hl1
          · next q i a b v pos hf =>
            split at hl1
            · next l2 hl2 =>
              cases hl1
              obtain ⟨np, nr⟩ := aSpec_np hl2
              obtain ⟨st1, h1, nu2, mu2, y, hy, z1, z2, z3, z4, z5, z6, z7⟩ := aSpec_ok (L := L) (xs := xs) (pc := pc) (ini := mt.1.name == "<init>") hW.2 hJh hT k1 (hlv.x X1) hst1 (fun c hc => hc) hl2
              refine nT_mem hf nr np z1 ?_
              exact kk _ (hsub _ (List.mem_map.mpr ⟨y, hy, rfl⟩)) h1 ((mt, pc + nj_len i b, lv, st1) :: cr) d ⟨nu2, mu2, (X0.tr X1).tr z5, z6, ⟨⟨hM, rfl, (hlv.x X1).x z5, z7⟩, (hFr.x X1).x z5⟩, z2, z3, hfr.tr z4⟩ hd
            · cases hl1
end AVA
