section AS3
variable {M : Nat → Option nM} {X : nX} {L : Nat} {xs : Nat → Int32} {g : Nat} {FT : Nat → Nat → Option fTy} {AT : Nat → Option aTy} {S : List Nat} {J : List nC → Prop} {ctx : List nK} {ls : Option Nat} {mf : List (Nat × Nat)} {ma : List Nat} {posts : List (aS × Option aV)} {D0 : Nat} {nu0 nuB : List Int} {mu0 muB : List Nat} {h0 : List nC}
/-- the state at hand is one of those that s and fs tell -/
def aRel (M : Nat → Option nM) (FT : Nat → Nat → Option fTy) (AT : Nat → Option aTy) (S : List Nat) (J : List nC → Prop) (mf : List (Nat × Nat)) (ma : List Nat) (nu0 : List Int) (mu0 : List Nat) (h0 : List nC) (s : aS) (fs : List aF) (h : List nC) (cfs : List cF) : Prop :=
  ∃ nu mu, aX nu0 mu0 nu mu ∧ aOk S h nu mu s ∧ aFR M nu mu fs cfs ∧ J h ∧ tOk FT AT S h ∧ nFr mf ma S h0 h
def aQ (FT : Nat → Nat → Option fTy) (AT : Nat → Option aTy) (S : List Nat) (J : List nC → Prop) (mf : List (Nat × Nat)) (ma : List Nat) (posts : List (aS × Option aV)) (nu0 : List Int) (mu0 : List Nat) (h0 : List nC) (rv : Option Value) (h1 : List nC) : Prop :=
  J h1 ∧ tOk FT AT S h1 ∧ nFr mf ma S h0 h1 ∧ ∃ po ∈ posts, ∃ nu1 mu1, aX nu0 mu0 nu1 mu1 ∧ aOk S h1 nu1 mu1 po.1 ∧ aRes nu1 mu1 po.2 rv
theorem aUse_ok {dep : Nat} {s : aS} {a : Nat} {args : List aV} {c : nK} {sg : aSg} : ∀ {cs : List nK}, aUse mf ma dep s a args cs = some (c, sg) → c ∈ cs ∧ c.1 = a ∧ c.2.1 < dep ∧ aSub c mf ma = true ∧ aInst s ([], []) c.2.2.1 c.2.2.2.1 args = some sg := by
  intro cs
  induction cs with
  | nil => intro h; cases h
  | cons c0 cs ih =>
    intro h
    simp only [aUse] at h
    split at h
    · next hc =>
      split at h
      · next sg0 hi =>
        cases h
        exact ⟨List.mem_cons_self, hc.1, hc.2.1, hc.2.2, hi⟩
      · obtain ⟨h1, h2⟩ := ih h
        exact ⟨List.mem_cons_of_mem _ h1, h2⟩
    · obtain ⟨h1, h2⟩ := ih h
      exact ⟨List.mem_cons_of_mem _ h1, h2⟩
theorem aMem_np {s : aS} {a b : Nat} {v : Int} {ast : List aV} {i : Instr} {r : aS × List aV} (hr : aMem FT AT ls mf ma s a b v ast i = some r) {lv : nLv} {mL pc : Nat} {st : List Value} : nj_pure lv mL pc st i = none := by
  cases i <;> first | rfl | exact nomatch (show (none : Option (aS × List aV)) = some r from hr)
theorem aRcv_ok {h : List nC} {nu : List Int} {mu : List Nat} {s : aS} {mz : nM} {args : List aV} {vs : List Value} (hT : tOk FT AT S h) (k : aOk S h nu mu s) (hs : aSt nu mu args vs) (hr : aRcv s mz args = true) : nj_recv mz vs h = true := by
  unfold aRcv at hr
  split at hr
  · next j r =>
    obtain ⟨v, rst, rfl, ⟨q, hq, rfl⟩, hrst⟩ := hs.cons
    split at hr
    · next t ht =>
      split at hr
      · next c hc =>
        obtain ⟨fs, e1, -⟩ := hT.obj (k.tag hq ht) hc
        simp only [nj_recv, e1]
        exact hr
      · cases hr
    · cases hr
  · cases hr
set_option maxHeartbeats 4000000 in
theorem aStep_ok (hB : aX nu0 mu0 nuB muB) (hJ : nJ FT AT S J) (hctx : ∀ c ∈ ctx, nV M X L xs g FT AT S J c) (hls : ∀ y, ls = some y → nu0[y]? = some (L : Int)) {s : aS} {fs : List aF} {h : List nC} {cfs : List cF} {l : List (aS × List aF)} {d d0 : Nat} (hR : aRel M FT AT S J mf ma nuB muB h0 s fs h cfs) (hd : d + (cfs.length - 1) = d0) (hD : D0 ≤ d0)
    (hr : aStep M FT AT ctx ls mf ma posts nu0.length mu0.length D0 s fs = some l) (kk : ∀ y ∈ l, ∀ (h' : List nC) (cfs' : List cF) (d' : Nat), aRel M FT AT S J mf ma nuB muB h0 y.1 y.2 h' cfs' → d' + (cfs'.length - 1) = d0 → nG M X L xs g (aQ FT AT S J mf ma posts nu0 mu0 h0) d' h' cfs') : nG M X L xs g (aQ FT AT S J mf ma posts nu0 mu0 h0) d h cfs := by
  obtain ⟨nu, mu, X0, k, hF, hJh, hT, hfr⟩ := hR
  have hls' : ∀ y, ls = some y → nu[y]? = some (L : Int) := fun y hy => (hB.tr X0).nu (hls y hy)
  unfold aStep at hr
  split at hr
  · cases hr
  · next kf pc al st r =>
    cases cfs with
    | nil => exact hF.elim
    | cons f cr =>
      obtain ⟨mt, pc', lv, cst⟩ := f
      obtain ⟨⟨hM, hpc, hlv, hst⟩, hFr⟩ := hF
      simp only at hM hpc hlv hst
      subst hpc
      have hlen := hFr.len
      split at hr
      · next hMn => rw [hM] at hMn; cases hMn
      · next mt2 hM2 =>
        cases hM.symm.trans hM2
        split at hr
        · cases hr
        · next q i a b v pos hf =>
          split at hr
          · next hret =>
            split at hr
            · cases hr
            · next o ho =>
              obtain ⟨rv, e1, e2⟩ := aRetV_ok k hst ho
              split at hr
              · split at hr
                · next hany =>
                  cases hr
                  obtain ⟨po, hpo, hend⟩ := List.any_eq_true.mp hany
                  obtain ⟨nu1, mu1, x1, x2, x3⟩ := aEnd_ok (hB.tr X0) k e2 hend
                  cases cr with
                  | cons f2 cr => exact hFr.elim
                  | nil => exact nT_ret hf e1 ⟨hJh, hT, hfr, po, hpo, nu1, mu1, x1, x2, x3⟩
                · cases hr
              · next k2 pc2 al2 st2 r2 =>
                cases hr
                cases cr with
                | nil => exact hFr.elim
                | cons f2 cr2 =>
                  obtain ⟨⟨m1, m2, m3, m4⟩, m5⟩ := hFr
                  refine nT_ret hf e1 ?_
                  have hres : aSt nu mu (o.toList ++ st2) (rv.toList ++ f2.2.2.2) := by
                    refine aSt_app ?_ m4
                    cases o with
                    | none => cases rv with
                      | none => trivial
                      | some w => exact e2.elim
                    | some x => cases rv with
                      | none => exact e2.elim
                      | some w => exact ⟨e2, trivial⟩
                  exact kk _ (List.mem_singleton.mpr rfl) h ((f2.1, f2.2.1, f2.2.2.1, rv.toList ++ f2.2.2.2) :: cr2) (d + 1) ⟨nu, mu, X0, k, ⟨⟨m1, m2, m3, hres⟩, m5⟩, hJh, hT, hfr⟩ (by simp at hd ⊢; omega)
          · next hret =>
            have hret' : nj_isret i = false := by simpa using hret
            split at hr
            · next hinv =>
              unfold aInvk at hr
              split at hr
              · next hv =>
                subst hv
                split at hr
                · next s1 st1 hc =>
                  cases hr
                  have key : ∀ run, ∃ (cst1 : List Value) (h1 : List nC), nj_calls M X run d pc i a b 5 lv cst h g = some (pc + 3, lv, cst1, h1, g, 0, 0) ∧ J h1 ∧ tOk FT AT S h1 ∧ nFr mf ma S h h1 ∧ aOk S h1 nu mu s1 ∧ aSt nu mu st1 cst1 := fun run => m_cpy hinv hJ hJh hT k hst hc
                  obtain ⟨cst1, h1, z1, z2, z3, z4, z5, z6⟩ := key (fun _ _ _ _ _ => none)
                  refine nT_c0 hf hinv (fun run => ?_) (kk _ (List.mem_singleton.mpr rfl) h1 ((mt, pc + 3, lv, cst1) :: cr) d ⟨nu, mu, X0, z5, ⟨⟨hM, rfl, hlv, z6⟩, hFr⟩, z2, z3, hfr.tr z4⟩ hd)
                  rw [← z1]
                  unfold nj_calls
                  simp
                · cases hr
              · next hv5 =>
                split at hr
                · next hv =>
                  subst hv
                  split at hr
                  · next s1 st1 hc =>
                    cases hr
                    obtain ⟨cst1, nu1, z1, z2, z3, z4⟩ := m_min (M := M) (X := X) (g := g) (d := d) (a := a) (b := b) (lv := lv) (run := fun _ _ _ _ _ => none) hinv k hst hc
                    refine nT_c0 hf hinv (fun run => ?_) (kk _ (List.mem_singleton.mpr rfl) h ((mt, pc + 3, lv, cst1) :: cr) d ⟨nu1, mu, X0.tr z2, z3, ⟨⟨hM, rfl, hlv.x z2, z4⟩, hFr.x z2⟩, hJh, hT, hfr⟩ hd)
                    rw [← z1]
                    unfold nj_calls
                    simp
                  · cases hr
                · next hv7 =>
                  split at hr
                  · cases hr
                  · next hv46 =>
                    split at hr
                    · cases hr
                    · next mz hMa =>
                      split at hr
                      · next hc =>
                        obtain ⟨⟨hb, hsum, hargs⟩, hrcv⟩ := hc
                        obtain ⟨tk, dr⟩ := aSt_take b hst
                        have rv' := aSt_rev tk
                        have hpass : nj_pass mz i b cst h = true := by
                          simp only [nj_pass, Bool.and_eq_true, decide_eq_true_eq]
                          refine ⟨by rw [← aSt_len hst]; exact hb, by rw [aSum_ok dr]; exact hsum, by rw [lg_sl_sum, nj_sum_rev, aSum_ok tk]; exact hargs, ?_⟩
                          cases i with
                          | invokevirtual idx => exact aRcv_ok hT k rv' hrcv
                          | invokestatic idx => rfl
                          | _ => exact nomatch (show false = true from hrcv)
                        split at hr
                        · next c sg huse =>
                          cases hr
                          obtain ⟨u1, u2, u3, u4, u5⟩ := aUse_ok huse
                          obtain ⟨y1, y2, y3, y4⟩ := aInst_ok k ⟨fun x hx => (by cases hx), fun y hy => (by cases hy)⟩ rv' u5
                          have hdep : ∃ d1, d = d1 + 1 ∧ c.2.1 ≤ d1 := by
                            refine ⟨d - 1, ?_, ?_⟩ <;> (simp at hd; omega)
                          obtain ⟨d1, rfl, hd1⟩ := hdep
                          refine nT_call hf hinv (fun z => hv46 (Or.inl z)) hv5 (fun z => hv46 (Or.inr z)) hv7 hMa hpass ?_
                          refine nT.mono ?_ (hctx c u1 d1 hd1 mz (by rw [u2]; exact hMa) h _ _ _ hJh hT y3 y4)
                          rintro rv h1 ⟨w1, w2, w3, po, hpo, nu1, mu1, w4, w5, w6⟩
                          obtain ⟨nu2, mu2, q1, q2, q3⟩ := aPost_ok hT k y2 w3 w4 w5 w6
                          have hsub : nFr mf ma S h h1 := by
                            simp only [aSub, Bool.and_eq_true] at u4
                            refine w3.wk (fun x hx => ?_) (fun x hx => ?_)
                            · simpa using List.all_eq_true.mp u4.1 x hx
                            · simpa using List.all_eq_true.mp u4.2 x hx
                          have hres : aSt nu2 mu2 ((po.2.map (aSb (aSgP s sg po.1))).toList ++ st.drop b) (rv.toList ++ cst.drop b) := by
                            refine aSt_app ?_ (dr.x q1)
                            cases hpo2 : po.2 with
                            | none =>
                              rw [hpo2] at q3
                              cases rv with
                              | none => trivial
                              | some w => exact q3.elim
                            | some x =>
                              rw [hpo2] at q3
                              cases rv with
                              | none => exact q3.elim
                              | some w => exact ⟨q3, trivial⟩
                          exact kk _ (List.mem_map.mpr ⟨po, hpo, rfl⟩) h1 ((mt, pc + 3, lv, rv.toList ++ cst.drop b) :: cr) (d1 + 1) ⟨nu2, mu2, X0.tr q1, q2, ⟨⟨hM, rfl, hlv.x q1, hres⟩, hFr.x q1⟩, w1, w2, hfr.tr hsub⟩ hd
                        · split at hr
                          · next hdp =>
                            cases hr
                            have hdep : ∃ d1, d = d1 + 1 := ⟨d - 1, by simp at hd; omega⟩
                            obtain ⟨d1, rfl⟩ := hdep
                            refine nT_call hf hinv (fun z => hv46 (Or.inl z)) hv5 (fun z => hv46 (Or.inr z)) hv7 hMa hpass ?_
                            exact kk _ (List.mem_singleton.mpr rfl) h ((mz, 0, lv_args 0 (cst.take b).reverse, []) :: (mt, pc + 3, lv, cst.drop b) :: cr) d1 ⟨nu, mu, X0, k, ⟨⟨hMa, rfl, aArgs_ok _ _ 0 rv', trivial⟩, ⟨hM, rfl, hlv, dr⟩, hFr⟩, hJh, hT, hfr⟩ (by simp at hd ⊢; omega)
                          · cases hr
                      · cases hr
            · next hinv =>
              split at hr
              · next l0 hp =>
                cases hr
                obtain ⟨r1, z1, nu1, z2, y, hy, z3, z4, z5, z6⟩ := p_pure k hlv hst hp
                refine nT_pure hf (nj_ret_none hret') (pc1 := r1.1) (lv1 := r1.2.1) (st1 := r1.2.2) z1 ?_
                exact kk _ (List.mem_map.mpr ⟨y, hy, rfl⟩) h ((mt, r1.1, r1.2.1, r1.2.2) :: cr) d ⟨nu1, mu, X0.tr z2, z4, ⟨⟨hM, z3, z5, z6⟩, hFr.x z2⟩, hJh, hT, hfr⟩ hd
              · split at hr
                · next s1 st1 hm =>
                  cases hr
                  obtain ⟨cst1, h1, nu1, mu1, z1, z2, z3, z4, z5, z6, z7⟩ := m_mem (pc := pc) (xs := xs) (ini := mt.1.name == "<init>") hls' hJ hJh hT k hst hm
                  refine nT_mem hf (nj_ret_none hret') (aMem_np hm) z1 ?_
                  exact kk _ (List.mem_singleton.mpr rfl) h1 ((mt, pc + nj_len i b, lv, cst1) :: cr) d ⟨nu1, mu1, X0.tr z5, z6, ⟨⟨hM, rfl, hlv.x z5, z7⟩, hFr.x z5⟩, z2, z3, hfr.tr z4⟩ hd
                · cases hr
end AS3
