section AS5
variable {M : Nat → Option nM} {X : nX} {L : Nat} {xs : Nat → Int32} {g : Nat} {FT : Nat → Nat → Option fTy} {AT : Nat → Option aTy} {S : List Nat} {J : List nC → Prop} {ctx : List nK} {W : nWk} {ls : Option Nat} {mf : List (Nat × Nat)} {ma : List Nat} {posts : List (aS × Option aV)} {D0 k0 : Nat} {nu0 nuB : List Int} {mu0 muB : List Nat} {h0 : List nC} {cuts : List aCt} {rk : Option aLin} {d0 : Nat} {mt : nM}
/-- what is known of cuts whose rank is small enough -/
def aHd (M : Nat → Option nM) (X : nX) (L : Nat) (xs : Nat → Int32) (g : Nat) (FT : Nat → Nat → Option fTy) (AT : Nat → Option aTy) (S : List Nat) (J : List nC → Prop) (mf : List (Nat × Nat)) (ma : List Nat) (posts : List (aS × Option aV)) (nu0 : List Int) (mu0 : List Nat) (h0 : List nC) (cuts : List aCt) (d0 : Nat) (mt : nM) (lim : Int → Prop) : Prop :=
  ∀ c ∈ cuts, ∀ (h : List nC) (nu : List Int) (mu : List Nat) (lv : nLv), aX nu0 mu0 nu mu → aOk S h nu mu c.2.1 → aLv nu mu c.2.2.1 lv → J h → tOk FT AT S h → nFr mf ma S h0 h → lim (lS nu c.2.2.2.1 + c.2.2.2.2) → nT M X L xs g d0 mt (aQ FT AT S J mf ma posts nu0 mu0 h0) c.1 lv [] h
def aLim (nuB : List Int) (rk : Option aLin) (z : Int) : Prop := match rk with
  | none => True
  | some r0 => 0 ≤ z ∧ z < lS nuB r0.1 + r0.2
theorem aHit_ok {s : aS} {al : List (Nat × aV)} {st : List aV} {c : aCt} {h : List nC} {nu : List Int} {mu : List Nat} {lv : nLv} {cst : List Value} (hrk : ∀ r0, rk = some r0 → ∀ t ∈ r0.1, t.2 < nuB.length) (hH : aHd M X L xs g FT AT S J mf ma posts nu0 mu0 h0 cuts d0 mt (aLim nuB rk)) (hc : c ∈ cuts) (hB : aX nu0 mu0 nuB muB) (X0 : aX nuB muB nu mu) (k : aOk S h nu mu s) (hl : aLv nu mu al lv) (hs : aSt nu mu st cst) (hJh : J h) (hT : tOk FT AT S h) (hfr : nFr mf ma S h0 h) (hr : aHit s al st nu0.length mu0.length rk c = true) : nT M X L xs g d0 mt (aQ FT AT S J mf ma posts nu0 mu0 h0) c.1 lv cst h := by
  unfold aHit at hr
  split at hr
  · cases hr
  · next xs0 hxs =>
    split at hr
    · cases hr
    · next sg hsg =>
      rw [Bool.and_eq_true, decide_eq_true_eq] at hr
      obtain ⟨rfl, hrank⟩ := hr
      have hcst : cst = [] := by
        cases cst with
        | nil => rfl
        | cons v r => exact hs.elim
      subst hcst
      obtain ⟨vs, v1, v2, v3⟩ := aGetLs_ok hl _ _ hxs
      obtain ⟨e1, e2, e3⟩ := aId_N (hB.tr X0)
      obtain ⟨y1, y2, y3, y4⟩ := aInst_ok k e3 (aCanP_st k.1 v1) hsg
      have XX := y1.x (nu := nu) (mu := mu)
      rw [e1, e2] at XX
      refine hH c hc h _ _ lv XX y3 (fun e he => ?_) hJh hT hfr ?_
      · obtain ⟨j, hj⟩ := List.getElem?_of_mem he
        obtain ⟨w, w1, w2⟩ := aSt_get (j := j) (a := e.2) y4 (by rw [List.getElem?_map, hj]; rfl)
        exact ⟨w, v3 j e.1 w (by rw [List.getElem?_map, hj]; rfl) w1, w2⟩
      · cases rk with
        | none => trivial
        | some r0 =>
          simp only at hrank
          split at hrank
          · cases hrank
          · next l0 hl0 =>
            rw [Bool.and_eq_true] at hrank
            obtain ⟨h1, h2⟩ := hrank
            have hb := lSb_ok (nu := nu) _ _ hl0
            have b1 := aPr_ok k h1
            have b2 := aPr_ok k h2
            simp only at b1 b2
            rw [lS_add, lS_neg] at b1
            rw [lS_neg] at b2
            have c3 := lS_x X0 r0.1 (hrk r0 rfl)
            show 0 ≤ _ ∧ _ < _
            omega
theorem aExec_ok (hJ : nJ FT AT S J) (hW : nWv FT AT S J W) (hctx : ∀ c ∈ ctx, nV M X L xs g FT AT S J c) (hls : ∀ y, ls = some y → nu0[y]? = some (L : Int)) (hB : aX nu0 mu0 nuB muB) (hD : D0 ≤ d0) (hMk : M k0 = some mt) (hrk : ∀ r0, rk = some r0 → ∀ t ∈ r0.1, t.2 < nuB.length) (hH : aHd M X L xs g FT AT S J mf ma posts nu0 mu0 h0 cuts d0 mt (aLim nuB rk)) : ∀ (n : Nat) (s : aS) (fs : List aF) (h : List nC) (cfs : List cF) (d : Nat), aRel M FT AT S J mf ma nuB muB h0 s fs h cfs → d + (cfs.length - 1) = d0 → aExec M FT AT ctx W ls mf ma posts nu0.length mu0.length D0 k0 cuts rk n s fs = true → nG M X L xs g (aQ FT AT S J mf ma posts nu0 mu0 h0) d h cfs := by
  intro n
  induction n with
  | zero => intro s fs h cfs d hR hd hr; cases hr
  | succ n ih =>
    intro s fs h cfs d hR hd hr
    unfold aExec at hr
    split at hr
    · next pc al st hcut =>
      obtain ⟨c, hcm, hcc⟩ := List.any_eq_true.mp hr
      rw [Bool.and_eq_true] at hcc
      have hcp : c.1 = pc := by simpa using hcc.1
      unfold aCutAt at hcut
      split at hcut
      · next k pc2 al2 st2 =>
        split at hcut
        · next hk =>
          obtain ⟨hk, -⟩ := hk
          subst hk
          cases hcut
          obtain ⟨nu, mu, X0, k, hF, hJh, hT, hfr⟩ := hR
          cases cfs with
          | nil => exact hF.elim
          | cons f cr =>
            obtain ⟨⟨m1, m2, m3, m4⟩, m5⟩ := hF
            cases cr with
            | cons f2 cr => exact m5.elim
            | nil =>
              simp at hd
              subst hd
              cases hMk.symm.trans m1
              have := aHit_ok hrk hH hcm hB X0 k m3 m4 hJh hT hfr hcc.2
              simp only at m2
              rw [hcp, m2] at this
              exact this
        · cases hcut
      · cases hcut
    · split at hr
      · cases hr
      · next l hl =>
        exact aStep2_ok hB hJ hW hctx hls hR hd hD hl (fun y hy h' cfs' d' hR' hd' => ih y.1 y.2 h' cfs' d' hR' hd' (List.all_eq_true.mp hr y hy))
theorem aChk_ok (hJ : nJ FT AT S J) (hW : nWv FT AT S J W) (hctx : ∀ c ∈ ctx, nV M X L xs g FT AT S J c) {fuel : Nat} {c : nK} (hls : ∀ (nu : List Int) (mu : List Nat) (h : List nC), aOk S h nu mu c.2.2.1 → ∀ y, ls = some y → nu[y]? = some (L : Int)) (hr : aChk M FT AT ctx W ls cuts fuel c = true) : nV M X L xs g FT AT S J c := by
  intro d hd mt hM h nu mu vs hJh hT hpre hst
  have hls0 := hls nu mu h hpre
  have e1 : c.2.2.1.1.length = nu.length := hpre.1.1
  have e2 : c.2.2.1.2.1.length = mu.length := hpre.2.1.1
  unfold aChk at hr
  rw [Bool.and_eq_true] at hr
  obtain ⟨hcuts, hent⟩ := hr
  rw [e1, e2] at hcuts hent
  have heads : ∀ (R : Nat), aHd M X L xs g FT AT S J c.2.2.2.2.1 c.2.2.2.2.2.1 c.2.2.2.2.2.2 nu mu h cuts d mt (fun z => z.toNat < R) := by
    intro R
    induction R with
    | zero => intro c2 _ h2 nu2 mu2 lv2 _ _ _ _ _ _ hz; exact absurd hz (Nat.not_lt_zero _)
    | succ R ih =>
      intro c2 hc2 h2 nu2 mu2 lv2 X2 k2 l2 j2 t2 f2 hz
      have hfrom := List.all_eq_true.mp hcuts c2 hc2
      unfold aFrom at hfrom
      simp only [Bool.and_eq_true] at hfrom
      obtain ⟨⟨hin, -⟩, hst2⟩ := hfrom
      split at hst2
      · cases hst2
      · next l hl =>
        have hlen2 : c2.2.1.1.length = nu2.length := k2.1.1
        have hR : aRel M FT AT S J c.2.2.2.2.1 c.2.2.2.2.2.1 nu2 mu2 h c2.2.1 [(c.1, c2.1, c2.2.2.1, [])] h2 [(mt, c2.1, lv2, [])] := ⟨nu2, mu2, aX.rf, k2, ⟨⟨hM, rfl, l2, trivial⟩, trivial⟩, j2, t2, f2⟩
        have hrk : ∀ r0, some c2.2.2.2 = some r0 → ∀ t ∈ r0.1, t.2 < nu2.length := by
          intro r0 hr0 t ht
          cases hr0
          have := List.all_eq_true.mp hin t ht
          rw [← hlen2]
          simpa using this
        have hH : aHd M X L xs g FT AT S J c.2.2.2.2.1 c.2.2.2.2.2.1 c.2.2.2.2.2.2 nu mu h cuts d mt (aLim nu2 (some c2.2.2.2)) := by
          intro c3 hc3 h3 nu3 mu3 lv3 X3 k3 l3 j3 t3 f3 hz3
          refine ih c3 hc3 h3 nu3 mu3 lv3 X3 k3 l3 j3 t3 f3 ?_
          have hz3' : 0 ≤ lS nu3 c3.2.2.2.1 + c3.2.2.2.2 ∧ lS nu3 c3.2.2.2.1 + c3.2.2.2.2 < lS nu2 c2.2.2.2.1 + c2.2.2.2.2 := hz3
          have hz' : (lS nu2 c2.2.2.2.1 + c2.2.2.2.2).toNat < R + 1 := hz
          show (lS nu3 c3.2.2.2.1 + c3.2.2.2.2).toNat < R
          omega
        exact aStep2_ok X2 hJ hW hctx hls0 hR (by simp) hd hl (fun y hy h' cfs' d' hR' hd' => aExec_ok hJ hW hctx hls0 X2 hd hM hrk hH fuel y.1 y.2 h' cfs' d' hR' hd' (List.all_eq_true.mp hst2 y hy))
  have hHall : aHd M X L xs g FT AT S J c.2.2.2.2.1 c.2.2.2.2.2.1 c.2.2.2.2.2.2 nu mu h cuts d mt (aLim nu none) := fun c3 hc3 h3 nu3 mu3 lv3 X3 k3 l3 j3 t3 f3 _ => heads ((lS nu3 c3.2.2.2.1 + c3.2.2.2.2).toNat + 1) c3 hc3 h3 nu3 mu3 lv3 X3 k3 l3 j3 t3 f3 (Nat.lt_succ_self _)
  exact aExec_ok (rk := none) hJ hW hctx hls0 aX.rf hd hM (fun r0 hr0 => by cases hr0) hHall fuel c.2.2.1 [(c.1, 0, aArgs 0 c.2.2.2.1, [])] h [(mt, 0, lv_args 0 vs, [])] d ⟨nu, mu, aX.rf, hpre, ⟨⟨hM, rfl, aArgs_ok _ _ 0 hst, trivial⟩, trivial⟩, hJh, hT, nFr.rf⟩ (by simp) hent
end AS5
