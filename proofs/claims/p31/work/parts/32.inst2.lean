section AI2
variable {S : List Nat} {h : List nC} {nu : List Int} {mu : List Nat} {s p : aS}
theorem aMA_ok (k : aOk S h nu mu s) : ∀ {es : List (Nat × aV × aV)} {sg sg1 : aSg}, aGd nu mu sg → aMA s sg es = some sg1 → aSx sg sg1 ∧ aGd nu mu sg1 ∧ ∀ e ∈ es, acOk (aN nu sg1) (aU mu sg1) h e := by
  intro es
  induction es with
  | nil => intro sg sg1 hg hm; cases hm; exact ⟨aSx.rf, hg, fun e he => by cases he⟩
  | cons e es ih =>
    intro sg sg1 hg hm
    simp only [aMA] at hm
    split at hm
    · next y hy =>
      split at hm
      · next q hq =>
        split at hm
        · next sg0 h0 =>
          split at hm
          · next hkn =>
            have hm2 := List.mem_of_find?_eq_some hq
            have hp := List.find?_some hq
            simp only [Bool.and_eq_true, beq_iff_eq, decide_eq_true_eq] at hp
            obtain ⟨q2, kd, n, f, i, g1, g2, g3, g4⟩ := k.2.2.2.1 q hm2
            obtain ⟨e1, gd1, a1⟩ := aM1_ok hg g4 h0
            obtain ⟨e2, gd2, a2⟩ := ih gd1 hm
            refine ⟨e1.tr e2, gd2, fun z hz => ?_⟩
            rcases List.mem_cons.mp hz with rfl | hz
            · refine ⟨q2, kd, n, f, i, ?_, g2, ?_, a1.x e2.x⟩
              · refine (e1.tr e2).x.mu (nu := aN nu sg) (nu1 := aN nu sg1) ?_
                simp only [aU, List.getElem?_map, hy, Option.map_some, List.getD_eq_getElem?_getD]
                rw [← hp.1, g1]
                rfl
              · rw [hp.2] at g3
                have hI : aIsI z.2.1 = true := by
                  cases hz1 : z.2.1 with
                  | inl c => rfl
                  | inr w =>
                    cases w with
                    | inl r => rfl
                    | inr r => rw [hz1] at hkn; cases hkn
                refine (aSb_back hg hI g3 (fun i2 c2 e3 => ?_)).x (e1.tr e2).x
                rw [e3] at hkn
                simpa [aKn] using hkn
            · exact a2 z hz
          · cases hm
        · cases hm
      · cases hm
    · cases hm
theorem aRw_ok {x : aV} {v : Int32} {q : Int × Int} (hE : aE s.1 nu) (h : aR nu mu x (.int v)) (hq : aRw s.1 x = some q) : q.1 ≤ aEv nu x ∧ aEv nu x ≤ q.2 := by
  unfold aRw at hq
  split at hq
  · cases hq; exact ⟨Int.le_refl _, Int.le_refl _⟩
  · next i c =>
    obtain ⟨z, hz, -⟩ := h
    split at hq
    · next r hr =>
      cases hq
      have := hE.2 i z r hz hr
      simp only [aEv, List.getD_eq_getElem?_getD, hz, Option.getD_some]
      omega
    · cases hq
  · cases hq
theorem aZip2_ok (k : aOk S h nu mu s) : ∀ {xs : List aV} {rs : aRho}, (∀ x ∈ xs, ∃ v : Int32, aR nu mu x (.int v)) → aZip2 xs rs s = true → aE rs (xs.map (aEv nu)) := by
  intro xs
  induction xs with
  | nil =>
    intro rs hg hz
    cases rs with
    | nil => exact ⟨rfl, fun i z r h => by simp at h⟩
    | cons r rs => cases hz
  | cons x xs ih =>
    intro rs hg hz
    cases rs with
    | nil => cases hz
    | cons r rs =>
      simp only [aZip2, Bool.and_eq_true, Bool.or_eq_true] at hz
      have k1 := ih (fun y hy => hg y (List.mem_cons_of_mem _ hy)) hz.2
      have key : r.1 ≤ aEv nu x ∧ aEv nu x ≤ r.2 := by
        rcases hz.1 with hr | hr
        · unfold aRin at hr
          split at hr
          · next q hq =>
            simp only [Bool.and_eq_true, decide_eq_true_eq] at hr
            obtain ⟨v, hv⟩ := hg x List.mem_cons_self
            have := aRw_ok k.1 hv hq
            omega
          · cases hr
        · unfold aRinF at hr
          split at hr
          · next i c =>
            rw [Bool.and_eq_true] at hr
            have h1 := aPr_ok k hr.1
            have h2 := aPr_ok k hr.2
            simp only [lS, List.map_cons, List.map_nil, List.sum_cons, List.sum_nil] at h1 h2
            simp only [aEv]
            omega
          · cases hr
      refine ⟨by simp [k1.1], fun i z r2 h1 h2 => ?_⟩
      cases i with
      | zero =>
        simp only [List.map_cons, List.getElem?_cons_zero] at h1 h2
        cases h1
        cases h2
        exact key
      | succ i =>
        simp only [List.map_cons, List.getElem?_cons_succ] at h1 h2
        exact k1.2 i z r2 h1 h2
theorem aZipT_ok (k : aOk S h nu mu s) : ∀ {ys ts : List Nat}, (∀ y ∈ ys, ∃ q : Nat, mu[y]? = some q) → aZipT ys ts s.2.1 = true → ts.length = (ys.map (fun y => mu.getD y 0)).length ∧ ∀ (j q t : Nat), (ys.map (fun y => mu.getD y 0))[j]? = some q → ts[j]? = some t → S[q]? = some t := by
  intro ys
  induction ys with
  | nil =>
    intro ts hg hz
    cases ts with
    | nil => exact ⟨rfl, fun j q t h => by simp at h⟩
    | cons t ts => cases hz
  | cons y ys ih =>
    intro ts hg hz
    cases ts with
    | nil => cases hz
    | cons t ts =>
      simp only [aZipT, Bool.and_eq_true, decide_eq_true_eq] at hz
      obtain ⟨l1, k1⟩ := ih (fun y hy => hg y (List.mem_cons_of_mem _ hy)) hz.2
      refine ⟨by simp at l1 ⊢; exact l1, fun j q t2 h1 h2 => ?_⟩
      cases j with
      | zero =>
        simp only [List.map_cons, List.getElem?_cons_zero] at h1 h2
        cases h1
        cases h2
        obtain ⟨q, hq⟩ := hg y List.mem_cons_self
        have : mu.getD y 0 = q := by rw [List.getD_eq_getElem?_getD, hq]; rfl
        rw [this]
        exact k.tag hq hz.1
      | succ j =>
        simp only [List.map_cons, List.getElem?_cons_succ] at h1 h2
        exact k1 j q t2 h1 h2
theorem lSb_ok {sg : aSg} : ∀ (ts : List (Int × Nat)) (l : aLin), lSb sg ts = some l → lS (aN nu sg) ts = lS nu l.1 + l.2 := by
  intro ts
  induction ts with
  | nil => intro l h; cases h; simp [lS]
  | cons t ts ih =>
    intro l h
    simp only [lSb] at h
    split at h
    · next l0 c h0 hc =>
      cases h
      have := ih l0 h0
      have e1 : (aN nu sg).getD t.2 0 = c := by
        simp only [aN, List.getD_eq_getElem?_getD, List.getElem?_map, hc, Option.map_some, aEv, Option.getD_some]
      simp only [lS, List.map_cons, List.sum_cons, e1] at this ⊢
      omega
    · next l0 a c h0 hc =>
      cases h
      have := ih l0 h0
      have e1 : (aN nu sg).getD t.2 0 = nu.getD a 0 + c := by
        simp only [aN, List.getD_eq_getElem?_getD, List.getElem?_map, hc, Option.map_some, aEv, Option.getD_some]
      have e2 := lS_ins (nu := nu) (t.1, a) l0.1
      simp only at e2
      rw [e2]
      simp only [lS, List.map_cons, List.sum_cons, e1, Int.mul_add] at this ⊢
      omega
    · cases h
theorem lSb_lt {sg : aSg} : ∀ (ts : List (Int × Nat)) (l : aLin), lSb sg ts = some l → ∀ t ∈ ts, t.2 < sg.1.length := by
  intro ts
  induction ts with
  | nil => intro l h t ht; cases ht
  | cons t ts ih =>
    intro l h u hu
    simp only [lSb] at h
    split at h
    · next l0 c h0 hc =>
      rcases List.mem_cons.mp hu with rfl | hu
      · exact (List.getElem?_eq_some_iff.mp hc).1
      · exact ih l0 h0 u hu
    · next l0 a c h0 hc =>
      rcases List.mem_cons.mp hu with rfl | hu
      · exact (List.getElem?_eq_some_iff.mp hc).1
      · exact ih l0 h0 u hu
    · cases h
theorem aMD_ok {sg : aSg} (k : aOk S h nu mu s) (hg : aGd nu mu sg) {e : aDf} (hd : aMD s sg e = true) : dfOk (aN nu sg) e := by
  cases e with
  | inl l =>
    simp only [aMD] at hd
    split at hd
    · next l2 hl2 =>
      have h1 := aPr_ok k hd
      have h2 := lSb_ok (nu := nu) _ _ hl2
      refine ⟨fun t ht => ?_, by rw [h2]; simp only at h1; omega⟩
      have := lSb_lt _ _ hl2 t ht
      simpa [aN] using this
    · cases hd
  | inr q =>
    obtain ⟨i, m⟩ := q
    simp only [aMD] at hd
    split at hd
    · next x hx =>
      obtain ⟨v, hv⟩ := hg.1 x (List.mem_of_getElem? hx)
      refine ⟨aEv nu x, by simp [aN, List.getElem?_map, hx], ?_⟩
      rw [← aEv_ok hv]
      exact aMul_ok k hv hd
    · cases hd
theorem aInst_ok {sg sg1 : aSg} {ps xs : List aV} {vs : List Value} (k : aOk S h nu mu s) (hg : aGd nu mu sg) (hs : aSt nu mu xs vs) (hi : aInst s sg p ps xs = some sg1) : aSx sg sg1 ∧ aGd nu mu sg1 ∧ aOk S h (aN nu sg1) (aU mu sg1) p ∧ aSt (aN nu sg1) (aU mu sg1) ps vs := by
  unfold aInst at hi
  split at hi
  · next sgA hA =>
    split at hi
    · next sgB hB =>
      split at hi
      · next sgC hC =>
        split at hi
        · next hc =>
          cases hi
          obtain ⟨eA, gA, aA⟩ := aML_ok hg hs hA
          obtain ⟨eB, gB, aB⟩ := aMF_ok k gA hB
          obtain ⟨eC, gC, aC⟩ := aMA_ok k gB hC
          refine ⟨(eA.tr eB).tr eC, gC, ⟨aZip2_ok k gC.1 hc.1, aZipT_ok k gC.2 hc.2.1, fun e he => (aB e he).x eC.x, aC, fun e he => ?_⟩, (aA.x eB.x).x eC.x⟩
          exact aMD_ok k gC (List.all_eq_true.mp hc.2.2 e he)
        · cases hi
      · cases hi
    · cases hi
  · cases hi
end AI2
