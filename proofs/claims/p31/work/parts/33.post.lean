/-! what is promised of a method: its number, how deep it goes, the state and arguments that it begins with, what it may change, how it can end -/
abbrev nK : Type := Nat × Nat × aS × List aV × List (Nat × Nat) × List Nat × List (aS × Option aV)
def aRes (nu : List Int) (mu : List Nat) (o : Option aV) (rv : Option Value) : Prop := match o, rv with
  | none, none => True
  | some a, some v => aR nu mu a v
  | _, _ => False
def nV (M : Nat → Option nM) (X : nX) (L : Nat) (xs : Nat → Int32) (g : Nat) (FT : Nat → Nat → Option fTy) (AT : Nat → Option aTy) (S : List Nat) (J : List nC → Prop) (c : nK) : Prop :=
  ∀ (d : Nat), c.2.1 ≤ d → ∀ (mt : nM), M c.1 = some mt → ∀ (h : List nC) (nu : List Int) (mu : List Nat) (vs : List Value), J h → tOk FT AT S h → aOk S h nu mu c.2.2.1 → aSt nu mu c.2.2.2.1 vs →
  nT M X L xs g d mt (fun rv h1 => J h1 ∧ tOk FT AT S h1 ∧ nFr c.2.2.2.2.1 c.2.2.2.2.2.1 S h h1 ∧ ∃ po ∈ c.2.2.2.2.2.2, ∃ nu1 mu1, aX nu mu nu1 mu1 ∧ aOk S h1 nu1 mu1 po.1 ∧ aRes nu1 mu1 po.2 rv) 0 (lv_args 0 vs) [] h
/-- the names behind a call -/
def aSgP (s : aS) (sg : aSg) (po : aS) : aSg := (sg.1 ++ (List.range (po.1.length - sg.1.length)).map (fun k => aSym (s.1.length + k)), sg.2 ++ (List.range (po.2.1.length - sg.2.length)).map (fun k => s.2.1.length + k))
def aKf (s : aS) (mf : List (Nat × Nat)) (e : Nat × Nat × aV) : Bool := match s.2.1[e.1]? with
  | some t => !decide ((t, e.2.1) ∈ mf)
  | none => false
def aKa (s : aS) (ma : List Nat) (e : Nat × aV × aV) : Bool := match s.2.1[e.1]? with
  | some t => !decide (t ∈ ma)
  | none => false
def aSbJ (sg : aSg) (j : Nat) : Nat := (sg.2[j]?).getD 0
def aSbD (sg : aSg) (e : aDf) : List aDf := match e with
  | .inl l => (match lSb sg l.1 with
    | some l2 => [.inl (l2.1, l2.2 + l.2)]
    | none => [])
  | .inr (i, m) => (match sg.1[i]? with
    | some (.inr (.inl (a, c))) => if c = 0 then [.inr (a, m)] else []
    | _ => [])
theorem lSb_lt2 {nu : List Int} {mu : List Nat} {sg : aSg} (hg : aGd nu mu sg) : ∀ (ts : List (Int × Nat)) (l : aLin), lSb sg ts = some l → ∀ t ∈ l.1, t.2 < nu.length := by
  have hins : ∀ (u : Int × Nat) (l : List (Int × Nat)) (n : Nat), u.2 < n → (∀ t ∈ l, t.2 < n) → ∀ t ∈ lIns u l, t.2 < n := by
    intro u l n hu
    induction l with
    | nil => intro _ t ht; rw [List.mem_singleton.mp ht]; exact hu
    | cons v l ih =>
      intro hl t ht
      unfold lIns at ht
      split at ht
      · rcases List.mem_cons.mp ht with rfl | ht
        · exact hl v List.mem_cons_self
        · exact hl t (List.mem_cons_of_mem _ ht)
      · rcases List.mem_cons.mp ht with rfl | ht
        · exact hl _ List.mem_cons_self
        · exact ih (fun w hw => hl w (List.mem_cons_of_mem _ hw)) t ht
  intro ts
  induction ts with
  | nil => intro l h t ht; cases h; cases ht
  | cons t ts ih =>
    intro l h u hu
    simp only [lSb] at h
    split at h
    · next l0 c h0 hc => cases h; exact ih l0 h0 u hu
    · next l0 a c h0 hc =>
      cases h
      obtain ⟨v, z, hz, -⟩ := hg.1 _ (List.mem_of_getElem? hc)
      exact hins _ _ _ (List.getElem?_eq_some_iff.mp hz).1 (ih l0 h0) u hu
    · cases h
/-- the caller's state behind a call -/
def aPost (s : aS) (sg : aSg) (mf : List (Nat × Nat)) (ma : List Nat) (po : aS) : aS :=
  (s.1 ++ po.1.drop sg.1.length, s.2.1 ++ po.2.1.drop sg.2.length,
   po.2.2.1.map (fun e => (aSbJ (aSgP s sg po) e.1, e.2.1, aSb (aSgP s sg po) e.2.2)) ++ s.2.2.1.filter (aKf s mf),
   po.2.2.2.1.map (fun e => (aSbJ (aSgP s sg po) e.1, aSb (aSgP s sg po) e.2.1, aSb (aSgP s sg po) e.2.2)) ++ s.2.2.2.1.filter (aKa s ma),
   po.2.2.2.2.flatMap (aSbD (aSgP s sg po)) ++ s.2.2.2.2)
section APO
variable {S : List Nat} {h h1 : List nC} {nu : List Int} {mu : List Nat} {s po : aS} {sg : aSg}
theorem aEv_x {nu1 : List Int} {mu1 : List Nat} (X : aX nu mu nu1 mu1) {x : aV} {v : Int32} (h : aR nu mu x (.int v)) : aEv nu1 x = aEv nu x := by
  unfold aR at h
  split at h
  · rfl
  · next i c =>
    obtain ⟨z, hz, -⟩ := h
    simp only [aEv, List.getD_eq_getElem?_getD, hz, X.nu hz]
  · obtain ⟨z, -, e⟩ := h; cases e
  · cases h
  · obtain ⟨z, e⟩ := h; cases e
theorem aSb_fwd {a : aV} {v : Value} (hg : aGd nu mu sg) (h : aR (aN nu sg) (aU mu sg) a v) : aR nu mu (aSb sg a) v := by
  unfold aR at h
  split at h
  · exact h
  · next i c =>
    obtain ⟨z, hz, rfl⟩ := h
    simp only [aN, List.getElem?_map, Option.map_eq_some_iff] at hz
    obtain ⟨x, hx, hzx⟩ := hz
    obtain ⟨v0, hv0⟩ := hg.1 x (List.mem_of_getElem? hx)
    have hv := aEv_ok hv0
    simp only [aSb, hx]
    have := aAdd_ok hv0 c
    rw [hv, hzx, a32_add] at this
    exact this
  · next j =>
    obtain ⟨q, hq, rfl⟩ := h
    simp only [aU, List.getElem?_map, Option.map_eq_some_iff] at hq
    obtain ⟨y, hy, hqy⟩ := hq
    obtain ⟨q2, hq2⟩ := hg.2 y (List.mem_of_getElem? hy)
    simp only [aSb, hy]
    refine ⟨q, ?_, rfl⟩
    rw [← hqy, List.getD_eq_getElem?_getD, hq2]
    rfl
  · exact h
  · exact h
theorem aPost_ok {FT : Nat → Nat → Option fTy} {AT : Nat → Option aTy} {mf : List (Nat × Nat)} {ma : List Nat} {nu1 : List Int} {mu1 : List Nat} {o : Option aV} {rv : Option Value} (hT : tOk FT AT S h) (k : aOk S h nu mu s) (hg : aGd nu mu sg) (hF : nFr mf ma S h h1) (X : aX (aN nu sg) (aU mu sg) nu1 mu1) (kp : aOk S h1 nu1 mu1 po) (hr : aRes nu1 mu1 o rv) :
    ∃ nu2 mu2, aX nu mu nu2 mu2 ∧ aOk S h1 nu2 mu2 (aPost s sg mf ma po) ∧ aRes nu2 mu2 (o.map (aSb (aSgP s sg po))) rv := by
  obtain ⟨l, r, el, er⟩ := X
  have hn0 : (aN nu sg).length = sg.1.length := by simp [aN]
  have hu0 : (aU mu sg).length = sg.2.length := by simp [aU]
  have hpl : po.1.length = sg.1.length + l.length := by rw [kp.1.1, el, List.length_append, hn0]
  have hpt : po.2.1.length = sg.2.length + r.length := by rw [kp.2.1.1, er, List.length_append, hu0]
  have X2 : aX nu mu (nu ++ l) (mu ++ r) := ⟨l, r, rfl, rfl⟩
  have hsl : s.1.length = nu.length := k.1.1
  have htl : s.2.1.length = mu.length := k.2.1.1
  have hN : aN (nu ++ l) (aSgP s sg po) = nu1 := by
    rw [el]
    simp only [aN, aSgP, List.map_append, List.map_map]
    congr 1
    · apply List.map_congr_left
      intro x hx
      obtain ⟨v, hv⟩ := hg.1 x hx
      exact aEv_x X2 hv
    · apply List.ext_getElem?
      intro i
      rw [List.getElem?_map]
      by_cases hi : i < l.length
      · rw [List.getElem?_range (by omega)]
        simp only [Option.map_some, Function.comp, aEv, List.getD_eq_getElem?_getD]
        rw [List.getElem?_append_right (by omega)]
        have : s.1.length + i - nu.length = i := by omega
        rw [this, List.getElem?_eq_getElem hi]
        simp
      · rw [List.getElem?_eq_none (by simp; omega), List.getElem?_eq_none (by omega)]
        rfl
  have hU : aU (mu ++ r) (aSgP s sg po) = mu1 := by
    rw [er]
    simp only [aU, aSgP, List.map_append, List.map_map]
    congr 1
    · apply List.map_congr_left
      intro y hy
      obtain ⟨q, hq⟩ := hg.2 y hy
      rw [List.getD_eq_getElem?_getD, List.getD_eq_getElem?_getD, X2.mu hq, hq]
    · apply List.ext_getElem?
      intro i
      rw [List.getElem?_map]
      by_cases hi : i < r.length
      · rw [List.getElem?_range (by omega)]
        simp only [Option.map_some, Function.comp, List.getD_eq_getElem?_getD]
        rw [List.getElem?_append_right (by omega)]
        have : s.2.1.length + i - mu.length = i := by omega
        rw [this, List.getElem?_eq_getElem hi]
        rfl
      · rw [List.getElem?_eq_none (by simp; omega), List.getElem?_eq_none (by omega)]
        rfl
  have hG : aGd (nu ++ l) (mu ++ r) (aSgP s sg po) := by
    refine ⟨fun x hx => ?_, fun y hy => ?_⟩
    · rcases List.mem_append.mp hx with hx | hx
      · obtain ⟨v, hv⟩ := hg.1 x hx
        exact ⟨v, hv.x X2⟩
      · obtain ⟨i, hi, rfl⟩ := List.mem_map.mp hx
        have hi2 : i < l.length := by have := List.mem_range.mp hi; omega
        refine ⟨Int32.ofInt l[i], l[i], ?_, by rw [Int.add_zero]⟩
        rw [List.getElem?_append_right (by omega)]
        have : s.1.length + i - nu.length = i := by omega
        rw [this, List.getElem?_eq_getElem hi2]
    · rcases List.mem_append.mp hy with hy | hy
      · obtain ⟨q, hq⟩ := hg.2 y hy
        exact ⟨q, X2.mu hq⟩
      · obtain ⟨i, hi, rfl⟩ := List.mem_map.mp hy
        have hi2 : i < r.length := by have := List.mem_range.mp hi; omega
        refine ⟨r[i], ?_⟩
        rw [List.getElem?_append_right (by omega)]
        have : s.2.1.length + i - mu.length = i := by omega
        rw [this, List.getElem?_eq_getElem hi2]
  have fwd : ∀ {a : aV} {v : Value}, aR nu1 mu1 a v → aR (nu ++ l) (mu ++ r) (aSb (aSgP s sg po) a) v := by
    intro a v ha
    rw [← hN, ← hU] at ha
    exact aSb_fwd hG ha
  have fwj : ∀ {j q : Nat}, mu1[j]? = some q → (mu ++ r)[aSbJ (aSgP s sg po) j]? = some q := by
    intro j q hj
    have := fwd (a := aRef j) ⟨q, hj, rfl⟩
    unfold aSbJ
    rw [← hU, aU, List.getElem?_map, Option.map_eq_some_iff] at hj
    obtain ⟨y, hy, -⟩ := hj
    simp only [aSb, hy] at this
    rw [hy]
    obtain ⟨q2, h2, e2⟩ := this
    cases e2
    exact h2
  refine ⟨nu ++ l, mu ++ r, X2, ⟨⟨?_, fun i z rg h1' h2' => ?_⟩, ⟨?_, fun j q t h1' h2' => ?_⟩, fun e he => ?_, fun e he => ?_, fun e he => ?_⟩, ?_⟩
  · simp [aPost, k.1.1, hpl]
  · simp only [aPost] at h2'
    by_cases hi : i < nu.length
    · rw [List.getElem?_append_left hi] at h1'
      rw [List.getElem?_append_left (by omega)] at h2'
      exact k.1.2 i z rg h1' h2'
    · rw [List.getElem?_append_right (by omega)] at h1' h2'
      rw [List.getElem?_drop] at h2'
      refine kp.1.2 (sg.1.length + (i - s.1.length)) z rg ?_ h2'
      rw [el, List.getElem?_append_right (by omega)]
      rw [← h1']
      congr 1
      omega
  · simp [aPost, k.2.1.1, hpt]
  · simp only [aPost] at h2'
    by_cases hi : j < mu.length
    · rw [List.getElem?_append_left hi] at h1'
      rw [List.getElem?_append_left (by omega)] at h2'
      exact k.2.1.2 j q t h1' h2'
    · rw [List.getElem?_append_right (by omega)] at h1' h2'
      rw [List.getElem?_drop] at h2'
      refine kp.2.1.2 (sg.2.length + (j - s.2.1.length)) q t ?_ h2'
      rw [er, List.getElem?_append_right (by omega)]
      rw [← h1']
      congr 1
      omega
  · rcases List.mem_append.mp he with he | he
    · obtain ⟨e0, h0, rfl⟩ := List.mem_map.mp he
      obtain ⟨q, ci, fs, v, g1, g2, g3, g4⟩ := kp.2.2.1 e0 h0
      exact ⟨q, ci, fs, v, fwj g1, g2, g3, fwd g4⟩
    · obtain ⟨he1, he2⟩ := List.mem_filter.mp he
      obtain ⟨q, ci, fs, v, g1, g2, g3, g4⟩ := k.2.2.1 e he1
      unfold aKf at he2
      split at he2
      · next t ht =>
        have htag := k.tag g1 ht
        obtain ⟨c, c1, c2⟩ := hT q t htag
        cases c1.symm.trans g2
        obtain ⟨fs1, f1, f2⟩ := (hF q t htag).1 ⟨_, c2.1⟩ ci fs g2
        simp only [Bool.not_eq_true', decide_eq_false_iff_not] at he2
        exact ⟨q, ci, fs1, v, X2.mu g1, f1, (f2 _ he2).trans g3, g4.x X2⟩
      · cases he2
  · rcases List.mem_append.mp he with he | he
    · obtain ⟨e0, h0, rfl⟩ := List.mem_map.mp he
      obtain ⟨q, kd, n, f, i, g1, g2, g3, g4⟩ := kp.2.2.2.1 e0 h0
      exact ⟨q, kd, n, f, i, fwj g1, g2, fwd g3, fwd g4⟩
    · obtain ⟨he1, he2⟩ := List.mem_filter.mp he
      obtain ⟨q, kd, n, f, i, g1, g2, g3, g4⟩ := k.2.2.2.1 e he1
      unfold aKa at he2
      split at he2
      · next t ht =>
        have htag := k.tag g1 ht
        obtain ⟨c, c1, c2⟩ := hT q t htag
        cases c1.symm.trans g2
        simp only [Bool.not_eq_true', decide_eq_false_iff_not] at he2
        exact ⟨q, kd, n, f, i, X2.mu g1, by rw [(hF q t htag).2 c2.1 he2]; exact g2, g3.x X2, g4.x X2⟩
      · cases he2
  · rcases List.mem_append.mp he with he | he
    · obtain ⟨e0, h0, he0⟩ := List.mem_flatMap.mp he
      have hd := kp.2.2.2.2 e0 h0
      unfold aSbD at he0
      split at he0
      · next l0 =>
        split at he0
        · next l2 hl2 =>
          have := List.mem_singleton.mp he0
          subst this
          have h3 := lSb_ok (nu := nu ++ l) _ _ hl2
          rw [hN] at h3
          have h4 := hd.2
          have hlt := lSb_lt2 hG _ _ hl2
          refine ⟨hlt, ?_⟩
          show lS (nu ++ l) l2.1 + (l2.2 + l0.2) ≤ 0
          omega
        · cases he0
      · next i m =>
        split at he0
        · next a c hx =>
          split at he0
          · next hc =>
            subst hc
            have := List.mem_singleton.mp he0
            subst this
            obtain ⟨x, d1, d2⟩ := hd
            rw [← hN, aN, List.getElem?_map, hx, Option.map_some] at d1
            obtain ⟨v1, hv1⟩ := hG.1 _ (List.mem_of_getElem? hx)
            obtain ⟨z1, hz1, -⟩ := hv1
            simp only [aEv, List.getD_eq_getElem?_getD, hz1, Option.getD_some, Option.some.injEq, Int.add_zero] at d1
            subst d1
            exact ⟨z1, hz1, d2⟩
          · cases he0
        · cases he0
    · exact (k.2.2.2.2 e he).x X2
  · unfold aRes at hr ⊢
    split at hr
    · trivial
    · exact fwd hr
    · exact hr.elim
end APO
