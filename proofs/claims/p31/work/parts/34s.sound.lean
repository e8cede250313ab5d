abbrev cF : Type := nM × Nat × nLv × List Value
section ASD
variable {M : Nat → Option nM} {X : nX} {L : Nat} {xs : Nat → Int32} {g : Nat}
def tR (M : Nat → Option nM) (X : nX) (L : Nat) (xs : Nat → Int32) (g : Nat) (Q : Option Value → List nC → Prop) : List cF → Nat → Option Value → List nC → Prop
  | [], _, rv, h => Q rv h
  | f :: r, d, rv, h => nT M X L xs g d f.1 (fun rv2 h2 => tR M X L xs g Q r (d + 1) rv2 h2) f.2.1 f.2.2.1 (rv.toList ++ f.2.2.2) h
def nG (M : Nat → Option nM) (X : nX) (L : Nat) (xs : Nat → Int32) (g : Nat) (Q : Option Value → List nC → Prop) (d : Nat) (h : List nC) : List cF → Prop
  | [] => False
  | f :: r => nT M X L xs g d f.1 (fun rv2 h2 => tR M X L xs g Q r (d + 1) rv2 h2) f.2.1 f.2.2.1 f.2.2.2 h
def aFR (M : Nat → Option nM) (nu : List Int) (mu : List Nat) : List aF → List cF → Prop
  | [], [] => True
  | a :: as, f :: fs => (M a.1 = some f.1 ∧ a.2.1 = f.2.1 ∧ aLv nu mu a.2.2.1 f.2.2.1 ∧ aSt nu mu a.2.2.2 f.2.2.2) ∧ aFR M nu mu as fs
  | _, _ => False
theorem aFR.x {nu nu1 : List Int} {mu mu1 : List Nat} (e : aX nu mu nu1 mu1) : ∀ {as : List aF} {fs : List cF}, aFR M nu mu as fs → aFR M nu1 mu1 as fs
  | [], [], _ => trivial
  | [], _ :: _, h => h
  | _ :: _, [], h => h
  | _ :: _, _ :: _, h => ⟨⟨h.1.1, h.1.2.1, h.1.2.2.1.x e, h.1.2.2.2.x e⟩, aFR.x e h.2⟩
theorem aFR.len {nu : List Int} {mu : List Nat} : ∀ {as : List aF} {fs : List cF}, aFR M nu mu as fs → as.length = fs.length
  | [], [], _ => rfl
  | [], _ :: _, h => h.elim
  | _ :: _, [], h => h.elim
  | _ :: _, _ :: _, h => by simp [aFR.len h.2]
theorem nj_ret_none {rt : Option FieldType} {i : Instr} {st : List Value} (h : nj_isret i = false) : nj_ret rt i st = none := by
  cases i <;> first | rfl | cases h
theorem aRetV_ok {S : List Nat} {h : List nC} {nu : List Int} {mu : List Nat} {s : aS} {rt : Option FieldType} {i : Instr} {ast : List aV} {st : List Value} {o : Option aV} (k : aOk S h nu mu s) (hs : aSt nu mu ast st) (hr : aRetV s rt i ast = some o) : ∃ rv, nj_ret rt i st = some rv ∧ aRes nu mu o rv := by
  cases i with
  | ireturn =>
    simp only [aRetV] at hr
    split at hr
    · next x =>
      split at hr
      · next hc =>
        cases hr
        obtain ⟨v, r, rfl, hx, hr⟩ := hs.cons
        cases r with
        | cons w r => exact hr.elim
        | nil =>
          obtain ⟨y, rfl, h1, h2⟩ := aIv_ok k.1 hc.1 hx
          refine ⟨some (.int y), ?_, hx⟩
          rcases hc.2 with e | ⟨e, e1, e2⟩
          · subst e
            simp only [nj_ret]
            rw [if_pos (vp_nar_int y)]
          · subst e
            have : y = 0 ∨ y = 1 := by
              have : y.toInt = 0 ∨ y.toInt = 1 := by omega
              rcases this with q | q
              · exact Or.inl (Int32.toInt_inj.mp q)
              · exact Or.inr (Int32.toInt_inj.mp q)
            rcases this with rfl | rfl <;> rfl
      · cases hr
    · cases hr
  | lreturn =>
    simp only [aRetV] at hr
    split at hr
    · next x =>
      split at hr
      · next hc =>
        cases hr
        obtain ⟨v, r, rfl, hx, hr⟩ := hs.cons
        cases r with
        | cons w r => exact hr.elim
        | nil =>
          obtain ⟨y, rfl⟩ := aIsL_v hc.1 hx
          exact ⟨some (.long y), by simp only [nj_ret, if_pos hc.2], hx⟩
      · cases hr
    · cases hr
  | return_ =>
    simp only [aRetV] at hr
    split at hr
    · next hc =>
      cases hr
      obtain ⟨rfl, rfl⟩ := hc
      cases st with
      | nil => exact ⟨none, rfl, trivial⟩
      | cons v r => exact hs.elim
    · cases hr
  | _ => exact nomatch (show (none : Option (Option aV)) = some o from hr)
theorem aId_N {nu0 nu : List Int} {mu0 mu : List Nat} (e : aX nu0 mu0 nu mu) : aN nu (aId nu0.length mu0.length) = nu0 ∧ aU mu (aId nu0.length mu0.length) = mu0 ∧ aGd nu mu (aId nu0.length mu0.length) := by
  refine ⟨?_, ?_, fun x hx => ?_, fun y hy => ?_⟩
  · apply List.ext_getElem?
    intro i
    simp only [aN, aId, List.map_map, List.getElem?_map]
    by_cases hi : i < nu0.length
    · rw [List.getElem?_range hi]
      have := e.nu (List.getElem?_eq_getElem hi)
      simp only [Option.map_some, Function.comp, aEv, List.getD_eq_getElem?_getD, this, Option.getD_some, Int.add_zero]
      rw [List.getElem?_eq_getElem hi]
    · rw [List.getElem?_eq_none (by simp; omega), List.getElem?_eq_none (by omega)]
      rfl
  · apply List.ext_getElem?
    intro i
    simp only [aU, aId, List.getElem?_map]
    by_cases hi : i < mu0.length
    · rw [List.getElem?_range hi]
      have := e.mu (List.getElem?_eq_getElem hi)
      simp only [Option.map_some, List.getD_eq_getElem?_getD, this, Option.getD_some]
      rw [List.getElem?_eq_getElem hi]
    · rw [List.getElem?_eq_none (by simp; omega), List.getElem?_eq_none (by omega)]
      rfl
  · obtain ⟨i, hi, rfl⟩ := List.mem_map.mp hx
    have hi2 := List.mem_range.mp hi
    exact ⟨Int32.ofInt nu0[i], nu0[i], e.nu (List.getElem?_eq_getElem hi2), by rw [Int.add_zero]⟩
  · have hi2 := List.mem_range.mp hy
    exact ⟨mu0[y], e.mu (List.getElem?_eq_getElem hi2)⟩
theorem aEnd_ok {S : List Nat} {h : List nC} {nu0 nu : List Int} {mu0 mu : List Nat} {s : aS} {o : Option aV} {rv : Option Value} {po : aS × Option aV} (e : aX nu0 mu0 nu mu) (k : aOk S h nu mu s) (hr : aRes nu mu o rv) (he : aEnd s nu0.length mu0.length o po = true) : ∃ nu1 mu1, aX nu0 mu0 nu1 mu1 ∧ aOk S h nu1 mu1 po.1 ∧ aRes nu1 mu1 po.2 rv := by
  obtain ⟨e1, e2, e3⟩ := aId_N e
  unfold aEnd at he
  split at he
  · next hp =>
    obtain ⟨sg, hsg⟩ := Option.isSome_iff_exists.mp he
    obtain ⟨x1, x2, x3, x4⟩ := aInst_ok (xs := []) (vs := []) k e3 trivial hsg
    have := x1.x (nu := nu) (mu := mu)
    rw [e1, e2] at this
    rw [hp]
    cases rv with
    | none => exact ⟨_, _, this, x3, trivial⟩
    | some v => exact hr.elim
  · next p x hp =>
    obtain ⟨sg, hsg⟩ := Option.isSome_iff_exists.mp he
    cases rv with
    | none => exact hr.elim
    | some v =>
      obtain ⟨x1, x2, x3, x4⟩ := aInst_ok (xs := [x]) (vs := [v]) k e3 ⟨hr, trivial⟩ hsg
      have := x1.x (nu := nu) (mu := mu)
      rw [e1, e2] at this
      rw [hp]
      exact ⟨_, _, this, x3, x4.1⟩
  · cases he
theorem lv_args_ge : ∀ (vs : List Value) (i : Nat) (q : Nat × Value), q ∈ lv_args i vs → i ≤ q.1 := by
  intro vs
  induction vs with
  | nil => intro i q h; cases h
  | cons v vs ih =>
    intro i q h
    rcases List.mem_cons.mp h with rfl | h
    · exact Nat.le_refl _
    · have := ih _ q h
      split at this <;> omega
theorem aArgs_ge : ∀ (as : List aV) (i : Nat) (q : Nat × aV), q ∈ aArgs i as → i ≤ q.1 := by
  intro as
  induction as with
  | nil => intro i q h; cases h
  | cons a as ih =>
    intro i q h
    rcases List.mem_cons.mp h with rfl | h
    · exact Nat.le_refl _
    · have := ih _ q h
      omega
theorem aArgs_ok {nu : List Int} {mu : List Nat} : ∀ (as : List aV) (vs : List Value) (i : Nat), aSt nu mu as vs → aLv nu mu (aArgs i as) (lv_args i vs) := by
  intro as
  induction as with
  | nil => intro vs i h e he; cases he
  | cons a as ih =>
    intro vs i h e he
    obtain ⟨v, r, rfl, ha, hr⟩ := h.cons
    have hcat := aR_cat ha
    have hstep : (if v.category = 2 then i + 2 else i + 1) = i + aCat a := by
      have : aCat a = 1 ∨ aCat a = 2 := by
        unfold aCat
        split <;> simp
      rw [hcat]
      rcases this with q | q <;> simp [q]
    rcases List.mem_cons.mp he with rfl | he
    · exact ⟨v, by simp [lv_args, nj_get], ha⟩
    · obtain ⟨w, g1, g2⟩ := ih r (i + aCat a) hr e he
      refine ⟨w, ?_, g2⟩
      have hge := aArgs_ge as _ e he
      have hc1 : 1 ≤ aCat a := by
        unfold aCat
        split <;> simp
      have hne : (i == e.1) = false := by
        simp only [beq_eq_false_iff_ne, ne_eq]
        omega
      simp only [lv_args, hstep, nj_get, List.find?_cons, hne]
      exact g1
theorem aSum_ok {nu : List Int} {mu : List Nat} : ∀ {as : List aV} {vs : List Value}, aSt nu mu as vs → nj_sum vs = aSum as := by
  intro as
  induction as with
  | nil => intro vs h; cases vs with
    | nil => rfl
    | cons v vs => exact h.elim
  | cons a as ih =>
    intro vs h
    obtain ⟨v, r, rfl, ha, hr⟩ := h.cons
    have := ih hr
    simp only [nj_sum, aSum, List.map_cons, List.sum_cons, aR_cat ha] at this ⊢
    omega
theorem aSt_len {nu : List Int} {mu : List Nat} : ∀ {as : List aV} {vs : List Value}, aSt nu mu as vs → as.length = vs.length := by
  intro as
  induction as with
  | nil => intro vs h; cases vs with
    | nil => rfl
    | cons v vs => exact h.elim
  | cons a as ih =>
    intro vs h
    obtain ⟨v, r, rfl, ha, hr⟩ := h.cons
    simp [ih hr]
theorem aSt_take {nu : List Int} {mu : List Nat} : ∀ {as : List aV} {vs : List Value} (n : Nat), aSt nu mu as vs → aSt nu mu (as.take n) (vs.take n) ∧ aSt nu mu (as.drop n) (vs.drop n) := by
  intro as
  induction as with
  | nil => intro vs n h; cases vs with
    | nil => simp [aSt]
    | cons v vs => exact h.elim
  | cons a as ih =>
    intro vs n h
    obtain ⟨v, r, rfl, ha, hr⟩ := h.cons
    cases n with
    | zero => exact ⟨trivial, ha, hr⟩
    | succ n => exact ⟨⟨ha, (ih n hr).1⟩, (ih n hr).2⟩
theorem aSt_app {nu : List Int} {mu : List Nat} : ∀ {as bs : List aV} {vs ws : List Value}, aSt nu mu as vs → aSt nu mu bs ws → aSt nu mu (as ++ bs) (vs ++ ws) := by
  intro as
  induction as with
  | nil => intro bs vs ws h1 h2; cases vs with
    | nil => exact h2
    | cons v vs => exact h1.elim
  | cons a as ih =>
    intro bs vs ws h1 h2
    obtain ⟨v, r, rfl, ha, hr⟩ := h1.cons
    exact ⟨ha, ih hr h2⟩
theorem aSt_rev {nu : List Int} {mu : List Nat} : ∀ {as : List aV} {vs : List Value}, aSt nu mu as vs → aSt nu mu as.reverse vs.reverse := by
  intro as
  induction as with
  | nil => intro vs h; cases vs with
    | nil => trivial
    | cons v vs => exact h.elim
  | cons a as ih =>
    intro vs h
    obtain ⟨v, r, rfl, ha, hr⟩ := h.cons
    simp only [List.reverse_cons]
    exact aSt_app (ih hr) ⟨ha, trivial⟩
theorem lg_sl_sum (vs : List Value) : (lg_sl vs).length = nj_sum vs := by
  induction vs with
  | nil => rfl
  | cons v vs ih =>
    simp only [lg_sl, List.flatMap_cons, List.length_append, nj_sum, List.map_cons, List.sum_cons] at ih ⊢
    rw [ih]
    rcases lv_cat v with e | e <;> simp [e]
theorem nj_sum_rev (vs : List Value) : nj_sum vs.reverse = nj_sum vs := by
  simp [nj_sum, List.sum_reverse]
end ASD
