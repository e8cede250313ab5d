/-! one state as an instance of another: names of the pattern stand for known values -/
abbrev aSg : Type := List aV × List Nat
/-- what a named number of the pattern is -/
def aEv (nu : List Int) (a : aV) : Int := match a with
  | .inl c => c
  | .inr (.inl (i, c)) => nu.getD i 0 + c
  | _ => 0
def aM1 (sg : aSg) (p x : aV) : Option aSg := match p with
  | .inl c => if x = .inl c then some sg else none
  | .inr (.inl (i, c)) => if c = 0 ∧ aIsI x = true then (if i < sg.1.length then (if sg.1[i]? = some x then some sg else none) else if i = sg.1.length then some (sg.1 ++ [x], sg.2) else none) else none
  | .inr (.inr (.inl j)) => match x with
    | .inr (.inr (.inl y)) => if j < sg.2.length then (if sg.2[j]? = some y then some sg else none) else if j = sg.2.length then some (sg.1, sg.2 ++ [y]) else none
    | _ => none
  | .inr (.inr (.inr (.inl k))) => if x = .inr (.inr (.inr (.inl k))) then some sg else none
  | .inr (.inr (.inr (.inr _))) => if aIsL x = true then some sg else none
def aML (sg : aSg) : List aV → List aV → Option aSg
  | [], [] => some sg
  | p :: ps, x :: xs => match aM1 sg p x with
    | some sg1 => aML sg1 ps xs
    | none => none
  | _, _ => none
/-- a value of the pattern in the names at hand -/
def aSb (sg : aSg) (a : aV) : aV := match a with
  | .inr (.inl (i, c)) => match sg.1[i]? with
    | some x => aAdd x c
    | none => a
  | .inr (.inr (.inl j)) => match sg.2[j]? with
    | some y => .inr (.inr (.inl y))
    | none => a
  | x => x
def aMF (s : aS) (sg : aSg) : List (Nat × Nat × aV) → Option aSg
  | [] => some sg
  | e :: es => match sg.2[e.1]? with
    | some y => match s.2.2.1.find? (fun q => q.1 == y && q.2.1 == e.2.1) with
      | some q => match aM1 sg e.2.2 q.2.2 with
        | some sg1 => aMF s sg1 es
        | none => none
      | none => none
    | none => none
def aKn (sg : aSg) (a : aV) : Bool := match a with
  | .inl _ => true
  | .inr (.inl (i, _)) => decide (i < sg.1.length)
  | _ => false
def aMA (s : aS) (sg : aSg) : List (Nat × aV × aV) → Option aSg
  | [] => some sg
  | e :: es => match sg.2[e.1]? with
    | some y => match s.2.2.2.1.find? (fun q => q.1 == y && decide (q.2.1 = aSb sg e.2.1)) with
      | some q => match aM1 sg e.2.2 q.2.2 with
        | some sg1 => if aKn sg e.2.1 = true then aMA s sg1 es else none
        | none => none
      | none => none
    | none => none
/-- the whole numbers' range, not cut to an int's -/
def aRw (rho : aRho) (a : aV) : Option (Int × Int) := match a with
  | .inl c => some (c, c)
  | .inr (.inl (i, c)) => match rho[i]? with
    | some r => some (r.1 + c, r.2 + c)
    | none => none
  | _ => none
def aRin (rho : aRho) (x : aV) (r : Int × Int) : Bool := match aRw rho x with
  | some q => decide (r.1 ≤ q.1) && decide (q.2 ≤ r.2)
  | none => false
def lSb (sg : aSg) : List (Int × Nat) → Option aLin
  | [] => some ([], 0)
  | t :: r => match lSb sg r, sg.1[t.2]? with
    | some l, some (.inl c) => some (l.1, l.2 + t.1 * c)
    | some l, some (.inr (.inl (a, c))) => some (lIns (t.1, a) l.1, l.2 + t.1 * c)
    | _, _ => none
def aMD (s : aS) (sg : aSg) (e : aDf) : Bool := match e with
  | .inl l => (match lSb sg l.1 with
    | some l2 => aPr s (l2.1, l2.2 + l.2)
    | none => false)
  | .inr (i, m) => (match sg.1[i]? with
    | some x => aMul s m x
    | none => false)
/-- the range by what is known beside ranges -/
def aRinF (s : aS) (x : aV) (r : Int × Int) : Bool := match x with
  | .inr (.inl (i, c)) => aPr s ([(-1, i)], r.1 - c) && aPr s ([(1, i)], c - r.2)
  | _ => false
def aZip2 : List aV → aRho → aS → Bool
  | [], [], _ => true
  | x :: xs, r :: rs, s => (aRin s.1 x r || aRinF s x r) && aZip2 xs rs s
  | _, _, _ => false
def aZipT : List Nat → List Nat → List Nat → Bool
  | [], [], _ => true
  | y :: ys, t :: ts, tau => decide (tau[y]? = some t) && aZipT ys ts tau
  | _, _, _ => false
/-- the state at hand and the values xs are an instance of the pattern p with ps -/
def aInst (s : aS) (sg : aSg) (p : aS) (ps xs : List aV) : Option aSg := match aML sg ps xs with
  | some sg1 => match aMF s sg1 p.2.2.1 with
    | some sg2 => match aMA s sg2 p.2.2.2.1 with
      | some sg3 => if aZip2 sg3.1 p.1 s = true ∧ aZipT sg3.2 p.2.1 s.2.1 = true ∧ p.2.2.2.2.all (aMD s sg3) = true then some sg3 else none
      | none => none
    | none => none
  | none => none
section AIN
variable {S : List Nat} {h : List nC} {nu : List Int} {mu : List Nat} {s p : aS}
/-- the pattern's names -/
def aN (nu : List Int) (sg : aSg) : List Int := sg.1.map (aEv nu)
def aU (mu : List Nat) (sg : aSg) : List Nat := sg.2.map (fun y => mu.getD y 0)
/-- all that the names stand for is there -/
def aGd (nu : List Int) (mu : List Nat) (sg : aSg) : Prop := (∀ x ∈ sg.1, ∃ v : Int32, aR nu mu x (.int v)) ∧ ∀ y ∈ sg.2, ∃ q : Nat, mu[y]? = some q
theorem aEv_ok {x : aV} {v : Int32} (h : aR nu mu x (.int v)) : v = Int32.ofInt (aEv nu x) := by
  unfold aR at h
  split at h
  · cases h; rfl
  · next i c =>
    obtain ⟨z, hz, e⟩ := h
    cases e
    simp only [aEv, List.getD_eq_getElem?_getD, hz, Option.getD_some]
  · obtain ⟨z, -, e⟩ := h; cases e
  · cases h
  · obtain ⟨z, e⟩ := h; cases e
/-- sg2 knows more names than sg -/
def aSx (sg sg2 : aSg) : Prop := (∃ l, sg2.1 = sg.1 ++ l) ∧ ∃ r, sg2.2 = sg.2 ++ r
theorem aSx.rf {sg : aSg} : aSx sg sg := ⟨⟨[], by simp⟩, ⟨[], by simp⟩⟩
theorem aSx.tr {a b c : aSg} (h1 : aSx a b) (h2 : aSx b c) : aSx a c := by
  obtain ⟨⟨l, e1⟩, ⟨r, e2⟩⟩ := h1
  obtain ⟨⟨l2, e3⟩, ⟨r2, e4⟩⟩ := h2
  exact ⟨⟨l ++ l2, by rw [e3, e1]; simp⟩, ⟨r ++ r2, by rw [e4, e2]; simp⟩⟩
theorem aSx.x {sg sg2 : aSg} (h : aSx sg sg2) : aX (aN nu sg) (aU mu sg) (aN nu sg2) (aU mu sg2) := by
  obtain ⟨⟨l, e1⟩, ⟨r, e2⟩⟩ := h
  exact ⟨l.map (aEv nu), r.map (fun y => mu.getD y 0), by simp [aN, e1], by simp [aU, e2]⟩
theorem aM1_ok {sg sg1 : aSg} {pt x : aV} {v : Value} (hg : aGd nu mu sg) (hx : aR nu mu x v) (hm : aM1 sg pt x = some sg1) : aSx sg sg1 ∧ aGd nu mu sg1 ∧ aR (aN nu sg1) (aU mu sg1) pt v := by
  unfold aM1 at hm
  split at hm
  · next c =>
    split at hm
    · next e => cases hm; subst e; exact ⟨aSx.rf, hg, hx⟩
    · cases hm
  · next i c =>
    split at hm
    · next hc =>
      obtain ⟨rfl, hxi⟩ := hc
      obtain ⟨v0, rfl⟩ := aIsI_v hxi hx
      have hev := aEv_ok hx
      split at hm
      · split at hm
        · next e =>
          cases hm
          refine ⟨aSx.rf, hg, aEv nu x, ?_, by rw [Int.add_zero, hev]⟩
          simp only [aN, List.getElem?_map, e, Option.map_some]
        · cases hm
      · split at hm
        · next e =>
          cases hm
          refine ⟨⟨⟨[x], rfl⟩, ⟨[], by simp⟩⟩, ⟨fun y hy => ?_, hg.2⟩, aEv nu x, ?_, by rw [Int.add_zero, hev]⟩
          · rcases List.mem_append.mp hy with hy | hy
            · exact hg.1 y hy
            · have := List.mem_singleton.mp hy; subst this; exact ⟨v0, hx⟩
          · simp only [aN, List.map_append, List.map_cons, List.map_nil]
            rw [List.getElem?_append_right (by simp [e])]
            simp [e]
        · cases hm
    · cases hm
  · next j =>
    split at hm
    · next y =>
      obtain ⟨q, hq, rfl⟩ := hx
      have hgd : mu.getD y 0 = q := by rw [List.getD_eq_getElem?_getD, hq]; rfl
      split at hm
      · split at hm
        · next e =>
          cases hm
          refine ⟨aSx.rf, hg, q, ?_, rfl⟩
          simp only [aU, List.getElem?_map, e, Option.map_some, hgd]
        · cases hm
      · split at hm
        · next e =>
          cases hm
          refine ⟨⟨⟨[], by simp⟩, ⟨[y], rfl⟩⟩, ⟨hg.1, fun z hz => ?_⟩, q, ?_, rfl⟩
          · rcases List.mem_append.mp hz with hz | hz
            · exact hg.2 z hz
            · have := List.mem_singleton.mp hz; subst this; exact ⟨q, hq⟩
          · simp only [aU, List.map_append, List.map_cons, List.map_nil, hgd]
            rw [List.getElem?_append_right (by simp [e])]
            simp [e]
        · cases hm
    · cases hm
  · next kx =>
    split at hm
    · next e => cases hm; subst e; exact ⟨aSx.rf, hg, hx⟩
    · cases hm
  · split at hm
    · next e => cases hm; exact ⟨aSx.rf, hg, aIsL_v e hx⟩
    · cases hm
theorem aML_ok : ∀ {ps xs : List aV} {vs : List Value} {sg sg1 : aSg}, aGd nu mu sg → aSt nu mu xs vs → aML sg ps xs = some sg1 → aSx sg sg1 ∧ aGd nu mu sg1 ∧ aSt (aN nu sg1) (aU mu sg1) ps vs := by
  intro ps
  induction ps with
  | nil =>
    intro xs vs sg sg1 hg hs hm
    cases xs with
    | nil =>
      cases hm
      cases vs with
      | nil => exact ⟨aSx.rf, hg, trivial⟩
      | cons v vs => exact hs.elim
    | cons x xs => cases hm
  | cons p0 ps ih =>
    intro xs vs sg sg1 hg hs hm
    cases xs with
    | nil => cases hm
    | cons x xs =>
      simp only [aML] at hm
      split at hm
      · next sg0 h0 =>
        obtain ⟨v, r, rfl, hx, hr⟩ := hs.cons
        obtain ⟨e1, g1, a1⟩ := aM1_ok hg hx h0
        obtain ⟨e2, g2, a2⟩ := ih g1 hr hm
        exact ⟨e1.tr e2, g2, a1.x e2.x, a2⟩
      · cases hm
theorem aMF_ok (k : aOk S h nu mu s) : ∀ {es : List (Nat × Nat × aV)} {sg sg1 : aSg}, aGd nu mu sg → aMF s sg es = some sg1 → aSx sg sg1 ∧ aGd nu mu sg1 ∧ ∀ e ∈ es, fcOk (aN nu sg1) (aU mu sg1) h e := by
  intro es
  induction es with
  | nil => intro sg sg1 hg hm; cases hm; exact ⟨aSx.rf, hg, fun e he => by cases he⟩
  | cons e es ih =>
    intro sg sg1 hg hm
    simp only [aMF] at hm
    split at hm
    · next y hy =>
      split at hm
      · next q hq =>
        split at hm
        · next sg0 h0 =>
          have hm2 := List.mem_of_find?_eq_some hq
          have hp := List.find?_some hq
          simp only [Bool.and_eq_true, beq_iff_eq] at hp
          obtain ⟨q2, ci, fs, v, g1, g2, g3, g4⟩ := k.2.2.1 q hm2
          obtain ⟨e1, gd1, a1⟩ := aM1_ok hg g4 h0
          obtain ⟨e2, gd2, a2⟩ := ih gd1 hm
          refine ⟨e1.tr e2, gd2, fun z hz => ?_⟩
          rcases List.mem_cons.mp hz with rfl | hz
          · refine ⟨q2, ci, fs, v, ?_, g2, by rw [← hp.2]; exact g3, a1.x e2.x⟩
            refine (e1.tr e2).x.mu (nu := aN nu sg) (nu1 := aN nu sg1) ?_
            simp only [aU, List.getElem?_map, hy, Option.map_some, List.getD_eq_getElem?_getD]
            rw [← hp.1, g1]
            rfl
          · exact a2 z hz
        · cases hm
      · cases hm
    · cases hm
theorem aAdd_ev {x : aV} {v : Int32} (h : aR nu mu x (.int v)) (c : Int) : aEv nu (aAdd x c) = aEv nu x + c := by
  unfold aR at h
  split at h
  · rfl
  · simp only [aAdd, aEv]; omega
  · obtain ⟨z, -, e⟩ := h; cases e
  · cases h
  · obtain ⟨z, e⟩ := h; cases e
/-- what a value of the pattern is, in the names at hand -/
theorem aSb_back {sg : aSg} {a : aV} {v : Int32} (hg : aGd nu mu sg) (hi : aIsI a = true) (h : aR nu mu (aSb sg a) (.int v)) (hs : ∀ i c, a = .inr (.inl (i, c)) → i < sg.1.length) : aR (aN nu sg) (aU mu sg) a (.int v) := by
  unfold aIsI at hi
  split at hi
  · exact h
  · next q =>
    obtain ⟨i, c⟩ := q
    have hlt := hs i c rfl
    obtain ⟨x, hx⟩ : ∃ x, sg.1[i]? = some x := ⟨_, List.getElem?_eq_getElem hlt⟩
    simp only [aSb, hx] at h
    obtain ⟨v0, hv0⟩ := hg.1 x (List.mem_of_getElem? hx)
    refine ⟨aEv nu x, by simp [aN, List.getElem?_map, hx], ?_⟩
    rw [aEv_ok h, aAdd_ev hv0]
  · cases hi
end AIN
