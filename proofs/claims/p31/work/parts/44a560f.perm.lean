/-! the order of locals says nothing -/
def lvE (a b : nLv) : Prop := a.Perm b ∧ (a.map (fun q => q.1)).Nodup
theorem lvE_get {a b : nLv} (h : lvE a b) (k : Nat) : nj_get a k = nj_get b k := by
  obtain ⟨hp, hn⟩ := h
  unfold nj_get
  have hnb : (b.map (fun q => q.1)).Nodup := (hp.map _).nodup_iff.mp hn
  have uniq : ∀ (l : nLv), (l.map (fun q => q.1)).Nodup → ∀ q1 ∈ l, ∀ q2 ∈ l, q1.1 = q2.1 → q1 = q2 := by
    intro l
    induction l with
    | nil => intro _ q1 h1; cases h1
    | cons x l ih =>
      intro hnd q1 h1 q2 h2 e
      rw [List.map_cons, List.nodup_cons] at hnd
      rcases List.mem_cons.mp h1 with r1 | h1
      · rcases List.mem_cons.mp h2 with r2 | h2
        · rw [r1, r2]
        · exact absurd (List.mem_map.mpr ⟨q2, h2, (by rw [← e, r1])⟩) hnd.1
      · rcases List.mem_cons.mp h2 with r2 | h2
        · exact absurd (List.mem_map.mpr ⟨q1, h1, (by rw [e, r2])⟩) hnd.1
        · exact ih hnd.2 q1 h1 q2 h2 e
  cases ha : a.find? (fun q => q.1 == k) with
  | none =>
    rw [List.find?_eq_none] at ha
    have : b.find? (fun q => q.1 == k) = none := by
      rw [List.find?_eq_none]
      intro x hx
      exact ha x (hp.mem_iff.mpr hx)
    rw [this]
  | some q =>
    have h1 := List.mem_of_find?_eq_some ha
    have h2 : q.1 = k := by simpa using List.find?_some ha
    cases hb : b.find? (fun q => q.1 == k) with
    | none =>
      rw [List.find?_eq_none] at hb
      exact absurd (by simpa using h2) (hb q (hp.mem_iff.mp h1))
    | some q2 =>
      have h3 := List.mem_of_find?_eq_some hb
      have h4 : q2.1 = k := by simpa using List.find?_some hb
      rw [uniq b hnb q (hp.mem_iff.mp h1) q2 h3 (h2.trans h4.symm)]
theorem lvE_put {a b : nLv} (h : lvE a b) (i : Nat) (v : Value) : lvE (nj_put a i v) (nj_put b i v) := by
  refine ⟨List.Perm.cons _ (h.1.filter _), ?_⟩
  unfold nj_put
  rw [List.map_cons, List.nodup_cons]
  refine ⟨?_, ?_⟩
  · intro hm
    obtain ⟨q, hq, e⟩ := List.mem_map.mp hm
    have := (List.mem_filter.mp hq).2
    simp [e] at this
  · exact h.2.sublist (List.Sublist.map _ List.filter_sublist)
theorem lvE_put2 {a b : nLv} (h : lvE a b) (i : Nat) (v : Value) : lvE (nj_put2 a i v) (nj_put2 b i v) := by
  refine ⟨List.Perm.cons _ (h.1.filter _), ?_⟩
  unfold nj_put2
  rw [List.map_cons, List.nodup_cons]
  refine ⟨?_, ?_⟩
  · intro hm
    obtain ⟨q, hq, e⟩ := List.mem_map.mp hm
    have := (List.mem_filter.mp hq).2
    simp [e] at this
  · exact h.2.sublist (List.Sublist.map _ List.filter_sublist)
theorem pure_E {a b : nLv} {mL pc pc1 : Nat} {st st1 : List Value} {i : Instr} {a1 : nLv} (h : lvE a b) (e : nj_pure a mL pc st i = some (pc1, a1, st1)) : ∃ b1, nj_pure b mL pc st i = some (pc1, b1, st1) ∧ lvE a1 b1 := by
  have g := lvE_get h
  unfold nj_pure at e ⊢
  split at e
  all_goals (try simp only [nj_ldi, nj_ldl, nj_lda, nj_sti, nj_stl, nj_sta, nj_b2, nj_l2, nj_i1, nj_br, nj_go, nj_tab, g] at e ⊢)
  all_goals (repeat' (split at e))
  all_goals first
    | (cases e; done)
    | (cases e; exact ⟨_, rfl, h⟩)
    | (cases e; exact ⟨_, rfl, lvE_put h _ _⟩)
    | (cases e; exact ⟨_, rfl, lvE_put2 h _ _⟩)
    | (cases e; simp only [*, if_true, if_false, ite_true, ite_false, reduceIte]; first | exact ⟨_, rfl, h⟩ | exact ⟨_, rfl, lvE_put h _ _⟩ | exact ⟨_, rfl, lvE_put2 h _ _⟩)
theorem lvE.sy {a b : nLv} (h : lvE a b) : lvE b a := ⟨h.1.symm, (h.1.map _).nodup_iff.mp h.2⟩
theorem pure_E0 {a b : nLv} {mL pc : Nat} {st : List Value} {i : Instr} (h : lvE a b) (e : nj_pure a mL pc st i = none) : nj_pure b mL pc st i = none := by
  cases hb : nj_pure b mL pc st i with
  | none => rfl
  | some r =>
    obtain ⟨pc1, b1, st1⟩ := r
    obtain ⟨a1, e1, _⟩ := pure_E h.sy hb
    rw [e] at e1
    cases e1
theorem inv_E {M : Nat → Option nM} {run : Nat → nM → nLv → List nC → Nat → Option nRes} {d pc : Nat} {i : Instr} {x y : Nat} (a b : nLv) {st : List Value} {h : List nC} {g : Nat} : nj_inv M run d pc i x y a st h g = (nj_inv M run d pc i x y b st h g).map (fun r => (r.1, a, r.2.2)) := by
  unfold nj_inv
  cases d with
  | zero => rfl
  | succ d1 =>
    cases M x with
    | none => rfl
    | some mz =>
      dsimp only
      by_cases c : nj_pass mz i y st h = true
      · rw [if_pos c, if_pos c]
        cases run d1 mz (lv_args 0 (st.take y).reverse) h g with
        | none => rfl
        | some r => rfl
      · rw [if_neg c, if_neg c]; rfl
theorem calls_E0 {M : Nat → Option nM} {X : nX} {run : Nat → nM → nLv → List nC → Nat → Option nRes} {d pc : Nat} {i : Instr} {x y : Nat} {v : Int} (a b : nLv) {st : List Value} {h : List nC} {g : Nat} : nj_calls M X run d pc i x y v a st h g = (nj_calls M X run d pc i x y v b st h g).map (fun r => (r.1, a, r.2.2)) := by
  unfold nj_calls
  by_cases c0 : nj_isinv i = false
  · rw [if_pos c0, if_pos c0]; rfl
  rw [if_neg c0, if_neg c0]
  by_cases c4 : v = 4
  · rw [if_pos c4, if_pos c4]
    split
    · split <;> rfl
    · rfl
  rw [if_neg c4, if_neg c4]
  by_cases c5 : v = 5
  · rw [if_pos c5, if_pos c5]
    split
    · split <;> rfl
    · rfl
  rw [if_neg c5, if_neg c5]
  by_cases c6 : v = 6
  · rw [if_pos c6, if_pos c6]
    split
    · split <;> rfl
    · rfl
  rw [if_neg c6, if_neg c6]
  by_cases c7 : v = 7
  · rw [if_pos c7, if_pos c7]
    split
    · split <;> rfl
    · rfl
  rw [if_neg c7, if_neg c7]
  exact inv_E a b
theorem calls_E {M : Nat → Option nM} {X : nX} {run : Nat → nM → nLv → List nC → Nat → Option nRes} {d pc : Nat} {i : Instr} {x y : Nat} {v : Int} {a : nLv} {st : List Value} {h : List nC} {g : Nat} {r : nS1} (e : nj_calls M X run d pc i x y v a st h g = some r) (b : nLv) : r.2.1 = a ∧ nj_calls M X run d pc i x y v b st h g = some (r.1, b, r.2.2) := by
  have h1 := calls_E0 (M := M) (X := X) (run := run) (d := d) (pc := pc) (i := i) (x := x) (y := y) (v := v) (st := st) (h := h) (g := g) a a
  have h2 := calls_E0 (M := M) (X := X) (run := run) (d := d) (pc := pc) (i := i) (x := x) (y := y) (v := v) (st := st) (h := h) (g := g) b a
  rw [e] at h1 h2
  have h3 : r = (r.1, a, r.2.2) := Option.some.inj h1
  refine ⟨?_, h2⟩
  rw [h3]
theorem step_E {M : Nat → Option nM} {X : nX} {L : Nat} {xs : Nat → Int32} {run : Nat → nM → nLv → List nC → Nat → Option nRes} {d : Nat} {mt : nM} {i : Instr} {x y : Nat} {v : Int} {pc : Nat} {a b : nLv} {st : List Value} {h : List nC} {g : Nat} {r : nS1} (hE : lvE a b) (e : nj_step M X L xs run d mt i x y v pc a st h g = some r) : ∃ b1, nj_step M X L xs run d mt i x y v pc b st h g = some (r.1, b1, r.2.2) ∧ lvE r.2.1 b1 := by
  unfold nj_step at e ⊢
  cases hp : nj_pure a mt.2.2.1 pc st i with
  | some z =>
    obtain ⟨pc1, a1, st1⟩ := z
    obtain ⟨b1, e1, h1⟩ := pure_E hE hp
    rw [hp] at e
    rw [e1]
    cases e
    exact ⟨b1, rfl, h1⟩
  | none =>
    rw [hp] at e
    rw [pure_E0 hE hp]
    dsimp only at e ⊢
    cases hm : nj_mem L xs (mt.1.name == "<init>") pc x y v st h i with
    | some z =>
      rw [hm] at e
      cases e
      exact ⟨b, rfl, hE⟩
    | none =>
      rw [hm] at e
      dsimp only at e ⊢
      cases hn : nj_new pc x st h i with
      | some z =>
        rw [hn] at e
        dsimp only at e ⊢
        split at e
        · next hg =>
          rw [if_pos hg]
          cases e
          exact ⟨b, rfl, hE⟩
        · cases e
      | none =>
        rw [hn] at e
        dsimp only at e ⊢
        obtain ⟨e1, e2⟩ := calls_E e b
        exact ⟨b, e2, e1 ▸ hE⟩
theorem run_E {M : Nat → Option nM} {X : nX} {L : Nat} {xs : Nat → Int32} : ∀ (n d : Nat) (mt : nM) (pc : Nat) (a b : nLv) (st : List Value) (h : List nC) (g : Nat) (r : nRes), lvE a b → nj_run M X L xs n d mt pc a st h g = some r → nj_run M X L xs n d mt pc b st h g = some r := by
  intro n
  induction n with
  | zero => intro d mt pc a b st h g r _ e; cases e
  | succ n ih =>
    intro d mt pc a b st h g r hE e
    unfold nj_run at e ⊢
    cases hf : mt.2.2.2.2.2.find? (fun q => q.1 == pc) with
    | none => rw [hf] at e; cases e
    | some z =>
      obtain ⟨q, i, x, y, v, pos⟩ := z
      rw [hf] at e
      dsimp only at e ⊢
      cases hr : nj_ret mt.2.2.2.1 i st with
      | some rv =>
        rw [hr] at e
        exact e
      | none =>
        rw [hr] at e
        dsimp only at e ⊢
        cases hs : nj_step M X L xs (fun d1 mz lv0 h0 g0 => nj_run M X L xs n d1 mz 0 lv0 [] h0 g0) d mt i x y v pc a st h g with
        | none => rw [hs] at e; cases e
        | some w =>
          obtain ⟨pc1, a1, st1, h1, g1, mc1, ms1⟩ := w
          obtain ⟨b1, e1, hE1⟩ := step_E hE hs
          rw [hs] at e
          rw [e1]
          dsimp only at e ⊢
          cases hz : nj_run M X L xs n d mt pc1 a1 st1 h1 g1 with
          | none => rw [hz] at e; cases e
          | some w2 =>
            rw [hz] at e
            rw [ih d mt pc1 a1 b1 st1 h1 g1 w2 hE1 hz]
            exact e
def xins (q : Nat × Value) : nLv → nLv
  | [] => [q]
  | x :: r => match Nat.ble q.1 x.1 with
    | true => q :: x :: r
    | false => x :: xins q r
def xsort : nLv → nLv
  | [] => []
  | q :: r => xins q (xsort r)
def lvN : nLv → Bool
  | [] => true
  | q :: r => !(r.any (fun z => Nat.beq z.1 q.1)) && lvN r
theorem xins_p (q : Nat × Value) : ∀ r : nLv, (q :: r).Perm (xins q r) := by
  intro r
  induction r with
  | nil => exact List.Perm.refl _
  | cons x r ih =>
    unfold xins
    split
    · exact List.Perm.refl _
    · exact (List.Perm.swap x q r).trans (List.Perm.cons x ih)
theorem xsort_p : ∀ r : nLv, r.Perm (xsort r) := by
  intro r
  induction r with
  | nil => exact List.Perm.refl _
  | cons x r ih => exact (List.Perm.cons x ih).trans (xins_p x (xsort r))
theorem lvN_ok : ∀ {r : nLv}, lvN r = true → (r.map (fun q => q.1)).Nodup := by
  intro r
  induction r with
  | nil => intro _; exact List.nodup_nil
  | cons x r ih =>
    intro h
    unfold lvN at h
    rw [Bool.and_eq_true] at h
    rw [List.map_cons, List.nodup_cons]
    refine ⟨?_, ih h.2⟩
    intro hm
    obtain ⟨z, hz, e⟩ := List.mem_map.mp hm
    have h1 : r.any (fun z => Nat.beq z.1 x.1) = false := by simpa using h.1
    rw [List.any_eq_false] at h1
    exact h1 z hz (by rw [e]; exact Nat.beq_refl _)
theorem kT_sort {M : Nat → Option nM} {X : nX} {L : Nat} {xs : Nat → Int32} {d : Nat} {mt : nM} {Q : Option Value → List nC → Prop} {ks : List Nat} {h0 : List nC} {pc : Nat} {lv : nLv} {st : List Value} {l : nL} (hn : lvN lv = true) (k : kT M X L xs d mt Q ks h0 pc (xsort lv) st l) : kT M X L xs d mt Q ks h0 pc lv st l := by
  intro hks h hh hfr
  obtain ⟨n, rv, h1, e, q⟩ := k hks h hh hfr
  exact ⟨n, rv, h1, run_E n d mt pc _ _ st h 0 _ (lvE.sy ⟨xsort_p lv, lvN_ok hn⟩) e, q⟩
theorem kT_pic {M : Nat → Option nM} {X : nX} {L : Nat} {xs : Nat → Int32} {d : Nat} {mt : nM} {Q : Option Value → List nC → Prop} {ks : List Nat} {h0 : List nC} {pc : Nat} {lv : nLv} {st : List Value} {l l2 : nL} (h : l = l2) (k : kT M X L xs d mt Q ks h0 pc lv st l2) : kT M X L xs d mt Q ks h0 pc lv st l := h ▸ k
