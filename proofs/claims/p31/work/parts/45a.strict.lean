/-! a run that looks at nothing but cells: it is the same for every script -/
def x0 : nX := fun _ _ _ => none
def z0 : Nat → Int32 := fun _ => 0
def aL0 (i : Instr) (st : List Value) : Bool := match i with
  | .arraylength => (match st with
    | .retAddr 0 :: _ => true
    | _ => false)
  | _ => false
def nj_sS (run : Nat → nM → nLv → List nC → Nat → Option nRes) (d : Nat) (mt : nM) (i : Instr) (a b : Nat) (v : Int) (pc : Nat) (lv : nLv) (st : List Value) (h : List nC) (g : Nat) : Option nS1 := match aL0 i st with
  | true => none
  | false => nj_step nj_M x0 0 z0 run d mt i a b v pc lv st h g
noncomputable def fnd (l : List nE) (pc : Nat) : Option nE := @List.rec nE (fun _ => Option nE) none (fun e _ ih => @Bool.rec (fun _ => Option nE) ih (some e) (Nat.beq e.1 pc)) l
theorem fnd_eq (pc : Nat) : ∀ (l : List nE), fnd l pc = l.find? (fun q => q.1 == pc)
  | [] => rfl
  | e :: t => by
    have h : fnd (e :: t) pc = @Bool.rec (fun _ => Option nE) (fnd t pc) (some e) (Nat.beq e.1 pc) := rfl
    rw [h, fnd_eq pc t]
    cases hb : Nat.beq e.1 pc with
    | true =>
      have : e.1 = pc := Nat.eq_of_beq_eq_true hb
      rw [List.find?_cons_of_pos (by simp [this])]
    | false =>
      have : ¬ e.1 = pc := Nat.ne_of_beq_eq_false hb
      rw [List.find?_cons_of_neg (by simp [this])]
noncomputable def nj_lS : Nat → Nat → nM → Nat → nLv → List Value → List nC → Nat → Nat → Nat → Option nRes
  | 0, _, _, _, _, _, _, _, _, _ => none
  | n + 1, d, mt, pc, lv, st, h, g, mc, ms =>
    match fnd mt.2.2.2.2.2 pc with
    | none => none
    | some (_, i, a, b, v, _) =>
      match nj_ret mt.2.2.2.1 i st with
      | some rv => some (rv, h, g, mc, ms)
      | none =>
        match nj_sS (fun d1 mz lv0 h0 g0 => nj_lS n d1 mz 0 lv0 [] h0 g0 0 0) d mt i a b v pc lv st h g with
        | none => none
        | some (pc1, lv1, st1, h1, g1, mc1, ms1) => nj_lS n d mt pc1 lv1 st1 h1 g1 (mc + mc1) (ms + ms1)
section STR
variable {X : nX} {L : Nat} {xs : Nat → Int32}
theorem memS {ini : Bool} {pc a b : Nat} {v : Int} {st : List Value} {h : List nC} (i : Instr) : (∀ (L : Nat) (xs : Nat → Int32), nj_mem L xs ini pc a b v st h i = nj_mem 0 z0 ini pc a b v st h i) ∨ i = .iaload ∨ i = .arraylength := by
  cases i <;> first | exact .inl (fun _ _ => rfl) | exact .inr (.inl rfl) | exact .inr (.inr rfl)
theorem callsS {M : Nat → Option nM} {run : Nat → nM → nLv → List nC → Nat → Option nRes} {d pc a b g : Nat} {v : Int} {lv : nLv} {st : List Value} {h : List nC} {i : Instr} {r : nS1} (hc : nj_calls M x0 run d pc i a b v lv st h g = some r) : nj_calls M X run d pc i a b v lv st h g = some r := by
  unfold nj_calls at hc ⊢
  by_cases hi : nj_isinv i = false
  · rw [if_pos hi] at hc; cases hc
  rw [if_neg hi] at hc ⊢
  by_cases h4 : v = 4
  · rw [if_pos h4] at hc ⊢; exact hc
  rw [if_neg h4] at hc ⊢
  by_cases h5 : v = 5
  · rw [if_pos h5] at hc ⊢; exact hc
  rw [if_neg h5] at hc ⊢
  by_cases h6 : v = 6
  · rw [if_pos h6] at hc
    split at hc
    · exact nomatch hc
    · cases hc
  rw [if_neg h6] at hc ⊢
  exact hc
theorem ialdS {pc : Nat} {st : List Value} {h : List nC} {r : Nat × List Value × List nC} (hr : nj_iald 0 z0 pc st h = some r) : nj_iald L xs pc st h = some r := by
  unfold nj_iald at hr ⊢
  split at hr
  · exact hr
  · next i j t =>
    unfold nj_xr at hr ⊢
    by_cases hj : j = 0
    · rw [if_pos hj] at hr
      simp only at hr
      split at hr
      · next hx =>
        simp only [nj_ix, Bool.and_eq_true, decide_eq_true_eq] at hx
        exact absurd hx.2 (Nat.not_lt_zero _)
      · cases hr
    · rw [if_neg hj] at hr ⊢
      exact hr
  · cases hr
theorem alenS {pc : Nat} {st : List Value} {h : List nC} {r : Nat × List Value × List nC} (h0 : aL0 .arraylength st = false) (hr : nj_alen 0 pc st h = some r) : nj_alen L pc st h = some r := by
  unfold nj_alen at hr ⊢
  split at hr
  · exact hr
  · next j t =>
    by_cases hj : j = 0
    · subst hj
      exact nomatch (show true = false from h0)
    · rw [if_neg hj] at hr ⊢
      exact hr
  · cases hr
theorem stepS {run run2 : Nat → nM → nLv → List nC → Nat → Option nRes} (hrun : ∀ d1 mz lv0 h0 g0 r, run d1 mz lv0 h0 g0 = some r → run2 d1 mz lv0 h0 g0 = some r) {d : Nat} {mt : nM} {i : Instr} {a b : Nat} {v : Int} {pc : Nat} {lv : nLv} {st : List Value} {h : List nC} {g : Nat} {r : nS1} (hs : nj_sS run d mt i a b v pc lv st h g = some r) : nj_step nj_M X L xs run2 d mt i a b v pc lv st h g = some r := by
  unfold nj_sS at hs
  split at hs
  · cases hs
  · next h0 =>
    have hs2 := nj_step_mono (run2 := run2) hrun hs
    unfold nj_step at hs2 ⊢
    cases hp : nj_pure lv mt.2.2.1 pc st i with
    | some q => rw [hp] at hs2; exact hs2
    | none =>
      rw [hp] at hs2
      simp only at hs2 ⊢
      rcases memS (ini := mt.1.name == "<init>") (pc := pc) (a := a) (b := b) (v := v) (st := st) (h := h) i with e | e | e
      · rw [e L xs]
        cases hm : nj_mem 0 z0 (mt.1.name == "<init>") pc a b v st h i with
        | some q => rw [hm] at hs2; exact hs2
        | none =>
          rw [hm] at hs2
          simp only at hs2 ⊢
          cases hn : nj_new pc a st h i with
          | some q => rw [hn] at hs2; exact hs2
          | none => rw [hn] at hs2; exact callsS hs2
      · subst e
        have hm : nj_mem 0 z0 (mt.1.name == "<init>") pc a b v st h .iaload = nj_iald 0 z0 pc st h := rfl
        have hm2 : nj_mem L xs (mt.1.name == "<init>") pc a b v st h .iaload = nj_iald L xs pc st h := rfl
        rw [hm] at hs2
        rw [hm2]
        cases he : nj_iald 0 z0 pc st h with
        | some q => rw [he] at hs2; rw [ialdS he]; exact hs2
        | none => rw [he] at hs2; exact nomatch hs2
      · subst e
        have hm : nj_mem 0 z0 (mt.1.name == "<init>") pc a b v st h .arraylength = nj_alen 0 pc st h := rfl
        have hm2 : nj_mem L xs (mt.1.name == "<init>") pc a b v st h .arraylength = nj_alen L pc st h := rfl
        rw [hm] at hs2
        rw [hm2]
        cases he : nj_alen 0 pc st h with
        | some q => rw [he] at hs2; rw [alenS h0 he]; exact hs2
        | none => rw [he] at hs2; exact nomatch hs2
theorem lS_run : ∀ (n d : Nat) (mt : nM) (pc : Nat) (lv : nLv) (st : List Value) (h : List nC) (g mc ms : Nat) (rv : Option Value) (h1 : List nC) (g1 mc1 ms1 : Nat), nj_lS n d mt pc lv st h g mc ms = some (rv, h1, g1, mc1, ms1) → ∃ mc2 ms2, nj_run nj_M X L xs n d mt pc lv st h g = some (rv, h1, g1, mc2, ms2) ∧ mc1 = mc + mc2 ∧ ms1 = ms + ms2 := by
  intro n
  induction n with
  | zero => intro d mt pc lv st h g mc ms rv h1 g1 mc1 ms1 hr; cases hr
  | succ n ih =>
    intro d mt pc lv st h g mc ms rv h1 g1 mc1 ms1 hr
    unfold nj_lS at hr
    rw [fnd_eq] at hr
    unfold nj_run
    cases hf : mt.2.2.2.2.2.find? (fun q => q.1 == pc) with
    | none => rw [hf] at hr; cases hr
    | some e =>
      obtain ⟨q, i, a, b, v, pos⟩ := e
      rw [hf] at hr
      simp only at hr ⊢
      cases hret : nj_ret mt.2.2.2.1 i st with
      | some rv0 =>
        rw [hret] at hr
        cases hr
        exact ⟨0, 0, rfl, rfl, rfl⟩
      | none =>
        rw [hret] at hr
        simp only at hr ⊢
        cases hs : nj_sS (fun d1 mz lv0 h0 g0 => nj_lS n d1 mz 0 lv0 [] h0 g0 0 0) d mt i a b v pc lv st h g with
        | none => rw [hs] at hr; cases hr
        | some res =>
          obtain ⟨pc2, lv2, st2, h2, g2, mc2, ms2⟩ := res
          rw [hs] at hr
          simp only at hr
          have hs2 := stepS (X := X) (L := L) (xs := xs) (run2 := fun d1 mz lv0 h0 g0 => nj_run nj_M X L xs n d1 mz 0 lv0 [] h0 g0) (fun d1 mz lv0 h0 g0 r hr => by
            obtain ⟨r1, r2, r3, r4, r5⟩ := r
            obtain ⟨m1, m2, e1, e2, e3⟩ := ih d1 mz 0 lv0 [] h0 g0 0 0 r1 r2 r3 r4 r5 hr
            rw [Nat.zero_add] at e2 e3
            subst e2
            subst e3
            exact e1) hs
          obtain ⟨m1, m2, e1, e2, e3⟩ := ih d mt pc2 lv2 st2 h2 g2 _ _ rv h1 g1 mc1 ms1 hr
          refine ⟨mc2 + m1, ms2 + m2, ?_, by omega, by omega⟩
          simp only [hs2, e1]
end STR
