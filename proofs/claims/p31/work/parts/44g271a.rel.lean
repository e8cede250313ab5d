/-! what holds of every family that is read -/
def hX (H : Hs) : Prop := H.1.2.1.length ≤ 10 ∧ (∀ o ∈ H.2.1.2.1, ∀ q, o = some q → q < 10) ∧ (∀ e ∈ H.2.2.1, e.2.1 < H.1.1.length ∧ e.2.2.1 < H.1.1.length) ∧ (∀ l ∈ H.2.2.2, ∀ s ∈ l, s < H.1.1.length) ∧ H.2.2.1.length = H.1.2.2.1.length
section FOK
variable {T : Nat → Tk}
theorem sBind_r {α β : Type} {r : Rs α} {f : Nat → α → Rs β} {x : Nat × β} (h : sBind r f = .inr x) : ∃ p a, r = .inr (p, a) ∧ f p a = .inr x := by
  cases r with
  | inl e => cases h
  | inr z => exact ⟨z.1, z.2, rfl, h⟩
theorem sKno_lt {p q k : Nat} {ns : List (List Nat)} (h : sKno T p ns = .inr (q, k)) : k < ns.length := by
  rw [sKno_ok] at h
  cases e : kn3 T p ns with
  | inl z => rw [e] at h; cases h
  | inr k2 =>
    rw [e] at h
    have e2 : k2 = k := by
      cases h
      rfl
    exact e2 ▸ kn3_lt e
theorem sBeg_lt {c most p q : Nat} {H : Hs} {w : List Nat} (h : sBeg T c most p H = .inr (q, w)) : ¬ c = most := by
  intro e
  rw [sBeg_fr, if_pos e] at h
  cases h
theorem sSts_ok {ns : List (List Nat)} : ∀ (k p : Nat) (acc : List Nat) (q : Nat) (ss : List Nat), (∀ s ∈ acc, s < ns.length) → sSts T k p acc ns = .inr (q, ss) → ∀ s ∈ ss, s < ns.length := by
  intro k
  induction k with
  | zero => intro p acc q ss _ h; cases h
  | succ k ih =>
    intro p acc q ss ha h
    unfold sSts at h
    split at h
    · cases h
      exact ha
    · obtain ⟨p1, s, h1, h2⟩ := sBind_r h
      have hs := sKno_lt h1
      split at h2
      · cases h2
      · refine ih _ _ _ _ (fun x hx => ?_) h2
        rcases List.mem_append.mp hx with hx | hx
        · exact ha x hx
        · rw [List.mem_singleton.mp hx]
          exact hs
theorem hX_step {p q : Nat} {H H2 : Hs} (x : hX H) (h : sStep T p H = .inr (q, H2)) : hX H2 := by
  obtain ⟨p1, w, -, h⟩ := sBind_r h
  cases h
  have e : (H.1.1 ++ [w]).length = H.1.1.length + 1 := by rw [List.length_append]; rfl
  refine ⟨x.1, x.2.1, fun z hz => ?_, fun l hl s hs => ?_, x.2.2.2.2⟩
  · have k := x.2.2.1 z hz
    show z.2.1 < (H.1.1 ++ [w]).length ∧ z.2.2.1 < (H.1.1 ++ [w]).length
    omega
  · have k := x.2.2.2.1 l hl s hs
    show s < (H.1.1 ++ [w]).length
    omega
theorem hX_pers {p q : Nat} {H H2 : Hs} (x : hX H) (h : sPers T p H = .inr (q, H2)) : hX H2 := by
  obtain ⟨p1, w, hb, h⟩ := sBind_r h
  obtain ⟨p2, y, -, h⟩ := sBind_r h
  have hl := sBeg_lt hb
  have x1 := x.1
  have e : (H.1.2.1 ++ [w]).length = H.1.2.1.length + 1 := by rw [List.length_append]; rfl
  have hle : (H.1.2.1 ++ [w]).length ≤ 10 := by omega
  split at h
  · obtain ⟨p3, i, hk, h⟩ := sBind_r h
    have hi := sKno_lt hk
    split at h
    · cases h
    · cases h
      refine ⟨hle, fun o ho r hr => ?_, x.2.2.1, x.2.2.2.1, x.2.2.2.2⟩
      rcases List.mem_append.mp ho with ho | ho
      · exact x.2.1 o ho r hr
      · rw [List.mem_singleton.mp ho] at hr
        cases hr
        omega
  · cases h
    refine ⟨hle, fun o ho r hr => ?_, x.2.2.1, x.2.2.2.1, x.2.2.2.2⟩
    rcases List.mem_append.mp ho with ho | ho
    · exact x.2.1 o ho r hr
    · rw [List.mem_singleton.mp ho] at hr
      cases hr
theorem hX_god {p q : Nat} {H H2 : Hs} (x : hX H) (h : sGod T p H = .inr (q, H2)) : hX H2 := by
  obtain ⟨p1, i, -, h⟩ := sBind_r h
  split at h
  · cases h
  · obtain ⟨p2, j, -, h⟩ := sBind_r h
    split at h
    · cases h
    · cases h
      exact x
theorem hX_care {p q : Nat} {H H2 : Hs} (x : hX H) (h : sCare T p H = .inr (q, H2)) : hX H2 := by
  obtain ⟨p1, i, -, h⟩ := sBind_r h
  split at h
  · cases h
  · obtain ⟨p2, j, -, h⟩ := sBind_r h
    cases h
    exact x
theorem hX_err {p q : Nat} {H H2 : Hs} (x : hX H) (h : sErr T p H = .inr (q, H2)) : hX H2 := by
  obtain ⟨p1, w, -, h⟩ := sBind_r h
  obtain ⟨p2, o, -, h⟩ := sBind_r h
  obtain ⟨p3, f, hf, h⟩ := sBind_r h
  obtain ⟨p4, t, ht, h⟩ := sBind_r h
  have h1 := sKno_lt hf
  have h2 := sKno_lt ht
  split at h
  · cases h
  · obtain ⟨p5, a, -, h⟩ := sBind_r h
    obtain ⟨p6, b, -, h⟩ := sBind_r h
    obtain ⟨p7, c, -, h⟩ := sBind_r h
    cases h
    refine ⟨x.1, x.2.1, fun z hz => ?_, x.2.2.2.1, ?_⟩
    · rcases List.mem_append.mp hz with hz | hz
      · exact x.2.2.1 z hz
      · rw [List.mem_singleton.mp hz]
        exact ⟨h1, h2⟩
    · have e := x.2.2.2.2
      show (H.2.2.1 ++ [(o, f, t, a, b, c)]).length = (H.1.2.2.1 ++ [w]).length
      rw [List.length_append, List.length_append, e]
      rfl
theorem hX_deed {p q : Nat} {H H2 : Hs} (x : hX H) (h : sDeed T p H = .inr (q, H2)) : hX H2 := by
  obtain ⟨p1, w, -, h⟩ := sBind_r h
  obtain ⟨p2, ss, hs, h⟩ := sBind_r h
  have h1 := sSts_ok 14 p1 [] p2 ss (fun s hs => (nomatch hs)) hs
  cases h
  refine ⟨x.1, x.2.1, x.2.2.1, fun l hl => ?_, x.2.2.2.2⟩
  rcases List.mem_append.mp hl with hl | hl
  · exact x.2.2.2.1 l hl
  · rw [List.mem_singleton.mp hl]
    exact h1
theorem hX_line {p q : Nat} {H H2 : Hs} (x : hX H) (h : sLine T p H = .inr (q, H2)) : hX H2 := by
  unfold sLine at h
  split at h
  · exact hX_step x h
  · split at h
    · exact hX_pers x h
    · split at h
      · exact hX_god x h
      · split at h
        · exact hX_care x h
        · split at h
          · exact hX_err x h
          · split at h
            · exact hX_deed x h
            · cases h
theorem hX_fam {long : Bool} : ∀ (k p : Nat) (H : Hs) (ln : Nat) (H2 : Hs) (l2 : Nat), hX H → sFam T long k p H ln = .inr (H2, l2) → hX H2 := by
  intro k
  induction k with
  | zero => intro p H ln H2 l2 _ h; cases h
  | succ k ih =>
    intro p H ln H2 l2 x h
    unfold sFam at h
    split at h
    · split at h
      · cases h
      · cases h
        exact x
    · split at h
      · cases h
      · next p1 H1 hl =>
        split at h
        · exact ih _ _ _ _ _ (hX_line x hl) h
        · cases h
theorem hX_0 : hX Hs0 := ⟨by decide, fun o ho => (nomatch (show o ∈ ([] : List (Option Nat)) from ho)), fun o ho => (nomatch (show o ∈ ([] : List (Nat × Nat × Nat × Nat × Nat × Nat)) from ho)), fun o ho => (nomatch (show o ∈ ([] : List (List Nat)) from ho)), rfl⟩
end FOK
/-! houses on both sides say the same -/
def hEq (z w : Ho) : Prop := (∀ i, i < 4 → w.1 i = z.1 i) ∧ (∀ i, i < 26 → w.2.1 i = z.2.1 i) ∧ (∀ i, i < 10 → w.2.2.1 i = z.2.2.1 i) ∧ (∀ i, i < 10 → w.2.2.2.1 i = z.2.2.2.1 i) ∧ (∀ i, i < 10 → w.2.2.2.2.1 i = z.2.2.2.2.1 i) ∧ (∀ i, i < 10 → w.2.2.2.2.2.1 i = z.2.2.2.2.2.1 i) ∧ (∀ i, i < 6 → w.2.2.2.2.2.2.1 i = z.2.2.2.2.2.2.1 i) ∧ (∀ i, i < 6 → w.2.2.2.2.2.2.2.1 i = z.2.2.2.2.2.2.2.1 i) ∧ (∀ i, i < 6 → w.2.2.2.2.2.2.2.2.1 i = z.2.2.2.2.2.2.2.2.1 i) ∧ (∀ i, i < 6 → w.2.2.2.2.2.2.2.2.2.1 i = z.2.2.2.2.2.2.2.2.2.1 i) ∧ (∀ i, i < 6 → w.2.2.2.2.2.2.2.2.2.2.1 i = z.2.2.2.2.2.2.2.2.2.2.1 i) ∧ (∀ i, i < 6 → w.2.2.2.2.2.2.2.2.2.2.2.1 i = z.2.2.2.2.2.2.2.2.2.2.2.1 i) ∧ (∀ i, i < 4 → w.2.2.2.2.2.2.2.2.2.2.2.2.1 i = z.2.2.2.2.2.2.2.2.2.2.2.2.1 i) ∧ (∀ i, i < 48 → w.2.2.2.2.2.2.2.2.2.2.2.2.2.1 i = z.2.2.2.2.2.2.2.2.2.2.2.2.2.1 i) ∧ w.2.2.2.2.2.2.2.2.2.2.2.2.2.2.1 = z.2.2.2.2.2.2.2.2.2.2.2.2.2.2.1 ∧ w.2.2.2.2.2.2.2.2.2.2.2.2.2.2.2 = z.2.2.2.2.2.2.2.2.2.2.2.2.2.2.2
theorem cpy_at {α : Type} (f g : Nat → α) {n i : Nat} (h : i < n) : va_cpy f g 0 0 n i = f i := by
  unfold va_cpy
  rw [if_pos ⟨Nat.zero_le _, by omega⟩, Nat.zero_add, Nat.sub_zero]
theorem cpH_eq (z y : Ho) : hEq z (cpH z y) := ⟨fun _ hi => cpy_at _ _ hi, fun _ hi => cpy_at _ _ hi, fun _ hi => cpy_at _ _ hi, fun _ hi => cpy_at _ _ hi, fun _ hi => cpy_at _ _ hi, fun _ hi => cpy_at _ _ hi, fun _ hi => cpy_at _ _ hi, fun _ hi => cpy_at _ _ hi, fun _ hi => cpy_at _ _ hi, fun _ hi => cpy_at _ _ hi, fun _ hi => cpy_at _ _ hi, fun _ hi => cpy_at _ _ hi, fun _ hi => cpy_at _ _ hi, fun _ hi => cpy_at _ _ hi, rfl, rfl⟩
theorem hoR_cg {H : Hs} {z w : Ho} (h : hoR H z) (e : hEq z w) : hoR H w := by
  obtain ⟨n1, n2, ⟨c0, c1, c2, c3⟩, b1, b2, b3, b4, b5, b6, b7⟩ := h
  obtain ⟨e0, e1, e2, e3, e4, e5, e6, e7, e8, e9, e10, e11, e12, e13, e14, e15⟩ := e
  obtain ⟨l1, l2, l3, l4, -, -⟩ := id n1
  exact ⟨n1, ⟨n2.1, fun k hk => (e1 k hk).trans (n2.2.1 k hk), n2.2.2⟩, ⟨(e0 0 (by decide)).trans c0, (e0 1 (by decide)).trans c1, (e0 2 (by decide)).trans c2, (e0 3 (by decide)).trans c3⟩, b1,
    fun i hi => ⟨(e2 i (by omega)).trans (b2 i hi).1, (b2 i hi).2⟩, fun i hi => (e3 i hi).trans (b3 i hi), fun i hi => ⟨(e4 i hi).trans (b4 i hi).1, (b4 i hi).2⟩,
    fun i hi => ⟨(e5 i hi).trans (b5 i hi).1, (congrArg (fun q => bt q i) e14).trans (b5 i hi).2⟩,
    fun i hi => ⟨(e6 i (by omega)).trans (b6 i hi).1, (e7 i (by omega)).trans (b6 i hi).2.1, (e8 i (by omega)).trans (b6 i hi).2.2.1, (e9 i (by omega)).trans (b6 i hi).2.2.2.1, (e10 i (by omega)).trans (b6 i hi).2.2.2.2.1, (e11 i (by omega)).trans (b6 i hi).2.2.2.2.2⟩,
    fun i hi => ⟨(b7 i hi).1, (e12 i (by omega)).trans (b7 i hi).2.1, fun j hj => (e13 (12 * i + j) (by have := (b7 i hi).1; omega)).trans ((b7 i hi).2.2 j hj)⟩⟩
def rsR (H : Hs) (s : Nat → Int32) : Prop := nmOk H.1 ∧ cnQ s H.1 ∧ ∃ crs, rhB H s crs
theorem rsR_cg {H : Hs} {s t : Nat → Int32} (h : rsR H s) (e : ∀ i, i < 132 → t i = s i) : rsR H t := by
  obtain ⟨n1, ⟨c0, c1, c2, c3⟩, crs, b1, b2, b3, b4, b5, b6, b7, b8⟩ := h
  obtain ⟨l1, l2, l3, l4, -, -⟩ := id n1
  exact ⟨n1, ⟨(e 0 (by decide)).trans c0, (e 1 (by decide)).trans c1, (e 2 (by decide)).trans c2, (e 3 (by decide)).trans c3⟩, crs, b1,
    fun i hi => ⟨(e _ (by omega)).trans (b2 i hi).1, (b2 i hi).2⟩, fun i hi => (e _ (by omega)).trans (b3 i hi), fun i hi => ⟨(e _ (by omega)).trans (b4 i hi).1, (b4 i hi).2⟩, fun i hi => (e _ (by omega)).trans (b5 i hi), b6,
    fun i hi => ⟨(e _ (by omega)).trans (b7 i hi).1, (e _ (by omega)).trans (b7 i hi).2.1, (e _ (by omega)).trans (b7 i hi).2.2.1, (e _ (by omega)).trans (b7 i hi).2.2.2.1, (e _ (by omega)).trans (b7 i hi).2.2.2.2.1, (e _ (by omega)).trans (b7 i hi).2.2.2.2.2⟩,
    fun i hi => ⟨(b8 i hi).1, (e _ (by omega)).trans (b8 i hi).2.1, fun j hj => (e _ (by have := (b8 i hi).1; omega)).trans ((b8 i hi).2.2 j hj)⟩⟩
/-- both houses are empty, or both hold H -/
def hQ (z : Ho) (s : Nat → Int32) : Prop := (∀ i, i < 4 → z.1 i = 0 ∧ s i = 0) ∨ ∃ H, hoR H z ∧ rsR H s ∧ hX H
theorem hQ_cg {z w : Ho} {s t : Nat → Int32} (h : hQ z s) (e : hEq z w) (f : ∀ i, i < 132 → t i = s i) : hQ w t := by
  rcases h with h | ⟨H, a, b, x⟩
  · exact Or.inl (fun i hi => ⟨(e.1 i hi).trans (h i hi).1, (f i (by omega)).trans (h i hi).2⟩)
  · exact Or.inr ⟨H, hoR_cg a e, rsR_cg b f, x⟩
theorem hEq_rf (z : Ho) : hEq z z := ⟨fun _ _ => rfl, fun _ _ => rfl, fun _ _ => rfl, fun _ _ => rfl, fun _ _ => rfl, fun _ _ => rfl, fun _ _ => rfl, fun _ _ => rfl, fun _ _ => rfl, fun _ _ => rfl, fun _ _ => rfl, fun _ _ => rfl, fun _ _ => rfl, fun _ _ => rfl, rfl, rfl⟩
theorem hQ_n {z : Ho} {s : Nat → Int32} (h : hQ z s) : ∀ i, i < 4 → z.1 i = s i := by
  rcases h with h | ⟨H, a, b, x⟩
  · exact fun i hi => (h i hi).1.trans (h i hi).2.symm
  · obtain ⟨-, -, ⟨c0, c1, c2, c3⟩, -⟩ := a
    obtain ⟨-, ⟨d0, d1, d2, d3⟩, -⟩ := b
    intro i hi
    match i, hi with
    | 0, _ => exact c0.trans d0.symm
    | 1, _ => exact c1.trans d1.symm
    | 2, _ => exact c2.trans d2.symm
    | 3, _ => exact c3.trans d3.symm
theorem celI {k n : Nat} {f g : Nat → Int32} (e : (some (.inl (k, n, .inl f)) : Option nC) = some (.inl (k, n, .inl g))) : f = g := by cases e; rfl
theorem celL {k n : Nat} {f g : Nat → Int64} (e : (some (.inl (k, n, .inr (.inl f))) : Option nC) = some (.inl (k, n, .inr (.inl g)))) : f = g := by cases e; rfl
theorem celO {c : Nat} {f g : List Value} (e : (some (.inr (c, f)) : Option nC) = some (.inr (c, g))) : f = g := by cases e; rfl
theorem vI_inj {a b : Int32} (e : some (Value.int a) = some (.int b)) : a = b := Value.int.inj (Option.some.inj e)
theorem ho_inj {y z : Ho} {h : List nC} (a : hv (hoQ y) h) (b : hv (hoQ z) h) : y = z := by
  have e0 := celI ((lg_hv (q := 8) a rfl).symm.trans (lg_hv (q := 8) b rfl))
  have e1 := celL ((lg_hv (q := 9) a rfl).symm.trans (lg_hv (q := 9) b rfl))
  have e2 := celI ((lg_hv (q := 10) a rfl).symm.trans (lg_hv (q := 10) b rfl))
  have e3 := celI ((lg_hv (q := 11) a rfl).symm.trans (lg_hv (q := 11) b rfl))
  have e4 := celI ((lg_hv (q := 12) a rfl).symm.trans (lg_hv (q := 12) b rfl))
  have e5 := celI ((lg_hv (q := 13) a rfl).symm.trans (lg_hv (q := 13) b rfl))
  have e6 := celI ((lg_hv (q := 14) a rfl).symm.trans (lg_hv (q := 14) b rfl))
  have e7 := celI ((lg_hv (q := 15) a rfl).symm.trans (lg_hv (q := 15) b rfl))
  have e8 := celI ((lg_hv (q := 16) a rfl).symm.trans (lg_hv (q := 16) b rfl))
  have e9 := celI ((lg_hv (q := 17) a rfl).symm.trans (lg_hv (q := 17) b rfl))
  have e10 := celI ((lg_hv (q := 18) a rfl).symm.trans (lg_hv (q := 18) b rfl))
  have e11 := celI ((lg_hv (q := 19) a rfl).symm.trans (lg_hv (q := 19) b rfl))
  have e12 := celI ((lg_hv (q := 20) a rfl).symm.trans (lg_hv (q := 20) b rfl))
  have e13 := celI ((lg_hv (q := 21) a rfl).symm.trans (lg_hv (q := 21) b rfl))
  have eo := celO ((lg_hv (q := 7) a rfl).symm.trans (lg_hv (q := 7) b rfl))
  have eo14 : y.2.2.2.2.2.2.2.2.2.2.2.2.2.2.1 = z.2.2.2.2.2.2.2.2.2.2.2.2.2.2.1 := vI_inj (congrArg (fun l : List Value => l[14]?) eo)
  have eo15 : y.2.2.2.2.2.2.2.2.2.2.2.2.2.2.2 = z.2.2.2.2.2.2.2.2.2.2.2.2.2.2.2 := vI_inj (congrArg (fun l : List Value => l[15]?) eo)
  exact Prod.ext e0 (Prod.ext e1 (Prod.ext e2 (Prod.ext e3 (Prod.ext e4 (Prod.ext e5 (Prod.ext e6 (Prod.ext e7 (Prod.ext e8 (Prod.ext e9 (Prod.ext e10 (Prod.ext e11 (Prod.ext e12 (Prod.ext e13 (Prod.ext eo14 (eo15)))))))))))))))
def FY : List (Nat × Nat × Nat × Option Value) := [(0, 8, 9, some (.ref 113)), (49, 4, 0, some (.ref 50)), (49, 4, 1, some (.ref 51)), (49, 4, 2, some (.ref 52)), (49, 4, 3, some (.ref 53)), (115, 0, 0, some (.ref 116)), (115, 0, 1, some (.ref 117)), (115, 0, 2, some (.ref 118)), (115, 0, 3, some (.ref 119)), (115, 0, 4, some (.ref 120)), (115, 0, 5, some (.ref 121)), (115, 0, 6, some (.ref 122)), (115, 0, 7, some (.ref 123)), (115, 0, 8, some (.ref 124)), (115, 0, 9, some (.ref 125)), (115, 0, 10, some (.ref 126)), (115, 0, 11, some (.ref 127)), (115, 0, 12, some (.ref 128)), (115, 0, 13, some (.ref 129)), (115, 0, 16, none), (142, 0, 0, some (.ref 143)), (142, 0, 1, some (.ref 144)), (142, 0, 2, some (.ref 145)), (142, 0, 3, some (.ref 146)), (142, 0, 4, some (.ref 147)), (142, 0, 5, some (.ref 148)), (142, 0, 6, some (.ref 149)), (142, 0, 7, some (.ref 150)), (142, 0, 8, some (.ref 151)), (142, 0, 9, some (.ref 152)), (142, 0, 10, some (.ref 153)), (142, 0, 11, some (.ref 154)), (142, 0, 12, some (.ref 155)), (142, 0, 13, some (.ref 156)), (142, 0, 16, none), (130, 2, 0, some (.ref 131)), (130, 2, 1, some (.ref 132)), (130, 2, 2, some (.ref 133)), (130, 2, 3, some (.ref 134)), (130, 2, 4, some (.ref 135)), (130, 2, 12, none), (157, 2, 0, some (.ref 158)), (157, 2, 1, some (.ref 159)), (157, 2, 2, some (.ref 160)), (157, 2, 3, some (.ref 161)), (157, 2, 4, some (.ref 162)), (157, 2, 12, none), (136, 4, 0, some (.ref 137)), (136, 4, 1, some (.ref 138)), (136, 4, 2, some (.ref 139)), (136, 4, 3, some (.ref 140)), (136, 4, 6, none), (163, 4, 0, some (.ref 164)), (163, 4, 1, some (.ref 165)), (163, 4, 2, some (.ref 166)), (163, 4, 3, some (.ref 167)), (163, 4, 6, none), (114, 1, 0, some (.ref 115)), (114, 1, 1, some (.ref 130)), (114, 1, 2, some (.ref 136)), (114, 1, 4, none), (141, 1, 0, some (.ref 142)), (141, 1, 1, some (.ref 157)), (141, 1, 2, some (.ref 163)), (141, 1, 4, none), (175, 9, 45, some (.ref 192)), (175, 9, 46, some (.ref 193)), (175, 9, 47, some (.ref 194))]
def fyOk (h : List nC) : Prop := ∀ e ∈ FY, ∃ fs, h[e.1]? = some (.inr (e.2.1, fs)) ∧ fs[e.2.2.1]? = e.2.2.2
def fyC (mf : List (Nat × Nat)) : Bool := FY.all (fun e => match fS[e.1]? with
  | some t => decide (oT t = some e.2.1) && (decide (e.2.2.1 < 1000) && !(mf.any (fun q => q.1 == t && q.2 == e.2.2.1)))
  | none => false)
theorem fy_fr {mf : List (Nat × Nat)} {ma : List Nat} {h h1 : List nC} (H : fyOk h) (F : nFr mf ma fS h h1) (hc : fyC mf = true) : fyOk h1 := by
  intro e he
  obtain ⟨fs, e1, e2⟩ := H e he
  have k := List.all_eq_true.mp hc e he
  cases ht : fS[e.1]? with
  | none => rw [ht] at k; cases k
  | some t =>
    rw [ht] at k
    simp only [Bool.and_eq_true, decide_eq_true_eq, Bool.not_eq_true', List.any_eq_false] at k
    obtain ⟨k1, k2, k3⟩ := k
    obtain ⟨f1, e3, e4⟩ := (F e.1 t ht).1 ⟨_, k1⟩ _ fs e1
    refine ⟨f1, e3, ?_⟩
    have e5 := e4 e.2.2.1 (fun hm => k3 _ hm (by simp))
    rw [nFd_lo k2, nFd_lo k2] at e5
    rw [e5, e2]
theorem fy_at {h : List nC} (H : fyOk h) {q c k : Nat} {v : Option Value} {fs : List Value} (n : Nat) (hm : FY[n]? = some (q, c, k, v)) (e : h[q]? = some (.inr (c, fs))) : fs[k]? = v := by
  obtain ⟨f1, e1, e2⟩ := H _ (List.mem_of_getElem? hm)
  have e3 : h[q]? = some (.inr (c, f1)) := e1
  cases e.symm.trans e3
  exact e2
/-- what the class holds: its house, its images' houses, which are kept -/
def hC (z y0 y1 : Ho) (k0 k1 : Int32) (h : List nC) : Prop := hv (hoQ z) h ∧ hv (ho115 y0) h ∧ hv (ho142 y1) h ∧ hv (im0 k0) h ∧ hv (im1 k1) h ∧ ∃ f, hv (rwI f) h ∧ f 0 = some 114 ∧ f 1 = some 141
/-- .. and the reference -/
def hM (s kp ak : Nat → Int32) (h : List nC) : Prop := (∃ s1, h[177]? = some (.inl (0, 360, .inl s1)) ∧ ∀ i, i < 132 → s1 i = s i) ∧ h[192]? = some (.inl (0, 720, .inl kp)) ∧ h[194]? = some (.inl (2, 2, .inl ak))
def kB2 (k a : Int32) (q : Prop) : Prop := (k = 0 ∧ a = 0) ∨ (k = 1 ∧ a = 1 ∧ q)
def hR (z y0 y1 : Ho) (k0 k1 : Int32) (s kp ak : Nat → Int32) : Prop := hQ z s ∧ kB2 k0 (ak 0) (hQ y0 kp) ∧ kB2 k1 (ak 1) (hQ y1 (fun i => kp (360 + i)))
def lwY (nc nm : Nat) (bc bm : Nat → Int32) (z y0 y1 : Ho) (k0 k1 : Int32) (s kp ak : Nat → Int32) (h : List nC) : Prop := lwZ nc nm bc bm h ∧ fyOk h ∧ hC z y0 y1 k0 k1 h ∧ hM s kp ak h
def lwB5 (h : List nC) : Prop := ∃ (n : Nat) (b : Nat → Int32) (z y0 y1 : Ho) (k0 k1 : Int32) (s kp ak : Nat → Int32), n ≤ 940 ∧ hR z y0 y1 k0 k1 s kp ak ∧ lwY n n b b z y0 y1 k0 k1 s kp ak h
def hcT (t : Nat) : Bool := Nat.beq t 0 || (Nat.beq t 1 || ((Nat.ble 10 t && Nat.ble t 23) || (Nat.beq t 46 || (Nat.beq t 65 || Nat.beq t 67))))
def hcB (mf : List (Nat × Nat)) (ma : List Nat) : Bool := mf.all (fun e => !hcT e.1) && ma.all (fun t => !hcT t)
section HFR
variable {mf : List (Nat × Nat)} {ma : List Nat} {h h1 : List nC} {z y0 y1 : Ho} {k0 k1 : Int32} {s kp ak : Nat → Int32} {nc nm nc2 nm2 : Nat} {bc bm bc2 bm2 : Nat → Int32}
theorem cel_fr (F : nFr mf ma fS h h1) (J : nJJ fS h) (J1 : nJJ fS h1) (T : tOk nFT nAT fS h) {q t : Nat} (hq : fS[q]? = some t) (hf : ∀ e ∈ mf, ¬ e.1 = t) (ha : t ∉ ma) : h1[q]? = h[q]? := by
  obtain ⟨c, e1, e2⟩ := T q t hq
  cases c with
  | inl x =>
    obtain ⟨kd, n, ct⟩ := x
    exact (F q t hq).2 e2.1 ha
  | inr x =>
    obtain ⟨ci, fs⟩ := x
    obtain ⟨fs1, g1, g2⟩ := (F q t hq).1 ⟨ci, e2.1⟩ ci fs e1
    rw [g1, e1]
    have e : fs1 = fs := by
      apply List.ext_getElem?
      intro k
      by_cases hk : k < 1000
      · have g3 := g2 k (fun hm => hf _ hm rfl)
        rw [nFd_lo hk, nFd_lo hk] at g3
        exact g3
      · have a1 := J1.2.2.1.2 q ci fs1 g1
        have a2 := J.2.2.1.2 q ci fs e1
        rw [List.getElem?_eq_none (by omega), List.getElem?_eq_none (by omega)]
    rw [e]
theorem hc_same (F : nFr mf ma fS h h1) (J : nJJ fS h) (J1 : nJJ fS h1) (T : tOk nFT nAT fS h) (hc : hcB mf ma = true) {q t : Nat} (hq : fS[q]? = some t) (ht : hcT t = true) : h1[q]? = h[q]? := by
  unfold hcB at hc
  rw [Bool.and_eq_true] at hc
  refine cel_fr F J J1 T hq (fun e he e0 => ?_) (fun hm => ?_)
  · have k := List.all_eq_true.mp hc.1 e he
    rw [e0, ht] at k
    cases k
  · have k := List.all_eq_true.mp hc.2 t hm
    rw [ht] at k
    cases k
def hcK (q : Nat) : Bool := match fS[q]? with
  | some t => hcT t
  | none => false
theorem hv_same (F : nFr mf ma fS h h1) (J : nJJ fS h) (J1 : nJJ fS h1) (T : tOk nFT nAT fS h) (hc : hcB mf ma = true) {l : nL} (hl : (hk l).all hcK = true) (H : hv l h) : hv l h1 := fun e he => by
  have k := List.all_eq_true.mp hl e.1 (List.mem_map.mpr ⟨e, he, rfl⟩)
  unfold hcK at k
  split at k
  · next t ht =>
    rw [hc_same F J J1 T hc ht k]
    exact H e he
  · cases k
theorem hC_fr (C : hC z y0 y1 k0 k1 h) (F : nFr mf ma fS h h1) (J : nJJ fS h) (J1 : nJJ fS h1) (T : tOk nFT nAT fS h) (hc : hcB mf ma = true) : hC z y0 y1 k0 k1 h1 := by
  obtain ⟨c1, c2, c3, c4, c5, f, c6, c7, c8⟩ := C
  exact ⟨hv_same F J J1 T hc rfl c1, hv_same F J J1 T hc rfl c2, hv_same F J J1 T hc rfl c3, hv_same F J J1 T hc rfl c4, hv_same F J J1 T hc rfl c5, f, hv_same F J J1 T hc rfl c6, c7, c8⟩
theorem fS_50 {q : Nat} (h : fS[q]? = some 50) : q = 177 := by
  have hl : q < fS.length := (List.getElem?_eq_some_iff.mp h).1
  have k : ∀ q, q < 196 → fS[q]? = some 50 → q = 177 := by decide +kernel
  exact k q hl h
theorem nJC_of (J : nJJ fS h) (M : hM s kp ak h) : nJC fS (some s) h := ⟨J, fun c0 e q kd n f hq hf i hi => by
  cases e
  have e2 := fS_50 hq
  subst e2
  obtain ⟨s1, e1, e3⟩ := M.1
  cases e1.symm.trans hf
  exact e3 i hi⟩
theorem hM_fr (M : hM s kp ak h) (F : nFr mf ma fS h h1) (J : nJJ fS h) (J1 : nJC fS (some s) h1) (T : tOk nFT nAT fS h) (T1 : tOk nFT nAT fS h1) (hc : hcB mf ma = true) : hM s kp ak h1 := by
  obtain ⟨s1, e1, -⟩ := rowI T1 (q := 177) (show fS[177]? = some 50 by decide) nAT_50 rfl
  exact ⟨⟨s1, e1, fun i hi => J1.2 s rfl 177 0 360 s1 (by decide) e1 i hi⟩, (hc_same F J J1.1 T hc (show fS[192]? = some 65 by decide) rfl).trans M.2.1, (hc_same F J J1.1 T hc (show fS[194]? = some 67 by decide) rfl).trans M.2.2⟩
theorem lwY_fr (I : lwY nc nm bc bm z y0 y1 k0 k1 s kp ak h) (J1 : nJC fS (some s) h1) (T1 : tOk nFT nAT fS h1) (F : nFr mf ma fS h h1) (Z1 : lwZ nc2 nm2 bc2 bm2 h1) (hc : hcB mf ma = true) (hy : fyC mf = true) : lwY nc2 nm2 bc2 bm2 z y0 y1 k0 k1 s kp ak h1 :=
  ⟨Z1, fy_fr I.2.1 F hy, hC_fr I.2.2.1 F I.1.1.1.1 J1.1 I.1.1.1.2.1 hc, hM_fr I.2.2.2 F I.1.1.1.1 J1 I.1.1.1.2.1 T1 hc⟩
theorem yJ (I : lwY nc nm bc bm z y0 y1 k0 k1 s kp ak h) : nJC fS (some s) h := nJC_of I.1.1.1.1 I.2.2.2
theorem hv_ex {ks : List Nat} {l : nL} (H : hv l h) (R : fr ks h h1) (hl : (hk l).all (fun q => !ks.elem q) = true) : hv l h1 := fun e he => by
  have k := List.all_eq_true.mp hl e.1 (List.mem_map.mpr ⟨e, he, rfl⟩)
  rw [R e.1 (fun hm => by rw [List.elem_eq_true_of_mem hm] at k; cases k)]
  exact H e he
theorem hM_ex {ks : List Nat} (M : hM s kp ak h) (R : fr ks h h1) (hl : (ks.elem 177 || (ks.elem 192 || ks.elem 194)) = false) : hM s kp ak h1 := by
  simp only [Bool.or_eq_false_iff] at hl
  obtain ⟨a, b, c⟩ := hl
  have g : ∀ q, ks.elem q = false → q ∉ ks := fun q e hm => by rw [List.elem_eq_true_of_mem hm] at e; cases e
  exact ⟨by rw [R 177 (g _ a)]; exact M.1, by rw [R 192 (g _ b)]; exact M.2.1, by rw [R 194 (g _ c)]; exact M.2.2⟩
theorem hC_ex {ks : List Nat} (C : hC z y0 y1 k0 k1 h) (R : fr ks h h1) (hl : ks.all (fun q => Nat.ble 175 q) = true) : hC z y0 y1 k0 k1 h1 := by
  obtain ⟨c1, c2, c3, c4, c5, f, c6, c7, c8⟩ := C
  have g : ∀ {l : nL}, (hk l).all (fun q => Nat.ble q 174) = true → hv l h → hv l h1 := fun {l} a H e he => by
    have k1 := Nat.le_of_ble_eq_true (List.all_eq_true.mp a e.1 (List.mem_map.mpr ⟨e, he, rfl⟩))
    rw [R e.1 (fun hm => by
      have k2 := Nat.le_of_ble_eq_true (List.all_eq_true.mp hl e.1 hm)
      omega)]
    exact H e he
  exact ⟨g rfl c1, g rfl c2, g rfl c3, g rfl c4, g rfl c5, f, g rfl c6, c7, c8⟩
end HFR
