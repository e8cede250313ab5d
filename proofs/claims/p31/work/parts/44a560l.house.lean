/-! a house told by lists and the class's rows -/
def pad (m : Nat) (l : List (List Nat)) : List (List Nat) := l ++ List.replicate (m - l.length) []
def nsl (N : List (List Nat) × List (List Nat) × List (List Nat) × List (List Nat)) : List (List Nat) := pad 6 N.1 ++ (pad 10 N.2.1 ++ (pad 6 N.2.2.1 ++ pad 4 N.2.2.2))
def alln (N : List (List Nat) × List (List Nat) × List (List Nat) × List (List Nat)) : List (List Nat) := N.1 ++ (N.2.1 ++ (N.2.2.1 ++ N.2.2.2))
def wOk (w : List Nat) : Prop := (∀ c ∈ w, let26 c) ∧ w.length ≤ 7 ∧ ¬ w = []
def nmOk (N : List (List Nat) × List (List Nat) × List (List Nat) × List (List Nat)) : Prop := N.1.length ≤ 6 ∧ N.2.1.length ≤ 10 ∧ N.2.2.1.length ≤ 6 ∧ N.2.2.2.length ≤ 4 ∧ (alln N).Nodup ∧ (∀ w ∈ alln N, wOk w)
theorem pad_len {m : Nat} {l : List (List Nat)} (h : l.length ≤ m) : (pad m l).length = m := by
  unfold pad
  rw [List.length_append, List.length_replicate]
  omega
abbrev fi (l : List (List Nat)) (w : List Nat) : Option Nat := l.findIdx? (fun k => k == w)
theorem fi_none {l : List (List Nat)} {w : List Nat} : fi l w = none ↔ w ∉ l := by
  unfold fi
  rw [List.findIdx?_eq_none_iff]
  constructor
  · intro h hm
    have := h w hm
    simp at this
  · intro h x hx
    have : ¬ x = w := fun e => h (e ▸ hx)
    simpa using this
theorem fi_some {l : List (List Nat)} {w : List Nat} {i : Nat} (h : fi l w = some i) : i < l.length ∧ w ∈ l ∧ l.getD i [] = w := by
  obtain ⟨h1, h2⟩ := List.findIdx?_eq_some_iff_findIdx_eq.mp h
  have h3 : (fun k => k == w) (l[i]'h1) = true := by
    have := List.findIdx_getElem (xs := l) (p := fun k => k == w) (w := by rw [h2]; exact h1)
    simpa [h2] using this
  have h4 : l[i]'h1 = w := by simpa using h3
  refine ⟨h1, ?_, ?_⟩
  · rw [← h4]; exact List.getElem_mem h1
  · rw [List.getD_eq_getElem?_getD, List.getElem?_eq_getElem h1, Option.getD_some, h4]
theorem fi_pad {m : Nat} {l : List (List Nat)} {w : List Nat} (hw : ¬ w = []) : fi (pad m l) w = fi l w := by
  unfold fi pad
  rw [List.findIdx?_append]
  have : (List.replicate (m - l.length) ([] : List Nat)).findIdx? (fun k => k == w) = none := by
    apply fi_none.mpr
    intro hm
    exact hw (List.eq_of_mem_replicate hm)
  rw [this]
  cases l.findIdx? (fun k => k == w) <;> rfl
theorem fi_app (a c : List (List Nat)) (w : List Nat) : fi (a ++ c) w = match fi a w with
    | some i => some i
    | none => (fi c w).map (fun i => i + a.length) := by
  unfold fi
  rw [List.findIdx?_append]
  cases a.findIdx? (fun k => k == w) <;> rfl
theorem fi_nsl {N : List (List Nat) × List (List Nat) × List (List Nat) × List (List Nat)} (h : nmOk N) {w : List Nat} (hw : ¬ w = []) : fi (nsl N) w = match fi N.1 w with
    | some i => some i
    | none => match fi N.2.1 w with
      | some i => some (i + 6)
      | none => match fi N.2.2.1 w with
        | some i => some (i + 16)
        | none => (fi N.2.2.2 w).map (fun i => i + 22) := by
  obtain ⟨l1, l2, l3, l4, _⟩ := h
  unfold nsl
  rw [fi_app, fi_app, fi_app, fi_pad hw, fi_pad hw, fi_pad hw, fi_pad hw, pad_len l1, pad_len l2, pad_len l3]
  cases fi N.1 w with
  | some i => rfl
  | none =>
    cases fi N.2.1 w with
    | some i => rfl
    | none =>
      cases fi N.2.2.1 w with
      | some i => rfl
      | none =>
        cases fi N.2.2.2 w with
        | none => rfl
        | some i => rfl
theorem nmR_set {nm : Nat → Int64} {ns : List (List Nat)} (h : nmR nm ns) {k : Nat} (hk : k < 26) {w : List Nat} (hw : wOk w) : nmR (vp_updL nm k (Int64.ofNat (e32 w 0))) (ns.set k w) := by
  obtain ⟨h1, h2, h3⟩ := h
  refine ⟨by rw [List.length_set]; exact h1, ?_, ?_⟩
  · intro j hj
    by_cases e : j = k
    · subst e
      rw [List.getD_eq_getElem?_getD, List.getElem?_set_self (by omega)]
      exact if_pos rfl
    · rw [List.getD_eq_getElem?_getD, List.getElem?_set_ne (fun y => e y.symm), ← List.getD_eq_getElem?_getD]
      exact (if_neg e).trans (h2 j hj)
  · intro x hx
    rcases List.mem_or_eq_of_mem_set hx with hx | hx
    · exact h3 x hx
    · rw [hx]; exact ⟨hw.1, hw.2.1⟩
theorem pad_set {m : Nat} {l : List (List Nat)} {w : List Nat} (h : l.length < m) : (pad m l).set l.length w = pad m (l ++ [w]) := by
  unfold pad
  rw [List.set_append_right _ _ (Nat.le_refl _), Nat.sub_self, List.length_append, List.length_singleton, List.append_assoc]
  congr 1
  rw [show m - l.length = (m - (l.length + 1)) + 1 from by omega, List.replicate_succ]
  rfl
theorem nsl_1 {N : List (List Nat) × List (List Nat) × List (List Nat) × List (List Nat)} {w : List Nat} (h : N.1.length < 6) : (nsl N).set N.1.length w = nsl (N.1 ++ [w], N.2) := by
  unfold nsl
  rw [List.set_append_left _ _ (by rw [pad_len (by omega)]; exact h), pad_set h]
theorem nsl_2 {N : List (List Nat) × List (List Nat) × List (List Nat) × List (List Nat)} {w : List Nat} (h0 : nmOk N) (h : N.2.1.length < 10) : (nsl N).set (6 + N.2.1.length) w = nsl (N.1, N.2.1 ++ [w], N.2.2) := by
  unfold nsl
  rw [List.set_append_right _ _ (by rw [pad_len h0.1]; omega), pad_len h0.1, show 6 + N.2.1.length - 6 = N.2.1.length from by omega, List.set_append_left _ _ (by rw [pad_len (by omega)]; exact h), pad_set h]
theorem nsl_3 {N : List (List Nat) × List (List Nat) × List (List Nat) × List (List Nat)} {w : List Nat} (h0 : nmOk N) (h : N.2.2.1.length < 6) : (nsl N).set (16 + N.2.2.1.length) w = nsl (N.1, N.2.1, N.2.2.1 ++ [w], N.2.2.2) := by
  unfold nsl
  rw [List.set_append_right _ _ (by rw [pad_len h0.1]; omega), pad_len h0.1, List.set_append_right _ _ (by rw [pad_len h0.2.1]; omega), pad_len h0.2.1, show 16 + N.2.2.1.length - 6 - 10 = N.2.2.1.length from by omega, List.set_append_left _ _ (by rw [pad_len (by omega)]; exact h), pad_set h]
theorem nsl_4 {N : List (List Nat) × List (List Nat) × List (List Nat) × List (List Nat)} {w : List Nat} (h0 : nmOk N) (h : N.2.2.2.length < 4) : (nsl N).set (22 + N.2.2.2.length) w = nsl (N.1, N.2.1, N.2.2.1, N.2.2.2 ++ [w]) := by
  unfold nsl
  rw [List.set_append_right _ _ (by rw [pad_len h0.1]; omega), pad_len h0.1, List.set_append_right _ _ (by rw [pad_len h0.2.1]; omega), pad_len h0.2.1, List.set_append_right _ _ (by rw [pad_len h0.2.2.1]; omega), pad_len h0.2.2.1, show 22 + N.2.2.2.length - 6 - 10 - 6 = N.2.2.2.length from by omega, pad_set h]
/-- a name that is new may be told -/
theorem alln_mem {N : List (List Nat) × List (List Nat) × List (List Nat) × List (List Nat)} {w : List Nat} : w ∈ alln N ↔ w ∈ N.1 ∨ w ∈ N.2.1 ∨ w ∈ N.2.2.1 ∨ w ∈ N.2.2.2 := by
  unfold alln
  rw [List.mem_append, List.mem_append, List.mem_append]
theorem nsl_none {N : List (List Nat) × List (List Nat) × List (List Nat) × List (List Nat)} (h : nmOk N) {w : List Nat} (hw : ¬ w = []) : fi (nsl N) w = none ↔ w ∉ alln N := by
  rw [fi_nsl h hw, alln_mem]
  cases h1 : fi N.1 w with
  | some i => have := (fi_some h1).2.1; exact ⟨(fun y => nomatch y), fun y => absurd (Or.inl this) y⟩
  | none =>
    cases h2 : fi N.2.1 w with
    | some i => have := (fi_some h2).2.1; exact ⟨(fun y => nomatch y), fun y => absurd (Or.inr (Or.inl this)) y⟩
    | none =>
      cases h3 : fi N.2.2.1 w with
      | some i => have := (fi_some h3).2.1; exact ⟨(fun y => nomatch y), fun y => absurd (Or.inr (Or.inr (Or.inl this))) y⟩
      | none =>
        cases h4 : fi N.2.2.2 w with
        | some i => have := (fi_some h4).2.1; exact ⟨(fun y => nomatch y), fun y => absurd (Or.inr (Or.inr (Or.inr this))) y⟩
        | none =>
          refine ⟨fun _ y => ?_, fun _ => rfl⟩
          rcases y with y | y | y | y
          · exact fi_none.mp h1 y
          · exact fi_none.mp h2 y
          · exact fi_none.mp h3 y
          · exact fi_none.mp h4 y
theorem nmOk_perm {a c : List (List Nat)} (h : a.Perm c) (h1 : a.Nodup ∧ ∀ w ∈ a, wOk w) : c.Nodup ∧ ∀ w ∈ c, wOk w := ⟨h.nodup_iff.mp h1.1, fun w hw => h1.2 w (h.mem_iff.mpr hw)⟩
theorem nmOk_cons {N : List (List Nat) × List (List Nat) × List (List Nat) × List (List Nat)} (h : nmOk N) {w : List Nat} (hw : wOk w) (hn : w ∉ alln N) : (w :: alln N).Nodup ∧ ∀ x ∈ w :: alln N, wOk x := by
  refine ⟨List.nodup_cons.mpr ⟨hn, h.2.2.2.2.1⟩, ?_⟩
  intro x hx
  rcases List.mem_cons.mp hx with rfl | hx
  · exact hw
  · exact h.2.2.2.2.2 x hx
theorem perm_mid (a c : List (List Nat)) (w : List Nat) : (w :: (a ++ c)).Perm ((a ++ [w]) ++ c) := by
  rw [List.append_assoc]
  exact (List.perm_middle (l₁ := a) (l₂ := c) (a := w)).symm
theorem nmOk_1 {N : List (List Nat) × List (List Nat) × List (List Nat) × List (List Nat)} (h : nmOk N) {w : List Nat} (hw : wOk w) (hn : w ∉ alln N) (hl : N.1.length < 6) : nmOk (N.1 ++ [w], N.2) := by
  have h1 := nmOk_perm (perm_mid N.1 (N.2.1 ++ (N.2.2.1 ++ N.2.2.2)) w) (nmOk_cons h hw hn)
  exact ⟨by rw [List.length_append]; exact hl, h.2.1, h.2.2.1, h.2.2.2.1, h1.1, h1.2⟩
theorem nmOk_2 {N : List (List Nat) × List (List Nat) × List (List Nat) × List (List Nat)} (h : nmOk N) {w : List Nat} (hw : wOk w) (hn : w ∉ alln N) (hl : N.2.1.length < 10) : nmOk (N.1, N.2.1 ++ [w], N.2.2) := by
  have h0 : (w :: alln N).Perm (N.1 ++ ((N.2.1 ++ [w]) ++ (N.2.2.1 ++ N.2.2.2))) := ((List.perm_middle (l₁ := N.1) (l₂ := N.2.1 ++ (N.2.2.1 ++ N.2.2.2)) (a := w)).symm).trans ((perm_mid N.2.1 (N.2.2.1 ++ N.2.2.2) w).append_left N.1)
  have h1 := nmOk_perm h0 (nmOk_cons h hw hn)
  exact ⟨h.1, by rw [List.length_append]; exact hl, h.2.2.1, h.2.2.2.1, h1.1, h1.2⟩
theorem nmOk_3 {N : List (List Nat) × List (List Nat) × List (List Nat) × List (List Nat)} (h : nmOk N) {w : List Nat} (hw : wOk w) (hn : w ∉ alln N) (hl : N.2.2.1.length < 6) : nmOk (N.1, N.2.1, N.2.2.1 ++ [w], N.2.2.2) := by
  have h0 : (w :: alln N).Perm (N.1 ++ (N.2.1 ++ ((N.2.2.1 ++ [w]) ++ N.2.2.2))) := ((List.perm_middle (l₁ := N.1) (l₂ := N.2.1 ++ (N.2.2.1 ++ N.2.2.2)) (a := w)).symm).trans ((((List.perm_middle (l₁ := N.2.1) (l₂ := N.2.2.1 ++ N.2.2.2) (a := w)).symm).trans ((perm_mid N.2.2.1 N.2.2.2 w).append_left N.2.1)).append_left N.1)
  have h1 := nmOk_perm h0 (nmOk_cons h hw hn)
  exact ⟨h.1, h.2.1, by rw [List.length_append]; exact hl, h.2.2.2.1, h1.1, h1.2⟩
theorem nmOk_4 {N : List (List Nat) × List (List Nat) × List (List Nat) × List (List Nat)} (h : nmOk N) {w : List Nat} (hw : wOk w) (hn : w ∉ alln N) (hl : N.2.2.2.length < 4) : nmOk (N.1, N.2.1, N.2.2.1, N.2.2.2 ++ [w]) := by
  have h0 : (w :: alln N).Perm (N.1 ++ (N.2.1 ++ (N.2.2.1 ++ (N.2.2.2 ++ [w])))) := by
    have : N.1 ++ (N.2.1 ++ (N.2.2.1 ++ (N.2.2.2 ++ [w]))) = alln N ++ [w] := by unfold alln; simp only [List.append_assoc]
    rw [this]
    exact (List.perm_append_comm (l₁ := [w]) (l₂ := alln N))
  have h1 := nmOk_perm h0 (nmOk_cons h hw hn)
  exact ⟨h.1, h.2.1, h.2.2.1, by rw [List.length_append]; exact hl, h1.1, h1.2⟩
def kn3 (T : Nat → Tk) (p : Nat) (ns : List (List Nat)) : (Nat × Nat) ⊕ Nat := if ¬ (T p).1 = 2 then .inl (1, (T p).2.1) else match fi ns (T p).2.2.1 with
  | some i => .inr i
  | none => .inl (3, (T p).2.1)
def knR (p : Nat) : (Nat × Nat) ⊕ Nat → Rs Nat
  | .inl e => .inl e
  | .inr i => .inr (p, i)
section KNO
variable {T : Nat → Tk} {p : Nat}
theorem sKn_1 {N : List (List Nat) × List (List Nat) × List (List Nat) × List (List Nat)} (hT : tkOk T) (h : nmOk N) : sKn T p (nsl N) 0 6 = kn3 T p N.1 := by
  unfold sKn kn3
  by_cases e : (T p).1 = 2
  · rw [if_neg (fun y => y e), if_neg (fun y => y e)]
    have hw := (hT.2.2.2.1 p e).2.2
    show (match fi (nsl N) (T p).2.2.1 with | some k => _ | none => _) = _
    rw [fi_nsl h hw]
    cases h1 : fi N.1 (T p).2.2.1 with
    | some i =>
      have := (fi_some h1).1
      have := h.1
      show (if 0 ≤ i ∧ i < 6 then _ else _) = _
      rw [if_pos ⟨by omega, by omega⟩]
      rfl
    | none =>
      cases h2 : fi N.2.1 (T p).2.2.1 with
      | some i => show (if 0 ≤ i + 6 ∧ i + 6 < 6 then _ else _) = _; rw [if_neg (by omega)]
      | none =>
        cases h3 : fi N.2.2.1 (T p).2.2.1 with
        | some i => show (if 0 ≤ i + 16 ∧ i + 16 < 6 then _ else _) = _; rw [if_neg (by omega)]
        | none =>
          cases h4 : fi N.2.2.2 (T p).2.2.1 with
          | some i => show (if 0 ≤ i + 22 ∧ i + 22 < 6 then _ else _) = _; rw [if_neg (by omega)]
          | none => rfl
  · rw [if_pos e, if_pos e]
theorem sKn_2 {N : List (List Nat) × List (List Nat) × List (List Nat) × List (List Nat)} (hT : tkOk T) (h : nmOk N) : sKn T p (nsl N) 6 16 = kn3 T p N.2.1 := by
  unfold sKn kn3
  by_cases e : (T p).1 = 2
  · rw [if_neg (fun y => y e), if_neg (fun y => y e)]
    have hw := (hT.2.2.2.1 p e).2.2
    show (match fi (nsl N) (T p).2.2.1 with | some k => _ | none => _) = _
    rw [fi_nsl h hw]
    cases h1 : fi N.1 (T p).2.2.1 with
    | some i =>
      have l1 := (fi_some h1).1
      have l2 := h.1
      have m1 := (fi_some h1).2.1
      have h2 : fi N.2.1 (T p).2.2.1 = none := by
        apply fi_none.mpr
        intro m2
        have hd := (List.nodup_append.mp h.2.2.2.2.1).2.2
        exact hd _ m1 _ (List.mem_append.mpr (Or.inl m2)) rfl
      rw [h2]
      show (if 6 ≤ i ∧ i < 16 then _ else _) = _
      rw [if_neg (by omega)]
    | none =>
      cases h2 : fi N.2.1 (T p).2.2.1 with
      | some i =>
        have := (fi_some h2).1
        have := h.2.1
        show (if 6 ≤ i + 6 ∧ i + 6 < 16 then Sum.inr (i + 6 - 6) else _) = _
        rw [if_pos ⟨by omega, by omega⟩, Nat.add_sub_cancel]
      | none =>
        cases h3 : fi N.2.2.1 (T p).2.2.1 with
        | some i => show (if 6 ≤ i + 16 ∧ i + 16 < 16 then _ else _) = _; rw [if_neg (by omega)]
        | none =>
          cases h4 : fi N.2.2.2 (T p).2.2.1 with
          | some i => show (if 6 ≤ i + 22 ∧ i + 22 < 16 then _ else _) = _; rw [if_neg (by omega)]
          | none => rfl
  · rw [if_pos e, if_pos e]
theorem nameIn_iff {H : Hs} {w : List Nat} : nameIn w H = true ↔ w ∈ alln H.1 := by
  unfold nameIn
  rw [alln_mem, Bool.or_eq_true, Bool.or_eq_true, Bool.or_eq_true, List.contains_iff_mem, List.contains_iff_mem, List.contains_iff_mem, List.contains_iff_mem]
theorem sBe_ok {H : Hs} (hT : tkOk T) (h : nmOk H.1) (c most : Nat) : sBe T c most p (nsl H.1) = sBeg T c most p H ∧ (∀ q w, sBe T c most p (nsl H.1) = .inr (q, w) → w ∉ alln H.1) := by
  unfold sBe sBeg
  by_cases e : c = most
  · rw [if_pos e, if_pos e]
    exact ⟨rfl, fun q w y => nomatch y⟩
  · rw [if_neg e, if_neg e]
    by_cases e2 : (T (T p).2.2.2.2).1 = 2
    · rw [if_neg (fun y => y e2)]
      have hw := (hT.2.2.2.1 _ e2).2.2
      have hi := nsl_none h hw
      show ((match fi (nsl H.1) (T (T p).2.2.2.2).2.2.1 with | some _ => _ | none => _) = (if ¬ (T (T p).2.2.2.2).1 = 2 then _ else _)) ∧ _
      rw [if_neg (fun y => y e2)]
      cases hf : fi (nsl H.1) (T (T p).2.2.2.2).2.2.1 with
      | none =>
        have hm := hi.mp hf
        rw [if_neg (fun y => hm (nameIn_iff.mp y))]
        refine ⟨rfl, fun q w y => ?_⟩
        rw [show List.findIdx? (fun k => k == (T (T p).2.2.2.2).2.2.1) (nsl H.1) = none from hf] at y
        have y2 : (T (T p).2.2.2.2).2.2.1 = w := (Prod.mk.inj (Sum.inr.inj y)).2
        rw [← y2]
        exact hm
      | some i =>
        have hm : (T (T p).2.2.2.2).2.2.1 ∈ alln H.1 := by
          apply Classical.byContradiction
          intro y
          rw [hi.mpr y] at hf
          cases hf
        rw [if_pos (nameIn_iff.mpr hm)]
        refine ⟨rfl, fun q w y => ?_⟩
        rw [show List.findIdx? (fun k => k == (T (T p).2.2.2.2).2.2.1) (nsl H.1) = some i from hf] at y
        cases y
    · rw [if_pos e2]
      show (_ = (if ¬ (T (T p).2.2.2.2).1 = 2 then _ else _)) ∧ _
      rw [if_pos e2]
      exact ⟨rfl, fun q w y => nomatch y⟩
end KNO
