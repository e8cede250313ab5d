/-! what a chronicle's text says -/
def nx (T : Nat → Tk) (p : Nat) : Nat := (T p).2.2.2.2
/-- a line from p on, behind k others -/
def cYr (T : Nat → Tk) (p : Nat) : Rs Nat := sBind (sNum T p 1 99) (fun p1 _ => .inr (p1, 0))
def cGv (T : Nat → Tk) (N : List (List Nat) × List (List Nat) × List (List Nat) × List (List Nat)) (p : Nat) : Rs Nat := sBind (sKno T p N.2.2.1) (fun p1 _ => sBind (sKno T (nx T p1) N.2.1) (fun p2 _ => .inr (nx T p2, 0)))
def cAc (T : Nat → Tk) (N : List (List Nat) × List (List Nat) × List (List Nat) × List (List Nat)) (p : Nat) : Rs Nat := if ¬ (T p).1 = 107 ∧ ¬ (T p).1 = 108 then .inl (1, (T p).2.1) else if (T p).1 = 108 then .inr (nx T p, 0) else sBind (sKno T (nx T p) N.2.2.2) (fun p1 _ => .inr (nx T p1, 0))
def cLn (T : Nat → Tk) (N : List (List Nat) × List (List Nat) × List (List Nat) × List (List Nat)) (p k : Nat) : Rs Nat :=
  if (T p).1 = 110 then (if k = 40 then .inl (4, (T p).2.1) else cYr T (nx T p))
  else if (T p).1 = 109 then (if k = 40 then .inl (4, (T p).2.1) else cGv T N (nx T p))
  else sBind (sKno T p N.2.1) (fun p0 _ => if k = 40 then .inl (4, (T p0).2.1) else cAc T N (nx T p0))
/-- the whole text: long says that there is more of it than may be -/
def cCh (T : Nat → Tk) (N : List (List Nat) × List (List Nat) × List (List Nat) × List (List Nat)) (long : Bool) : Nat → Nat → Nat → Rs Nat
  | 0, p, _ => .inl (0, p)
  | f + 1, p, k => if (T p).1 = 0 then (if long = true then .inl (1, (T p).2.1) else .inr (p, k)) else sBind (cLn T N p k) (fun p1 _ => if (T p1).1 = 59 then cCh T N long f (nx T p1) (k + 1) else .inl (1, (T p1).2.1))
theorem sKno_p {T : Nat → Tk} {p q k : Nat} {ns : List (List Nat)} (h : sKno T p ns = .inr (q, k)) : q = p := by
  unfold sKno at h
  split at h
  · cases h
  · split at h
    · cases h
      rfl
    · cases h
theorem sKno_2 {T : Nat → Tk} {p : Nat} {x : Nat × Nat} {ns : List (List Nat)} (h : sKno T p ns = .inr x) : (T p).1 = 2 := by
  apply Classical.byContradiction
  intro hn
  unfold sKno at h
  rw [if_pos hn] at h
  cases h
theorem cLn_40 {T : Nat → Tk} {N : List (List Nat) × List (List Nat) × List (List Nat) × List (List Nat)} {p : Nat} {x : Nat × Nat} : ¬ cLn T N p 40 = .inr x := by
  intro h
  unfold cLn at h
  split at h
  · rw [if_pos rfl] at h
    cases h
  · split at h
    · rw [if_pos rfl] at h
      cases h
    · cases e : sKno T p N.2.1 with
      | inl z => rw [e] at h; cases h
      | inr z =>
        rw [e] at h
        have h2 : (if (40 : Nat) = 40 then .inl (4, (T z.1).2.1) else cAc T N (nx T z.1) : Rs Nat) = .inr x := h
        rw [if_pos rfl] at h2
        cases h2
section HS7D
variable {L : Nat} {xs : Nat → Int32} {d : Nat} {b kd pl : Nat → Int32} {vl ky : Nat → Int64} {len tok cur tak tl fk fp : Int32} {T : Nat → Tk} {p : Nat} {z : Ho}
theorem sKn_4 {N : List (List Nat) × List (List Nat) × List (List Nat) × List (List Nat)} (hT : tkOk T) (h : nmOk N) : sKn T p (nsl N) 22 26 = kn3 T p N.2.2.2 := by
  unfold sKn kn3
  by_cases e : (T p).1 = 2
  · rw [if_neg (fun y => y e), if_neg (fun y => y e)]
    have hw := (hT.2.2.2.1 p e).2.2
    obtain ⟨l1, l2, l3, l4, hnd, -⟩ := id h
    have nd1 := List.nodup_append.mp (show (N.1 ++ (N.2.1 ++ (N.2.2.1 ++ N.2.2.2))).Nodup from hnd)
    have nd2 := List.nodup_append.mp nd1.2.1
    have nd3 := List.nodup_append.mp nd2.2.1
    show (match fi (nsl N) (T p).2.2.1 with | some k => _ | none => _) = _
    rw [fi_nsl h hw]
    cases h1 : fi N.1 (T p).2.2.1 with
    | some i =>
      have k1 := (fi_some h1).1
      have m1 := (fi_some h1).2.1
      have h4 : fi N.2.2.2 (T p).2.2.1 = none := fi_none.mpr (fun m2 => nd1.2.2 _ m1 _ (List.mem_append.mpr (Or.inr (List.mem_append.mpr (Or.inr m2)))) rfl)
      show (if 22 ≤ i ∧ i < 26 then _ else _) = (match fi N.2.2.2 (T p).2.2.1 with | some k => _ | none => _)
      rw [h4, if_neg (by omega)]
    | none =>
      cases h2 : fi N.2.1 (T p).2.2.1 with
      | some i =>
        have k1 := (fi_some h2).1
        have m1 := (fi_some h2).2.1
        have h4 : fi N.2.2.2 (T p).2.2.1 = none := fi_none.mpr (fun m2 => nd2.2.2 _ m1 _ (List.mem_append.mpr (Or.inr m2)) rfl)
        show (if 22 ≤ i + 6 ∧ i + 6 < 26 then _ else _) = (match fi N.2.2.2 (T p).2.2.1 with | some k => _ | none => _)
        rw [h4, if_neg (by omega)]
      | none =>
        cases h3 : fi N.2.2.1 (T p).2.2.1 with
        | some i =>
          have k1 := (fi_some h3).1
          have m1 := (fi_some h3).2.1
          have h4 : fi N.2.2.2 (T p).2.2.1 = none := fi_none.mpr (fun m2 => nd3.2.2 _ m1 _ m2 rfl)
          show (if 22 ≤ i + 16 ∧ i + 16 < 26 then _ else _) = (match fi N.2.2.2 (T p).2.2.1 with | some k => _ | none => _)
          rw [h4, if_neg (by omega)]
        | none =>
          cases h4 : fi N.2.2.2 (T p).2.2.1 with
          | some i =>
            have k1 := (fi_some h4).1
            show (if 22 ≤ i + 22 ∧ i + 22 < 26 then Sum.inr (i + 22 - 22) else _) = Sum.inr i
            rw [if_pos (by omega), Nat.add_sub_cancel]
          | none => rfl
  · rw [if_pos e, if_pos e]
theorem r_deeds7 (hT : tkOk T) (h : txR T kd pl vl tok cur p) {N : List (List Nat) × List (List Nat) × List (List Nat) × List (List Nat)} (hN : nmOk N) (hn : nmR z.2.1 (nsl N)) : mS nj_M nX0 L xs (d + 1) 40 [.ref 7, .ref 1, .int (Int32.ofNat 3)] (th7 b kd pl vl ky len tok cur tak tl fk fp z) (fun rv l => (∃ k, sKno T p N.2.2.2 = .inr (p, k) ∧ k < N.2.2.2.length ∧ rv = some (.int (Int32.ofNat k)) ∧ l = th7 b kd pl vl ky len tok cur tak tl fk fp z) ∨ (∃ e q, sKno T p N.2.2.2 = .inl (e, q) ∧ rv = some (.int (Int32.ofInt (-1))) ∧ l = th7 b kd pl vl ky len tok cur tak tl (Int32.ofNat e) (Int32.ofNat q) z)) := by
  refine mS_mono (r_known7 (s := 3) (lo := 22) (hi := 26) hT h hn (by decide) rfl rfl (by decide) (by decide)) ?_
  have e1 := sKn_4 (p := p) hT hN
  have e2 := sKno_ok (T := T) (p := p) N.2.2.2
  rw [← e1] at e2
  rintro rv l (⟨k, e3, hk, rfl, rfl⟩ | ⟨e, q, e3, rfl, rfl⟩)
  · exact Or.inl ⟨k, by rw [e2, e3]; rfl, kn3_lt (e1.symm.trans e3), rfl, rfl⟩
  · exact Or.inr ⟨e, q, by rw [e2, e3]; rfl, rfl, rfl⟩
end HS7D
