/-- the kind of the fault -/
def rK {α : Type} (R : (Nat × Nat) ⊕ α) : Nat := match R with
  | .inl (e, _) => e
  | .inr _ => 0
/-! what a sentence says, by descent (fuel; mode: 0 one, 1 all, 2 the whole, 3 behind one, 4 behind all; how deep; where; how many ones) -/
def pM (T : Nat → Tk) (p k : Nat) : Rs Nat := if (T p).1 < 60 ∨ 62 < (T p).1 then .inl (1, (T p).2.1) else sBind (sNum T (T p).2.2.2.2 0 999) (fun p3 _ => .inr (p3, k))
def pK (T : Nat → Tk) (p k : Nat) (ns : List (List Nat)) : Rs Nat := sBind (sKno T p ns) (fun p2 _ => .inr ((T p2).2.2.2.2, k))
def pX (T : Nat → Tk) (H : Hs) : Nat → Nat → Nat → Nat → Nat → Rs Nat
  | 0, _, _, _, _ => .inl (0, 0)
  | f + 1, m, w, p, k => match m with
    | 0 => if ¬ (T p).1 = 40 ∧ ((T p).1 < 113 ∨ 121 < (T p).1) then .inl (1, (T p).2.1)
      else if 20 ≤ k ∨ 8 < w then .inl (4, (T p).2.1)
      else if (T p).1 = 40 then sBind (pX T H f 2 (w + 1) (T p).2.2.2.2 (k + 1)) (fun p2 k2 => if (T p2).1 = 41 then .inr ((T p2).2.2.2.2, k2) else .inl (1, (T p2).2.1))
      else if (T p).1 = 113 then pX T H f 0 (w + 1) (T p).2.2.2.2 (k + 1)
      else if (T p).1 = 114 ∨ (T p).1 = 115 then .inr ((T p).2.2.2.2, k + 1)
      else if (T p).1 = 116 then pK T (T p).2.2.2.2 (k + 1) H.1.2.2.1
      else if (T p).1 = 117 then pK T (T p).2.2.2.2 (k + 1) H.1.2.1
      else pM T (T p).2.2.2.2 (k + 1)
    | 1 => sBind (pX T H f 0 w p k) (fun p1 k1 => pX T H f 3 w p1 k1)
    | 2 => sBind (pX T H f 1 w p k) (fun p1 k1 => pX T H f 4 w p1 k1)
    | 3 => if (T p).1 = 112 then sBind (pX T H f 0 w (T p).2.2.2.2 k) (fun p1 k1 => pX T H f 3 w p1 k1) else .inr (p, k)
    | _ => if (T p).1 = 111 then sBind (pX T H f 1 w (T p).2.2.2.2 k) (fun p1 k1 => pX T H f 4 w p1 k1) else .inr (p, k)
abbrev ph54 (P : Ph) : nL := [(54, .inr (4, [.ref 55, .ref 56, .ref 57, .ref 58, .int P.2.2.2.2.1, .int P.2.2.2.2.2])), (55, .inl (0, 40, .inl P.1)), (56, .inl (0, 40, .inl P.2.1)), (57, .inl (0, 40, .inl P.2.2.1)), (58, .inl (0, 40, .inl P.2.2.2.1))]
def phB (P : Ph) (k : Nat) : Prop := (∃ m, m ≤ 40 ∧ P.2.2.2.2.1 = Int32.ofNat m) ∧ P.2.2.2.2.2 = Int32.ofNat k
section SEN
variable {L : Nat} {xs : Nat → Int32} {d : Nat} {b kd pl : Nat → Int32} {vl ky : Nat → Int64} {len tok cur tak tl fk fp : Int32} {T : Nat → Tk} {p k : Nat} {z : Ho} {H : Hs} {P : Ph}
theorem a_add (hP : phB P k) (x1 x2 x3 : Int32) : mS nj_M nX0 L xs d 141 [.ref 54, .int x1, .int x2, .int x3] (ph54 P) (fun rv l => rv = some (.int 1) ∧ ∃ P1, phB P1 k ∧ l = ph54 P1) := by
  obtain ⟨⟨m, hm, em⟩, ek⟩ := hP
  have hc := (cmp_nat (i := m) (j := 40) (by omega) (by omega)).1
  rw [← em] at hc
  refine mS_of rfl (fun h0 => ?_)
  by_cases c : m = 40
  · have q1 : nj_cmp .ge P.2.2.2.2.1 (Int32.ofNat 40) = true := by rw [hc]; exact decide_eq_true (by omega)
    exact xw_go nostop 40 (fun K e => And.intro (fun _ => e _ _ _ _ (kT_end rfl rfl ⟨rfl, P, ⟨⟨m, hm, em⟩, ek⟩, rfl⟩)) (fun c => nomatch (q1.symm.trans c)))
  · have q1 : nj_cmp .ge P.2.2.2.2.1 (Int32.ofNat 40) = false := by rw [hc]; exact decide_eq_false (by omega)
    have hx := ix_nat (i := m) (n := 40) (by omega) (by decide)
    rw [← em] at hx
    refine xw_go nostop 60 (fun K e => And.intro (fun c => nomatch (q1.symm.trans c)) (fun _ => And.intro hx.1 (And.intro hx.1 (And.intro hx.1 (And.intro rfl (e _ _ _ _ (kT_end rfl rfl ⟨rfl, (upd P.1 P.2.2.2.2.1.toNatClampNeg x1, upd P.2.1 P.2.2.2.2.1.toNatClampNeg x2, upd P.2.2.1 P.2.2.2.2.1.toNatClampNeg x3, P.2.2.2.1, P.2.2.2.2.1 + Int32.ofInt 1, P.2.2.2.2.2), ⟨⟨m + 1, by omega, ?_⟩, ek⟩, rfl⟩)))))))
    show P.2.2.2.2.1 + Int32.ofInt 1 = _
    rw [em, i32_succ]
end SEN
