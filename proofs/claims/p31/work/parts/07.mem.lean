def nj_ix (i : Int32) (n : Nat) : Bool := decide (¬ i < 0) && decide (i.toNatClampNeg < n)
theorem nj_ix_in {i : Int32} {n : Nat} (h : nj_ix i n = true) : vp_in i n := by
  simp only [nj_ix, Bool.and_eq_true, decide_eq_true_eq] at h
  intro q
  rcases q with q | q
  · exact h.1 q
  · omega
def nj_fit (ty : FieldType) (v : Value) : Bool := match ty, v with
  | .int, .int _ => true
  | .boolean, .int x => decide (x = 0 ∨ x = 1)
  | .long, .long _ => true
  | .object _, .ref _ => true
  | .array _, .ref _ => true
  | _, _ => false
theorem nj_fit_ok {ty : FieldType} {v : Value} (base : Nat) (ext : Nat → Option Nat) (h : nj_fit ty v = true) : narrow ty (nj_rl base ext v) = nj_rl base ext v ∧ fits ty (nj_rl base ext v) = true := by
  unfold nj_fit at h
  split at h
  · exact ⟨rfl, rfl⟩
  · next x =>
    rcases of_decide_eq_true h with rfl | rfl <;> exact ⟨rfl, rfl⟩
  · exact ⟨rfl, rfl⟩
  · exact ⟨rfl, rfl⟩
  · exact ⟨rfl, rfl⟩
  · cases h
/-- the rows outside: the script, FIRST_SLOT -/
def nj_xr (L : Nat) (xs : Nat → Int32) (j : Nat) : Option (Nat × (Nat → Int32)) := if j = 0 then some (L, xs) else if j = 1 then some (5, fun k => nj_fs.getD k 0) else none
abbrev nR : Type := Option (Nat × List Value × List nC)
def nj_getf (pc a b : Nat) (st : List Value) (h : List nC) : nR := match st with
  | .ref q :: r => match h[q]? with
    | some (.inr (ci, fs)) => if ci = a then (match fs[b]? with | some x => some (pc + 3, x :: r, h) | none => none) else none
    | _ => none
  | .retAddr j :: r => if j = 2 ∧ a = 100 then (if b = 0 then some (pc + 3, .int 0 :: r, h) else some (pc + 3, .retAddr 3 :: r, h)) else none
  | _ => none
def nj_putf (ini : Bool) (pc a b : Nat) (v : Int) (st : List Value) (h : List nC) : nR := match st with
  | x :: .ref q :: r => match h[q]? with
    | some (.inr (ci, fs)) => if ci = a ∧ b < fs.length ∧ nj_fit (nj_ty a b) x = true ∧ (v = 0 ∨ ini = true) then some (pc + 3, r, h.set q (.inr (ci, fs.set b x))) else none
    | _ => none
  | _ => none
def nj_iald (L : Nat) (xs : Nat → Int32) (pc : Nat) (st : List Value) (h : List nC) : nR := match st with
  | .int i :: .ref q :: r => match h[q]? with
    | some (.inl (k, n, .inl f)) => if k = 0 ∧ nj_ix i n = true then some (pc + 1, .int (f i.toNatClampNeg) :: r, h) else none
    | _ => none
  | .int i :: .retAddr j :: r => match nj_xr L xs j with
    | some (n, f) => if nj_ix i n = true then some (pc + 1, .int (f i.toNatClampNeg) :: r, h) else none
    | none => none
  | _ => none
def nj_bald (pc : Nat) (st : List Value) (h : List nC) : nR := match st with
  | .int i :: .ref q :: r => match h[q]? with
    | some (.inl (k, n, .inl f)) => if (k = 1 ∨ k = 2) ∧ nj_ix i n = true then some (pc + 1, .int (f i.toNatClampNeg) :: r, h) else none
    | _ => none
  | .int i :: .retAddr j :: r => if j = 3 ∧ nj_ix i 113 = true then some (pc + 1, .int (nj_kw.getD i.toNatClampNeg 0) :: r, h) else none
  | _ => none
def nj_lald (pc : Nat) (st : List Value) (h : List nC) : nR := match st with
  | .int i :: .ref q :: r => match h[q]? with
    | some (.inl (k, n, .inr (.inl f))) => if k = 3 ∧ nj_ix i n = true then some (pc + 1, .long (f i.toNatClampNeg) :: r, h) else none
    | _ => none
  | _ => none
def nj_aald (pc : Nat) (st : List Value) (h : List nC) : nR := match st with
  | .int i :: .ref q :: r => match h[q]? with
    | some (.inl (k, n, .inr (.inr f))) => if (k = 4 ∨ k = 5) ∧ nj_ix i n = true then (match f i.toNatClampNeg with | some x => some (pc + 1, .ref x :: r, h) | none => none) else none
    | _ => none
  | _ => none
def nj_iast (pc : Nat) (st : List Value) (h : List nC) : nR := match st with
  | .int x :: .int i :: .ref q :: r => match h[q]? with
    | some (.inl (k, n, .inl f)) => if k = 0 ∧ nj_ix i n = true then some (pc + 1, r, h.set q (.inl (k, n, .inl (upd f i.toNatClampNeg x)))) else none
    | _ => none
  | _ => none
def nj_bast (pc : Nat) (st : List Value) (h : List nC) : nR := match st with
  | .int x :: .int i :: .ref q :: r => match h[q]? with
    | some (.inl (k, n, .inl f)) => if (k = 1 ∨ k = 2) ∧ nj_ix i n = true then some (pc + 1, r, h.set q (.inl (k, n, .inl (upd f i.toNatClampNeg (vp_nar (nj_kt k) x))))) else none
    | _ => none
  | _ => none
def nj_last (pc : Nat) (st : List Value) (h : List nC) : nR := match st with
  | .long x :: .int i :: .ref q :: r => match h[q]? with
    | some (.inl (k, n, .inr (.inl f))) => if k = 3 ∧ nj_ix i n = true then some (pc + 1, r, h.set q (.inl (k, n, .inr (.inl (vp_updL f i.toNatClampNeg x))))) else none
    | _ => none
  | _ => none
def nj_aast (pc : Nat) (st : List Value) (h : List nC) : nR := match st with
  | .ref x :: .int i :: .ref q :: r => match h[q]?, h[x]? with
    | some (.inl (k, n, .inr (.inr f))), some (.inr (ci, _)) => if ((k = 4 ∧ ci = 2) ∨ (k = 5 ∧ ci = 1)) ∧ nj_ix i n = true then some (pc + 1, r, h.set q (.inl (k, n, .inr (.inr (va_up f i.toNatClampNeg (some x)))))) else none
    | _, _ => none
  | _ => none
def nj_alen (L : Nat) (pc : Nat) (st : List Value) (h : List nC) : nR := match st with
  | .ref q :: r => match h[q]? with
    | some (.inl (k, n, _)) => if k < 6 then some (pc + 1, .int (Int32.ofNat n) :: r, h) else none
    | _ => none
  | .retAddr j :: r => if j = 0 then some (pc + 1, .int (Int32.ofNat L) :: r, h) else if j = 1 then some (pc + 1, .int 5 :: r, h) else if j = 3 then some (pc + 1, .int 113 :: r, h) else none
  | _ => none
/-- what reads or writes cells, constants, statics -/
def nj_mem (L : Nat) (xs : Nat → Int32) (ini : Bool) (pc a b : Nat) (v : Int) (st : List Value) (h : List nC) (i : Instr) : nR := match i with
  | .getfield _ => nj_getf pc a b st h
  | .putfield _ => nj_putf ini pc a b v st h
  | .iaload => nj_iald L xs pc st h
  | .baload => nj_bald pc st h
  | .laload => nj_lald pc st h
  | .aaload => nj_aald pc st h
  | .iastore => nj_iast pc st h
  | .bastore => nj_bast pc st h
  | .lastore => nj_last pc st h
  | .aastore => nj_aast pc st h
  | .arraylength => nj_alen L pc st h
  | .ldc _ => if b = 1 then some (pc + 2, .retAddr 2 :: st, h) else some (pc + 2, .int (Int32.ofInt v) :: st, h)
  | .ldc_w _ => some (pc + 3, .int (Int32.ofInt v) :: st, h)
  | .ldc2_w _ => some (pc + 3, .long (Int64.ofInt v) :: st, h)
  | .getstatic _ => if a = 0 then some (pc + 3, .retAddr 1 :: st, h) else if a = 1 then some (pc + 3, .int 1 :: st, h) else if a = 2 then some (pc + 3, .retAddr 4 :: st, h) else none
  | _ => none
/-- the words that such an instruction needs -/
def nj_okm (own : String) (i : Instr) (a b : Nat) (v : Int) (pos : Nat) : Bool := match i with
  | .getfield idx => if a = 100 then (if b = 0 then nj_w pos (.fieldLink own idx "java/lang/String" "coder" "B") else nj_w pos (.fieldLink own idx "java/lang/String" "value" "[B")) else match nj_cl[a]? with
    | some q => decide (b < q.2.2) && nj_w pos (.fieldLink own idx (q.2.1 b).1 (q.2.1 b).2.1 (q.2.1 b).2.2.1)
    | none => false
  | .putfield idx => match nj_cl[a]? with
    | some q => decide (b < q.2.2) && (nj_w pos (.fieldLink own idx (q.2.1 b).1 (q.2.1 b).2.1 (q.2.1 b).2.2.1) && (if v = 0 then decide ((q.2.1 b).2.2.2 = false) else decide ((q.2.1 b).2.2.2 = true) && decide ((q.2.1 b).1 = own)))
    | none => false
  | .ldc idx => if b = 1 then decide (own = RX7) && decide (idx = 52) else nj_w pos (.constant own idx (Int32.ofInt v))
  | .ldc_w idx => nj_w pos (.constant own idx (Int32.ofInt v))
  | .ldc2_w idx => nj_w pos (.constantLong own idx (Int64.ofInt v))
  | .getstatic idx => if a = 0 then decide (own = RX0) && decide (idx = 121) else if a = 1 then nj_w pos (.fieldLink own idx "java/lang/String" "COMPACT_STRINGS" "Z") else nj_w pos (.fieldLink own idx "jdk/internal/util/Preconditions" "SIOOBE_FORMATTER" "Ljava/util/function/BiFunction;")
  | _ => true
theorem nj_in0 : (u_ws RX0 TX0 16).all (fun w => decide (w ∈ lw_tbl) && goodWord w) = true := by decide +kernel
theorem nj_in1 : (u_ws RX1 TX1 4).all (fun w => decide (w ∈ lw_tbl) && goodWord w) = true := by decide +kernel
theorem nj_in2 : (u_ws RX2 TX2 12).all (fun w => decide (w ∈ lw_tbl) && goodWord w) = true := by decide +kernel
theorem nj_in3 : (u_ws RX3 TX3 3).all (fun w => decide (w ∈ lw_tbl) && goodWord w) = true := by decide +kernel
theorem nj_in4 : (u_ws RX4 TX4 6).all (fun w => decide (w ∈ lw_tbl) && goodWord w) = true := by decide +kernel
theorem nj_in5 : (u_ws RX5 TX5 7).all (fun w => decide (w ∈ lw_tbl) && goodWord w) = true := by decide +kernel
theorem nj_in6 : (u_ws RX6 TX6 5).all (fun w => decide (w ∈ lw_tbl) && goodWord w) = true := by decide +kernel
theorem nj_in7 : (u_ws RX7 TX7 12).all (fun w => decide (w ∈ lw_tbl) && goodWord w) = true := by decide +kernel
theorem nj_in8 : (u_ws RX8 TX8 17).all (fun w => decide (w ∈ lw_tbl) && goodWord w) = true := by decide +kernel
theorem nj_in9 : (u_ws RX9 TX9 48).all (fun w => decide (w ∈ lw_tbl) && goodWord w) = true := by decide +kernel
theorem nj_in_of {ws : List Cond} (h : ws.all (fun w => decide (w ∈ lw_tbl) && goodWord w) = true) : ∀ w ∈ ws, w ∈ nj_T := by
  intro w hw
  have h1 := List.all_eq_true.mp h w hw
  simp only [Bool.and_eq_true, decide_eq_true_eq] at h1
  exact List.mem_filter.mpr h1
/-- what the kit asks of each kind of object -/
theorem nj_cl_ok {a : Nat} {q : vw_C} (h : nj_cl[a]? = some q) : (∀ w ∈ u_ws q.1 q.2.1 q.2.2, w ∈ nj_T) ∧ (∀ k, k < q.2.2 → parseFieldDescriptor (q.2.1 k).2.2.1 = some (nj_ty a k)) ∧ (∀ x, x < q.2.2 → ∀ y, y < q.2.2 → x ≠ y → (q.2.1 x).2.1 ≠ (q.2.1 y).2.1) := by
  match a, h with
  | 0, h => cases h; exact ⟨nj_in_of nj_in0, tyX0_ok, nmX0⟩
  | 1, h => cases h; exact ⟨nj_in_of nj_in1, tyX1_ok, nmX1⟩
  | 2, h => cases h; exact ⟨nj_in_of nj_in2, tyX2_ok, nmX2⟩
  | 3, h => cases h; exact ⟨nj_in_of nj_in3, tyX3_ok, nmX3⟩
  | 4, h => cases h; exact ⟨nj_in_of nj_in4, tyX4_ok, nmX4⟩
  | 5, h => cases h; exact ⟨nj_in_of nj_in5, tyX5_ok, nmX5⟩
  | 6, h => cases h; exact ⟨nj_in_of nj_in6, tyX6_ok, nmX6⟩
  | 7, h => cases h; exact ⟨nj_in_of nj_in7, tyX7_ok, nmX7⟩
  | 8, h => cases h; exact ⟨nj_in_of nj_in8, tyX8_ok, nmX8⟩
  | 9, h => cases h; exact ⟨nj_in_of nj_in9, tyX9_ok, nmX9⟩
  | a + 10, h => simp [nj_cl] at h
