/-! what stands outside, at the law's entry -/
theorem arr_cls {args : Array Value} {s : State} {ty : FieldType} (h : (Cond.arrayClass ty).before args s = true) : ∃ cA : ClassId, ArrOfT s cA ty ∧ s.vm.findClass ("[" ++ ty.toString) = some cA := by
  obtain ⟨c, k, comp, h1, h2, h3⟩ := Cond.arrayClass_spec (show (Cond.arrayClass ty).holds args s none s [] = true from h)
  exact ⟨c, fun n z => ⟨fun k h => (by cases h), k, h2, comp, h3⟩, h1⟩
theorem arr_obj {s : State} {C : String} (h : va_AO C s) : ∃ cA : ClassId, ArrOfT s cA (.object C) ∧ va_RA s cA (.object C) := by
  obtain ⟨comp, c, k, h1, -, h2, h3, h4⟩ := Cond.arrayOver_spec (show (Cond.arrayOver (.object C)).holds #[] s none s [] = true from h)
  exact ⟨c, fun n z => ⟨fun k h => (by cases h), k, h2, comp, h3⟩, k, comp, h2, h3, h1, h4⟩
theorem of_OF {args : Array Value} {s : State} {t : Term} {o n d : String} {v : Value} {a : Nat} {A : Nat → Prop} (ht : t.eval args s none [] s = some (.ref a)) (hv : (Term.field t o n d).eval args s none [] s = some v) (hA : ∀ a : Nat, a < s.heap.size → ¬ A a) : va_OF o n d v a A s s.heap := by
  cases hfo : s.fieldFound? o n d with
  | none =>
    rw [va_fe ht] at hv
    simp [State.fieldOf?, State.fieldNamed?, hfo] at hv
  | some x =>
    obtain ⟨cf, k, fi, f⟩ := x
    obtain ⟨g1, cell, g2, g3, -, -, g6⟩ := Term.field_spec hfo ht hv
    exact ⟨cf, k, fi, f, cell, hfo, g1, g2, g3, g6, hA _ (Array.getElem?_eq_some_iff.mp g2).1⟩
def fl1 : List Cond := flatC (Jvm.Cond.and given_1 narrow_1)
def tFS : Term := .static RX8 "FIRST_SLOT" "[I"
def tST : Term := .string RX7 52
def tVA : Term := .field tST "java/lang/String" "value" "[B"
theorem fl_a : ([.arrayOf tFS .int, .eq (.length tFS) (.int 5), .exactly tST "java/lang/String", .arrayOf tVA .byte, .eq (.length tVA) (.int 113), .eq (.field tST "java/lang/String" "coder" "B") (.int 0), .eq (.static "java/lang/String" "COMPACT_STRINGS" "Z") (.int 1), .isRef (.static "jdk/internal/util/Preconditions" "SIOOBE_FORMATTER" "Ljava/util/function/BiFunction;"), .isRef (.static Bundle.tN "UNASSIGNED_STACK" Bundle.steD), .isRef (.static Bundle.tN "SUPPRESSED_SENTINEL" Bundle.listD)] : List Cond).all (fun w => decide (w ∈ fl1)) = true := by decide +kernel
set_option maxRecDepth 100000 in
theorem fl_b : (List.range 5).all (fun j => decide (Cond.eq (.elem tFS (.int (Int32.ofNat j))) (.int (nj_fs.getD j 0)) ∈ fl1)) = true := by decide +kernel
set_option maxRecDepth 100000 in
theorem fl_c : (List.range 113).all (fun j => decide (Cond.eq (.elem tVA (.int (Int32.ofNat j))) (.int (nj_kw.getD j 0)) ∈ fl1)) = true := by decide +kernel
theorem fl_d : ([.laysStatic RX8 "FIRST_SLOT" "[I", .initialized RX8, .stringRef RX7 52 nj_kws, .laysStatic "java/lang/String" "COMPACT_STRINGS" "Z", .initialized "java/lang/String", .laysStatic "jdk/internal/util/Preconditions" "SIOOBE_FORMATTER" "Ljava/util/function/BiFunction;", .initialized "jdk/internal/util/Preconditions", .arrayOver (.object RX2), .arrayOver (.object RX1), .arrayClass .int, .arrayClass .byte, .arrayClass .boolean, .arrayClass .long, .laysStatic Bundle.tN "UNASSIGNED_STACK" Bundle.steD, .laysStatic Bundle.tN "SUPPRESSED_SENTINEL" Bundle.listD, .initialized Bundle.tN] : List Cond).all (fun w => decide (w ∈ lw_tbl)) = true := by decide +kernel
theorem fl_e : nj_nw.all (fun w => decide (w ∈ lw_tbl) && w.onTables) = true := by decide +kernel
theorem fl_f : nj_tw.all (fun w => decide (w ∈ lw_tbl)) = true := by decide +kernel
set_option maxRecDepth 100000 in
theorem fl_g : nj_cl.all (fun q => (u_ws q.1 q.2.1 q.2.2).all (fun w => decide (w ∈ lw_tbl)) && decide (Cond.instantiable q.1 q.2.2 ∈ lw_tbl)) = true := by decide +kernel
theorem fl_in {l : List Cond} {big : List Cond} (h : l.all (fun w => decide (w ∈ big)) = true) : ∀ w ∈ l, w ∈ big := fun w hw => of_decide_eq_true (List.all_eq_true.mp h w hw)
theorem nj_start {s : State} {b L : Nat} {xs : Nat → Int32} (hts : ∀ w ∈ lw_tbl, w.before #[Value.ref b] s = true) (hX : va_X b L xs s s.heap) (hbl : b < s.heap.size) (hgv : (Jvm.Cond.and given_1 narrow_1).before #[Value.ref b] s = true) : ∃ (ext : Nat → Option Nat) (cA : Nat → ClassId) (D : va_G), ext 0 = some b ∧ nj_Env s.heap.size ext L xs s ∧ va_K D nj_cl (nj_tys cA) s ∧ nj_Thr s.heap.size s := by
  have hs0 := flat_of_before _ hgv
  have hs : ∀ w ∈ fl1, w.before #[Value.ref b] s = true := hs0
  have ha : ∀ w ∈ ([.arrayOf tFS .int, .eq (.length tFS) (.int 5), .exactly tST "java/lang/String", .arrayOf tVA .byte, .eq (.length tVA) (.int 113), .eq (.field tST "java/lang/String" "coder" "B") (.int 0), .eq (.static "java/lang/String" "COMPACT_STRINGS" "Z") (.int 1), .isRef (.static "jdk/internal/util/Preconditions" "SIOOBE_FORMATTER" "Ljava/util/function/BiFunction;"), .isRef (.static Bundle.tN "UNASSIGNED_STACK" Bundle.steD), .isRef (.static Bundle.tN "SUPPRESSED_SENTINEL" Bundle.listD)] : List Cond), w.before #[Value.ref b] s = true := fun w hw => hs w (fl_in fl_a w hw)
  have hd := fun w hw => hts w (fl_in fl_d w hw)
  have hA : ∀ a : Nat, a < s.heap.size → ¬ nj_A s.heap.size a := fun a h => Nat.not_le.mpr h
  obtain ⟨x1, t1, T1⟩ := va_Tof (args := #[Value.ref b]) (tm := tFS) (ty := .int) (N := 5) (f := fun j => .int (nj_fs.getD j 0)) (A := nj_A s.heap.size) (by decide) (ha _ (by simp)) (va_eqv (ha (.eq (.length tFS) (.int 5)) (by simp)) rfl) (fun j hj => va_eqv (hs _ (of_decide_eq_true (List.all_eq_true.mp fl_b j (List.mem_range.mpr hj)))) rfl) hA
  obtain ⟨x2, cs, cl2, kA, q1, -⟩ := Cond.exactly_spec (args := #[Value.ref b]) (first := s) (o := none) (s := s) (idx := []) (t := tST) (cls := "java/lang/String") (ha (.exactly tST "java/lang/String") (by simp))
  obtain ⟨x3, t3, T3⟩ := va_Tof (args := #[Value.ref b]) (tm := tVA) (ty := .byte) (N := 113) (f := fun j => .int (nj_kw.getD j 0)) (A := nj_A s.heap.size) (by decide) (ha _ (by simp)) (va_eqv (ha (.eq (.length tVA) (.int 113)) (by simp)) rfl) (fun j hj => va_eqv (hs _ (of_decide_eq_true (List.all_eq_true.mp fl_c j (List.mem_range.mpr hj)))) rfl) hA
  have Z6 := va_Zqof (A := nj_A s.heap.size) (hd (.laysStatic "jdk/internal/util/Preconditions" "SIOOBE_FORMATTER" "Ljava/util/function/BiFunction;") (by simp)) (hd (.initialized "jdk/internal/util/Preconditions") (by simp)) (ha (.isRef (.static "jdk/internal/util/Preconditions" "SIOOBE_FORMATTER" "Ljava/util/function/BiFunction;")) (by simp)) hA
  obtain ⟨x4, Z4⟩ : ∃ x4 : Option Nat, va_Z "jdk/internal/util/Preconditions" "SIOOBE_FORMATTER" "Ljava/util/function/BiFunction;" (va_rf x4) (nj_A s.heap.size) s s.heap := by
    rcases Z6 with h | ⟨t, h⟩
    · exact ⟨none, h⟩
    · exact ⟨some t, h⟩
  have AO2 : va_AO RX2 s := va_AO.of (hd (.arrayOver (.object RX2)) (by simp))
  have AO1 : va_AO RX1 s := va_AO.of (hd (.arrayOver (.object RX1)) (by simp))
  have hexA : ∀ k : Nat, ∃ c : ClassId, k < 6 → ArrOfT s c (nj_kt k) ∧ va_RA s c (nj_kt k) := by
    intro k
    match k with
    | 0 => obtain ⟨c, h1, h2⟩ := arr_cls (hd (.arrayClass .int) (by simp)); exact ⟨c, fun _ => ⟨h1, h2⟩⟩
    | 1 => obtain ⟨c, h1, h2⟩ := arr_cls (hd (.arrayClass .byte) (by simp)); exact ⟨c, fun _ => ⟨h1, h2⟩⟩
    | 2 => obtain ⟨c, h1, h2⟩ := arr_cls (hd (.arrayClass .boolean) (by simp)); exact ⟨c, fun _ => ⟨h1, h2⟩⟩
    | 3 => obtain ⟨c, h1, h2⟩ := arr_cls (hd (.arrayClass .long) (by simp)); exact ⟨c, fun _ => ⟨h1, h2⟩⟩
    | 4 => obtain ⟨c, h1, h2⟩ := arr_obj AO2; exact ⟨c, fun _ => ⟨h1, h2⟩⟩
    | n + 5 => obtain ⟨c, h1, h2⟩ := arr_obj AO1; exact ⟨c, fun _ => ⟨h1, h2⟩⟩
  have hexD : ∀ k : Nat, ∃ (c : ClassId) (i : Nat → Nat), ∀ q : vw_C, nj_cl[k]? = some q → u_Kn s q.1 q.2.1 q.2.2 c i := by
    intro k
    cases hk : nj_cl[k]? with
    | none => exact ⟨0, fun _ => 0, fun q hq => nomatch hq⟩
    | some q =>
      have k1 := List.all_eq_true.mp fl_g q (List.mem_of_getElem? hk)
      simp only [Bool.and_eq_true, decide_eq_true_eq] at k1
      obtain ⟨c, i, K⟩ := u_known (C := q.1) (T := q.2.1) (N := q.2.2) (n := q.2.2) hts (fl_in k1.1) (hts _ k1.2)
      exact ⟨c, i, fun q' hq => by cases hq; exact K⟩
  refine ⟨fun k => match k with | 0 => some b | 1 => some x1 | 2 => some x2 | 3 => some x3 | _ => x4, fun k => (hexA k).choose, (fun k => (hexD k).choose, fun k => (hexD k).choose_spec.choose), rfl, ⟨?_, ⟨b, rfl, hX, hbl, Nat.le_refl _⟩, ⟨x1, rfl, ?_, T1⟩, ⟨x2, x3, rfl, rfl, ?_, ?_, ?_, ?_, T3⟩, ?_, Z4, AO2, AO1⟩, ⟨?_, ?_⟩, ⟨?_, ?_, ?_⟩⟩
  · intro w hw
    have k := List.all_eq_true.mp fl_e w hw
    simp only [Bool.and_eq_true, decide_eq_true_eq] at k
    exact va_Nw.of k.2 (hts w k.1)
  · exact va_Zof (hd (.laysStatic RX8 "FIRST_SLOT" "[I") (by simp)) (hd (.initialized RX8) (by simp)) t1 hA
  · exact vk_R.of (hd (.stringRef RX7 52 nj_kws) (by simp)) q1
  · exact va_Oof (ha (.exactly tST "java/lang/String") (by simp)) q1 hA
  · exact of_OF q1 (va_eqv (ha (.eq (.field tST "java/lang/String" "coder" "B") (.int 0)) (by simp)) rfl) hA
  · exact of_OF q1 t3 hA
  · exact va_Zof (hd (.laysStatic "java/lang/String" "COMPACT_STRINGS" "Z") (by simp)) (hd (.initialized "java/lang/String") (by simp)) (va_eqv (ha (.eq (.static "java/lang/String" "COMPACT_STRINGS" "Z") (.int 1)) (by simp)) rfl) hA
  · intro k q hq
    exact (hexD k).choose_spec.choose_spec q hq
  · intro k q hq
    simp only [nj_tys, List.getElem?_map, Option.map_eq_some_iff] at hq
    obtain ⟨j, hj, rfl⟩ := hq
    have hk : k < 6 := by
      have := (List.getElem?_eq_some_iff.mp hj).1
      simpa using this
    rw [List.getElem?_range hk] at hj
    cases hj
    exact (hexA k).choose_spec hk
  · intro w hw
    exact va_Nw.of (nj_tw_on w hw) (hts w (fl_in fl_f w hw))
  · exact vx_Zqof (hd (.laysStatic Bundle.tN "UNASSIGNED_STACK" Bundle.steD) (by simp)) (hd (.initialized Bundle.tN) (by simp)) (ha (.isRef (.static Bundle.tN "UNASSIGNED_STACK" Bundle.steD)) (by simp)) hA
  · exact vx_Zqof (hd (.laysStatic Bundle.tN "SUPPRESSED_SENTINEL" Bundle.listD) (by simp)) (hd (.initialized Bundle.tN) (by simp)) (ha (.isRef (.static Bundle.tN "SUPPRESSED_SENTINEL" Bundle.listD)) (by simp)) hA
