def fyB (h : List nC) : Bool := FY.all (fun e => match h[e.1]? with
  | some (.inr (c, fs)) => decide (c = e.2.1) && (match fs[e.2.2.1]?, e.2.2.2 with
    | none, none => true
    | some (.ref r), some (.ref r2) => decide (r = r2)
    | _, _ => false)
  | _ => false)
theorem fyB_ok {h : List nC} (k : fyB h = true) : fyOk h := by
  intro e he
  have k1 := List.all_eq_true.mp k e he
  split at k1
  · next c fs e1 =>
    rw [Bool.and_eq_true] at k1
    have c1 := of_decide_eq_true k1.1
    refine ⟨fs, by rw [e1, c1], ?_⟩
    have k2 := k1.2
    split at k2
    · next e2 e3 => rw [e2, e3]
    · next r r2 e2 e3 =>
      rw [e2, e3, of_decide_eq_true k2]
    · cases k2
  · cases k1
def zrB (h : List nC) (q kd n m : Nat) : Bool := match h[q]? with
  | some (.inl (k, n2, .inl f)) => decide (k = kd) && (decide (n2 = n) && (List.range m).all (fun j => decide (f j = 0)))
  | _ => false
theorem zrB_ok {h : List nC} {q kd n m : Nat} (k : zrB h q kd n m = true) : ∃ f, h[q]? = some (.inl (kd, n, .inl f)) ∧ ∀ j, j < m → f j = 0 := by
  unfold zrB at k
  split at k
  · next kk n2 f e =>
    simp only [Bool.and_eq_true, decide_eq_true_eq] at k
    obtain ⟨k1, k2, k3⟩ := k
    subst k1
    subst k2
    exact ⟨f, e, fun j hj => of_decide_eq_true (List.all_eq_true.mp k3 j (List.mem_range.mpr hj))⟩
  · cases k
def rwB (h : List nC) : Bool := match (h[(113 : Nat)]? : Option nC) with
  | some (.inl (k, n, .inr (.inr f))) => decide (k = 5) && (decide (n = 2) && (decide (f 0 = some 114) && decide (f 1 = some 141)))
  | _ => false
theorem rwB_ok {h : List nC} (k : rwB h = true) : ∃ f, hv (rwI f) h ∧ f 0 = some 114 ∧ f 1 = some 141 := by
  unfold rwB at k
  split at k
  · next kk n f e =>
    simp only [Bool.and_eq_true, decide_eq_true_eq] at k
    obtain ⟨k1, k2, k3, k4⟩ := k
    subst k1
    subst k2
    exact ⟨f, hv_c e hv_0, k3, k4⟩
  · cases k
set_option maxRecDepth 1000000 in
theorem f_fix5 : fChk (fun _ h2 _ _ _ _ => fyB (h2 ++ [fArr]) && (zrB (h2 ++ [fArr]) 8 0 4 4 && (zrB (h2 ++ [fArr]) 177 0 360 4 && (zrB (h2 ++ [fArr]) 194 2 2 2 && (obB (h2 ++ [fArr]) 114 1 (fun f => inB f 3 0) && (obB (h2 ++ [fArr]) 141 1 (fun f => inB f 3 0) && rwB (h2 ++ [fArr]))))))) = true := by decide +kernel
theorem f_inW {h1 h2 : List nC} {mc1 ms1 mc2 ms2 : Nat} (e : fRun = some (h1, h2, mc1, ms1, mc2, ms2)) : lwB5 (h2 ++ [fArr]) := by
  have Z := f_in4 e
  have k := f_use f_fix5 e
  simp only [Bool.and_eq_true] at k
  obtain ⟨q1, q2, q3, q4, q5, q6, q7⟩ := k
  have G := fyB_ok q1
  have T := Z.1.1.2.1
  obtain ⟨z, hz⟩ := pic_hoQ T Z.2.1 G
  obtain ⟨y0, hy0⟩ := pic_ho115 T Z.2.1 G
  obtain ⟨y1, hy1⟩ := pic_ho142 T Z.2.1 G
  obtain ⟨k0, hk0⟩ := pic_im0 T G
  obtain ⟨k1, hk1⟩ := pic_im1 T G
  obtain ⟨fz, ez, pz⟩ := zrB_ok q2
  obtain ⟨s, es, ps⟩ := zrB_ok q3
  obtain ⟨ak, ea, pa⟩ := zrB_ok q4
  obtain ⟨kp, ekp, -⟩ := rowI T (q := 192) (show fS[192]? = some 65 by decide) (show nAT 65 = some (0, 720, .inl _) from rfl) rfl
  obtain ⟨f0, e0, i0⟩ := obB_ok q5
  obtain ⟨f1, e1, i1⟩ := obB_ok q6
  have c0 := celO ((lg_hv (q := 114) hk0 rfl).symm.trans e0)
  have c1 := celO ((lg_hv (q := 141) hk1 rfl).symm.trans e1)
  have d0 : k0 = 0 := by
    have a := inB_ok i0
    rw [← c0] at a
    exact vI_inj a
  have d1 : k1 = 0 := by
    have a := inB_ok i1
    rw [← c1] at a
    exact vI_inj a
  have ezz : z.1 = fz := celI ((lg_hv (q := 8) hz rfl).symm.trans ez)
  exact ⟨0, fun _ => 0, z, y0, y1, k0, k1, s, kp, ak, by decide, ⟨Or.inl (fun i hi => ⟨by rw [ezz]; exact pz i hi, ps i hi⟩), Or.inl ⟨d0, pa 0 (by decide)⟩, Or.inl ⟨d1, pa 1 (by decide)⟩⟩, Z, G, ⟨hz, hy0, hy1, hk0, hk1, rwB_ok q7⟩, ⟨s, es, fun _ _ => rfl⟩, ekp, ea⟩
