/-! the reference's house: what stands at the first 132 places of its state -/
def s50A : List nSeg := [(1, 0, 6, false), (2, 0, 10, false), (3, 0, 6, false), (4, 0, 4, false), (14, (-2147483648), 2147483647, false), (15, 0, 0, false), (16, 0, 1, false), (17, 0, 2, false), (18, 0, 3, false), (19, 0, 4, false), (20, 0, 5, false), (21, 0, 6, false), (22, 0, 7, false), (23, 0, 8, false), (24, 0, 9, false), (34, 0, 10, false), (74, (-2147483648), 2147483647, false), (80, 0, 9, false), (84, 0, 12, false), (132, (-2147483648), 2147483647, false), (138, (-2147483648), 2147483647, false), (144, (-1), 10, false), (166, (-2147483648), 2147483647, false), (167, (-1), 12, false), (179, (-2147483648), 2147483647, false), (360, (-2147483648), 2147483647, true)]
def s50B : List nSeg := [(1, 0, 6, true), (2, 0, 10, true), (3, 0, 6, true), (4, 0, 4, true), (14, (-2147483648), 2147483647, true), (15, 0, 0, true), (16, 0, 1, true), (17, 0, 2, true), (18, 0, 3, true), (19, 0, 4, true), (20, 0, 5, true), (21, 0, 6, true), (22, 0, 7, true), (23, 0, 8, true), (24, 0, 9, true), (34, 0, 10, true), (74, (-2147483648), 2147483647, true), (80, 0, 9, true), (84, 0, 12, true), (132, (-2147483648), 2147483647, true), (138, (-2147483648), 2147483647, false), (144, (-1), 10, false), (166, (-2147483648), 2147483647, false), (167, (-1), 12, false), (179, (-2147483648), 2147483647, false), (360, (-2147483648), 2147483647, true)]
/-- the rows' kinds once more: these places are nobody's to write -/
def nAT2 (t : Nat) : Option aTy := bif Nat.beq t 50 then some (0, 360, .inl s50B) else nAT t
theorem nAT_50 : nAT 50 = some (0, 360, .inl s50A) := rfl
theorem nAT2_50 : nAT2 50 = some (0, 360, .inl s50B) := rfl
theorem nAT2_ne {t : Nat} (h : ¬ t = 50) : nAT2 t = nAT t := by
  unfold nAT2
  cases e : Nat.beq t 50 with
  | false => rfl
  | true => exact absurd (Nat.eq_of_beq_eq_true e) h
def s50P (j : Nat) : Bool := match sAt s50A j, sAt s50B j with
  | some r, some r2 => decide (r.1 = r2.1) && (decide (r.2.1 = r2.2.1) && ((r2.2.2 || !r.2.2) && (!decide (j < 132) || r2.2.2)))
  | _, _ => false
theorem s50_all : (List.range 360).all s50P = true := by decide +kernel
theorem s50_at {j : Nat} (hj : j < 360) : ∃ r r2, sAt s50A j = some r ∧ sAt s50B j = some r2 ∧ r.1 = r2.1 ∧ r.2.1 = r2.2.1 ∧ (r2.2.2 = false → r.2.2 = false) ∧ (j < 132 → r2.2.2 = true) := by
  have k := List.all_eq_true.mp s50_all j (List.mem_range.mpr hj)
  unfold s50P at k
  split at k
  · next r r2 e1 e2 =>
    simp only [Bool.and_eq_true, Bool.or_eq_true, Bool.not_eq_true', decide_eq_true_eq, decide_eq_false_iff_not] at k
    obtain ⟨k1, k2, k3, k4⟩ := k
    refine ⟨r, r2, e1, e2, k1, k2, fun f => ?_, fun c => ?_⟩
    · rcases k3 with k3 | k3
      · rw [f] at k3; cases k3
      · exact k3
    · rcases k4 with k4 | k4
      · exact absurd c k4
      · exact k4
  · cases k
theorem tOk_to {S : List Nat} {h : List nC} (T : tOk nFT nAT S h) : tOk nFT nAT2 S h := by
  intro q t hS
  obtain ⟨c, e, k⟩ := T q t hS
  refine ⟨c, e, ?_⟩
  cases c with
  | inr x => exact k
  | inl x =>
    obtain ⟨kd, n, ct⟩ := x
    obtain ⟨h10, et, a1, a2⟩ := k
    refine ⟨h10, ?_⟩
    by_cases t50 : t = 50
    · subst t50
      cases nAT_50.symm.trans a1
      refine ⟨_, nAT2_50, ?_⟩
      cases ct with
      | inr c => exact a2.elim
      | inl f =>
        intro j hj
        obtain ⟨r, r1, r2, r3⟩ := a2 j hj
        obtain ⟨p, p2, e1, e2, e3, e4, -⟩ := s50_at hj
        cases e1.symm.trans r1
        exact ⟨p2, e2, e3 ▸ r2, e4 ▸ r3⟩
    · exact ⟨et, (nAT2_ne t50).trans a1, a2⟩
theorem tOk_of {S : List Nat} {h : List nC} (T : tOk nFT nAT2 S h) : tOk nFT nAT S h := by
  intro q t hS
  obtain ⟨c, e, k⟩ := T q t hS
  refine ⟨c, e, ?_⟩
  cases c with
  | inr x => exact k
  | inl x =>
    obtain ⟨kd, n, ct⟩ := x
    obtain ⟨h10, et, a1, a2⟩ := k
    refine ⟨h10, ?_⟩
    by_cases t50 : t = 50
    · subst t50
      cases nAT2_50.symm.trans a1
      refine ⟨_, nAT_50, ?_⟩
      cases ct with
      | inr c => exact a2.elim
      | inl f =>
        intro j hj
        obtain ⟨r, r1, r2, r3⟩ := a2 j hj
        obtain ⟨p, p2, e1, e2, e3, e4, -⟩ := s50_at hj
        cases e2.symm.trans r1
        exact ⟨p, e1, e3 ▸ r2, e4 ▸ r3⟩
    · exact ⟨et, (nAT2_ne t50).symm.trans a1, a2⟩
/-- .. and they are as they were -/
def nJC (S : List Nat) (cc : Option (Nat → Int32)) (h : List nC) : Prop := nJJ S h ∧ ∀ c0, cc = some c0 → ∀ (q kd n : Nat) (f : Nat → Int32), S[q]? = some 50 → h[q]? = some (.inl (kd, n, .inl f)) → ∀ i, i < 132 → f i = c0 i
theorem nJC_none {S : List Nat} {h : List nC} (J : nJJ S h) : nJC S none h := ⟨J, fun _ e => nomatch e⟩
theorem nJC_fr {S : List Nat} {cc : Option (Nat → Int32)} {h h1 : List nC} {mf : List (Nat × Nat)} {ma : List Nat} (hJ : nJC S cc h) (J1 : nJJ S h1) (F : nFr mf ma S h h1) (hm : 50 ∉ ma) : nJC S cc h1 :=
  ⟨J1, fun c0 e q kd n f s2 h2 => hJ.2 c0 e q kd n f s2 (((F q 50 s2).2 rfl hm).symm.trans h2)⟩
theorem nJC_set {S : List Nat} {cc : Option (Nat → Int32)} {h : List nC} {q t : Nat} {x : nC} (hJ : nJC S cc h) (J1 : nJJ S (h.set q x)) (ht : S[q]? = some t) (hq : q < h.length) (hx : ∀ kd n f, t = 50 → x = .inl (kd, n, .inl f) → ∃ kd2 n2 f2, h[q]? = some (.inl (kd2, n2, .inl f2)) ∧ ∀ i, i < 132 → f i = f2 i) : nJC S cc (h.set q x) := by
  refine ⟨J1, fun c0 e q2 kd n f s2 h2 i hi => ?_⟩
  by_cases eq : q = q2
  · subst eq
    rw [List.getElem?_set_self hq] at h2
    cases h2
    obtain ⟨kd2, n2, f2, e2, e3⟩ := hx _ _ _ (Option.some.inj (ht.symm.trans s2)) rfl
    rw [e3 i hi]
    exact hJ.2 c0 e q kd2 n2 f2 s2 e2 i hi
  · rw [List.getElem?_set_ne eq] at h2
    exact hJ.2 c0 e q2 kd n f s2 h2 i hi
theorem nJC_ok (S : List Nat) (cc : Option (Nat → Int32)) : nJ nFT nAT2 S (nJC S cc) := by
  obtain ⟨k1, k2, k3, k4⟩ := nJJ_ok S
  refine ⟨fun h q t c b fs x hJ hT ht hc hsp hq => ?_, fun h q t kd n segs f j x hJ hT ht hA hq hj hsp => ?_, fun h q t kd n f f2 hJ hT ht hq => ?_, fun h q t kd n segs f f2 hJ hT ht hA hq hsp => ?_⟩
  · obtain ⟨a, b⟩ := k1 h q t c b fs x hJ.1 (tOk_of hT) ht hc hsp hq
    exact ⟨nJC_set hJ a ht (List.getElem?_eq_some_iff.mp hq).1 (fun _ _ _ _ e => nomatch e), b⟩
  · by_cases t50 : t = 50
    · subst t50
      cases nAT2_50.symm.trans hA
      obtain ⟨r, r2, e1, e2, -, -, e5, e6⟩ := s50_at hj
      have hf := hsp r2 e2
      obtain ⟨a, b⟩ := k2 h q 50 0 360 s50A f j x hJ.1 (tOk_of hT) ht nAT_50 hq hj (fun r0 h0 => by
        cases e1.symm.trans h0
        exact e5 hf)
      refine ⟨nJC_set hJ a ht (List.getElem?_eq_some_iff.mp hq).1 (fun kd n f0 _ e => ?_), b⟩
      cases e
      refine ⟨_, _, f, hq, fun i hi => ?_⟩
      unfold upd
      split
      · next ei =>
        subst ei
        rw [e6 hi] at hf
        cases hf
      · rfl
    · obtain ⟨a, b⟩ := k2 h q t kd n segs f j x hJ.1 (tOk_of hT) ht ((nAT2_ne t50).symm.trans hA) hq hj hsp
      exact ⟨nJC_set hJ a ht (List.getElem?_eq_some_iff.mp hq).1 (fun _ _ _ e _ => absurd e t50), b⟩
  · obtain ⟨a, b⟩ := k3 h q t kd n f f2 hJ.1 (tOk_of hT) ht hq
    exact ⟨nJC_set hJ a ht (List.getElem?_eq_some_iff.mp hq).1 (fun _ _ _ _ e => nomatch e), b⟩
  · by_cases t50 : t = 50
    · subst t50
      cases nAT2_50.symm.trans hA
      have := hsp (1, 0, 6, true) List.mem_cons_self
      cases this
    · obtain ⟨a, b⟩ := k4 h q t kd n segs f f2 hJ.1 (tOk_of hT) ht ((nAT2_ne t50).symm.trans hA) hq hsp
      exact ⟨nJC_set hJ a ht (List.getElem?_eq_some_iff.mp hq).1 (fun _ _ _ e _ => absurd e t50), b⟩
section FRC
variable {M : Nat → Option nM} {X : nX} {L : Nat} {xs : Nat → Int32} {g : Nat} {S : List Nat} {cc : Option (Nat → Int32)}
theorem gh_cc {w : nGt} (k : nGv nFT nAT S (nJJ S) w) : nGv nFT nAT2 S (nJC S cc) w := fun h nu mu vs hJ hT => k h nu mu vs hJ.1 (tOk_of hT)
theorem sw_cc {w : nSt} (k : nSv nFT nAT S (nJJ S) w) (hm : 50 ∉ w.2.2.2.2.1) : nSv nFT nAT2 S (nJC S cc) w := by
  intro h nu mu ws vs rst pc ini hJ hT h1 h2 h3
  obtain ⟨h', a1, a2, J1, T1, F1, po⟩ := k h nu mu ws vs rst pc ini hJ.1 (tOk_of hT) h1 h2 h3
  exact ⟨h', a1, a2, nJC_fr hJ J1 F1 hm, tOk_to T1, F1, po⟩
theorem iast_row {pc pc1 : Nat} {va vr : Value} {i : Int32} {r r1 : List Value} {h h1 : List nC} (e : nj_iast pc (va :: .int i :: vr :: r) h = some (pc1, r1, h1)) : ∃ x q kd n f, h[q]? = some (.inl (kd, n, .inl f)) ∧ h1 = h.set q (.inl (kd, n, .inl (upd f i.toNatClampNeg x))) := by
  unfold nj_iast at e
  split at e
  · next x i2 q r2 heq =>
    cases heq
    split at e
    · next k n f hq =>
      split at e
      · cases e
        exact ⟨x, q, k, n, f, hq, rfl⟩
      · cases e
    · cases e
  · cases e
theorem sw_ci {w : nSt} (k : nSv nFT nAT S (nJJ S) w) (h0 : w.1.1 = 0) {a b c : aV} (hv : w.2.2.1 = [a, b, c]) (hb : ∀ (h : List nC) (nu : List Int) (mu : List Nat) (v : Value), aOk S h nu mu w.2.1 → aR nu mu b v → ∃ i : Int32, v = .int i ∧ 132 ≤ i.toNatClampNeg) : nSv nFT nAT2 S (nJC S cc) w := by
  intro h nu mu ws vs rst pc ini hJ hT h1 h2 h3
  obtain ⟨h', a1, a2, J1, T1, F1, po⟩ := k h nu mu ws vs rst pc ini hJ.1 (tOk_of hT) h1 h2 h3
  refine ⟨h', a1, a2, ?_, tOk_to T1, F1, po⟩
  rw [hv] at h3
  cases vs with
  | nil => exact h3.elim
  | cons va vs =>
    obtain ⟨b1, h3⟩ := h3
    cases vs with
    | nil => exact h3.elim
    | cons vb vs =>
      obtain ⟨b2, h3⟩ := h3
      cases vs with
      | nil => exact h3.elim
      | cons vc vs =>
        obtain ⟨i, rfl, hi⟩ := hb h nu mu vb h1 b2
        obtain ⟨x, q, kd, n, f, hq, rfl⟩ := iast_row (a1 h0)
        refine ⟨J1, fun c0 e q2 kd2 n2 f2 s2 h4 j hj => ?_⟩
        by_cases eq : q = q2
        · subst eq
          rw [List.getElem?_set_self (List.getElem?_eq_some_iff.mp hq).1] at h4
          cases h4
          have e3 : upd f i.toNatClampNeg x j = f j := by
            unfold upd
            rw [if_neg (by omega)]
          rw [e3]
          exact hJ.2 c0 e q _ _ f s2 hq j hj
        · rw [List.getElem?_set_ne eq] at h4
          exact hJ.2 c0 e q2 _ _ f2 s2 h4 j hj
theorem sw_44_cc : nSv nFT nAT2 S (nJC S cc) sw_44 := sw_ci sw_44_ok rfl rfl (fun h nu mu v _ hv => ⟨Int32.ofInt 179, hv, by decide⟩)
theorem sw_45_cc : nSv nFT nAT2 S (nJC S cc) sw_45 := sw_ci sw_45_ok rfl rfl (fun h nu mu v ok hv => by
  obtain ⟨z, hz, e⟩ := (show ∃ z : Int, nu[2]? = some z ∧ v = .int (Int32.ofInt (z + 0)) from hv)
  have hr : (180 : Int) ≤ z ∧ z ≤ 314 := ok.1.2 2 z (180, 314) hz rfl
  refine ⟨_, e, ?_⟩
  have h1 : (Int32.ofInt (z + 0)).toNatClampNeg = (Int32.ofInt (z + 0)).toInt.toNat := rfl
  rw [a32 (by omega) (by omega)] at h1
  omega)
theorem nV_cc {k : nK} (hk : nV M X L xs g nFT nAT S (nJJ S) k) (hm : 50 ∉ k.2.2.2.2.2.1) : nV M X L xs g nFT nAT2 S (nJC S cc) k := by
  intro d hd mt hM h nu mu vs hJ hT hpre har
  refine nT.mono ?_ (hk d hd mt hM h nu mu vs hJ.1 (tOk_of hT) hpre har)
  rintro rv h1 ⟨J1, T1, F1, po⟩
  exact ⟨nJC_fr hJ J1 F1 hm, tOk_to T1, F1, po⟩
theorem nV_dd {k : nK} (hk : nV M X L xs g nFT nAT2 S (nJC S none) k) : nV M X L xs g nFT nAT S (nJJ S) k := by
  intro d hd mt hM h nu mu vs hJ hT hpre har
  refine nT.mono ?_ (hk d hd mt hM h nu mu vs (nJC_none hJ) (tOk_to hT) hpre har)
  rintro rv h1 ⟨J1, T1, F1, po⟩
  exact ⟨J1.1, tOk_of T1, F1, po⟩
end FRC
