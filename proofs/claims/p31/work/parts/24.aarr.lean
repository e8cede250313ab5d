/-- the places that an index can be -/
def aIdx (s : aS) (ix : aV) (n : Nat) : Option (Nat × Nat) := if aIsI ix = true ∧ 0 ≤ (aIv s.1 ix).1 ∧ (aIv s.1 ix).2 < (n : Int) then some ((aIv s.1 ix).1.toNat, (aIv s.1 ix).2.toNat) else none
theorem aIdx_ok {S : List Nat} {h : List nC} {nu : List Int} {mu : List Nat} {s : aS} (k : aOk S h nu mu s) {ix : aV} {n : Nat} {p : Nat × Nat} {v : Value} (hp : aIdx s ix n = some p) (hx : aR nu mu ix v) : ∃ i : Int32, v = .int i ∧ nj_ix i n = true ∧ p.1 ≤ i.toNatClampNeg ∧ i.toNatClampNeg ≤ p.2 ∧ i.toNatClampNeg < n := by
  unfold aIdx at hp
  split at hp
  · next hc =>
    cases hp
    obtain ⟨i, rfl, h1, h2⟩ := aIv_ok k.1 hc.1 hx
    have hz : i.toNatClampNeg = i.toInt.toNat := rfl
    have h0 : ¬ i < 0 := by
      rw [Int32.lt_iff_toInt_lt]
      have : (0 : Int32).toInt = 0 := rfl
      omega
    have hlt : i.toNatClampNeg < n := by omega
    refine ⟨i, rfl, ?_, by show (aIv s.1 ix).1.toNat ≤ _; omega, by show _ ≤ (aIv s.1 ix).2.toNat; omega, hlt⟩
    simp only [nj_ix, Bool.and_eq_true, decide_eq_true_eq]
    exact ⟨h0, hlt⟩
  · cases hp
theorem aR_inj {nu : List Int} {mu : List Nat} {a : aV} {x y : Int32} (h1 : aR nu mu a (.int x)) (h2 : aR nu mu a (.int y)) : x = y := by
  unfold aR at h1 h2
  split at h1
  · cases h1; cases h2; rfl
  · obtain ⟨z, z1, z2⟩ := h1
    obtain ⟨w, w1, w2⟩ := h2
    cases z1.symm.trans w1
    cases z2
    cases w2
    rfl
  · obtain ⟨z, z1, z2⟩ := h1; cases z2
  · cases h1
  · obtain ⟨z, z2⟩ := h1; cases z2
def aLdK (AT : Nat → Option aTy) (kds : List Nat) (s : aS) (ix : aV) (j : Nat) (r : List aV) : Option (aS × List aV) := match s.2.1[j]? with
  | some t => match AT t with
    | some (kd, n, .inl segs) => if oT t = none ∧ kd ∈ kds then (match aIdx s ix n with
      | some p => match s.2.2.2.1.find? (fun e => e.1 == j && decide (e.2.1 = ix)) with
        | some e => some (s, e.2.2 :: r)
        | none => some ((s.1 ++ [sJoin (sHit segs 0 p.1 p.2)], s.2.1, s.2.2.1, (j, ix, aSym s.1.length) :: s.2.2.2.1, s.2.2.2.2), aSym s.1.length :: r)
      | none => none) else none
    | _ => none
  | none => none
section AAR
variable {FT : Nat → Nat → Option fTy} {AT : Nat → Option aTy} {S : List Nat} {h : List nC} {nu : List Int} {mu : List Nat} {s s1 : aS} {pc : Nat} {st rst : List Value} {ast ast1 : List aV} {mf : List (Nat × Nat)} {ma : List Nat}
theorem m_ldK {kds : List Nat} {ix : aV} {j q : Nat} {r : List aV} {vi : Value} (hT : tOk FT AT S h) (k : aOk S h nu mu s) (hi : aR nu mu ix vi) (hj : mu[j]? = some q) (hrst : aSt nu mu r rst) (hr : aLdK AT kds s ix j r = some (s1, ast1)) : ∃ (kd n : Nat) (f : Nat → Int32) (i : Int32) (nu1 : List Int), kd ∈ kds ∧ h[q]? = some (.inl (kd, n, .inl f)) ∧ vi = .int i ∧ nj_ix i n = true ∧ aX nu mu nu1 mu ∧ aOk S h nu1 mu s1 ∧ aSt nu1 mu ast1 (.int (f i.toNatClampNeg) :: rst) := by
  unfold aLdK at hr
  split at hr
  · next t ht =>
    split at hr
    · next kd n segs hA =>
      split at hr
      · next hc =>
        split at hr
        · next p hp =>
          obtain ⟨i, rfl, hix, hi1, hi2, hi3⟩ := aIdx_ok k hp hi
          obtain ⟨ct, hq, hct⟩ := hT.arr (k.tag hj ht) hA hc.1
          cases ct with
          | inr y => exact hct.elim
          | inl f =>
            split at hr
            · next e he =>
              cases hr
              have hm := List.mem_of_find?_eq_some he
              have hp := List.find?_some he
              simp only [Bool.and_eq_true, beq_iff_eq, decide_eq_true_eq] at hp
              obtain ⟨q2, kd2, n2, f2, i2, g1, g2, g3, g4⟩ := k.2.2.2.1 e hm
              rw [hp.1] at g1
              cases hj.symm.trans g1
              cases hq.symm.trans g2
              rw [hp.2] at g3
              have hie : i2 = i := aR_inj g3 hi
              subst hie
              exact ⟨kd, n, f, i2, nu, hc.2, hq, rfl, hix, aX.rf, k, g4, hrst⟩
            · cases hr
              have X : aX nu mu (nu ++ [(f i.toNatClampNeg).toInt]) mu := ⟨[(f i.toNatClampNeg).toInt], [], rfl, by simp⟩
              have hl : s.1.length = nu.length := k.1.1
              obtain ⟨rr, hrr, hr1, hr2⟩ := hct i.toNatClampNeg hi3
              have hmem := sHit_ok segs 0 p.1 p.2 i.toNatClampNeg rr (Nat.zero_le _) hi1 hi2 hrr
              have hjn := sJoin_ok _ rr hmem
              have k1 := k.pushI (z := (f i.toNatClampNeg).toInt) (r := sJoin (sHit segs 0 p.1 p.2)) ⟨by omega, by omega⟩
              refine ⟨kd, n, f, i, _, hc.2, hq, rfl, hix, X, ⟨k1.1, k1.2.1, k1.2.2.1, fun e he => ?_, k1.2.2.2.2⟩, ?_, hrst.x X⟩
              · rcases List.mem_cons.mp he with rfl | he
                · exact ⟨q, kd, n, f, i, hj, hq, hi.x X, by rw [hl]; exact aR_sym nu mu _⟩
                · exact k1.2.2.2.1 e he
              · rw [hl]; exact aR_sym nu mu _
        · cases hr
      · cases hr
    · cases hr
  · cases hr
/-- may the value stand at the places -/
def aFitA (segs : List nSeg) (p : Nat × Nat) (r : Int × Int) : Bool := (sHit segs 0 p.1 p.2).all (fun q => decide (q.1 ≤ r.1) && (decide (r.2 ≤ q.2.1) && !q.2.2))
theorem aFitA_ok {segs : List nSeg} {p : Nat × Nat} {r : Int × Int} (hf : aFitA segs p r = true) {j : Nat} (h1 : p.1 ≤ j) (h2 : j ≤ p.2) {q : Int × Int × Bool} (hq : sAt segs j = some q) : q.1 ≤ r.1 ∧ r.2 ≤ q.2.1 ∧ q.2.2 = false := by
  have := List.all_eq_true.mp hf q (sHit_ok segs 0 p.1 p.2 j q (Nat.zero_le _) h1 h2 hq)
  simp only [Bool.and_eq_true, decide_eq_true_eq, Bool.not_eq_true'] at this
  exact this
theorem eOk_upd {segs : List nSeg} {n : Nat} {f : Nat → Int32} {j : Nat} {x : Int32} (he : eOk S (.inl segs) n (.inl f)) (hx : ∀ r, sAt segs j = some r → r.1 ≤ x.toInt ∧ x.toInt ≤ r.2.1) : eOk S (.inl segs) n (.inl (upd f j x)) := by
  intro i hi
  obtain ⟨r, h1, h2⟩ := he i hi
  by_cases e : i = j
  · subst e
    refine ⟨r, h1, ?_⟩
    simp only [upd, if_true]
    exact hx r h1
  · refine ⟨r, h1, ?_⟩
    simp only [upd, if_neg e]
    exact h2
/-- what stays known of rows when a row of kind t is written -/
def aKeep (s : aS) (t : Nat) : List (Nat × aV × aV) := s.2.2.2.1.filter (fun e => decide (¬ s.2.1[e.1]? = some t))
theorem aKeep_ok (k : aOk S h nu mu s) {q t : Nat} (hq : S[q]? = some t) {c : nC} : ∀ e ∈ aKeep s t, acOk nu mu (h.set q c) e := by
  intro e he
  obtain ⟨he1, he2⟩ := List.mem_filter.mp he
  obtain ⟨q2, kd, n, f, i, g1, g2, g3, g4⟩ := k.2.2.2.1 e he1
  refine ⟨q2, kd, n, f, i, g1, ?_, g3, g4⟩
  rw [List.getElem?_set_ne]
  · exact g2
  · intro e2
    subst e2
    have hlt : e.1 < s.2.1.length := by rw [k.2.1.1]; exact (List.getElem?_eq_some_iff.mp g1).1
    have := k.tag g1 (List.getElem?_eq_getElem hlt)
    have ht2 : s.2.1[e.1]? = some t := by rw [List.getElem?_eq_getElem hlt]; exact this.symm.trans hq
    simp [ht2] at he2
theorem aFc_arr (k : aOk S h nu mu s) {q : Nat} {x : Nat × Nat × ((Nat → Int32) ⊕ (Nat → Int64) ⊕ (Nat → Option Nat))} (hq : h[q]? = some (.inl x)) {c : nC} (hG : nGp S h (h.set q c)) : ∀ e ∈ s.2.2.1, fcOk nu mu (h.set q c) e := by
  intro e he
  obtain ⟨q2, ci2, fs2, v2, g1, g2, g3, g4⟩ := k.2.2.1 e he
  have hlt : e.1 < s.2.1.length := by rw [k.2.1.1]; exact (List.getElem?_eq_some_iff.mp g1).1
  have g2' : (h.set q c)[q2]? = some (.inr (ci2, fs2)) := by
    rw [List.getElem?_set_ne]
    · exact g2
    · intro e2
      subst e2
      cases hq.symm.trans g2
  exact ⟨q2, ci2, fs2, v2, g1, g2', (nFd_gp hG (k.tag g1 (List.getElem?_eq_getElem hlt)) g2 g2' (fun _ => rfl)).trans g3, g4⟩
/-- two places of a row that differ for sure -/
def aDif (s : aS) (a b : aV) : Bool := aIsI a && (aIsI b && (decide (0 ≤ (aIv s.1 a).1) && (decide (0 ≤ (aIv s.1 b).1) && (decide ((aIv s.1 a).2 < (aIv s.1 b).1) || decide ((aIv s.1 b).2 < (aIv s.1 a).1)))))
theorem aDif_ok {a b : aV} {x y : Int32} (k : aOk S h nu mu s) (ha : aR nu mu a (.int x)) (hb : aR nu mu b (.int y)) (hd : aDif s a b = true) : ¬ x.toNatClampNeg = y.toNatClampNeg := by
  simp only [aDif, Bool.and_eq_true, Bool.or_eq_true, decide_eq_true_eq] at hd
  obtain ⟨h1, h2, h3, h4, h5⟩ := hd
  obtain ⟨x0, e1, e2, e3⟩ := aIv_ok k.1 h1 ha
  obtain ⟨y0, f1, f2, f3⟩ := aIv_ok k.1 h2 hb
  cases e1
  cases f1
  show ¬ x.toInt.toNat = y.toInt.toNat
  omega
def aKeepD (s : aS) (j : Nat) (ix : aV) : List (Nat × aV × aV) := s.2.2.2.1.filter (fun e => e.1 == j && aDif s ix e.2.1)
def aStI (AT : Nat → Option aTy) (ma : List Nat) (s : aS) (st : List aV) : Option (aS × List aV) := match st with
  | x :: ix :: .inr (.inr (.inl j)) :: r => match s.2.1[j]? with
    | some t => match AT t with
      | some (kd, n, .inl segs) => if (oT t = none ∧ kd = 0) ∧ t ∈ ma ∧ aIsI x = true then (match aIdx s ix n with
        | some p => if aFitA segs p (aIv s.1 x) = true then some ((s.1, s.2.1, s.2.2.1, (j, ix, x) :: (aKeepD s j ix ++ aKeep s t), s.2.2.2.2), r) else none
        | none => none) else none
      | _ => none
    | none => none
  | _ => none
theorem m_iast {J : List nC → Prop} (hJ : nJ FT AT S J) (hJh : J h) (hT : tOk FT AT S h) (k : aOk S h nu mu s) (hs : aSt nu mu ast st) (hr : aStI AT ma s ast = some (s1, ast1)) : ∃ (st1 : List Value) (h1 : List nC), nj_iast pc st h = some (pc + 1, st1, h1) ∧ J h1 ∧ tOk FT AT S h1 ∧ nFr mf ma S h h1 ∧ aOk S h1 nu mu s1 ∧ aSt nu mu ast1 st1 := by
  unfold aStI at hr
  split at hr
  · next x ix j r =>
    obtain ⟨v0, rst0, rfl, hx, hrst0⟩ := hs.cons
    obtain ⟨v1, rst1, rfl, hi, hrst1⟩ := hrst0.cons
    obtain ⟨v2, rst2, rfl, ⟨q, hj, rfl⟩, hrst⟩ := hrst1.cons
    split at hr
    · next t ht =>
      split at hr
      · next kd n segs hA =>
        split at hr
        · next hc =>
          obtain ⟨⟨hc1, rfl⟩, hma, hxi⟩ := hc
          split at hr
          · next p hp =>
            split at hr
            · next hfit =>
              cases hr
              obtain ⟨i, rfl, hix, hi1, hi2, hi3⟩ := aIdx_ok k hp hi
              obtain ⟨x0, rfl, hx1, hx2⟩ := aIv_ok k.1 hxi hx
              have htag := k.tag hj ht
              obtain ⟨ct, hq, hct⟩ := hT.arr htag hA hc1
              cases ct with
              | inr y => exact hct.elim
              | inl f =>
                have hql : q < h.length := (List.getElem?_eq_some_iff.mp hq).1
                obtain ⟨hJ1, hG⟩ := hJ.2.1 h q t 0 n segs f i.toNatClampNeg x0 hJh hT htag hA hq hi3 (fun r hr => (aFitA_ok hfit hi1 hi2 hr).2.2)
                refine ⟨rst2, h.set q (.inl (0, n, .inl (upd f i.toNatClampNeg x0))), ?_, hJ1, ?_, nFr.seta htag hc1 hma hG, ⟨k.1, k.2.1, aFc_arr k hq hG, fun e he => ?_, k.2.2.2.2⟩, hrst⟩
                · simp only [nj_iast, hq, hix, and_self, if_true]
                · refine tOk_set hT htag ⟨hc1, _, hA, eOk_upd hct (fun r hr => ?_)⟩
                  have := aFitA_ok hfit hi1 hi2 hr
                  omega
                · rcases List.mem_cons.mp he with rfl | he
                  · exact ⟨q, 0, n, _, i, hj, List.getElem?_set_self hql, hi, by simp only [upd, if_true]; exact hx⟩
                  · rcases List.mem_append.mp he with he | he
                    · obtain ⟨he1, he2⟩ := List.mem_filter.mp he
                      simp only [Bool.and_eq_true, beq_iff_eq] at he2
                      obtain ⟨q2, kd2, n2, f2, i2, g1, g2, g3, g4⟩ := k.2.2.2.1 e he1
                      rw [he2.1] at g1
                      cases hj.symm.trans g1
                      cases hq.symm.trans g2
                      refine ⟨q, 0, n, _, i2, by rw [he2.1]; exact hj, List.getElem?_set_self hql, g3, ?_⟩
                      have hne := aDif_ok k hi g3 he2.2
                      simp only [upd, if_neg (fun z => hne (Eq.symm z))]
                      exact g4
                    · exact aKeep_ok k htag e he
            · cases hr
          · cases hr
        · cases hr
      · cases hr
    · cases hr
  · cases hr
end AAR
