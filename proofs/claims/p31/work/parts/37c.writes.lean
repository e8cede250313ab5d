/-! named writes: a field, a place of a row -/
theorem nGh_obj {h : List nC} {q : Nat} {x y : Nat × List Value} (hq : h[q]? = some (.inr x)) (k ci : Nat) (fs : List Value) : nGh k (h.set q (.inr y)) ci fs = nGh k h ci fs := by
  unfold nGh
  simp only [gA_obj hq]
theorem put_ok {S : List Nat} {h : List nC} {q t ci b : Nat} {fs : List Value} {x : Int32} {rg : Int × Int} {mf : List (Nat × Nat)} (hJ : nJJ S h) (hT : tOk nFT nAT S h) (ht : S[q]? = some t) (hc : oT t = some ci) (hq : h[q]? = some (.inr (ci, fs))) (hfs : ∀ (k : Nat) (ty : fTy), nFT t k = some ty → ∃ v : Value, fs[k]? = some v ∧ vOk S ty v) (hF : nFT t b = some (.inl rg)) (hx : rg.1 ≤ x.toInt ∧ x.toInt ≤ rg.2) (hfit : nj_fit (nj_ty ci b) (.int x) = true) (hb : (t, b) ∈ mf) (hG : ∀ k, 1000 ≤ k → (t, k) ∉ mf → nGh k h ci (fs.set b (.int x)) = nGh k h ci fs) (hV : t = 4 ∨ t = 6 → nGh 1000 h ci (fs.set b (.int x)) = 1) :
    (∀ (pc : Nat) (rst : List Value) (ini : Bool), nj_putf ini pc ci b 0 (.int x :: .ref q :: rst) h = some (pc + 3, rst, h.set q (.inr (ci, fs.set b (.int x))))) ∧ nJJ S (h.set q (.inr (ci, fs.set b (.int x)))) ∧ tOk nFT nAT S (h.set q (.inr (ci, fs.set b (.int x)))) ∧ nFr mf [] S h (h.set q (.inr (ci, fs.set b (.int x)))) ∧ (h.set q (.inr (ci, fs.set b (.int x))))[q]? = some (.inr (ci, fs.set b (.int x))) ∧ (fs.set b (.int x))[b]? = some (.int x) := by
  have hql : q < h.length := (List.getElem?_eq_some_iff.mp hq).1
  obtain ⟨w, hw, -⟩ := hfs b _ hF
  have hbl : b < fs.length := (List.getElem?_eq_some_iff.mp hw).1
  refine ⟨fun pc rst ini => ?_, ⟨?_, nIn_obj hJ.2.1 ht (.inr (fun r h => by cases h)) hq, nLen_obj hJ.2.2.1 hq, hJ.2.2.2⟩, ?_, ?_, List.getElem?_set_self hql, List.getElem?_set_self hbl⟩
  · simp only [nj_putf, hq]
    rw [if_pos ⟨trivial, hbl, hfit, Or.inl trivial⟩]
  · intro q2 t2 c2 fs2 hS2 ht2 hq2
    rw [nGh_obj hq]
    by_cases e : q = q2
    · subst e
      rw [List.getElem?_set_self hql] at hq2
      cases hq2
      cases ht.symm.trans hS2
      exact hV ht2
    · rw [List.getElem?_set_ne e] at hq2
      exact hJ.1 q2 t2 c2 fs2 hS2 ht2 hq2
  · refine tOk_set hT ht ⟨hc, fun k2 ty2 hF2 => ?_⟩
    by_cases e : b = k2
    · subst e
      cases hF.symm.trans hF2
      exact ⟨.int x, List.getElem?_set_self hbl, x, rfl, hx⟩
    · obtain ⟨w2, g1, g2⟩ := hfs k2 ty2 hF2
      exact ⟨w2, by rw [List.getElem?_set_ne e]; exact g1, g2⟩
  · intro q2 t2 hS2
    refine ⟨fun _ ci2 fs2 hq2 => ?_, fun hn _ => ?_⟩
    · by_cases e : q = q2
      · subst e
        cases hq.symm.trans hq2
        cases ht.symm.trans hS2
        refine ⟨fs.set b (.int x), List.getElem?_set_self hql, fun k hk => ?_⟩
        unfold nFd
        split
        · rw [List.getElem?_set_ne]
          intro e2
          subst e2
          exact hk hb
        · next h10 => rw [nGh_obj hq, hG k (by omega) hk]
      · refine ⟨fs2, by rw [List.getElem?_set_ne e]; exact hq2, fun k hk => ?_⟩
        unfold nFd
        split
        · rfl
        · rw [nGh_obj hq]
    · rw [List.getElem?_set_ne]
      intro e
      subst e
      cases ht.symm.trans hS2
      rw [hc] at hn
      cases hn
def nRw : List (Nat × Nat × Nat) := [(9, 6, 50), (9, 45, 65), (9, 8, 52), (9, 38, 63), (4, 0, 30), (4, 2, 32), (6, 0, 38), (6, 1, 39), (6, 2, 40)]
theorem nRw_ok : ∀ x ∈ nRw, ∀ y ∈ nRw, x.2.2 = y.2.2 → x = y := by decide
theorem nRw_sp : ∀ x ∈ nRw, nSp x.1 x.2.1 = true ∧ nFT x.1 x.2.1 = some (.inr (.inl x.2.2)) := by decide +kernel
/-- a row of another cell is another one -/
theorem gA_oth {S : List Nat} {h : List nC} {q t kd n q0 t0 b0 ci0 : Nat} {c1 c2 : (Nat → Int32) ⊕ (Nat → Int64) ⊕ (Nat → Option Nat)} {fs0 : List Value} (hI : nIn S h) (hT : tOk nFT nAT S h) (ht : S[q]? = some t) (hq : h[q]? = some (.inl (kd, n, c1))) (ht0 : S[q0]? = some t0) (hq0 : h[q0]? = some (.inr (ci0, fs0))) (hb0 : fs0[b0]? = some (.ref q)) (hm : (t0, b0, t) ∈ nRw) {q2 t2 ci2 b2 T2 : Nat} {fs2 : List Value} (hS2 : S[q2]? = some t2) (hq2 : h[q2]? = some (.inr (ci2, fs2))) (hm2 : (t2, b2, T2) ∈ nRw) (hne : ¬ q2 = q0 ∨ ¬ (t2, b2, T2) = (t0, b0, t)) : gA (h.set q (.inl (kd, n, c2))) fs2 b2 = gA h fs2 b2 := by
  obtain ⟨c, hc1, hc2⟩ := hT q2 t2 hS2
  cases hq2.symm.trans hc1
  obtain ⟨v, hv1, r, rfl, hv3⟩ := hc2.2 b2 _ (nRw_sp _ hm2).2
  unfold gA
  rw [hv1]
  simp only
  rw [List.getElem?_set_ne]
  intro e
  subst e
  cases ht.symm.trans hv3
  have he := nRw_ok _ hm2 _ hm rfl
  cases he
  rcases hne with hne | hne
  · exact hne (hI q2 q0 t0 b0 q ci2 ci0 fs2 fs0 hS2 ht0 (nRw_sp _ hm).1 hq2 hq0 hv1 hb0)
  · exact hne rfl
theorem nGh_oth {S : List Nat} {h : List nC} {q t kd n q0 t0 b0 ci0 : Nat} {c1 c2 : (Nat → Int32) ⊕ (Nat → Int64) ⊕ (Nat → Option Nat)} {fs0 : List Value} (hI : nIn S h) (hT : tOk nFT nAT S h) (ht : S[q]? = some t) (hq : h[q]? = some (.inl (kd, n, c1))) (ht0 : S[q0]? = some t0) (hq0 : h[q0]? = some (.inr (ci0, fs0))) (hb0 : fs0[b0]? = some (.ref q)) (hm : (t0, b0, t) ∈ nRw) {q2 t2 ci2 : Nat} {fs2 : List Value} (hS2 : S[q2]? = some t2) (hq2 : h[q2]? = some (.inr (ci2, fs2))) (hne : ¬ q2 = q0) (k : Nat) : nGh k (h.set q (.inl (kd, n, c2))) ci2 fs2 = nGh k h ci2 fs2 := by
  obtain ⟨c, hc1, hc2⟩ := hT q2 t2 hS2
  cases hq2.symm.trans hc1
  obtain ⟨o1, o2, o3⟩ := oT9 hc2.1
  have go : ∀ b2 T2, (t2, b2, T2) ∈ nRw → gA (h.set q (.inl (kd, n, c2))) fs2 b2 = gA h fs2 b2 := fun b2 T2 hm2 => gA_oth hI hT ht hq ht0 hq0 hb0 hm hS2 hq2 hm2 (.inl hne)
  unfold nGh
  split
  · next e =>
    cases o1 e
    rw [go 6 50 (by decide), go 45 65 (by decide), go 8 52 (by decide), go 38 63 (by decide)]
  · split
    · next e =>
      cases o2 e
      rw [go 0 30 (by decide), go 2 32 (by decide)]
    · split
      · next e =>
        cases o3 e
        rw [go 0 38 (by decide), go 1 39 (by decide), go 2 40 (by decide)]
      · rfl
theorem ast_ok {S : List Nat} {h : List nC} {q t n q0 t0 b0 ci0 : Nat} {f : Nat → Int32} {segs : List nSeg} {i x : Int32} {fs0 : List Value} {mf : List (Nat × Nat)} (hJ : nJJ S h) (hT : tOk nFT nAT S h) (ht : S[q]? = some t) (hA : nAT t = some (0, n, .inl segs)) (hO : oT t = none) (hq : h[q]? = some (.inl (0, n, .inl f))) (ht0 : S[q0]? = some t0) (hq0 : h[q0]? = some (.inr (ci0, fs0))) (hb0 : fs0[b0]? = some (.ref q)) (hm : (t0, b0, t) ∈ nRw) (hix : nj_ix i n = true) (hx : ∀ r, sAt segs i.toNatClampNeg = some r → r.1 ≤ x.toInt ∧ x.toInt ≤ r.2.1) (hG : ∀ k, 1000 ≤ k → (t0, k) ∉ mf → nGh k (h.set q (.inl (0, n, .inl (upd f i.toNatClampNeg x)))) ci0 fs0 = nGh k h ci0 fs0) (hV : t0 = 4 ∨ t0 = 6 → nGh 1000 (h.set q (.inl (0, n, .inl (upd f i.toNatClampNeg x)))) ci0 fs0 = 1) :
    (∀ (pc : Nat) (rst : List Value), nj_iast pc (.int x :: .int i :: .ref q :: rst) h = some (pc + 1, rst, h.set q (.inl (0, n, .inl (upd f i.toNatClampNeg x))))) ∧ nJJ S (h.set q (.inl (0, n, .inl (upd f i.toNatClampNeg x)))) ∧ tOk nFT nAT S (h.set q (.inl (0, n, .inl (upd f i.toNatClampNeg x)))) ∧ nFr mf [t] S h (h.set q (.inl (0, n, .inl (upd f i.toNatClampNeg x)))) ∧ (h.set q (.inl (0, n, .inl (upd f i.toNatClampNeg x))))[q]? = some (.inl (0, n, .inl (upd f i.toNatClampNeg x))) ∧ (h.set q (.inl (0, n, .inl (upd f i.toNatClampNeg x))))[q0]? = some (.inr (ci0, fs0)) := by
  have hql : q < h.length := (List.getElem?_eq_some_iff.mp hq).1
  have hne0 : ¬ q = q0 := fun e => by subst e; cases hq.symm.trans hq0
  obtain ⟨ct, hct, het⟩ := hT q t ht
  cases hq.symm.trans hct
  obtain ⟨-, et, a1, a2⟩ := het
  cases hA.symm.trans a1
  refine ⟨fun pc rst => ?_, ⟨?_, nIn_arr hJ.2.1 hq, nLen_arr hJ.2.2.1 hq, hJ.2.2.2⟩, ?_, ?_, List.getElem?_set_self hql, by rw [List.getElem?_set_ne hne0]; exact hq0⟩
  · simp only [nj_iast, hq, hix, and_self, if_true]
  · intro q2 t2 c2 fs2 hS2 ht2 hq2
    have e : ¬ q = q2 := fun e => by
      subst e
      rw [List.getElem?_set_self hql] at hq2
      cases hq2
    rw [List.getElem?_set_ne e] at hq2
    by_cases e0 : q2 = q0
    · subst e0
      cases hq0.symm.trans hq2
      cases ht0.symm.trans hS2
      exact hV ht2
    · rw [nGh_oth hJ.2.1 hT ht hq ht0 hq0 hb0 hm hS2 hq2 e0]
      exact hJ.1 q2 t2 c2 fs2 hS2 ht2 hq2
  · exact tOk_set hT ht ⟨hO, _, hA, eOk_upd a2 hx⟩
  · intro q2 t2 hS2
    refine ⟨fun _ ci2 fs2 hq2 => ?_, fun hn hma => ?_⟩
    · have e : ¬ q = q2 := fun e => by subst e; cases hq.symm.trans hq2
      refine ⟨fs2, by rw [List.getElem?_set_ne e]; exact hq2, fun k hk => ?_⟩
      unfold nFd
      split
      · rfl
      · by_cases e0 : q2 = q0
        · subst e0
          cases hq0.symm.trans hq2
          cases ht0.symm.trans hS2
          rw [hG k (by omega) hk]
        · rw [nGh_oth hJ.2.1 hT ht hq ht0 hq0 hb0 hm hS2 hq2 e0]
    · rw [List.getElem?_set_ne]
      intro e
      subst e
      cases ht.symm.trans hS2
      exact hma (List.mem_singleton.mpr rfl)
