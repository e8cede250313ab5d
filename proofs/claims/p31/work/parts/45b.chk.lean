/-! what holds of a heap, by looking -/
def vOkB (S : List Nat) (ty : fTy) (v : Value) : Bool := match ty, v with
  | .inl r, .int x => decide (r.1 ≤ x.toInt) && decide (x.toInt ≤ r.2)
  | .inr (.inl tg), .ref q => decide (S[q]? = some tg)
  | .inr (.inr _), .long _ => true
  | _, _ => false
theorem vOkB_ok {S : List Nat} {ty : fTy} {v : Value} (h : vOkB S ty v = true) : vOk S ty v := by
  unfold vOkB at h
  split at h
  · rw [Bool.and_eq_true, decide_eq_true_eq, decide_eq_true_eq] at h
    exact ⟨_, rfl, h.1, h.2⟩
  · exact ⟨_, rfl, of_decide_eq_true h⟩
  · exact ⟨_, rfl⟩
  · cases h
def eOkB (S : List Nat) (et : List nSeg ⊕ (Nat ⊕ Unit)) (n : Nat) (ct : (Nat → Int32) ⊕ (Nat → Int64) ⊕ (Nat → Option Nat)) : Bool := match et, ct with
  | .inl segs, .inl f => (List.range n).all (fun j => match sAt segs j with
    | some r => decide (r.1 ≤ (f j).toInt) && decide ((f j).toInt ≤ r.2.1)
    | none => false)
  | .inr (.inl tg), .inr (.inr f) => (List.range n).all (fun j => match f j with
    | some q => decide (S[q]? = some tg)
    | none => false)
  | .inr (.inr _), .inr (.inl _) => true
  | _, _ => false
theorem eOkB_ok {S : List Nat} {et : List nSeg ⊕ (Nat ⊕ Unit)} {n : Nat} {ct : (Nat → Int32) ⊕ (Nat → Int64) ⊕ (Nat → Option Nat)} (h : eOkB S et n ct = true) : eOk S et n ct := by
  unfold eOkB at h
  split at h
  · intro j hj
    have h2 := List.all_eq_true.mp h j (List.mem_range.mpr hj)
    split at h2
    · next r hr =>
      rw [Bool.and_eq_true, decide_eq_true_eq, decide_eq_true_eq] at h2
      exact ⟨r, hr, h2.1, h2.2⟩
    · cases h2
  · intro j hj
    have h2 := List.all_eq_true.mp h j (List.mem_range.mpr hj)
    split at h2
    · next q hq => exact ⟨q, hq, of_decide_eq_true h2⟩
    · cases h2
  · trivial
  · cases h
def cOkB (S : List Nat) (t : Nat) (c : nC) : Bool := match c with
  | .inr (ci, fs) => decide (oT t = some ci) && (List.range 64).all (fun k => match nFT t k with
    | some ty => (match fs[k]? with
      | some v => vOkB S ty v
      | none => false)
    | none => true)
  | .inl (kd, n, ct) => decide (oT t = none) && (match nAT t with
    | some (kd2, n2, et) => decide (kd2 = kd ∧ n2 = n) && eOkB S et n ct
    | none => false)
theorem nF_len : nF_t.all (fun r => decide (r.length ≤ 64)) = true := by decide +kernel
theorem nFT_lt {t k : Nat} {ty : fTy} (h : nFT t k = some ty) : k < 64 := by
  unfold nFT at h
  split at h
  · next r hr =>
    have h1 := of_decide_eq_true (List.all_eq_true.mp nF_len r (List.mem_of_getElem? hr))
    have h2 := (List.getElem?_eq_some_iff.mp h).1
    omega
  · cases h
theorem cOkB_ok {S : List Nat} {t : Nat} {c : nC} (h : cOkB S t c = true) : cOk nFT nAT S t c := by
  unfold cOkB at h
  split at h
  · next ci fs =>
    rw [Bool.and_eq_true] at h
    refine ⟨of_decide_eq_true h.1, fun k ty hk => ?_⟩
    have h2 := List.all_eq_true.mp h.2 k (List.mem_range.mpr (nFT_lt hk))
    simp only [hk] at h2
    split at h2
    · next v hv => exact ⟨v, hv, vOkB_ok h2⟩
    · cases h2
  · next kd n ct =>
    rw [Bool.and_eq_true] at h
    refine ⟨of_decide_eq_true h.1, ?_⟩
    have h2 := h.2
    split at h2
    · next kd2 n2 et he =>
      rw [Bool.and_eq_true] at h2
      obtain ⟨e1, e2⟩ := of_decide_eq_true h2.1
      subst e1
      subst e2
      exact ⟨et, he, eOkB_ok h2.2⟩
    · cases h2
def tOkB (S : List Nat) (h : List nC) : Bool := (List.range S.length).all (fun q => match S[q]?, h[q]? with
  | some t, some c => cOkB S t c
  | _, _ => false)
theorem tOkB_ok {S : List Nat} {h : List nC} (k : tOkB S h = true) : tOk nFT nAT S h := by
  intro q t hq
  have h2 := List.all_eq_true.mp k q (List.mem_range.mpr (List.getElem?_eq_some_iff.mp hq).1)
  simp only [hq] at h2
  split at h2
  · next t2 c e1 e2 =>
    cases e1
    exact ⟨c, e2, cOkB_ok h2⟩
  · cases h2
def pls (S : List Nat) (p : Nat → Bool) : List Nat := (List.range S.length).filter (fun q => match S[q]? with
  | some t => p t
  | none => false)
theorem pls_mem {S : List Nat} {p : Nat → Bool} {q t : Nat} (h : S[q]? = some t) (hp : p t = true) : q ∈ pls S p := by
  refine List.mem_filter.mpr ⟨List.mem_range.mpr (List.getElem?_eq_some_iff.mp h).1, ?_⟩
  simp only [h, hp]
def nJVB (S : List Nat) (h : List nC) : Bool := (pls S (fun t => t == 4 || t == 6)).all (fun q => match h[q]? with
  | some (.inr (ci, fs)) => decide (nGh 1000 h ci fs = 1)
  | _ => true)
theorem nJVB_ok {S : List Nat} {h : List nC} (k : nJVB S h = true) : nJV S h := by
  intro q t ci fs hS ht hq
  have h2 := List.all_eq_true.mp k q (pls_mem hS (by rcases ht with rfl | rfl <;> rfl))
  simp only [hq] at h2
  exact of_decide_eq_true h2
def difB (fs1 fs2 : List Value) : Bool := (List.range 46).all (fun k => match fs1[k]?, fs2[k]? with
  | some (.ref r1), some (.ref r2) => !(decide (r1 = r2))
  | _, _ => true)
def nInB (S : List Nat) (h : List nC) : Bool := (pls S (fun t => t == 4 || (t == 6 || t == 9))).all (fun q1 => (pls S (fun t => t == 4 || (t == 6 || t == 9))).all (fun q2 => decide (q1 = q2) || (!(decide (S[q1]? = S[q2]?)) || (match h[q1]?, h[q2]? with
  | some (.inr (_, fs1)), some (.inr (_, fs2)) => difB fs1 fs2
  | _, _ => true))))
theorem nSp_lt {t k : Nat} (h : nSp t k = true) : (t == 4 || (t == 6 || t == 9)) = true ∧ k < 46 := by
  simp only [nSp, Bool.or_eq_true, Bool.and_eq_true, beq_iff_eq, decide_eq_true_eq] at h ⊢
  omega
theorem nInB_ok {S : List Nat} {h : List nC} (k : nInB S h = true) : nIn S h := by
  intro q1 q2 t j r c1 c2 fs1 fs2 s1 s2 hsp h1 h2 f1 f2
  obtain ⟨ht, hj⟩ := nSp_lt hsp
  have k2 := List.all_eq_true.mp (List.all_eq_true.mp k q1 (pls_mem s1 ht)) q2 (pls_mem s2 ht)
  simp only [h1, h2, s1, s2, Bool.or_eq_true, decide_eq_true_eq, decide_true, Bool.not_true, Bool.false_eq_true, false_or] at k2
  rcases k2 with e | e
  · exact e
  · have e2 := List.all_eq_true.mp e j (List.mem_range.mpr hj)
    simp only [f1, f2, decide_true, Bool.not_true, Bool.false_eq_true] at e2
def nLenB (S : List Nat) (h : List nC) : Bool := decide (h.length = S.length) && h.all (fun c => match c with
  | .inr (_, fs) => decide (fs.length ≤ 100)
  | _ => true)
theorem nLenB_ok {S : List Nat} {h : List nC} (k : nLenB S h = true) : nLen S h := by
  unfold nLenB at k
  rw [Bool.and_eq_true] at k
  refine ⟨of_decide_eq_true k.1, fun q ci fs hq => ?_⟩
  have h2 := List.all_eq_true.mp k.2 _ (List.mem_of_getElem? hq)
  exact of_decide_eq_true h2
def nUqB (S : List Nat) : Bool := (pls S (fun t => t == 7)).all (fun q1 => (pls S (fun t => t == 7)).all (fun q2 => decide (q1 = q2)))
theorem nUqB_ok {S : List Nat} (k : nUqB S = true) : nUq S := fun q1 q2 h1 h2 => of_decide_eq_true (List.all_eq_true.mp (List.all_eq_true.mp k q1 (pls_mem h1 rfl)) q2 (pls_mem h2 rfl))
def nJJB (S : List Nat) (h : List nC) : Bool := nJVB S h && (nInB S h && (nLenB S h && nUqB S))
theorem nJJB_ok {S : List Nat} {h : List nC} (k : nJJB S h = true) : nJJ S h := by
  unfold nJJB at k
  rw [Bool.and_eq_true, Bool.and_eq_true, Bool.and_eq_true] at k
  exact ⟨nJVB_ok k.1, nInB_ok k.2.1, nLenB_ok k.2.2.1, nUqB_ok k.2.2.2⟩
def rfB (fs : List Value) (k q : Nat) : Bool := match fs[k]? with
  | some (.ref r) => decide (r = q)
  | _ => false
theorem rfB_ok {fs : List Value} {k q : Nat} (h : rfB fs k q = true) : fs[k]? = some (.ref q) := by
  unfold rfB at h
  split at h
  · next r e =>
    have e2 := of_decide_eq_true h
    subst e2
    exact e
  · cases h
def obB (h : List nC) (q c0 : Nat) (p : List Value → Bool) : Bool := match h[q]? with
  | some (.inr (c, fs)) => decide (c = c0) && p fs
  | _ => false
theorem obB_ok {h : List nC} {q c0 : Nat} {p : List Value → Bool} (k : obB h q c0 p = true) : ∃ fs, h[q]? = some (.inr (c0, fs)) ∧ p fs = true := by
  unfold obB at k
  split at k
  · next c fs e =>
    rw [Bool.and_eq_true] at k
    have e2 := of_decide_eq_true k.1
    subst e2
    exact ⟨fs, e, k.2⟩
  · cases k
/-- the invariant of the rounds, by looking -/
def lwB (S : List Nat) (qx qm ql qb : Nat) (h : List nC) : Bool := nJJB S h && (tOkB S h && (obB h qm 9 (fun fm => decide (nGh 1002 h 9 fm = 1) && (decide (nGh 1003 h 9 fm = 1) && decide (nGh 1004 h 9 fm = 1))) && (obB h qx 8 (fun fx => rfB fx 3 ql) && obB h ql 2 (fun fl => rfB fl 0 qb))))
theorem lwB_ok {S : List Nat} {qx qm ql qb : Nat} {h : List nC} (k : lwB S qx qm ql qb h = true) : lwI S qx qm ql qb h := by
  unfold lwB at k
  rw [Bool.and_eq_true, Bool.and_eq_true, Bool.and_eq_true, Bool.and_eq_true] at k
  obtain ⟨k1, k2, k3, k4, k5⟩ := k
  obtain ⟨fm, e3, k3⟩ := obB_ok k3
  obtain ⟨fx, e4, k4⟩ := obB_ok k4
  obtain ⟨fl, e5, k5⟩ := obB_ok k5
  rw [Bool.and_eq_true, Bool.and_eq_true] at k3
  exact ⟨nJJB_ok k1, tOkB_ok k2, ⟨fm, e3, of_decide_eq_true k3.1, of_decide_eq_true k3.2.1, of_decide_eq_true k3.2.2⟩, ⟨fx, e4, rfB_ok k4⟩, fl, e5, rfB_ok k5⟩
