/-! what only named writes touch -/
theorem gA_obj {h : List nC} {q : Nat} {x y : Nat × List Value} (hq : h[q]? = some (.inr x)) (fs : List Value) (k : Nat) : gA (h.set q (.inr y)) fs k = gA h fs k := by
  unfold gA
  split
  · next r hr =>
    by_cases e : q = r
    · subst e
      rw [List.getElem?_set_self (List.getElem?_eq_some_iff.mp hq).1, hq]
    · rw [List.getElem?_set_ne e]
  · rfl
theorem oT9 {t c : Nat} (h : oT t = some c) : (c = 9 → t = 9) ∧ (c = 4 → t = 4) ∧ (c = 6 → t = 6) := by
  unfold oT at h
  split at h
  · cases h; exact ⟨id, id, id⟩
  · split at h
    · cases h; exact ⟨fun z => by omega, fun z => by omega, fun z => by omega⟩
    · cases h
theorem gA_set {h : List nC} {fs : List Value} {b k : Nat} {x : Value} (hb : ¬ b = k) : gA h (fs.set b x) k = gA h fs k := by
  unfold gA
  rw [List.getElem?_set_ne hb]
theorem gI_set {fs : List Value} {b k : Nat} {x : Value} (hb : ¬ b = k) : gI (fs.set b x) k = gI fs k := by
  unfold gI
  rw [List.getElem?_set_ne hb]
theorem nGp_putf {S : List Nat} {h : List nC} {q t c b : Nat} {fs : List Value} {x : Value} (ht : S[q]? = some t) (hc : oT t = some c) (hsp : nSp t b = false) (hq : h[q]? = some (.inr (c, fs))) : nGp S h (h.set q (.inr (c, fs.set b x))) := by
  intro q2 t2 ci fs2 fs3 k hS h2 h3
  obtain ⟨o1, o2, o3⟩ := oT9 hc
  by_cases e : q = q2
  · subst e
    rw [List.getElem?_set_self (List.getElem?_eq_some_iff.mp hq).1] at h3
    cases h3
    cases hq.symm.trans h2
    unfold nGh
    simp only [gA_obj hq]
    split
    · next e9 =>
      have et := o1 e9
      subst et
      simp [nSp] at hsp
      rw [gA_set (by omega), gA_set (by omega), gA_set (by omega), gA_set (by omega), gI_set (by omega), gI_set (by omega), gI_set (by omega)]
    · split
      · next e4 =>
        have et := o2 e4
        subst et
        simp [nSp] at hsp
        rw [gA_set (by omega), gA_set (by omega), gI_set (by omega)]
      · split
        · next e6 =>
          have et := o3 e6
          subst et
          simp [nSp] at hsp
          rw [gA_set (by omega), gA_set (by omega), gA_set (by omega), gI_set (by omega)]
        · rfl
  · rw [List.getElem?_set_ne e] at h3
    cases h2.symm.trans h3
    unfold nGh
    simp only [gA_obj hq]
theorem gA_ref {S : List Nat} {h : List nC} {fs : List Value} {k T : Nat} (hfs : ∀ (k : Nat) (ty : fTy), nFT 9 k = some ty → ∃ v : Value, fs[k]? = some v ∧ vOk S ty v) (hk : nFT 9 k = some (.inr (.inl T))) : ∃ r, fs[k]? = some (.ref r) ∧ S[r]? = some T := by
  obtain ⟨v, h1, r, rfl, h3⟩ := hfs k _ hk
  exact ⟨r, h1, h3⟩
theorem gA_arr {S : List Nat} {h : List nC} {q t kd n : Nat} {c1 c2 : (Nat → Int32) ⊕ (Nat → Int64) ⊕ (Nat → Option Nat)} {fs : List Value} {k T j : Nat} (ht : S[q]? = some t) (hq : h[q]? = some (.inl (kd, n, c1))) (hv : ∃ v : Value, fs[k]? = some v ∧ vOk S (.inr (.inl T)) v) (hj : t = T → gA [.inl (kd, n, c2)] [.ref 0] 0 j = gA [.inl (kd, n, c1)] [.ref 0] 0 j) : gA (h.set q (.inl (kd, n, c2))) fs k j = gA h fs k j := by
  obtain ⟨v, h1, r, rfl, h3⟩ := hv
  by_cases e : q = r
  · subst e
    cases ht.symm.trans h3
    have := hj rfl
    unfold gA at this ⊢
    rw [h1]
    simp only [List.getElem?_set_self (List.getElem?_eq_some_iff.mp hq).1, hq]
    simpa using this
  · unfold gA
    rw [h1]
    simp only [List.getElem?_set_ne e]
theorem nGp_arr {S : List Nat} {h : List nC} {q t kd n : Nat} {c1 c2 : (Nat → Int32) ⊕ (Nat → Int64) ⊕ (Nat → Option Nat)} (hT : tOk nFT nAT S h) (ht : S[q]? = some t) (hq : h[q]? = some (.inl (kd, n, c1))) (h1 : ∀ j, (t = 50 → 179 ≤ j → gA [.inl (kd, n, c2)] [.ref 0] 0 j = gA [.inl (kd, n, c1)] [.ref 0] 0 j) ∧ (t = 65 → ((179 ≤ j ∧ j < 360) ∨ 539 ≤ j) → gA [.inl (kd, n, c2)] [.ref 0] 0 j = gA [.inl (kd, n, c1)] [.ref 0] 0 j) ∧ (t ∈ [52, 63, 30, 32, 38, 39, 40] → gA [.inl (kd, n, c2)] [.ref 0] 0 j = gA [.inl (kd, n, c1)] [.ref 0] 0 j)) : nGp S h (h.set q (.inl (kd, n, c2))) := by
  intro q2 t2 ci fs2 fs3 k hS h2 h3
  have e : ¬ q = q2 := fun e => by
    subst e
    cases hq.symm.trans h2
  rw [List.getElem?_set_ne e] at h3
  cases h2.symm.trans h3
  obtain ⟨c, hc1, hc2⟩ := hT q2 t2 hS
  cases hc1.symm.trans h2
  obtain ⟨hoT, hfs⟩ := hc2
  obtain ⟨o1, o2, o3⟩ := oT9 hoT
  have key : ∀ (k T : Nat), nFT t2 k = some (.inr (.inl T)) → T ∈ [52, 63, 30, 32, 38, 39, 40] → gA (h.set q (.inl (kd, n, c2))) fs2 k = gA h fs2 k := fun k T hF hm => by
    funext j
    exact gA_arr ht hq (hfs k _ hF) (fun e => (h1 j).2.2 (e ▸ hm))
  unfold nGh
  split
  · next e9 =>
    have et := o1 e9
    subst et
    rw [key 8 52 rfl (by decide), key 38 63 rfl (by decide)]
    have k6 : gCut true (gA (h.set q (.inl (kd, n, c2))) fs2 6) = gCut true (gA h fs2 6) := by
      funext j
      unfold gCut
      simp only [if_true]
      split
      · next hj => exact gA_arr (T := 50) ht hq (hfs 6 _ rfl) (fun e => (h1 j).1 e hj)
      · rfl
    have k45 : gCut false (gA (h.set q (.inl (kd, n, c2))) fs2 45) = gCut false (gA h fs2 45) := by
      funext j
      unfold gCut
      simp only [Bool.false_eq_true, if_false]
      split
      · next hj => exact gA_arr (T := 65) ht hq (hfs 45 _ rfl) (fun e => (h1 j).2.1 e hj)
      · rfl
    rw [k6, k45]
  · split
    · next e4 =>
      have et := o2 e4
      subst et
      rw [key 0 30 rfl (by decide), key 2 32 rfl (by decide)]
    · split
      · next e6 =>
        have et := o3 e6
        subst et
        rw [key 0 38 rfl (by decide), key 1 39 rfl (by decide), key 2 40 rfl (by decide)]
      · rfl
/-- phrases and scripts are as their readers leave them -/
def nJV (S : List Nat) (h : List nC) : Prop := ∀ (q t ci : Nat) (fs : List Value), S[q]? = some t → (t = 4 ∨ t = 6) → h[q]? = some (.inr (ci, fs)) → nGh 1000 h ci fs = 1
theorem nJV_gp {S : List Nat} {h h1 : List nC} (hG : nGp S h h1) (hb : ∀ (q t ci : Nat) (fs1 : List Value), S[q]? = some t → h1[q]? = some (.inr (ci, fs1)) → ∃ fs, h[q]? = some (.inr (ci, fs))) (hJ : nJV S h) : nJV S h1 := by
  intro q t ci fs1 hS ht h1q
  obtain ⟨fs, hq⟩ := hb q t ci fs1 hS h1q
  rw [hG q t ci fs fs1 1000 hS hq h1q]
  exact hJ q t ci fs hS ht hq
def nSpc (t j : Nat) : Bool := match nAT t with
  | some (_, _, .inl segs) => (match sAt segs j with
    | some r => r.2.2
    | none => true)
  | _ => false
theorem nSpc50 : ∀ j, 179 ≤ j → nSpc 50 j = true := by
  have hlt : ∀ j, j < 360 → 179 ≤ j → nSpc 50 j = true := by decide +kernel
  intro j hj
  by_cases h : j < 360
  · exact hlt j h hj
  · have : nAT 50 = some (0, 360, .inl ((nAT 50).elim [] (fun x => match x.2.2 with | .inl s => s | _ => []))) := rfl
    unfold nSpc
    rw [this]
    have hn : sAt ((nAT 50).elim [] (fun x => match x.2.2 with | .inl s => s | _ => [])) j = none := by
      unfold sAt
      rw [Option.map_eq_none_iff, List.find?_eq_none]
      have hall : ((nAT 50).elim [] (fun x => match x.2.2 with | .inl s => s | _ => [])).all (fun q => decide (q.1 ≤ 360)) = true := by decide +kernel
      intro q hq
      have := List.all_eq_true.mp hall q hq
      simp at this ⊢
      omega
    simp only [hn]
theorem nSpc65 : ∀ j, ((179 ≤ j ∧ j < 360) ∨ 539 ≤ j) → nSpc 65 j = true := by
  have hlt : ∀ j, j < 720 → ((179 ≤ j ∧ j < 360) ∨ 539 ≤ j) → nSpc 65 j = true := by decide +kernel
  intro j hj
  by_cases h : j < 720
  · exact hlt j h hj
  · have : nAT 65 = some (0, 720, .inl ((nAT 65).elim [] (fun x => match x.2.2 with | .inl s => s | _ => []))) := rfl
    unfold nSpc
    rw [this]
    have hn : sAt ((nAT 65).elim [] (fun x => match x.2.2 with | .inl s => s | _ => [])) j = none := by
      unfold sAt
      rw [Option.map_eq_none_iff, List.find?_eq_none]
      have hall : ((nAT 65).elim [] (fun x => match x.2.2 with | .inl s => s | _ => [])).all (fun q => decide (q.1 ≤ 720)) = true := by decide +kernel
      intro q hq
      have := List.all_eq_true.mp hall q hq
      simp at this ⊢
      omega
    simp only [hn]
theorem nSpcX : ∀ t ∈ [52, 63, 30, 32, 38, 39, 40], ∀ j, nSpc t j = true := by
  intro t ht j
  have hA : ∀ t ∈ [52, 63, 30, 32, 38, 39, 40], ∃ n, nAT t = some (0, n, .inl [(n, -2147483648, 2147483647, true)]) := by
    intro t ht
    simp at ht
    rcases ht with rfl | rfl | rfl | rfl | rfl | rfl | rfl <;> exact ⟨_, rfl⟩
  obtain ⟨n, hn⟩ := hA t ht
  unfold nSpc
  rw [hn]
  by_cases h : j < n
  · simp [sAt, h]
  · simp [sAt, h]
theorem gA1 (kd n : Nat) (f : Nat → Int32) : gA [.inl (kd, n, .inl f)] [.ref 0] 0 = f := rfl
/-- a row that named writes touch belongs to one cell alone -/
def nIn (S : List Nat) (h : List nC) : Prop := ∀ (q1 q2 t k r c1 c2 : Nat) (fs1 fs2 : List Value), S[q1]? = some t → S[q2]? = some t → nSp t k = true → h[q1]? = some (.inr (c1, fs1)) → h[q2]? = some (.inr (c2, fs2)) → fs1[k]? = some (.ref r) → fs2[k]? = some (.ref r) → q1 = q2
/-- there is one text -/
def nUq (S : List Nat) : Prop := ∀ q1 q2 : Nat, S[q1]? = some 7 → S[q2]? = some 7 → q1 = q2
/-- as many cells as kinds, and no cell has very many fields -/
def nLen (S : List Nat) (h : List nC) : Prop := h.length = S.length ∧ ∀ (q ci : Nat) (fs : List Value), h[q]? = some (.inr (ci, fs)) → fs.length ≤ 100
def nJJ (S : List Nat) (h : List nC) : Prop := nJV S h ∧ nIn S h ∧ nLen S h ∧ nUq S
theorem nLen_obj {S : List Nat} {h : List nC} {q c b : Nat} {fs : List Value} {x : Value} (hI : nLen S h) (hq : h[q]? = some (.inr (c, fs))) : nLen S (h.set q (.inr (c, fs.set b x))) := by
  refine ⟨by rw [List.length_set]; exact hI.1, fun q2 c2 fs2 h2 => ?_⟩
  by_cases e : q = q2
  · subst e
    rw [List.getElem?_set_self (List.getElem?_eq_some_iff.mp hq).1] at h2
    cases h2
    rw [List.length_set]
    exact hI.2 _ _ _ hq
  · rw [List.getElem?_set_ne e] at h2
    exact hI.2 _ _ _ h2
theorem nLen_arr {S : List Nat} {h : List nC} {q : Nat} {x y : Nat × Nat × ((Nat → Int32) ⊕ (Nat → Int64) ⊕ (Nat → Option Nat))} (hI : nLen S h) (hq : h[q]? = some (.inl x)) : nLen S (h.set q (.inl y)) := by
  refine ⟨by rw [List.length_set]; exact hI.1, fun q2 c2 fs2 h2 => ?_⟩
  by_cases e : q = q2
  · subst e
    rw [List.getElem?_set_self (List.getElem?_eq_some_iff.mp hq).1] at h2
    cases h2
  · rw [List.getElem?_set_ne e] at h2
    exact hI.2 _ _ _ h2
theorem nIn_obj {S : List Nat} {h : List nC} {q t c b : Nat} {fs : List Value} {x : Value} (hI : nIn S h) (ht : S[q]? = some t) (hx : nSp t b = false ∨ ∀ r, ¬ x = .ref r) (hq : h[q]? = some (.inr (c, fs))) : nIn S (h.set q (.inr (c, fs.set b x))) := by
  have look : ∀ (q2 t2 k r c2 : Nat) (fs2 : List Value), S[q2]? = some t2 → nSp t2 k = true → (h.set q (.inr (c, fs.set b x)))[q2]? = some (.inr (c2, fs2)) → fs2[k]? = some (.ref r) → ∃ fs3, h[q2]? = some (.inr (c2, fs3)) ∧ fs3[k]? = some (.ref r) := by
    intro q2 t2 k r c2 fs2 hS hk h2 hr
    by_cases e : q = q2
    · subst e
      rw [List.getElem?_set_self (List.getElem?_eq_some_iff.mp hq).1] at h2
      cases h2
      cases ht.symm.trans hS
      by_cases eb : b = k
      · subst eb
        rcases hx with hx | hx
        · rw [hk] at hx; cases hx
        · by_cases hl : b < fs.length
          · rw [List.getElem?_set_self hl] at hr
            exact absurd (Option.some.inj hr) (hx r)
          · rw [List.getElem?_eq_none (by simpa using hl)] at hr
            cases hr
      · rw [List.getElem?_set_ne eb] at hr
        exact ⟨fs, hq, hr⟩
    · rw [List.getElem?_set_ne e] at h2
      exact ⟨fs2, h2, hr⟩
  intro q1 q2 t1 k r c1 c2 fs1 fs2 s1 s2 hk g1 g2 r1 r2
  obtain ⟨f1, a1, a2⟩ := look q1 t1 k r c1 fs1 s1 hk g1 r1
  obtain ⟨f2, b1, b2⟩ := look q2 t1 k r c2 fs2 s2 hk g2 r2
  exact hI q1 q2 t1 k r c1 c2 f1 f2 s1 s2 hk a1 b1 a2 b2
theorem nIn_arr {S : List Nat} {h : List nC} {q : Nat} {x y : Nat × Nat × ((Nat → Int32) ⊕ (Nat → Int64) ⊕ (Nat → Option Nat))} (hI : nIn S h) (hq : h[q]? = some (.inl x)) : nIn S (h.set q (.inl y)) := by
  have look : ∀ (q2 c2 : Nat) (fs2 : List Value), (h.set q (.inl y))[q2]? = some (.inr (c2, fs2)) → h[q2]? = some (.inr (c2, fs2)) := by
    intro q2 c2 fs2 h2
    by_cases e : q = q2
    · subst e
      rw [List.getElem?_set_self (List.getElem?_eq_some_iff.mp hq).1] at h2
      cases h2
    · rw [List.getElem?_set_ne e] at h2
      exact h2
  intro q1 q2 t1 k r c1 c2 fs1 fs2 s1 s2 hk g1 g2 r1 r2
  exact hI q1 q2 t1 k r c1 c2 fs1 fs2 s1 s2 hk (look _ _ _ g1) (look _ _ _ g2) r1 r2
theorem nJJ_ok (S : List Nat) : nJ nFT nAT S (nJJ S) := by
  have back : ∀ {h : List nC} {q q2 ci : Nat} {x : Nat × Nat × ((Nat → Int32) ⊕ (Nat → Int64) ⊕ (Nat → Option Nat))} {fs1 : List Value}, (h.set q (.inl x))[q2]? = some (.inr (ci, fs1)) → ∃ fs, h[q2]? = some (.inr (ci, fs)) := by
    intro h q q2 ci x fs1 h1
    by_cases e : q = q2
    · subst e
      by_cases hl : q < h.length
      · rw [List.getElem?_set_self hl] at h1; cases h1
      · rw [List.getElem?_eq_none (by simpa using hl)] at h1; cases h1
    · rw [List.getElem?_set_ne e] at h1
      exact ⟨_, h1⟩
  refine ⟨fun h q t c b fs x hJ hT ht hc hsp hq => ?_, fun h q t kd n segs f j x hJ hT ht hA hq hj hsp => ?_, fun h q t kd n f f2 hJ hT ht hq => ?_, fun h q t kd n segs f f2 hJ hT ht hA hq hsp => ?_⟩
  · have hG := nGp_putf (x := x) ht hc hsp hq
    refine ⟨⟨nJV_gp hG (fun q2 t2 ci fs1 h1 h2 => ?_) hJ.1, nIn_obj hJ.2.1 ht (.inl hsp) hq, nLen_obj hJ.2.2.1 hq, hJ.2.2.2⟩, hG⟩
    by_cases e : q = q2
    · subst e
      rw [List.getElem?_set_self (List.getElem?_eq_some_iff.mp hq).1] at h2
      cases h2
      exact ⟨_, hq⟩
    · rw [List.getElem?_set_ne e] at h2
      exact ⟨_, h2⟩
  · have hG : nGp S h (h.set q (.inl (kd, n, .inl (upd f j x)))) := by
      have hns : nSpc t j = true → False := fun hs => by
        unfold nSpc at hs
        rw [hA] at hs
        simp only at hs
        split at hs
        · next r hr => rw [hsp r hr] at hs; cases hs
        · next hr =>
          obtain ⟨c, c1, c2⟩ := hT q t ht
          cases c1.symm.trans hq
          obtain ⟨-, et, a1, a2⟩ := c2
          cases hA.symm.trans a1
          obtain ⟨r, r1, -⟩ := a2 j hj
          rw [hr] at r1
          cases r1
      have hup : ∀ i, (nSpc t i = true) → upd f j x i = f i := fun i hi => by
        unfold upd
        split
        · next e => subst e; exact (hns hi).elim
        · rfl
      refine nGp_arr hT ht hq (fun i => ⟨fun e hi => ?_, fun e hi => ?_, fun e => ?_⟩)
      · exact hup i (by rw [e]; exact nSpc50 i hi)
      · exact hup i (by rw [e]; exact nSpc65 i hi)
      · exact hup i (nSpcX t e i)
    exact ⟨⟨nJV_gp hG (fun q2 t2 ci fs1 h1 h2 => back h2) hJ.1, nIn_arr hJ.2.1 hq, nLen_arr hJ.2.2.1 hq, hJ.2.2.2⟩, hG⟩
  · have hG : nGp S h (h.set q (.inl (kd, n, .inr (.inl f2)))) := nGp_arr hT ht hq (fun i => ⟨fun _ _ => rfl, fun _ _ => rfl, fun _ => rfl⟩)
    exact ⟨⟨nJV_gp hG (fun q2 t2 ci fs1 h1 h2 => back h2) hJ.1, nIn_arr hJ.2.1 hq, nLen_arr hJ.2.2.1 hq, hJ.2.2.2⟩, hG⟩
  · have hno : ∀ i, nSpc t i = true → i < n → False := fun i hi hin => by
      obtain ⟨c, c1, c2⟩ := hT q t ht
      cases c1.symm.trans hq
      obtain ⟨-, et, a1, a2⟩ := c2
      cases hA.symm.trans a1
      obtain ⟨r, r1, -⟩ := a2 i hin
      unfold nSpc at hi
      rw [hA] at hi
      simp only [r1] at hi
      obtain ⟨s0, s1, s2⟩ := sAt_mem r1
      rw [← s2, hsp s0 s1] at hi
      cases hi
    have hG : nGp S h (h.set q (.inl (kd, n, .inl f2))) := by
      refine nGp_arr hT ht hq (fun i => ⟨fun e hi => ?_, fun e hi => ?_, fun e => ?_⟩)
      · subst e
        cases hA.symm.trans (rfl : nAT 50 = _)
        exact (hno 179 (nSpc50 179 (by decide)) (by decide)).elim
      · subst e
        cases hA.symm.trans (rfl : nAT 65 = _)
        exact (hno 179 (nSpc65 179 (by decide)) (by decide)).elim
      · have h0 := nSpcX t e 0
        refine (hno 0 h0 ?_).elim
        simp at e
        rcases e with rfl | rfl | rfl | rfl | rfl | rfl | rfl <;> (cases hA.symm.trans rfl; decide)
    exact ⟨⟨nJV_gp hG (fun q2 t2 ci fs1 h1 h2 => back h2) hJ.1, nIn_arr hJ.2.1 hq, nLen_arr hJ.2.2.1 hq, hJ.2.2.2⟩, hG⟩
