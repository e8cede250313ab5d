/-! reading and writing by what is known -/
abbrev aSym (n : Nat) : aV := .inr (.inl (n, 0))
abbrev aRef (n : Nat) : aV := .inr (.inr (.inl n))
abbrev aLong : aV := .inr (.inr (.inr (.inr ())))
theorem aR_sym (nu : List Int) (mu : List Nat) (x : Int32) : aR (nu ++ [x.toInt]) mu (aSym nu.length) (.int x) := ⟨x.toInt, by simp, by rw [Int.add_zero, Int32.ofInt_toInt]⟩
theorem aR_ref (nu : List Int) (mu : List Nat) (q : Nat) : aR nu (mu ++ [q]) (aRef mu.length) (.ref q) := ⟨q, by simp, rfl⟩
def aGetf (FT : Nat → Nat → Option fTy) (s : aS) (a b : Nat) (st : List aV) : Option (aS × List aV) := match st with
  | .inr (.inr (.inl j)) :: r => if oT (s.2.1.getD j 0) = some a ∧ j < s.2.1.length ∧ b < 1000 then (match s.2.2.1.find? (fun e => e.1 == j && e.2.1 == b) with
    | some e => some (s, e.2.2 :: r)
    | none => match FT (s.2.1.getD j 0) b with
      | some (.inl rg) => some ((s.1 ++ [rg], s.2.1, (j, b, aSym s.1.length) :: s.2.2.1, s.2.2.2.1, s.2.2.2.2), aSym s.1.length :: r)
      | some (.inr (.inl tg)) => some ((s.1, s.2.1 ++ [tg], (j, b, aRef s.2.1.length) :: s.2.2.1, s.2.2.2.1, s.2.2.2.2), aRef s.2.1.length :: r)
      | some (.inr (.inr _)) => some (s, aLong :: r)
      | none => none) else none
  | _ => none
section AMM
variable {FT : Nat → Nat → Option fTy} {AT : Nat → Option aTy} {S : List Nat} {h : List nC} {nu : List Int} {mu : List Nat} {s s1 : aS} {a b pc : Nat} {st : List Value} {ast ast1 : List aV}
theorem aOk.tag (k : aOk S h nu mu s) {j q t : Nat} (hj : mu[j]? = some q) (ht : s.2.1[j]? = some t) : S[q]? = some t := k.2.1.2 j q t hj ht
theorem tOk.obj (hT : tOk FT AT S h) {q t a : Nat} (hq : S[q]? = some t) (ht : oT t = some a) : ∃ fs, h[q]? = some (.inr (a, fs)) ∧ ∀ (k : Nat) (ty : fTy), FT t k = some ty → ∃ v : Value, fs[k]? = some v ∧ vOk S ty v := by
  obtain ⟨c, h1, h2⟩ := hT q t hq
  cases c with
  | inl x => exact absurd h2.1 (by rw [ht]; exact fun z => by cases z)
  | inr x =>
    obtain ⟨ci, fs⟩ := x
    obtain ⟨e, h3⟩ := h2
    cases ht.symm.trans e
    exact ⟨fs, h1, h3⟩
theorem tOk.arr (hT : tOk FT AT S h) {q t kd n : Nat} {et : List nSeg ⊕ (Nat ⊕ Unit)} (hq : S[q]? = some t) (hA : AT t = some (kd, n, et)) (h10 : oT t = none) : ∃ ct, h[q]? = some (.inl (kd, n, ct)) ∧ eOk S et n ct := by
  obtain ⟨c, h1, h2⟩ := hT q t hq
  cases c with
  | inl x =>
    obtain ⟨kd2, n2, ct⟩ := x
    obtain ⟨-, et2, h3, h4⟩ := h2
    cases hA.symm.trans h3
    exact ⟨ct, h1, h4⟩
  | inr x =>
    obtain ⟨ci, fs⟩ := x
    exact absurd h2.1 (by rw [h10]; exact fun z => by cases z)
theorem m_getf (hT : tOk FT AT S h) (k : aOk S h nu mu s) (hs : aSt nu mu ast st) (hr : aGetf FT s a b ast = some (s1, ast1)) : ∃ st1 nu1 mu1, nj_getf pc a b st h = some (pc + 3, st1, h) ∧ aX nu mu nu1 mu1 ∧ aOk S h nu1 mu1 s1 ∧ aSt nu1 mu1 ast1 st1 := by
  unfold aGetf at hr
  split at hr
  · next j r =>
    obtain ⟨v0, rst, rfl, ⟨q, hj, rfl⟩, hrst⟩ := hs.cons
    split at hr
    · next hc =>
      have htag := k.tag hj (t := s.2.1.getD j 0) (by rw [List.getD_eq_getElem?_getD, List.getElem?_eq_getElem hc.2.1]; rfl)
      obtain ⟨fs, hq, hfs⟩ := hT.obj htag hc.1
      have hfd : nFd h a fs b = fs[b]? := if_pos hc.2.2
      have hget : ∀ x, fs[b]? = some x → nj_getf pc a b (.ref q :: rst) h = some (pc + 3, x :: rst, h) := fun x hx => by
        simp only [nj_getf, hq, if_true, hx]
      split at hr
      · next e he =>
        cases hr
        have hm := List.mem_of_find?_eq_some he
        have hp := List.find?_some he
        simp only [Bool.and_eq_true, beq_iff_eq] at hp
        obtain ⟨q2, ci2, fs2, v2, g1, g2, g3, g4⟩ := k.2.2.1 e hm
        rw [hp.1] at g1
        cases hj.symm.trans g1
        cases hq.symm.trans g2
        rw [hp.2, hfd] at g3
        exact ⟨v2 :: rst, nu, mu, hget v2 g3, aX.rf, k, g4, hrst⟩
      · split at hr
        · next rg hF =>
          cases hr
          obtain ⟨v, hv, x, rfl, hx⟩ := hfs b _ hF
          have X : aX nu mu (nu ++ [x.toInt]) mu := ⟨[x.toInt], [], rfl, by simp⟩
          have hl : s.1.length = nu.length := k.1.1
          have k1 := k.pushI (z := x.toInt) (r := rg) hx
          refine ⟨.int x :: rst, nu ++ [x.toInt], mu, hget _ hv, X, ⟨k1.1, k1.2.1, fun e he => ?_, k1.2.2.2.1, k1.2.2.2.2⟩, ?_, hrst.x X⟩
          · rcases List.mem_cons.mp he with rfl | he
            · exact ⟨q, a, fs, .int x, hj, hq, hfd.trans hv, by rw [hl]; exact aR_sym nu mu x⟩
            · exact k1.2.2.1 e he
          · rw [hl]; exact aR_sym nu mu x
        · next tg hF =>
          cases hr
          obtain ⟨v, hv, q2, rfl, hx⟩ := hfs b _ hF
          have X : aX nu mu nu (mu ++ [q2]) := ⟨[], [q2], by simp, rfl⟩
          have hl : s.2.1.length = mu.length := k.2.1.1
          have k1 := k.pushR hx
          refine ⟨.ref q2 :: rst, nu, mu ++ [q2], hget _ hv, X, ⟨k1.1, k1.2.1, fun e he => ?_, k1.2.2.2.1, k1.2.2.2.2⟩, ?_, hrst.x X⟩
          · rcases List.mem_cons.mp he with rfl | he
            · exact ⟨q, a, fs, .ref q2, X.mu hj, hq, hfd.trans hv, by rw [hl]; exact aR_ref nu mu q2⟩
            · exact k1.2.2.1 e he
          · rw [hl]; exact aR_ref nu mu q2
        · next hF =>
          cases hr
          obtain ⟨v, hv, x, rfl⟩ := hfs b _ hF
          exact ⟨.long x :: rst, nu, mu, hget _ hv, aX.rf, k, ⟨x, rfl⟩, hrst⟩
        · cases hr
    · cases hr
  · cases hr
end AMM
/-- may the value stand in such a field -/
def aFits (s : aS) (ty : fTy) (jt : FieldType) (x : aV) : Bool := match ty, x with
  | .inl rg, .inl c => decide (rg.1 ≤ (aIv s.1 (.inl c)).1) && (decide ((aIv s.1 (.inl c)).2 ≤ rg.2) && (match jt with
    | .int => true
    | .boolean => decide (0 ≤ (aIv s.1 (.inl c)).1) && decide ((aIv s.1 (.inl c)).2 ≤ 1)
    | _ => false))
  | .inl rg, .inr (.inl y) => decide (rg.1 ≤ (aIv s.1 (.inr (.inl y))).1) && (decide ((aIv s.1 (.inr (.inl y))).2 ≤ rg.2) && (match jt with
    | .int => true
    | .boolean => decide (0 ≤ (aIv s.1 (.inr (.inl y))).1) && decide ((aIv s.1 (.inr (.inl y))).2 ≤ 1)
    | _ => false))
  | .inr (.inl tg), .inr (.inr (.inl j)) => decide (s.2.1[j]? = some tg) && (match jt with
    | .object _ => true
    | .array _ => true
    | _ => false)
  | .inr (.inr _), .inr (.inr (.inr (.inr _))) => (match jt with
    | .long => true
    | _ => false)
  | _, _ => false
def aPutf (FT : Nat → Nat → Option fTy) (mf : List (Nat × Nat)) (s : aS) (a b : Nat) (v : Int) (st : List aV) : Option (aS × List aV) := match st with
  | x :: .inr (.inr (.inl j)) :: r => if (oT (s.2.1.getD j 0) = some a ∧ j < s.2.1.length) ∧ v = 0 ∧ (s.2.1.getD j 0, b) ∈ mf ∧ b < 1000 ∧ nSp (s.2.1.getD j 0) b = false then (match FT (s.2.1.getD j 0) b with
    | some ty => if aFits s ty (nj_ty a b) x = true then some ((s.1, s.2.1, (j, b, x) :: s.2.2.1.filter (fun e => !(e.2.1 == b && decide (s.2.1[e.1]? = some (s.2.1.getD j 0)))), s.2.2.2.1, s.2.2.2.2), r) else none
    | none => none) else none
  | _ => none
theorem aFits_ok {S : List Nat} {h : List nC} {nu : List Int} {mu : List Nat} {s : aS} (k : aOk S h nu mu s) {ty : fTy} {jt : FieldType} {x : aV} {v : Value} (hx : aR nu mu x v) (hf : aFits s ty jt x = true) : vOk S ty v ∧ nj_fit jt v = true := by
  unfold aFits at hf
  split at hf
  · next rg c =>
    simp only [Bool.and_eq_true, decide_eq_true_eq] at hf
    obtain ⟨y, rfl, h1, h2⟩ := aIv_ok k.1 rfl hx
    refine ⟨⟨y, rfl, by omega, by omega⟩, ?_⟩
    have hj := hf.2.2
    split at hj
    · rfl
    · simp only [Bool.and_eq_true, decide_eq_true_eq] at hj
      have : y.toInt = 0 ∨ y.toInt = 1 := by omega
      show decide (y = 0 ∨ y = 1) = true
      rw [decide_eq_true_eq]
      rcases this with e | e
      · exact Or.inl (Int32.toInt_inj.mp e)
      · exact Or.inr (Int32.toInt_inj.mp e)
    · cases hj
  · next rg c =>
    simp only [Bool.and_eq_true, decide_eq_true_eq] at hf
    obtain ⟨y, rfl, h1, h2⟩ := aIv_ok k.1 rfl hx
    refine ⟨⟨y, rfl, by omega, by omega⟩, ?_⟩
    have hj := hf.2.2
    split at hj
    · rfl
    · simp only [Bool.and_eq_true, decide_eq_true_eq] at hj
      have : y.toInt = 0 ∨ y.toInt = 1 := by omega
      show decide (y = 0 ∨ y = 1) = true
      rw [decide_eq_true_eq]
      rcases this with e | e
      · exact Or.inl (Int32.toInt_inj.mp e)
      · exact Or.inr (Int32.toInt_inj.mp e)
    · cases hj
  · next tg j =>
    simp only [Bool.and_eq_true, decide_eq_true_eq] at hf
    obtain ⟨q, hq, rfl⟩ := hx
    refine ⟨⟨q, rfl, k.tag hq hf.1⟩, ?_⟩
    have hj := hf.2
    split at hj
    · rfl
    · rfl
    · cases hj
  · next =>
    obtain ⟨y, rfl⟩ := hx
    refine ⟨⟨y, rfl⟩, ?_⟩
    split at hf
    · rfl
    · cases hf
  · cases hf
section AMP
variable {FT : Nat → Nat → Option fTy} {AT : Nat → Option aTy} {S : List Nat} {h : List nC} {nu : List Int} {mu : List Nat} {s s1 : aS} {a b pc : Nat} {v : Int} {st : List Value} {ast ast1 : List aV} {mf : List (Nat × Nat)} {ma : List Nat} {ini : Bool}
theorem m_putf {J : List nC → Prop} (hJ : nJ FT AT S J) (hJh : J h) (hT : tOk FT AT S h) (k : aOk S h nu mu s) (hs : aSt nu mu ast st) (hr : aPutf FT mf s a b v ast = some (s1, ast1)) : ∃ (st1 : List Value) (q t : Nat) (fs : List Value) (x : Value), nj_putf ini pc a b v st h = some (pc + 3, st1, h.set q (.inr (a, fs.set b x))) ∧ S[q]? = some t ∧ oT t = some a ∧ J (h.set q (.inr (a, fs.set b x))) ∧ tOk FT AT S (h.set q (.inr (a, fs.set b x))) ∧ nFr mf ma S h (h.set q (.inr (a, fs.set b x))) ∧ aOk S (h.set q (.inr (a, fs.set b x))) nu mu s1 ∧ aSt nu mu ast1 st1 := by
  unfold aPutf at hr
  split at hr
  · next x j r =>
    obtain ⟨v0, rst0, rfl, hx, hrst0⟩ := hs.cons
    obtain ⟨v1, rst, rfl, ⟨q, hj, rfl⟩, hrst⟩ := hrst0.cons
    split at hr
    · next hc =>
      obtain ⟨⟨hc1, hc2⟩, rfl, hmf, hb1000, hsp⟩ := hc
      split at hr
      · next ty hF =>
        split at hr
        · next hfit =>
          cases hr
          have htj : s.2.1[j]? = some (s.2.1.getD j 0) := by rw [List.getD_eq_getElem?_getD, List.getElem?_eq_getElem hc2]; rfl
          have htag := k.tag hj htj
          obtain ⟨fs, hq, hfs⟩ := hT.obj htag hc1
          obtain ⟨f1, f2⟩ := aFits_ok k hx hfit
          obtain ⟨w, hw, -⟩ := hfs b ty hF
          have hbl : b < fs.length := (List.getElem?_eq_some_iff.mp hw).1
          have hql : q < h.length := (List.getElem?_eq_some_iff.mp hq).1
          obtain ⟨hJ1, hG⟩ := hJ.1 h q _ a b fs v0 hJh hT htag hc1 hsp hq
          refine ⟨rst, q, _, fs, v0, ?_, htag, hc1, hJ1, ?_, nFr.setf htag hq hc1 hmf hG, ⟨k.1, k.2.1, fun e he => ?_, fun e he => ?_, k.2.2.2.2⟩, hrst⟩
          · simp only [nj_putf, hq]
            rw [if_pos ⟨trivial, hbl, f2, Or.inl trivial⟩]
          · refine tOk_set hT htag ⟨hc1, fun k2 ty2 hF2 => ?_⟩
            by_cases e : b = k2
            · subst e
              cases hF.symm.trans hF2
              exact ⟨v0, List.getElem?_set_self hbl, f1⟩
            · obtain ⟨w2, g1, g2⟩ := hfs k2 ty2 hF2
              exact ⟨w2, by rw [List.getElem?_set_ne e]; exact g1, g2⟩
          · rcases List.mem_cons.mp he with rfl | he
            · exact ⟨q, a, fs.set b v0, v0, hj, List.getElem?_set_self hql, (if_pos hb1000).trans (List.getElem?_set_self hbl), hx⟩
            · obtain ⟨he1, he2⟩ := List.mem_filter.mp he
              obtain ⟨q2, ci2, fs2, v2, g1, g2, g3, g4⟩ := k.2.2.1 e he1
              by_cases e2 : q = q2
              · subst e2
                cases hq.symm.trans g2
                refine ⟨q, a, fs.set b v0, v2, g1, List.getElem?_set_self hql, ?_, g4⟩
                rw [nFd_gp hG htag hq (List.getElem?_set_self hql) (fun _ => List.getElem?_set_ne ?_)]
                · exact g3
                · intro hb
                  have ht2 : s.2.1[e.1]? = some (s.2.1.getD j 0) := by
                    have hlt : e.1 < s.2.1.length := by rw [k.2.1.1]; exact (List.getElem?_eq_some_iff.mp g1).1
                    have := k.tag g1 (List.getElem?_eq_getElem hlt)
                    rw [List.getElem?_eq_getElem hlt]
                    exact this.symm.trans htag
                  simp only [Bool.not_eq_true', Bool.and_eq_false_iff, decide_eq_false_iff_not, beq_eq_false_iff_ne] at he2
                  rcases he2 with z | z
                  · exact z hb.symm
                  · exact z ht2
              · have hlt : e.1 < s.2.1.length := by rw [k.2.1.1]; exact (List.getElem?_eq_some_iff.mp g1).1
                have g2' : (h.set q (.inr (a, fs.set b v0)))[q2]? = some (.inr (ci2, fs2)) := by rw [List.getElem?_set_ne e2]; exact g2
                exact ⟨q2, ci2, fs2, v2, g1, g2', (nFd_gp hG (k.tag g1 (List.getElem?_eq_getElem hlt)) g2 g2' (fun _ => rfl)).trans g3, g4⟩
          · obtain ⟨q2, kd, n, f, i, g1, g2, g3, g4⟩ := k.2.2.2.1 e he
            refine ⟨q2, kd, n, f, i, g1, ?_, g3, g4⟩
            rw [List.getElem?_set_ne]
            · exact g2
            · intro e2
              subst e2
              cases hq.symm.trans g2
        · cases hr
      · cases hr
    · cases hr
  · cases hr
end AMP
