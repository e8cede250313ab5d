section AS2
variable {M : Nat → Option nM} {X : nX} {L : Nat} {xs : Nat → Int32} {g : Nat} {FT : Nat → Nat → Option fTy} {AT : Nat → Option aTy} {S : List Nat} {J : List nC → Prop} {h : List nC} {nu : List Int} {mu : List Nat} {s s1 : aS} {pc d a b : Nat} {lv : nLv} {st : List Value} {ast ast1 : List aV} {mf : List (Nat × Nat)} {ma : List Nat} {i : Instr}
theorem m_min {run : Nat → nM → nLv → List nC → Nat → Option nRes} (hi : nj_isinv i = true) (k : aOk S h nu mu s) (hs : aSt nu mu ast st) (hr : aMin s pc ast = some (s1, ast1)) : ∃ (st1 : List Value) (nu1 : List Int), nj_calls M X run d pc i a b 7 lv st h g = some (pc + 3, lv, st1, h, g, 0, 0) ∧ aX nu mu nu1 mu ∧ aOk S h nu1 mu s1 ∧ aSt nu1 mu ast1 st1 := by
  unfold aMin at hr
  split at hr
  · next y x r =>
    obtain ⟨v0, rst0, rfl, hy, hrst0⟩ := hs.cons
    obtain ⟨v1, rst, rfl, hx, hrst⟩ := hrst0.cons
    split at hr
    · next hc =>
      cases hr
      obtain ⟨x0, rfl, hx1, hx2⟩ := aIv_ok k.1 hc.1 hx
      obtain ⟨y0, rfl, hy1, hy2⟩ := aIv_ok k.1 hc.2.1 hy
      have hb : min (aIv s.1 x).1 (aIv s.1 y).1 ≤ (if y0 < x0 then y0 else x0).toInt ∧ (if y0 < x0 then y0 else x0).toInt ≤ min (aIv s.1 x).2 (aIv s.1 y).2 := by
        split
        · next hlt =>
          rw [Int32.lt_iff_toInt_lt] at hlt
          simp only [Int.min_def]
          split <;> split <;> omega
        · next hlt =>
          rw [Int32.lt_iff_toInt_lt] at hlt
          simp only [Int.min_def]
          split <;> split <;> omega
      obtain ⟨nu1, X1, y1, hy1', -, k1, -, s1'⟩ := aNx.new (x := if y0 < x0 then y0 else x0) (rg := (min (aIv s.1 x).1 (aIv s.1 y).1, min (aIv s.1 x).2 (aIv s.1 y).2)) (al := []) (lv := lv) (pc1 := pc) k (fun e he => by cases he) hrst hb
      have := List.mem_singleton.mp hy1'
      subst this
      refine ⟨_, nu1, ?_, X1, k1, s1'⟩
      have hsum : nj_sum rst ≤ 8 := by rw [aSum_ok hrst]; exact hc.2.2
      unfold nj_calls
      rw [if_neg (by rw [hi]; decide), if_neg (by decide), if_neg (by decide), if_neg (by decide), if_pos rfl]
      simp only [if_pos hsum]
    · cases hr
  · cases hr
theorem sAt_mem {segs : List nSeg} {j : Nat} {r : Int × Int × Bool} (h : sAt segs j = some r) : ∃ q ∈ segs, q.2 = r := by
  unfold sAt at h
  obtain ⟨q, h1, h2⟩ := Option.map_eq_some_iff.mp h
  exact ⟨q, List.mem_of_find?_eq_some h1, h2⟩
theorem m_cpy {run : Nat → nM → nLv → List nC → Nat → Option nRes} (hi : nj_isinv i = true) (hJ : nJ FT AT S J) (hJh : J h) (hT : tOk FT AT S h) (k : aOk S h nu mu s) (hs : aSt nu mu ast st) (hr : aCpy AT ma s ast = some (s1, ast1)) : ∃ (st1 : List Value) (h1 : List nC), nj_calls M X run d pc i a b 5 lv st h g = some (pc + 3, lv, st1, h1, g, 0, 0) ∧ J h1 ∧ tOk FT AT S h1 ∧ nFr mf ma S h h1 ∧ aOk S h1 nu mu s1 ∧ aSt nu mu ast1 st1 := by
  unfold aCpy at hr
  split at hr
  · next n d0 j1 s0 j0 r =>
    obtain ⟨v0, r0, rfl, hn, hr0⟩ := hs.cons
    obtain ⟨v1, r1, rfl, hd0, hr1⟩ := hr0.cons
    obtain ⟨v2, r2, rfl, ⟨q1, hq1, rfl⟩, hr2⟩ := hr1.cons
    obtain ⟨v3, r3, rfl, hs0, hr3⟩ := hr2.cons
    obtain ⟨v4, rst, rfl, ⟨q0, hq0, rfl⟩, hrst⟩ := hr3.cons
    cases hd0
    cases hs0
    have z0 : (Int32.ofInt 0) = 0 := rfl
    have nz : ¬ ((0 : Int32) < 0) := by decide
    have c0 : (0 : Int32).toNatClampNeg = 0 := rfl
    split at hr
    · next t0 t1 ht0 ht1 =>
      have htag0 := k.tag hq0 ht0
      have htag1 := k.tag hq1 ht1
      split at hr
      · next k0 n0 g0 k1 n1 g1 hA0 hA1 =>
        split at hr
        · next hc =>
          cases hr
          obtain ⟨⟨⟨b0, b1, bm⟩, rfl, rfl, rfl, rfl, hsum⟩, hni, hn0, hn1, hn2, hsp, hcomp⟩ := hc
          obtain ⟨x, rfl, hx1, hx2⟩ := aIv_ok k.1 hni hn
          obtain ⟨ct0, e0, w0⟩ := hT.arr htag0 hA0 b0
          obtain ⟨ct1, e1, w1⟩ := hT.arr htag1 hA1 b1
          cases ct0 with
          | inr y => exact w0.elim
          | inl f =>
            cases ct1 with
            | inr y => exact w1.elim
            | inl g' =>
              have hxn : x.toNatClampNeg = x.toInt.toNat := rfl
              have hx0 : ¬ x < 0 := by
                rw [Int32.lt_iff_toInt_lt]
                have : (0 : Int32).toInt = 0 := rfl
                omega
              obtain ⟨hJ1, hG⟩ := hJ.2.2.2 h q1 t1 0 n1 g1 g' (va_cpy f g' 0 0 x.toNatClampNeg) hJh hT htag1 hA1 e1 (fun r hr => by simpa using List.all_eq_true.mp hsp r hr)
              refine ⟨rst, h.set q1 (.inl (0, n1, .inl (va_cpy f g' 0 0 x.toNatClampNeg))), ?_, hJ1, tOk_set hT htag1 ⟨b1, _, hA1, fun j hj => ?_⟩, nFr.seta htag1 b1 bm hG, ⟨k.1, k.2.1, aFc_arr k e1 hG, aKeep_ok k htag1, k.2.2.2.2⟩, hrst⟩
              · unfold nj_calls
                rw [if_neg (by rw [hi]; decide), if_neg (by decide), if_pos rfl]
                have hcp : nj_copy (.int x :: .int (Int32.ofInt 0) :: .ref q1 :: .int (Int32.ofInt 0) :: .ref q0 :: rst) h = some (rst, h.set q1 (.inl (0, n1, .inl (va_cpy f g' 0 0 x.toNatClampNeg)))) := by
                  simp only [nj_copy, e0, e1, z0, c0]
                  rw [if_pos ⟨trivial, trivial, nz, nz, hx0, by omega, by omega⟩]
                have hsm : nj_sum rst ≤ 8 := by rw [aSum_ok hrst]; exact hsum
                simp only [hcp, if_pos hsm]
              · obtain ⟨rr1, u1, u2⟩ := w1 j hj
                refine ⟨rr1, u1, ?_⟩
                by_cases hj2 : j < x.toNatClampNeg
                · have ev : va_cpy f g' 0 0 x.toNatClampNeg j = f j := by
                    simp only [va_cpy, Nat.zero_le, Nat.zero_add, true_and, if_pos hj2, Nat.sub_zero]
                  rw [ev]
                  obtain ⟨rr0, w1', w2'⟩ := w0 j (by omega)
                  rcases hcomp with hc | hc
                  · subst hc
                    cases hA0.symm.trans hA1
                    cases w1'.symm.trans u1
                    exact w2'
                  · obtain ⟨qa, qa1, qa2⟩ := sAt_mem w1'
                    obtain ⟨qb, qb1, qb2⟩ := sAt_mem u1
                    have := List.all_eq_true.mp (List.all_eq_true.mp hc qa qa1) qb qb1
                    simp only [Bool.and_eq_true, decide_eq_true_eq] at this
                    rw [qa2, qb2] at this
                    omega
                · have ev : va_cpy f g' 0 0 x.toNatClampNeg j = g' j := by
                    simp only [va_cpy, Nat.zero_le, Nat.zero_add, true_and, if_neg hj2]
                  rw [ev]
                  exact u2
        · cases hr
      · next k0 n0 u0 k1 n1 u1 hA0 hA1 =>
        split at hr
        · next hc =>
          cases hr
          obtain ⟨⟨⟨b0, b1, bm⟩, rfl, rfl, rfl, rfl, hsum⟩, hni, hn0, hn1, hn2⟩ := hc
          obtain ⟨x, rfl, hx1, hx2⟩ := aIv_ok k.1 hni hn
          obtain ⟨ct0, e0, w0⟩ := hT.arr htag0 hA0 b0
          obtain ⟨ct1, e1, w1⟩ := hT.arr htag1 hA1 b1
          rcases ct0 with f | f | f
          · exact w0.elim
          · rcases ct1 with g' | g' | g'
            · exact w1.elim
            · have hxn : x.toNatClampNeg = x.toInt.toNat := rfl
              have hx0 : ¬ x < 0 := by
                rw [Int32.lt_iff_toInt_lt]
                have : (0 : Int32).toInt = 0 := rfl
                omega
              obtain ⟨hJ1, hG⟩ := hJ.2.2.1 h q1 t1 3 n1 g' (va_cpy f g' 0 0 x.toNatClampNeg) hJh hT htag1 e1
              refine ⟨rst, h.set q1 (.inl (3, n1, .inr (.inl (va_cpy f g' 0 0 x.toNatClampNeg)))), ?_, hJ1, tOk_set hT htag1 ⟨b1, _, hA1, trivial⟩, nFr.seta htag1 b1 bm hG, ⟨k.1, k.2.1, aFc_arr k e1 hG, fun e he => ?_, k.2.2.2.2⟩, hrst⟩
              · unfold nj_calls
                rw [if_neg (by rw [hi]; decide), if_neg (by decide), if_pos rfl]
                have hcp : nj_copy (.int x :: .int (Int32.ofInt 0) :: .ref q1 :: .int (Int32.ofInt 0) :: .ref q0 :: rst) h = some (rst, h.set q1 (.inl (3, n1, .inr (.inl (va_cpy f g' 0 0 x.toNatClampNeg))))) := by
                  simp only [nj_copy, e0, e1, z0, c0]
                  rw [if_pos ⟨trivial, trivial, nz, nz, hx0, by omega, by omega⟩]
                have hsm : nj_sum rst ≤ 8 := by rw [aSum_ok hrst]; exact hsum
                simp only [hcp, if_pos hsm]
              · obtain ⟨q2, kd2, n2, f2, i2, g1, g2, g3, g4⟩ := k.2.2.2.1 e he
                refine ⟨q2, kd2, n2, f2, i2, g1, ?_, g3, g4⟩
                rw [List.getElem?_set_ne]
                · exact g2
                · intro e2
                  subst e2
                  cases e1.symm.trans g2
            · exact w1.elim
          · exact w0.elim
        · cases hr
      · cases hr
    · cases hr
  · cases hr
end AS2
