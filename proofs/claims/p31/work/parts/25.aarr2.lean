theorem nar_byte (x : Int32) : -128 ≤ (vp_nar .byte x).toInt ∧ (vp_nar .byte x).toInt ≤ 127 := by
  rw [vp_nar_byte]
  have h1 := Int8.le_toInt x.toInt8
  have h2 := Int8.toInt_lt x.toInt8
  rw [Int8.toInt_toInt32]
  omega
theorem nar_bool (x : Int32) : 0 ≤ (vp_nar .boolean x).toInt ∧ (vp_nar .boolean x).toInt ≤ 1 := by
  have h : vp_nar .boolean x = x &&& 1 := rfl
  rw [h]
  obtain ⟨j, hj, e⟩ := pk_andE x (m := 1) 1 (by decide)
  rw [e, nI_toInt (by omega)]
  omega
def aBR (kd : Nat) : Int × Int := if kd = 1 then (-128, 127) else (0, 1)
def aStB (AT : Nat → Option aTy) (ma : List Nat) (s : aS) (st : List aV) : Option (aS × List aV) := match st with
  | x :: ix :: .inr (.inr (.inl j)) :: r => match s.2.1[j]? with
    | some t => match AT t with
      | some (kd, n, .inl segs) => if (oT t = none ∧ (kd = 1 ∨ kd = 2)) ∧ t ∈ ma ∧ aIsI x = true then (match aIdx s ix n with
        | some p => if aFitA segs p (aBR kd) = true then some ((s.1, s.2.1, s.2.2.1, aKeep s t, s.2.2.2.2), r) else none
        | none => none) else none
      | _ => none
    | none => none
  | _ => none
def aStL (AT : Nat → Option aTy) (ma : List Nat) (s : aS) (st : List aV) : Option (aS × List aV) := match st with
  | .inr (.inr (.inr (.inr _))) :: ix :: .inr (.inr (.inl j)) :: r => match s.2.1[j]? with
    | some t => match AT t with
      | some (kd, n, .inr (.inr _)) => if (oT t = none ∧ kd = 3) ∧ t ∈ ma then (match aIdx s ix n with
        | some _ => some (s, r)
        | none => none) else none
      | _ => none
    | none => none
  | _ => none
def aLdL (AT : Nat → Option aTy) (s : aS) (st : List aV) : Option (aS × List aV) := match st with
  | ix :: .inr (.inr (.inl j)) :: r => match s.2.1[j]? with
    | some t => match AT t with
      | some (kd, n, .inr (.inr _)) => if oT t = none ∧ kd = 3 then (match aIdx s ix n with
        | some _ => some (s, aLong :: r)
        | none => none) else none
      | _ => none
    | none => none
  | _ => none
def aLdA (AT : Nat → Option aTy) (s : aS) (st : List aV) : Option (aS × List aV) := match st with
  | ix :: .inr (.inr (.inl j)) :: r => match s.2.1[j]? with
    | some t => match AT t with
      | some (kd, n, .inr (.inl tg)) => if oT t = none ∧ (kd = 4 ∨ kd = 5) then (match aIdx s ix n with
        | some _ => some ((s.1, s.2.1 ++ [tg], s.2.2.1, s.2.2.2.1, s.2.2.2.2), aRef s.2.1.length :: r)
        | none => none) else none
      | _ => none
    | none => none
  | _ => none
def aLen (AT : Nat → Option aTy) (ls : Option Nat) (s : aS) (st : List aV) : Option (aS × List aV) := match st with
  | .inr (.inr (.inl j)) :: r => match s.2.1[j]? with
    | some t => match AT t with
      | some (kd, n, _) => if oT t = none ∧ kd < 6 then some (s, .inl (n : Int) :: r) else none
      | _ => none
    | none => none
  | .inr (.inr (.inr (.inl j))) :: r => if j = 0 then (match ls with
    | some y => some (s, aSym y :: r)
    | none => none) else none
  | _ => none
/-- the rows outside -/
def aLdX (ls : Option Nat) (s : aS) (ix : aV) (j : Nat) (r : List aV) : Option (aS × List aV) := if j = 1 then (match ix with
    | .inl c => if 0 ≤ c ∧ c < 5 then some (s, .inl ((nj_fs.getD c.toNat 0).toInt) :: r) else none
    | _ => match aIdx s ix 5 with
      | some _ => some ((s.1 ++ [(0, 26)], s.2.1, s.2.2.1, s.2.2.2.1, s.2.2.2.2), aSym s.1.length :: r)
      | none => none)
  else if j = 0 then (match ls, ix with
    | some y, .inr (.inl (i, c)) => if aIsI ix = true ∧ aFit ((aIv s.1 ix).1, (aIv s.1 ix).2) = true ∧ 0 ≤ (aIv s.1 ix).1 ∧ aPr s ([(1, i), (-1, y)], c + 1) = true ∧ aFit (((s.1.getD i (0, 2147483648)).1 + c), ((s.1.getD i (0, 2147483648)).2 + c)) = true then some ((s.1 ++ [aFull], s.2.1, s.2.2.1, s.2.2.2.1, s.2.2.2.2), aSym s.1.length :: r) else none
    | _, _ => none)
  else none
section AA2
variable {FT : Nat → Nat → Option fTy} {AT : Nat → Option aTy} {S : List Nat} {h : List nC} {nu : List Int} {mu : List Nat} {s s1 : aS} {pc : Nat} {st : List Value} {ast ast1 : List aV} {mf : List (Nat × Nat)} {ma : List Nat} {J : List nC → Prop}
theorem m_bast (hJ : nJ FT AT S J) (hJh : J h) (hT : tOk FT AT S h) (k : aOk S h nu mu s) (hs : aSt nu mu ast st) (hr : aStB AT ma s ast = some (s1, ast1)) : ∃ (st1 : List Value) (h1 : List nC), nj_bast pc st h = some (pc + 1, st1, h1) ∧ J h1 ∧ tOk FT AT S h1 ∧ nFr mf ma S h h1 ∧ aOk S h1 nu mu s1 ∧ aSt nu mu ast1 st1 := by
  unfold aStB at hr
  split at hr
  · next x ix j r =>
    obtain ⟨v0, rst0, rfl, hx, hrst0⟩ := hs.cons
    obtain ⟨v1, rst1, rfl, hi, hrst1⟩ := hrst0.cons
    obtain ⟨v2, rst2, rfl, ⟨q, hj, rfl⟩, hrst⟩ := hrst1.cons
    split at hr
    · next t ht =>
      split at hr
      · next kd n segs hA =>
        split at hr
        · next hc =>
          obtain ⟨⟨hc1, hkd⟩, hma, hxi⟩ := hc
          split at hr
          · next p hp =>
            split at hr
            · next hfit =>
              cases hr
              obtain ⟨i, rfl, hix, hi1, hi2, hi3⟩ := aIdx_ok k hp hi
              obtain ⟨x0, rfl, hx1, hx2⟩ := aIv_ok k.1 hxi hx
              have htag := k.tag hj ht
              obtain ⟨ct, hq, hct⟩ := hT.arr htag hA hc1
              cases ct with
              | inr y => exact hct.elim
              | inl f =>
                obtain ⟨hJ1, hG⟩ := hJ.2.1 h q t kd n segs f i.toNatClampNeg (vp_nar (nj_kt kd) x0) hJh hT htag hA hq hi3 (fun r hr => (aFitA_ok hfit hi1 hi2 hr).2.2)
                refine ⟨rst2, h.set q (.inl (kd, n, .inl (upd f i.toNatClampNeg (vp_nar (nj_kt kd) x0)))), ?_, hJ1, ?_, nFr.seta htag hc1 hma hG, ⟨k.1, k.2.1, aFc_arr k hq hG, aKeep_ok k htag, k.2.2.2.2⟩, hrst⟩
                · simp only [nj_bast, hq, hix, hkd, and_self, if_true]
                · refine tOk_set hT htag ⟨hc1, _, hA, eOk_upd hct (fun r hr => ?_)⟩
                  have hb := aFitA_ok hfit hi1 hi2 hr
                  rcases hkd with rfl | rfl
                  · have := nar_byte x0
                    simp only [aBR, if_true] at hb
                    show r.1 ≤ (vp_nar .byte x0).toInt ∧ (vp_nar .byte x0).toInt ≤ r.2.1
                    omega
                  · have := nar_bool x0
                    rw [aBR, if_neg (by decide)] at hb
                    show r.1 ≤ (vp_nar .boolean x0).toInt ∧ (vp_nar .boolean x0).toInt ≤ r.2.1
                    simp only at hb
                    omega
            · cases hr
          · cases hr
        · cases hr
      · cases hr
    · cases hr
  · cases hr
theorem m_last (hJ : nJ FT AT S J) (hJh : J h) (hT : tOk FT AT S h) (k : aOk S h nu mu s) (hs : aSt nu mu ast st) (hr : aStL AT ma s ast = some (s1, ast1)) : ∃ (st1 : List Value) (h1 : List nC), nj_last pc st h = some (pc + 1, st1, h1) ∧ J h1 ∧ tOk FT AT S h1 ∧ nFr mf ma S h h1 ∧ aOk S h1 nu mu s1 ∧ aSt nu mu ast1 st1 := by
  unfold aStL at hr
  split at hr
  · next u ix j r =>
    obtain ⟨v0, rst0, rfl, ⟨x0, rfl⟩, hrst0⟩ := hs.cons
    obtain ⟨v1, rst1, rfl, hi, hrst1⟩ := hrst0.cons
    obtain ⟨v2, rst2, rfl, ⟨q, hj, rfl⟩, hrst⟩ := hrst1.cons
    split at hr
    · next t ht =>
      split at hr
      · next kd n u2 hA =>
        split at hr
        · next hc =>
          obtain ⟨⟨hc1, rfl⟩, hma⟩ := hc
          split at hr
          · next p hp =>
            cases hr
            obtain ⟨i, rfl, hix, hi1, hi2, hi3⟩ := aIdx_ok k hp hi
            have htag := k.tag hj ht
            obtain ⟨ct, hq, hct⟩ := hT.arr htag hA hc1
            rcases ct with f | f | f
            · exact hct.elim
            · obtain ⟨hJ1, hG⟩ := hJ.2.2.1 h q t 3 n f (vp_updL f i.toNatClampNeg x0) hJh hT htag hq
              refine ⟨rst2, h.set q (.inl (3, n, .inr (.inl (vp_updL f i.toNatClampNeg x0)))), ?_, hJ1, tOk_set hT htag ⟨hc1, _, hA, trivial⟩, nFr.seta htag hc1 hma hG, ⟨k.1, k.2.1, aFc_arr k hq hG, fun e he => ?_, k.2.2.2.2⟩, hrst⟩
              · simp only [nj_last, hq, hix, and_self, if_true]
              · obtain ⟨q2, kd2, n2, f2, i2, g1, g2, g3, g4⟩ := k.2.2.2.1 e he
                refine ⟨q2, kd2, n2, f2, i2, g1, ?_, g3, g4⟩
                rw [List.getElem?_set_ne]
                · exact g2
                · intro e2
                  subst e2
                  cases hq.symm.trans g2
            · exact hct.elim
          · cases hr
        · cases hr
      · cases hr
    · cases hr
  · cases hr
theorem m_lald (hT : tOk FT AT S h) (k : aOk S h nu mu s) (hs : aSt nu mu ast st) (hr : aLdL AT s ast = some (s1, ast1)) : ∃ st1 : List Value, nj_lald pc st h = some (pc + 1, st1, h) ∧ aOk S h nu mu s1 ∧ aSt nu mu ast1 st1 := by
  unfold aLdL at hr
  split at hr
  · next ix j r =>
    obtain ⟨v1, rst1, rfl, hi, hrst1⟩ := hs.cons
    obtain ⟨v2, rst2, rfl, ⟨q, hj, rfl⟩, hrst⟩ := hrst1.cons
    split at hr
    · next t ht =>
      split at hr
      · next kd n u2 hA =>
        split at hr
        · next hc =>
          obtain ⟨hc1, rfl⟩ := hc
          split at hr
          · next p hp =>
            cases hr
            obtain ⟨i, rfl, hix, hi1, hi2, hi3⟩ := aIdx_ok k hp hi
            have htag := k.tag hj ht
            obtain ⟨ct, hq, hct⟩ := hT.arr htag hA hc1
            rcases ct with f | f | f
            · exact hct.elim
            · refine ⟨.long (f i.toNatClampNeg) :: rst2, ?_, k, ⟨_, rfl⟩, hrst⟩
              simp only [nj_lald, hq, hix, and_self, if_true]
            · exact hct.elim
          · cases hr
        · cases hr
      · cases hr
    · cases hr
  · cases hr
theorem m_aald (hT : tOk FT AT S h) (k : aOk S h nu mu s) (hs : aSt nu mu ast st) (hr : aLdA AT s ast = some (s1, ast1)) : ∃ (st1 : List Value) (mu1 : List Nat), nj_aald pc st h = some (pc + 1, st1, h) ∧ aX nu mu nu mu1 ∧ aOk S h nu mu1 s1 ∧ aSt nu mu1 ast1 st1 := by
  unfold aLdA at hr
  split at hr
  · next ix j r =>
    obtain ⟨v1, rst1, rfl, hi, hrst1⟩ := hs.cons
    obtain ⟨v2, rst2, rfl, ⟨q, hj, rfl⟩, hrst⟩ := hrst1.cons
    split at hr
    · next t ht =>
      split at hr
      · next kd n tg hA =>
        split at hr
        · next hc =>
          obtain ⟨hc1, hkd⟩ := hc
          split at hr
          · next p hp =>
            cases hr
            obtain ⟨i, rfl, hix, hi1, hi2, hi3⟩ := aIdx_ok k hp hi
            have htag := k.tag hj ht
            obtain ⟨ct, hq, hct⟩ := hT.arr htag hA hc1
            rcases ct with f | f | f
            · exact hct.elim
            · exact hct.elim
            · obtain ⟨q2, hf2, ht2⟩ := hct i.toNatClampNeg hi3
              have X : aX nu mu nu (mu ++ [q2]) := ⟨[], [q2], by simp, rfl⟩
              have hl : s.2.1.length = mu.length := k.2.1.1
              refine ⟨.ref q2 :: rst2, mu ++ [q2], ?_, X, k.pushR ht2, by rw [hl]; exact aR_ref nu mu q2, hrst.x X⟩
              simp only [nj_aald, hq, hix, hkd, and_self, if_true, hf2]
          · cases hr
        · cases hr
      · cases hr
    · cases hr
  · cases hr
theorem m_alen {L : Nat} {ls : Option Nat} (hls : ∀ y, ls = some y → nu[y]? = some (L : Int)) (hT : tOk FT AT S h) (k : aOk S h nu mu s) (hs : aSt nu mu ast st) (hr : aLen AT ls s ast = some (s1, ast1)) : ∃ st1 : List Value, nj_alen L pc st h = some (pc + 1, st1, h) ∧ aOk S h nu mu s1 ∧ aSt nu mu ast1 st1 := by
  have hnat : ∀ n : Nat, Int32.ofNat n = Int32.ofInt (n : Int) := fun n => (Int32.ofInt_eq_ofNat).symm
  unfold aLen at hr
  split at hr
  · next j r =>
    obtain ⟨v2, rst2, rfl, ⟨q, hj, rfl⟩, hrst⟩ := hs.cons
    split at hr
    · next t ht =>
      split at hr
      · next kd n et hA =>
        split at hr
        · next hc =>
          cases hr
          have htag := k.tag hj ht
          obtain ⟨ct, hq, hct⟩ := hT.arr htag hA hc.1
          refine ⟨.int (Int32.ofNat n) :: rst2, ?_, k, ?_, hrst⟩
          · simp only [nj_alen, hq, hc.2, if_true]
          · show Value.int _ = .int _
            rw [hnat]
        · cases hr
      · cases hr
    · cases hr
  · next j r =>
    obtain ⟨v2, rst2, rfl, rfl, hrst⟩ := hs.cons
    split at hr
    · next hj =>
      subst hj
      split at hr
      · next y =>
        cases hr
        refine ⟨.int (Int32.ofNat L) :: rst2, ?_, k, ⟨(L : Int), hls y rfl, ?_⟩, hrst⟩
        · simp only [nj_alen, if_true]
        · rw [Int.add_zero, hnat]
      · cases hr
    · cases hr
  · cases hr
end AA2
