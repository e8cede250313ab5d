theorem aE_get {rho : aRho} {nu : List Int} (hE : aE rho nu) {i : Nat} {z : Int} (hz : nu[i]? = some z) : ∃ r, rho[i]? = some r ∧ r.1 ≤ z ∧ z ≤ r.2 := by
  have hlt : i < rho.length := by rw [hE.1]; exact (List.getElem?_eq_some_iff.mp hz).1
  exact ⟨rho[i], List.getElem?_eq_getElem hlt, hE.2 i z _ hz (List.getElem?_eq_getElem hlt)⟩
section AM2
variable {FT : Nat → Nat → Option fTy} {AT : Nat → Option aTy} {S : List Nat} {h : List nC} {nu : List Int} {mu : List Nat} {s s1 : aS} {pc : Nat} {st rst : List Value} {ast ast1 : List aV} {mf : List (Nat × Nat)} {ma : List Nat} {J : List nC → Prop} {L : Nat} {xs : Nat → Int32} {ls : Option Nat}
theorem m_ldX {ix : aV} {j : Nat} {r : List aV} {vi : Value} (hls : ∀ y, ls = some y → nu[y]? = some (L : Int)) (k : aOk S h nu mu s) (hi : aR nu mu ix vi) (hrst : aSt nu mu r rst) (hr : aLdX ls s ix j r = some (s1, ast1)) : ∃ (st1 : List Value) (nu1 : List Int), nj_iald L xs pc (vi :: .retAddr j :: rst) h = some (pc + 1, st1, h) ∧ aX nu mu nu1 mu ∧ aOk S h nu1 mu s1 ∧ aSt nu1 mu ast1 st1 := by
  have hl : s.1.length = nu.length := k.1.1
  have push : ∀ (x : Int32) (rg : Int × Int), rg.1 ≤ x.toInt ∧ x.toInt ≤ rg.2 → aX nu mu (nu ++ [x.toInt]) mu ∧ aOk S h (nu ++ [x.toInt]) mu (s.1 ++ [rg], s.2.1, s.2.2.1, s.2.2.2.1, s.2.2.2.2) ∧ aSt (nu ++ [x.toInt]) mu (aSym s.1.length :: r) (.int x :: rst) := by
    intro x rg hx
    have X : aX nu mu (nu ++ [x.toInt]) mu := ⟨[x.toInt], [], rfl, by simp⟩
    exact ⟨X, k.pushI hx, by rw [hl]; exact aR_sym nu mu x, hrst.x X⟩
  unfold aLdX at hr
  split at hr
  · next hj =>
    subst hj
    split at hr
    · next c =>
      split at hr
      · next hc =>
        cases hr
        cases hi
        have hn : (Int32.ofInt c).toNatClampNeg = c.toNat := by
          show (Int32.ofInt c).toInt.toNat = _
          rw [a32 (by omega) (by omega)]
        have hix : nj_ix (Int32.ofInt c) 5 = true := by
          simp only [nj_ix, Bool.and_eq_true, decide_eq_true_eq, hn]
          refine ⟨?_, by omega⟩
          rw [Int32.lt_iff_toInt_lt, a32 (by omega) (by omega)]
          have : (0 : Int32).toInt = 0 := rfl
          omega
        refine ⟨.int (nj_fs.getD c.toNat 0) :: rst, nu, ?_, aX.rf, k, ?_, hrst⟩
        · have e1 : nj_xr L xs 1 = some (5, fun k => nj_fs.getD k 0) := rfl
          simp only [nj_iald, e1, hix, if_true, hn]
        · show Value.int _ = .int _
          rw [Int32.ofInt_toInt]
      · cases hr
    · split at hr
      · next p hp =>
        cases hr
        obtain ⟨i, rfl, hix, hi1, hi2, hi3⟩ := aIdx_ok k hp hi
        have hb : 0 ≤ (nj_fs.getD i.toNatClampNeg 0).toInt ∧ (nj_fs.getD i.toNatClampNeg 0).toInt ≤ 26 := by
          have : ∀ z : Nat, z < 5 → 0 ≤ (nj_fs.getD z 0).toInt ∧ (nj_fs.getD z 0).toInt ≤ 26 := by decide
          exact this _ hi3
        obtain ⟨X, k1, s1'⟩ := push (nj_fs.getD i.toNatClampNeg 0) (0, 26) hb
        have e1 : nj_xr L xs 1 = some (5, fun k => nj_fs.getD k 0) := rfl
        exact ⟨_, _, by simp only [nj_iald, e1, hix, if_true], X, k1, s1'⟩
      · cases hr
  · split at hr
    · next hj =>
      subst hj
      split at hr
      · next y i c =>
        split at hr
        · next hc =>
          cases hr
          obtain ⟨c1, c2, c3, c4, c5⟩ := hc
          obtain ⟨x, rfl, h1, h2⟩ := aIv_ok k.1 c1 hi
          have hp := aPr_ok k c4
          obtain ⟨z, hz, hx⟩ := hi
          have hly := hls y rfl
          simp only [lS, List.map_cons, List.map_nil, List.sum_cons, List.sum_nil, List.getD_eq_getElem?_getD, hz, hly, Option.getD_some] at hp
          obtain ⟨rg, hrg, hb⟩ := aE_get k.1 hz
          have hgd : s.1.getD i (0, 2147483648) = rg := by rw [List.getD_eq_getElem?_getD, hrg]; rfl
          rw [hgd] at c5
          simp only [aFit, Bool.and_eq_true, decide_eq_true_eq] at c5
          have hxe : x = Int32.ofInt (z + c) := by cases hx; rfl
          have hxi : x.toInt = z + c := by rw [hxe, a32 (by omega) (by omega)]
          have hlt : x.toNatClampNeg < L := by
            show x.toInt.toNat < L
            omega
          have hix : nj_ix x L = true := by
            simp only [nj_ix, Bool.and_eq_true, decide_eq_true_eq]
            refine ⟨?_, hlt⟩
            rw [Int32.lt_iff_toInt_lt]
            have : (0 : Int32).toInt = 0 := rfl
            omega
          obtain ⟨X, k1, s1'⟩ := push (xs x.toNatClampNeg) aFull (aFull_ok _)
          have e1 : nj_xr L xs 0 = some (L, xs) := rfl
          exact ⟨_, _, by simp only [nj_iald, e1, hix, if_true], X, k1, s1'⟩
        · cases hr
      · cases hr
    · cases hr
def aIald (AT : Nat → Option aTy) (ls : Option Nat) (s : aS) (st : List aV) : Option (aS × List aV) := match st with
  | ix :: .inr (.inr (.inl j)) :: r => aLdK AT [0] s ix j r
  | ix :: .inr (.inr (.inr (.inl j))) :: r => aLdX ls s ix j r
  | _ => none
def aBald (AT : Nat → Option aTy) (s : aS) (st : List aV) : Option (aS × List aV) := match st with
  | ix :: .inr (.inr (.inl j)) :: r => aLdK AT [1, 2] s ix j r
  | _ => none
/-- what reads or writes -/
def aMem (FT : Nat → Nat → Option fTy) (AT : Nat → Option aTy) (ls : Option Nat) (mf : List (Nat × Nat)) (ma : List Nat) (s : aS) (a b : Nat) (v : Int) (st : List aV) (i : Instr) : Option (aS × List aV) := match i with
  | .getfield _ => aGetf FT s a b st
  | .putfield _ => aPutf FT mf s a b v st
  | .iaload => aIald AT ls s st
  | .baload => aBald AT s st
  | .laload => aLdL AT s st
  | .aaload => aLdA AT s st
  | .iastore => aStI AT ma s st
  | .bastore => aStB AT ma s st
  | .lastore => aStL AT ma s st
  | .arraylength => aLen AT ls s st
  | .ldc _ => if b = 1 then none else some (s, .inl v :: st)
  | .ldc_w _ => some (s, .inl v :: st)
  | .ldc2_w _ => some (s, aLong :: st)
  | .getstatic _ => if a = 0 then some (s, .inr (.inr (.inr (.inl 1))) :: st) else none
  | _ => none
theorem m_mem {a b : Nat} {v : Int} {i : Instr} {ini : Bool} (hls : ∀ y, ls = some y → nu[y]? = some (L : Int)) (hJ : nJ FT AT S J) (hJh : J h) (hT : tOk FT AT S h) (k : aOk S h nu mu s) (hs : aSt nu mu ast st) (hr : aMem FT AT ls mf ma s a b v ast i = some (s1, ast1)) : ∃ (st1 : List Value) (h1 : List nC) (nu1 : List Int) (mu1 : List Nat), nj_mem L xs ini pc a b v st h i = some (pc + nj_len i b, st1, h1) ∧ J h1 ∧ tOk FT AT S h1 ∧ nFr mf ma S h h1 ∧ aX nu mu nu1 mu1 ∧ aOk S h1 nu1 mu1 s1 ∧ aSt nu1 mu1 ast1 st1 := by
  cases i with
  | getfield idx =>
    obtain ⟨st1, nu1, mu1, e1, X, k1, s2⟩ := m_getf (pc := pc) hT k hs hr
    exact ⟨st1, h, nu1, mu1, e1, hJh, hT, nFr.rf, X, k1, s2⟩
  | putfield idx =>
    obtain ⟨st1, q, t, fs, x, e1, e2, e4, e3, e5, e6, k1, s2⟩ := m_putf (pc := pc) (ini := ini) (ma := ma) hJ hJh hT k hs hr
    exact ⟨st1, _, nu, mu, e1, e3, e5, e6, aX.rf, k1, s2⟩
  | iaload =>
    simp only [aMem, aIald] at hr
    split at hr
    · next ix j r =>
      obtain ⟨v1, rst1, rfl, hi, hrst1⟩ := hs.cons
      obtain ⟨v2, rst2, rfl, ⟨q, hj, rfl⟩, hrst⟩ := hrst1.cons
      obtain ⟨kd, n, f, i, nu1, hk, hq, rfl, hix, X, k1, s2⟩ := m_ldK hT k hi hj hrst hr
      refine ⟨_, h, nu1, mu, ?_, hJh, hT, nFr.rf, X, k1, s2⟩
      have hk0 : kd = 0 := by simpa using hk
      subst hk0
      simp only [nj_mem, nj_iald, hq, hix, and_self, if_true]
      rfl
    · next ix j r =>
      obtain ⟨v1, rst1, rfl, hi, hrst1⟩ := hs.cons
      obtain ⟨v2, rst2, rfl, rfl, hrst⟩ := hrst1.cons
      obtain ⟨st1, nu1, e1, X, k1, s2⟩ := m_ldX (pc := pc) (xs := xs) hls k hi hrst hr
      exact ⟨st1, h, nu1, mu, e1, hJh, hT, nFr.rf, X, k1, s2⟩
    · cases hr
  | baload =>
    simp only [aMem, aBald] at hr
    split at hr
    · next ix j r =>
      obtain ⟨v1, rst1, rfl, hi, hrst1⟩ := hs.cons
      obtain ⟨v2, rst2, rfl, ⟨q, hj, rfl⟩, hrst⟩ := hrst1.cons
      obtain ⟨kd, n, f, i, nu1, hk, hq, rfl, hix, X, k1, s2⟩ := m_ldK hT k hi hj hrst hr
      refine ⟨_, h, nu1, mu, ?_, hJh, hT, nFr.rf, X, k1, s2⟩
      have hk0 : kd = 1 ∨ kd = 2 := by simpa using hk
      simp only [nj_mem, nj_bald, hq, hix, hk0, and_self, if_true]
      rfl
    · cases hr
  | laload =>
    obtain ⟨st1, e1, k1, s2⟩ := m_lald (pc := pc) hT k hs hr
    exact ⟨st1, h, nu, mu, e1, hJh, hT, nFr.rf, aX.rf, k1, s2⟩
  | aaload =>
    obtain ⟨st1, mu1, e1, X, k1, s2⟩ := m_aald (pc := pc) hT k hs hr
    exact ⟨st1, h, nu, mu1, e1, hJh, hT, nFr.rf, X, k1, s2⟩
  | iastore =>
    obtain ⟨st1, h1, e1, j1, t1, f1, k1, s2⟩ := m_iast (pc := pc) (mf := mf) hJ hJh hT k hs hr
    exact ⟨st1, h1, nu, mu, e1, j1, t1, f1, aX.rf, k1, s2⟩
  | bastore =>
    obtain ⟨st1, h1, e1, j1, t1, f1, k1, s2⟩ := m_bast (pc := pc) (mf := mf) hJ hJh hT k hs hr
    exact ⟨st1, h1, nu, mu, e1, j1, t1, f1, aX.rf, k1, s2⟩
  | lastore =>
    obtain ⟨st1, h1, e1, j1, t1, f1, k1, s2⟩ := m_last (pc := pc) (mf := mf) hJ hJh hT k hs hr
    exact ⟨st1, h1, nu, mu, e1, j1, t1, f1, aX.rf, k1, s2⟩
  | arraylength =>
    obtain ⟨st1, e1, k1, s2⟩ := m_alen (pc := pc) hls hT k hs hr
    exact ⟨st1, h, nu, mu, e1, hJh, hT, nFr.rf, aX.rf, k1, s2⟩
  | ldc idx =>
    simp only [aMem] at hr
    split at hr
    · cases hr
    · next hb =>
      cases hr
      exact ⟨.int (Int32.ofInt v) :: st, h, nu, mu, by simp only [nj_mem, if_neg hb]; rfl, hJh, hT, nFr.rf, aX.rf, k, rfl, hs⟩
  | ldc_w idx => cases hr; exact ⟨_, h, nu, mu, rfl, hJh, hT, nFr.rf, aX.rf, k, rfl, hs⟩
  | ldc2_w idx => cases hr; exact ⟨_, h, nu, mu, rfl, hJh, hT, nFr.rf, aX.rf, k, ⟨_, rfl⟩, hs⟩
  | getstatic idx =>
    simp only [aMem] at hr
    split at hr
    · next ha => cases hr; exact ⟨.retAddr 1 :: st, h, nu, mu, by simp only [nj_mem, if_pos ha]; rfl, hJh, hT, nFr.rf, aX.rf, k, rfl, hs⟩
    · cases hr
  | _ => exact nomatch (show (none : Option (aS × List aV)) = some (s1, ast1) from hr)
end AM2
