theorem zB_iff {x : Int32} {m : Nat} : x &&& Int32.ofNat (2 ^ m - 1) = 0 ↔ ∀ i, i < 32 → i < m → x.toBitVec.getLsbD i = false := by
  have hm : ∀ i, i < 32 → (Int32.ofNat (2 ^ m - 1)).toBitVec.getLsbD i = decide (i < m) := by
    intro i hi
    show (BitVec.ofNat 32 (2 ^ m - 1)).getLsbD i = _
    rw [BitVec.getLsbD_ofNat, Nat.testBit_two_pow_sub_one]
    simp [hi]
  constructor
  · intro h i hi him
    have h2 := congrArg (fun z : Int32 => z.toBitVec.getLsbD i) h
    simp only [Int32.toBitVec_and, BitVec.getLsbD_and, hm i hi, him, decide_true, Bool.and_true] at h2
    rw [h2]
    show (BitVec.ofNat 32 0).getLsbD i = false
    simp
  · intro h
    apply Int32.toBitVec_inj.mp
    apply BitVec.eq_of_getLsbD_eq
    intro i hi
    simp only [Int32.toBitVec_and, BitVec.getLsbD_and, hm i hi]
    have h0 : (0 : Int32).toBitVec.getLsbD i = false := by
      show (BitVec.ofNat 32 0).getLsbD i = false
      simp
    rw [h0]
    by_cases him : i < m
    · rw [h i hi him]; rfl
    · simp [him]
theorem zB_sm : ∀ l, l < 32 → ((nI l &&& 31).toBitVec.smod 32).toNat = l := by decide
theorem zB_shl {l i : Nat} (hl : l < 32) (hi : i < l) : ((1 : Int32) <<< (nI l &&& 31)).toBitVec.getLsbD i = false := by
  rw [Int32.toBitVec_shiftLeft, BitVec.shiftLeft_eq', zB_sm l hl, BitVec.getLsbD_shiftLeft]
  simp [hi]
theorem zB_shr {x : Int32} {l : Nat} (hl : l < 31) : (x >>> (nI l &&& 31)).toBitVec.getLsbD 0 = x.toBitVec.getLsbD l := by
  rw [Int32.toBitVec_shiftRight, BitVec.sshiftRight_eq', zB_sm l (by omega), BitVec.getLsbD_sshiftRight]
  simp
  intro h
  omega
section APM
variable {S : List Nat} {h : List nC} {nu : List Int} {mu : List Nat} {s : aS} {pc mL : Nat} {lv : nLv} {st : List Value} {al : List (Nat × aV)} {ast : List aV} {l : List aY}
theorem aMul_ok (k : aOk S h nu mu s) {m : Nat} {a : aV} {x : Int32} (ha : aR nu mu a (.int x)) (hm : aMul s m a = true) : x &&& Int32.ofNat (2 ^ m - 1) = 0 := by
  unfold aMul at hm
  split at hm
  · cases ha
    exact of_decide_eq_true hm
  · next i c =>
    rw [Bool.and_eq_true] at hm
    obtain ⟨z, hz, ez⟩ := ha
    have hc := of_decide_eq_true hm.1
    subst hc
    obtain ⟨e, he, h1⟩ := List.any_eq_true.mp hm.2
    have hd := k.2.2.2.2 e he
    split at h1
    · next q =>
      have hq := of_decide_eq_true h1
      subst hq
      obtain ⟨y, y1, y2⟩ := hd
      cases hz.symm.trans y1
      rw [Int.add_zero] at ez
      cases ez
      exact y2
    · cases h1
  · cases hm
theorem aNx.newF {x : Int32} {rg : Int × Int} {pc1 : Nat} {r : List aV} {rst : List Value} {fl : List aDf} (k : aOk S h nu mu s) (hl : aLv nu mu al lv) (hs : aSt nu mu r rst) (hx : rg.1 ≤ x.toInt ∧ x.toInt ≤ rg.2) (hf : ∀ e ∈ fl, dfOk (nu ++ [x.toInt]) e) : aNx S h nu mu [(aNewF s rg fl, pc1, al, aSym s.1.length :: r)] (pc1, lv, .int x :: rst) := by
  have X : aX nu mu (nu ++ [x.toInt]) mu := ⟨[x.toInt], [], rfl, by simp⟩
  have hle : s.1.length = nu.length := k.1.1
  have k1 := k.pushI hx
  refine ⟨nu ++ [x.toInt], X, _, List.mem_singleton.mpr rfl, rfl, ⟨k1.1, k1.2.1, k1.2.2.1, k1.2.2.2.1, fun e he => ?_⟩, hl.x X, by rw [hle]; exact aR_sym nu mu x, hs.x X⟩
  rcases List.mem_append.mp he with he | he
  · exact hf e he
  · exact k1.2.2.2.2 e he
theorem aFitX_ok (k : aOk S h nu mu s) {j : Nat} {d z : Int} {y : Int32} (hz : nu[j]? = some z) (ey : Value.int y = .int (Int32.ofInt (z + d))) (hf : aFitX s (.inr (.inl (j, d))) = true) : y.toInt = z + d := by
  unfold aFitX at hf
  simp only at hf
  split at hf
  · next r hr =>
    have b := k.1.2 j z r hz hr
    simp only [aFit, Bool.and_eq_true, decide_eq_true_eq] at hf
    have : y = Int32.ofInt (z + d) := by cases ey; rfl
    rw [this, a32 (by omega) (by omega)]
  · cases hf
theorem aMulF {n : Nat} {nu2 : List Int} {j : Nat} {c d z v : Int} (hn : nu2[n]? = some v) (hj : nu2[j]? = some z) (hv : v = c * (z + d)) : ∀ e ∈ ([.inl ([(1, n), (-c, j)], -(c * d)), .inl ([(-1, n), (c, j)], c * d)] : List aDf), dfOk nu2 e := by
  have l1 := (List.getElem?_eq_some_iff.mp hn).1
  have l2 := (List.getElem?_eq_some_iff.mp hj).1
  rw [Int.mul_add] at hv
  intro e he
  rcases List.mem_cons.mp he with rfl | he
  · refine ⟨fun t ht => ?_, ?_⟩
    · rcases List.mem_cons.mp ht with rfl | ht
      · exact l1
      · rw [List.mem_singleton.mp ht]; exact l2
    · simp only [lS, List.map_cons, List.map_nil, List.sum_cons, List.sum_nil, List.getD_eq_getElem?_getD, hn, hj, Option.getD_some, Int.neg_mul]
      omega
  · have := List.mem_singleton.mp he
    subst this
    refine ⟨fun t ht => ?_, ?_⟩
    · rcases List.mem_cons.mp ht with rfl | ht
      · exact l1
      · rw [List.mem_singleton.mp ht]; exact l2
    · simp only [lS, List.map_cons, List.map_nil, List.sum_cons, List.sum_nil, List.getD_eq_getElem?_getD, hn, hj, Option.getD_some, Int.neg_mul]
      omega
theorem aOpF_ok {i : Instr} {x y : aV} {x0 y0 : Int32} (k : aOk S h nu mu s) (hx : aR nu mu x (.int x0)) (hy : aR nu mu y (.int y0)) (hxi : aIsI x = true) (hyi : aIsI y = true) : ∀ e ∈ aOpF s i x y, dfOk (nu ++ [(aOp i x0 y0).toInt]) e := by
  intro e he
  have hle : s.1.length = nu.length := k.1.1
  have hn : ∀ v : Int, (nu ++ [v])[s.1.length]? = some v := fun v => by rw [hle]; simp
  have hap : ∀ {v z : Int} {j : Nat}, nu[j]? = some z → (nu ++ [v])[j]? = some z := fun {v z j} hz => by
    rw [List.getElem?_append_left (List.getElem?_eq_some_iff.mp hz).1]; exact hz
  obtain ⟨xa, ea, hx1, hx2⟩ := aIv_ok k.1 hxi hx
  cases ea
  obtain ⟨ya, eb, hy1, hy2⟩ := aIv_ok k.1 hyi hy
  cases eb
  unfold aOpF at he
  split at he
  · split at he
    · next c j d =>
      split at he
      · next hc =>
        obtain ⟨h0, h1, h2, h3⟩ := hc
        obtain ⟨z, hz, ez⟩ := hy
        have ey := aFitX_ok k hz ez h2
        simp only [aFit, Bool.and_eq_true, decide_eq_true_eq] at h1 h3
        have exc : x0.toInt = c := by
          have : x0 = Int32.ofInt c := by cases hx; rfl
          rw [this, a32 (by omega) (by omega)]
        have m1 := Int.mul_le_mul_of_nonneg_left hy1 h0
        have m2 := Int.mul_le_mul_of_nonneg_left hy2 h0
        have hv : (aOp .imul x0 y0).toInt = c * (z + d) := by
          show (x0 * y0).toInt = _
          rw [Int32.toInt_mul, exc, ← ey, bm (by omega) (by omega)]
        exact aMulF (hn _) (hap hz) hv e he
      · cases he
    · next j d c =>
      split at he
      · next hc =>
        obtain ⟨h0, h1, h2, h3⟩ := hc
        obtain ⟨z, hz, ez⟩ := hx
        have ey := aFitX_ok k hz ez h2
        simp only [aFit, Bool.and_eq_true, decide_eq_true_eq] at h1 h3
        have exc : y0.toInt = c := by
          have : y0 = Int32.ofInt c := by cases hy; rfl
          rw [this, a32 (by omega) (by omega)]
        have m1 := Int.mul_le_mul_of_nonneg_left hx1 h0
        have m2 := Int.mul_le_mul_of_nonneg_left hx2 h0
        have hv : (aOp .imul x0 y0).toInt = c * (z + d) := by
          show (x0 * y0).toInt = _
          rw [Int32.toInt_mul, exc, ← ey, Int.mul_comm, bm (by omega) (by omega)]
        exact aMulF (hn _) (hap hz) hv e he
      · cases he
    · cases he
  · obtain ⟨m, hm, rfl⟩ := List.mem_map.mp he
    obtain ⟨-, hm2⟩ := List.mem_filter.mp hm
    rw [Bool.and_eq_true] at hm2
    have a1 := zB_iff.mp (aMul_ok k hx hm2.1)
    have a2 := zB_iff.mp (aMul_ok k hy hm2.2)
    refine ⟨(x0 ||| y0).toInt, hn _, ?_⟩
    rw [Int32.ofInt_toInt]
    refine zB_iff.mpr (fun i hi him => ?_)
    rw [Int32.toBitVec_or, BitVec.getLsbD_or, a1 i hi him, a2 i hi him]
    rfl
  · split at he
    · next hc =>
      obtain ⟨rfl, h1, h2⟩ := hc
      have := List.mem_singleton.mp he
      subst this
      have ex : x0 = 1 := by cases hx; rfl
      subst ex
      have zy : ¬ y0 < 0 := by
        rw [Int32.lt_iff_toInt_lt]
        have : (0 : Int32).toInt = 0 := rfl
        omega
      obtain ⟨d, hd, ed⟩ := nI_of zy
      have hdt : y0.toInt = (d : Int) := by rw [ed]; exact nI_toInt hd
      refine ⟨((1 : Int32) <<< (y0 &&& 31)).toInt, hn _, ?_⟩
      rw [Int32.ofInt_toInt]
      refine zB_iff.mpr (fun i hi him => ?_)
      rw [ed]
      exact zB_shl (by omega) (by omega)
    · cases he
  · split at he
    · next hc =>
      obtain ⟨h1, h2, h3⟩ := hc
      have := List.mem_singleton.mp he
      subst this
      obtain ⟨m, -, hm⟩ := List.any_eq_true.mp h3
      simp only [Bool.and_eq_true, decide_eq_true_eq] at hm
      obtain ⟨hm0, hm1, hm2⟩ := hm
      have a1 := zB_iff.mp (aMul_ok k hx hm2)
      have zy : ¬ y0 < 0 := by
        rw [Int32.lt_iff_toInt_lt]
        have : (0 : Int32).toInt = 0 := rfl
        omega
      obtain ⟨d, hd, ed⟩ := nI_of zy
      have hdt : y0.toInt = (d : Int) := by rw [ed]; exact nI_toInt hd
      refine ⟨(x0 >>> (y0 &&& 31)).toInt, hn _, ?_⟩
      rw [Int32.ofInt_toInt]
      refine zB_iff.mpr (fun i hi him => ?_)
      have e0 : i = 0 := by omega
      subst e0
      rw [ed, zB_shr (by omega)]
      exact a1 d (by omega) (by omega)
    · cases he
  · cases he
end APM
