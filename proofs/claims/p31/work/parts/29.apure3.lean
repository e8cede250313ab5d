section AP3
variable {S : List Nat} {h : List nC} {nu : List Int} {mu : List Nat} {s : aS} {pc mL : Nat} {lv : nLv} {st : List Value} {al : List (Nat × aV)} {ast : List aV} {l : List aY}
theorem aTab_ok {a : aV} {x : Int32} (k : aOk S h nu mu s) (hl : aLv nu mu al lv) (hs : aSt nu mu ast st) (ha : aR nu mu a (.int x)) (hia : aIsI a = true) : ∀ (os : List Int) (k0 : Int) (j : Nat) (o : Int) (l : List aY), os[j]? = some o → x.toInt = k0 + j → aTab s a pc al ast os k0 = some l → ∃ r, nj_go pc o lv st = some r ∧ aNx S h nu mu l r := by
  intro os
  induction os with
  | nil => intro k0 j o l hj; simp at hj
  | cons o0 os ih =>
    intro k0 j o l hj hx hr
    simp only [aTab] at hr
    split at hr
    · next l1 l2 e1 e2 =>
      cases hr
      cases j with
      | zero =>
        simp only [List.getElem?_cons_zero] at hj
        cases hj
        have hf : aFit (k0, k0) = true := by
          have := aFull_ok x
          simp only [aFull] at this
          simp only [aFit, Bool.and_eq_true, decide_eq_true_eq]
          omega
        obtain ⟨r, g1, g2⟩ := aEq_ok k hl hs ha hia hf (by omega) e1
        exact ⟨r, g1, g2.app1⟩
      | succ j =>
        simp only [List.getElem?_cons_succ] at hj
        obtain ⟨r, g1, g2⟩ := ih (k0 + 1) j o l2 hj (by omega) e2
        exact ⟨r, g1, g2.app2⟩
    · cases hr
theorem aTsw_ok {a : aV} {x : Int32} {d lo hi : Int} {offs : Array Int} (k : aOk S h nu mu s) (hl : aLv nu mu al lv) (hs : aSt nu mu ast st) (ha : aR nu mu a (.int x)) (hr : aTsw s a pc d lo hi offs al ast = some l) : ∃ r, nj_tab pc lv d lo hi offs x st = some r ∧ aNx S h nu mu l r := by
  unfold aTsw at hr
  split at hr
  · next hc =>
    obtain ⟨hia, hlen, hfit, hlh⟩ := hc
    simp only [aFit, Bool.and_eq_true, decide_eq_true_eq] at hfit
    split at hr
    · next y l0 hy htab =>
      cases hr
      obtain ⟨g1, g2⟩ := aGo_ok (lv := lv) (st := st) hy
      unfold nj_tab
      by_cases hlt : x.toInt < lo
      · rw [if_pos (Or.inl hlt)]
        refine ⟨_, g1, ?_⟩
        have hcm : nj_cmp .lt x (Int32.ofInt lo) = true := by
          simp only [nj_cmp, decide_eq_true_eq]
          rw [Int32.lt_iff_toInt_lt, Int32.toInt_ofInt]
          have := aFull_ok x
          simp only [aFull] at this
          rw [bm (by omega) (by omega)]
          exact hlt
        have hxx := aFull_ok x
        obtain ⟨r, hr, hE⟩ := aAsm_ok (c := .lt) (b := .inl lo) (y := Int32.ofInt lo) k.1 ha rfl hia rfl hcm
        rw [hr, g2]
        exact (aNx.one rfl ⟨hE, k.2.1, k.2.2.1, k.2.2.2.1, k.2.2.2.2⟩ hl hs).app1
      · by_cases hgt : hi < x.toInt
        · rw [if_pos (Or.inr hgt)]
          refine ⟨_, g1, ?_⟩
          have hcm : nj_cmp .gt x (Int32.ofInt hi) = true := by
            simp only [nj_cmp, decide_eq_true_eq]
            rw [Int32.lt_iff_toInt_lt, Int32.toInt_ofInt]
            have := aFull_ok x
            simp only [aFull] at this
            rw [bm (by omega) (by omega)]
            exact hgt
          obtain ⟨r, hr, hE⟩ := aAsm_ok (c := .gt) (b := .inl hi) (y := Int32.ofInt hi) k.1 ha rfl hia rfl hcm
          rw [hr, g2]
          exact ((aNx.one rfl ⟨hE, k.2.1, k.2.2.1, k.2.2.2.1, k.2.2.2.2⟩ hl hs).app1).app2
        · rw [if_neg (by intro q; rcases q with q | q; exact hlt q; exact hgt q)]
          have hj : (x.toInt - lo).toNat < offs.toList.length := by omega
          have ho : offs.toList[(x.toInt - lo).toNat]? = some offs.toList[(x.toInt - lo).toNat] := List.getElem?_eq_getElem hj
          obtain ⟨r, e1, e2⟩ := aTab_ok (pc := pc) k hl hs ha hia offs.toList lo _ _ l0 ho (by omega) htab
          have ho2 : offs[(x.toInt - lo).toNat]? = some offs.toList[(x.toInt - lo).toNat] := by rw [← Array.getElem?_toList]; exact ho
          rw [ho2]
          exact ⟨r, e1, e2.app2.app2⟩
    · cases hr
  · cases hr
theorem aSw_ok {a : aV} {x : Int32} (k : aOk S h nu mu s) (hl : aLv nu mu al lv) (hs : aSt nu mu ast st) (ha : aR nu mu a (.int x)) (hia : aIsI a = true) : ∀ (ps : List (Int × Int)) (d : Int) (l : List aY), ps.all (fun q => aFit (q.1, q.1)) = true → aSw s a pc al ast ps = some l → ((∀ q ∈ ps, ¬ x.toInt = q.1) ∧ Op.lookupswitch.offset ps d x.toInt = d) ∨ ∃ r, nj_go pc (Op.lookupswitch.offset ps d x.toInt) lv st = some r ∧ aNx S h nu mu l r := by
  intro ps
  induction ps with
  | nil => intro d l _ _; exact Or.inl ⟨fun q hq => (by cases hq), rfl⟩
  | cons q ps ih =>
    intro d l hf hr
    simp only [List.all_cons, Bool.and_eq_true] at hf
    simp only [aSw] at hr
    split at hr
    · next l1 l2 e1 e2 =>
      cases hr
      obtain ⟨kq, o⟩ := q
      rw [Op.lookupswitch.offset_cons]
      split
      · next hq =>
        right
        obtain ⟨r, g1, g2⟩ := aEq_ok k hl hs ha hia hf.1 (by first | exact hq | exact hq.symm) e1
        exact ⟨r, g1, g2.app1⟩
      · next hq =>
        rcases ih d l2 hf.2 e2 with h1 | ⟨r, h1, h2⟩
        · refine Or.inl ⟨fun q hq2 => ?_, h1.2⟩
          rcases List.mem_cons.mp hq2 with rfl | hq2
          · first | exact hq | exact fun z => hq z.symm
          · exact h1.1 q hq2
        · exact Or.inr ⟨r, h1, h2.app2⟩
    · cases hr
theorem aGap_ok {a : aV} {x : Int32} {pc1 : Nat} (k : aOk S h nu mu s) (hl : aLv nu mu al lv) (hs : aSt nu mu ast st) (ha : aR nu mu a (.int x)) : ∀ (ps : List (Int × Int)) (p : Option Int), (∀ b, p = some b → b < x.toInt) → (∀ q ∈ ps, ¬ x.toInt = q.1) → aNx S h nu mu (aGap s a (pc1, al, ast) p ps) (pc1, lv, st) := by
  intro ps
  have h0 : ∀ p : Option Int, (∀ b, p = some b → b < x.toInt) → ∃ r, aGp0 s a p = some r ∧ aE r nu := by
    intro p hp
    cases p with
    | none => exact ⟨s.1, rfl, k.1⟩
    | some b =>
      obtain ⟨r, e1, e2⟩ := aGe_ok (B := b + 1) k.1 ha (by have := hp b rfl; omega)
      exact ⟨r, e1, e2⟩
  induction ps with
  | nil =>
    intro p hp hn
    obtain ⟨r, e1, e2⟩ := h0 p hp
    unfold aGap
    rw [e1]
    exact aNx.one rfl ⟨e2, k.2.1, k.2.2.1, k.2.2.2.1, k.2.2.2.2⟩ hl hs
  | cons q ps ih =>
    intro p hp hn
    obtain ⟨r, e1, e2⟩ := h0 p hp
    unfold aGap
    rw [e1]
    have hq := hn q List.mem_cons_self
    by_cases hlt : x.toInt < q.1
    · obtain ⟨r2, e3, e4⟩ := aLe_ok (B := q.1 - 1) e2 ha (by omega)
      simp only [e3]
      exact (aNx.one rfl ⟨e4, k.2.1, k.2.2.1, k.2.2.2.1, k.2.2.2.2⟩ hl hs).app1
    · exact (ih (some q.1) (fun b hb => by cases hb; omega) (fun q2 h2 => hn q2 (List.mem_cons_of_mem _ h2))).app2
theorem aLoad_ok {f : aV → Bool} {kx : Nat} {pc1 : Nat} (k : aOk S h nu mu s) (hl : aLv nu mu al lv) (hs : aSt nu mu ast st) (hr : aLoad f s pc1 kx al ast = some l) : ∃ (x : aV) (v : Value), f x = true ∧ nj_get lv kx = some v ∧ aR nu mu x v ∧ aNx S h nu mu l (pc1, lv, v :: st) := by
  unfold aLoad at hr
  split at hr
  · next x hx =>
    split at hr
    · next hf =>
      cases hr
      obtain ⟨v, g1, g2⟩ := aGetL_ok hl hx
      exact ⟨x, v, hf, g1, g2, aNx.one rfl k hl ⟨g2, hs⟩⟩
    · cases hr
  · cases hr
theorem aStore_ok {f : aV → Bool} {kx : Nat} {pc1 : Nat} (k : aOk S h nu mu s) (hl : aLv nu mu al lv) (hs : aSt nu mu ast st) (hr : aStore f s mL pc1 kx al ast = some l) : ∃ (x : aV) (v : Value) (rst : List Value), f x = true ∧ st = v :: rst ∧ aR nu mu x v ∧ kx < mL ∧ aNx S h nu mu l (pc1, nj_put lv kx v, rst) := by
  unfold aStore at hr
  split at hr
  · next x r =>
    split at hr
    · next hc =>
      cases hr
      obtain ⟨v, rst, rfl, hx, hrst⟩ := hs.cons
      exact ⟨x, v, rst, hc.1, rfl, hx, hc.2, aNx.one rfl k (aPut_ok hl hx) hrst⟩
    · cases hr
  · cases hr
theorem aIsR_v {a : aV} {v : Value} (hi : aIsR a = true) (h : aR nu mu a v) : (∃ x, v = .ref x) ∨ ∃ x, v = .retAddr x := by
  unfold aIsR at hi
  split at hi
  · obtain ⟨q, -, e⟩ := h; exact Or.inl ⟨_, e⟩
  · exact Or.inr ⟨_, h⟩
  · cases hi
theorem a255N (n : Nat) (h : n < 256) : Int32.ofNat n &&& 255 = Int32.ofNat n := by
  have : ∀ n, n < 256 → Int32.ofNat n &&& 255 = Int32.ofNat n := by decide +kernel
  exact this n h
theorem a255M (n : Nat) (h : n < 256) : Int32.ofInt (-256 + (n : Int)) &&& 255 = Int32.ofNat n := by
  have : ∀ n : Nat, n < 256 → Int32.ofInt (-256 + (n : Int)) &&& 255 = Int32.ofNat n := by decide +kernel
  exact this n h
theorem a255 {x : Int32} (h1 : 0 ≤ x.toInt) (h2 : x.toInt ≤ 255) : x &&& 255 = x := by
  have e : x = Int32.ofNat x.toInt.toNat := by
    rw [← Int32.ofInt_toInt x, ← Int32.ofInt_eq_ofNat]
    congr 1
    rw [Int32.ofInt_toInt]
    omega
  rw [e]
  exact a255N _ (by omega)
theorem a255n {x : Int32} (h1 : -256 ≤ x.toInt) (h2 : x.toInt < 0) : x &&& 255 = x + Int32.ofInt 256 := by
  obtain ⟨n, hn⟩ : ∃ n : Nat, x.toInt = -256 + (n : Int) := ⟨(x.toInt + 256).toNat, by omega⟩
  have e : x = Int32.ofInt (-256 + (n : Int)) := by rw [← hn, Int32.ofInt_toInt]
  rw [e, a255M n (by omega), a32_add, ← Int32.ofInt_eq_ofNat]
  congr 1
  omega
theorem aB2_ok {i : Instr} (k : aOk S h nu mu s) (hl : aLv nu mu al lv) (hs : aSt nu mu ast st) (hr : aB2 s i pc al ast = some l) : ∃ (x y : Int32) (rst : List Value), st = .int y :: .int x :: rst ∧ aNx S h nu mu l (pc + 1, lv, .int (aOp i x y) :: rst) := by
  unfold aB2 at hr
  split at hr
  · next y x r =>
    obtain ⟨v0, rst0, rfl, hy, hrst0⟩ := hs.cons
    obtain ⟨v1, rst, rfl, hx, hrst⟩ := hrst0.cons
    split at hr
    · next hc =>
      obtain ⟨x0, rfl, hx1, hx2⟩ := aIv_ok k.1 hc.1 hx
      obtain ⟨y0, rfl, hy1, hy2⟩ := aIv_ok k.1 hc.2 hy
      refine ⟨x0, y0, rst, rfl, ?_⟩
      split at hr
      · next c =>
        cases hr
        have hyc : y0 = Int32.ofInt c := by cases hy; rfl
        obtain ⟨nu1, X1, k1, a1⟩ := aAddN_ok k hx c
        rw [← hyc] at a1
        exact ⟨nu1, X1, _, List.mem_singleton.mpr rfl, rfl, k1, hl.x X1, a1, hrst.x X1⟩
      · next c =>
        cases hr
        have hyc : y0 = Int32.ofInt c := by cases hy; rfl
        obtain ⟨nu1, X1, k1, a1⟩ := aAddN_ok k hx (-c)
        rw [Int32.ofInt_neg, ← Int32.sub_eq_add_neg, ← hyc] at a1
        exact ⟨nu1, X1, _, List.mem_singleton.mpr rfl, rfl, k1, hl.x X1, a1, hrst.x X1⟩
      · split at hr
        · next c =>
          cases hr
          have hxc : x0 = Int32.ofInt c := by cases hx; rfl
          obtain ⟨nu1, X1, k1, a1⟩ := aAddN_ok k hy c
          rw [← hxc, Int32.add_comm] at a1
          exact ⟨nu1, X1, _, List.mem_singleton.mpr rfl, rfl, k1, hl.x X1, a1, hrst.x X1⟩
        · cases hr
          exact aNx.new k hl hrst (aRg_ok .iadd ⟨hx1, hx2⟩ ⟨hy1, hy2⟩)
      · cases hr
        have hy0 : y0 = 0 := by cases hy; rfl
        subst hy0
        have e0 : aOp .ior x0 0 = x0 := Int32.or_zero
        rw [e0]
        exact aNx.one rfl k hl ⟨hx, hrst⟩
      · split at hr
        · next hm =>
          cases hr
          have hy0 : y0 = 255 := by cases hy; rfl
          subst hy0
          by_cases hneg : 0 ≤ x0.toInt
          · have e0 : aOp .iand x0 255 = x0 := a255 (by omega) (by omega)
            rw [e0]
            obtain ⟨r1, e1, e2⟩ := aGe_ok (B := 0) k.1 hx hneg
            simp only [e1]
            refine aNx.app1 ?_
            exact aNx.one rfl ⟨e2, k.2.1, k.2.2.1, k.2.2.2.1, k.2.2.2.2⟩ hl ⟨hx, hrst⟩
          · have e0 : aOp .iand x0 255 = x0 + Int32.ofInt 256 := a255n (by omega) (by omega)
            rw [e0]
            obtain ⟨r1, e1, e2⟩ := aLe_ok (B := -1) k.1 hx (by omega)
            simp only [e1]
            refine aNx.app2 ?_
            exact aNx.one rfl ⟨e2, k.2.1, k.2.2.1, k.2.2.2.1, k.2.2.2.2⟩ hl ⟨aAdd_ok hx 256, hrst⟩
        · cases hr
          exact aNx.new k hl hrst (aRg_ok .iand ⟨hx1, hx2⟩ ⟨hy1, hy2⟩)
      · split at hr
        · next hm =>
          cases hr
          have hy0 : y0 = 1 := by cases hy; rfl
          subst hy0
          have e0 : aOp .iand x0 1 = 0 := aMul_ok k hx hm
          rw [e0]
          exact aNx.one rfl k hl ⟨rfl, hrst⟩
        · cases hr
          exact aNx.new k hl hrst (aRg_ok .iand ⟨hx1, hx2⟩ ⟨hy1, hy2⟩)
      · split at hr
        · cases hr
          have hx0 : x0 = 0 := by cases hx; rfl
          subst hx0
          have e0 : aOp .ior 0 y0 = y0 := Int32.zero_or
          rw [e0]
          exact aNx.one rfl k hl ⟨hy, hrst⟩
        · cases hr
          exact aNx.newF k hl hrst (aRg_ok .ior ⟨hx1, hx2⟩ ⟨hy1, hy2⟩) (aOpF_ok k hx hy hc.1 hc.2)
      · cases hr
        exact aNx.newF k hl hrst (aRg_ok i ⟨hx1, hx2⟩ ⟨hy1, hy2⟩) (aOpF_ok k hx hy hc.1 hc.2)
    · cases hr
  · cases hr
theorem aRem_ok (k : aOk S h nu mu s) (hl : aLv nu mu al lv) (hs : aSt nu mu ast st) (hr : aRem s pc al ast = some l) : ∃ (x y : Int32) (rst : List Value), st = .int y :: .int x :: rst ∧ ¬ y = 0 ∧ aNx S h nu mu l (pc + 1, lv, .int (x - x / y * y) :: rst) := by
  unfold aRem at hr
  split at hr
  · next y x r =>
    obtain ⟨v0, rst0, rfl, hy, hrst0⟩ := hs.cons
    obtain ⟨v1, rst, rfl, hx, hrst⟩ := hrst0.cons
    split at hr
    · next hc =>
      cases hr
      obtain ⟨x0, rfl, hx1, hx2⟩ := aIv_ok k.1 hc.1 hx
      obtain ⟨y0, rfl, hy1, hy2⟩ := aIv_ok k.1 hc.2.1 hy
      have zx : ¬ x0 < 0 := by
        rw [Int32.lt_iff_toInt_lt]
        have : (0 : Int32).toInt = 0 := rfl
        omega
      have zy : ¬ y0 < 0 := by
        rw [Int32.lt_iff_toInt_lt]
        have : (0 : Int32).toInt = 0 := rfl
        omega
      obtain ⟨a, ha, ea⟩ := nI_of zx
      obtain ⟨d, hd, ed⟩ := nI_of zy
      have hdt : y0.toInt = (d : Int) := by rw [ed]; exact nI_toInt hd
      have hd0 : 0 < d := by omega
      refine ⟨x0, y0, rst, rfl, fun q => ?_, aNx.new k hl hrst ?_⟩
      · rw [q] at hdt
        have : (0 : Int32).toInt = 0 := rfl
        omega
      · rw [ea, ed, pk_rem ha hd0 hd]
        have hm : a % d < d := Nat.mod_lt _ hd0
        rw [nI_toInt (by omega)]
        show (0 : Int) ≤ _ ∧ _ ≤ (aIv s.1 y).2 - 1
        omega
    · cases hr
  · cases hr
end AP3
