/-! the law's two calls that may throw, in the small machine -/
def nm_lw (y : MethodName) (cc : ByteArray) (idx k pos : Nat) : nM := (y, cc, 5, some .int, [], [
  (0, .aload_n 3, 0, 0, 0, 0),
  (1, .iconst 0, 0, 0, 0, 0),
  (2, .aload_n 0, 0, 0, 0, 0),
  (3, .iload_n 1, 0, 0, 0, 0),
  (4, .iload_n 2, 0, 0, 0, 0),
  (5, .invokevirtual idx, k, 3, 0, pos),
  (8, .i2l, 0, 0, 0, 0),
  (9, .lastore, 0, 0, 0, 0),
  (10, .goto 7, 0, 0, 0, 0),
  (17, .iconst 0, 0, 0, 0, 0),
  (18, .ireturn, 0, 0, 0, 0)])
def nm_lP : nM := nm_lw ⟨"SlipHeirsLaw", "person", "(LSlipHeirs;II[J)I"⟩ method_3_code 7 154 1169
def nm_lQ : nM := nm_lw ⟨"SlipHeirsLaw", "loss", "(LSlipHeirs;II[J)I"⟩ method_4_code 15 155 1238
def nRr (L : Nat) (xs : Nat → Int32) (mt : nM) (d pc : Nat) (lv : nLv) (st : List Value) (h : List nC) (rv : Option Value) (h2 : List nC) : Prop := ∃ n : Nat, nj_run nj_M nX0 L xs n d mt pc lv st h 0 = some (rv, h2, 0, 0, 0)
section NRR
variable {L : Nat} {xs : Nat → Int32} {mt : nM} {d pc : Nat} {lv : nLv} {st : List Value} {h h2 : List nC} {rv : Option Value} {i : Instr} {q a b pos : Nat} {v : Int}
theorem nRr_step (hf : mt.2.2.2.2.2.find? (fun q => q.1 == pc) = some (q, i, a, b, v, pos)) (hr : nj_ret mt.2.2.2.1 i st = none) {pc1 : Nat} {lv1 : nLv} {st1 : List Value} {h1 : List nC} (hs : ∀ run, nj_step nj_M nX0 L xs run d mt i a b v pc lv st h 0 = some (pc1, lv1, st1, h1, 0, 0, 0)) (k : nRr L xs mt d pc1 lv1 st1 h1 rv h2) : nRr L xs mt d pc lv st h rv h2 := by
  obtain ⟨n, e⟩ := k
  refine ⟨n + 1, ?_⟩
  unfold nj_run
  simp only [hf, hr, hs, e]
theorem nRr_ret (hf : mt.2.2.2.2.2.find? (fun q => q.1 == pc) = some (q, i, a, b, v, pos)) (hr : nj_ret mt.2.2.2.1 i st = some rv) : nRr L xs mt d pc lv st h rv h := by
  refine ⟨1, ?_⟩
  unfold nj_run
  simp only [hf, hr]
theorem nRr_call {d1 : Nat} {mz : nM} (hf : mt.2.2.2.2.2.find? (fun q => q.1 == pc) = some (q, i, a, b, v, pos)) (hi : nj_isinv i = true) (h4 : ¬ v = 4) (h5 : ¬ v = 5) (h6 : ¬ v = 6) (h7 : ¬ v = 7) (hM : nj_M a = some mz) (hp : nj_pass mz i b st h = true) {n1 : Nat} {rv1 : Option Value} {h1 : List nC} (e1 : nj_run nj_M nX0 L xs n1 d1 mz 0 (lv_args 0 (st.take b).reverse) [] h 0 = some (rv1, h1, 0, 0, 0)) (k : nRr L xs mt (d1 + 1) (pc + 3) lv (rv1.toList ++ st.drop b) h1 rv h2) : nRr L xs mt (d1 + 1) pc lv st h rv h2 := by
  obtain ⟨n2, e2⟩ := k
  refine ⟨max n1 n2 + 1, ?_⟩
  unfold nj_run
  have e1' := nj_run_mono (Nat.le_max_left n1 n2) e1
  have e2' := nj_run_mono (Nat.le_max_right n1 n2) e2
  simp only [hf, nj_inv_ret hi]
  have hs : nj_step nj_M nX0 L xs (fun d1 mz lv0 h0 g0 => nj_run nj_M nX0 L xs (max n1 n2) d1 mz 0 lv0 [] h0 g0) (d1 + 1) mt i a b v pc lv st h 0 = some (pc + 3, lv, rv1.toList ++ st.drop b, h1, 0, 0, 0) := by
    unfold nj_step
    rw [nj_inv_pure hi, nj_inv_mem hi, nj_inv_new hi]
    unfold nj_calls
    rw [if_neg (by rw [hi]; decide), if_neg h4, if_neg h5, if_neg h6, if_neg h7]
    unfold nj_inv
    simp only [hM, hp, if_true, e1']
  rw [hs]
  simp only [e2']
end NRR
section LWR
variable {L : Nat} {xs : Nat → Int32}
theorem lw_run {y : MethodName} {cc : ByteArray} {idx k pos : Nat} {mz : nM} (hM : nj_M k = some mz) (hcl : (nj_cl[8]?).map (fun z => z.1) = some mz.1.cls) (h3 : 3 ≤ mz.2.2.1) {n qx qo : Nat} {u w v : Int32} {h h1 h2 : List nC} {fx : List Value} (hx : h[qx]? = some (.inr (8, fx))) (e1 : nj_run nj_M nX0 L xs n 19 mz 0 (lv_args 0 [.ref qx, .int u, .int w]) [] h 0 = some (some (.int v), h1, 0, 0, 0)) (hl : nj_last 9 [.long v.toInt64, .int (Int32.ofInt 0), .ref qo] h1 = some (10, [], h2)) : nRr L xs (nm_lw y cc idx k pos) 20 0 (lv_args 0 [.ref qx, .int u, .int w, .ref qo]) [] h (some (.int (Int32.ofInt 0))) h2 := by
  refine nRr_step (pc1 := 1) (lv1 := lv_args 0 [.ref qx, .int u, .int w, .ref qo]) (st1 := [.ref qo]) (h1 := h) rfl rfl (fun run => rfl) ?_
  refine nRr_step (pc1 := 2) (lv1 := lv_args 0 [.ref qx, .int u, .int w, .ref qo]) (st1 := [.int (Int32.ofInt 0), .ref qo]) (h1 := h) rfl rfl (fun run => rfl) ?_
  refine nRr_step (pc1 := 3) (lv1 := lv_args 0 [.ref qx, .int u, .int w, .ref qo]) (st1 := [.ref qx, .int (Int32.ofInt 0), .ref qo]) (h1 := h) rfl rfl (fun run => rfl) ?_
  refine nRr_step (pc1 := 4) (lv1 := lv_args 0 [.ref qx, .int u, .int w, .ref qo]) (st1 := [.int u, .ref qx, .int (Int32.ofInt 0), .ref qo]) (h1 := h) rfl rfl (fun run => rfl) ?_
  refine nRr_step (pc1 := 5) (lv1 := lv_args 0 [.ref qx, .int u, .int w, .ref qo]) (st1 := [.int w, .int u, .ref qx, .int (Int32.ofInt 0), .ref qo]) (h1 := h) rfl rfl (fun run => rfl) ?_
  refine nRr_call (d1 := 19) (b := 3) (rv1 := some (.int v)) (h1 := h1) (mz := mz) rfl rfl (by decide) (by decide) (by decide) (by decide) hM (pass_v (recv_at hx hcl) (Nat.le_of_ble_eq_true rfl) (Nat.le_of_ble_eq_true rfl) h3) e1 ?_
  refine nRr_step (pc1 := 9) (lv1 := lv_args 0 [.ref qx, .int u, .int w, .ref qo]) (st1 := [.long v.toInt64, .int (Int32.ofInt 0), .ref qo]) (h1 := h1) rfl rfl (fun run => rfl) ?_
  refine nRr_step (pc1 := 10) (lv1 := lv_args 0 [.ref qx, .int u, .int w, .ref qo]) (st1 := []) (h1 := h2) rfl rfl (fun run => ?_) ?_
  · have k0 : nj_pure (lv_args 0 [.ref qx, .int u, .int w, .ref qo]) (nm_lw y cc idx k pos).2.2.1 9 [.long v.toInt64, .int (Int32.ofInt 0), .ref qo] .lastore = none := rfl
    have k1 : nj_mem L xs ((nm_lw y cc idx k pos).1.name == "<init>") 9 0 0 0 [.long v.toInt64, .int (Int32.ofInt 0), .ref qo] h1 .lastore = some (10, [], h2) := hl
    unfold nj_step
    rw [k0]
    simp only
    rw [k1]
  refine nRr_step (pc1 := 17) (lv1 := lv_args 0 [.ref qx, .int u, .int w, .ref qo]) (st1 := []) (h1 := h2) rfl rfl (fun run => rfl) ?_
  refine nRr_step (pc1 := 18) (lv1 := lv_args 0 [.ref qx, .int u, .int w, .ref qo]) (st1 := [.int (Int32.ofInt 0)]) (h1 := h2) rfl rfl (fun run => rfl) ?_
  exact nRr_ret rfl rfl
/-- the law's row of one long is written -/
theorem lw_out {h : List nC} {v : Int32} (I : lwB5 h) : ∃ h2, nj_last 9 [.long v.toInt64, .int (Int32.ofInt 0), .ref 195] h = some (10, [], h2) ∧ lwB5 h2 := by
  have k : aOk fS h [] [195] ([], [68], [], [], []) := ⟨⟨rfl, fun i z r h => nomatch h⟩, tau_1 (show fS[195]? = some 68 by decide), (fun e he => nomatch he), (fun e he => nomatch he), (fun e he => nomatch he)⟩
  obtain ⟨st1, h2, e2, J2, T2, F2, -, s2⟩ := m_last (pc := 9) (mf := []) (ma := [68]) (st := [.long v.toInt64, .int (Int32.ofInt 0), .ref 195]) (ast := [.inr (.inr (.inr (.inr ()))), .inl 0, .inr (.inr (.inl 0))]) (s1 := ([], [68], [], [], [])) (ast1 := []) (nJJ_ok fS) (lwB5_I I).1 (lwB5_I I).2.1 k ⟨⟨_, rfl⟩, rfl, ⟨195, rfl, rfl⟩, trivial⟩ rfl
  have hst : st1 = [] := by
    cases st1 with
    | nil => rfl
    | cons x y => exact s2.elim
  subst hst
  exact ⟨h2, e2, lwB5_fr I J2 T2 F2 (by decide +kernel) (by decide +kernel) (by decide +kernel) (by decide +kernel)⟩
theorem thr_app {zz : nM} {c : nK} {g d : Nat} {S : List Nat} {h : List nC} {q : Nat} {u w : Int32} {X : nX} (hv : nV (nj_Mz zz) X L xs g nFT nAT S (nJJ S) c) (hc : c.1 = 265) (hgd : goodB zz = true) (hd : c.2.1 ≤ d) (hpre : c.2.2.1 = ([(-2147483648, 2147483647), (-2147483648, 2147483647)], [8], [], [], [])) (har : c.2.2.2.1 = [.inr (.inr (.inl 0)), .inr (.inl (0, 0)), .inr (.inl (1, 0))]) (hpo : ∀ po ∈ c.2.2.2.2.2.2, po.2 = some (.inr (.inl (2, 0)))) (hq : S[q]? = some 8) (hJ : nJJ S h) (hT : tOk nFT nAT S h) : nT nj_M X L xs g d zz (fun rv h1 => nJJ S h1 ∧ tOk nFT nAT S h1 ∧ nFr c.2.2.2.2.1 c.2.2.2.2.2.1 S h h1 ∧ ∃ y : Int32, rv = some (.int y)) 0 (lv_args 0 [.ref q, .int u, .int w]) [] h := by
  have b : ∀ u : Int32, -2147483648 ≤ u.toInt ∧ u.toInt ≤ 2147483647 := fun u => ⟨Int32.le_toInt u, by have := Int32.toInt_lt u; omega⟩
  refine nT.mono ?_ ((nT_Mz hgd).mp (hv d hd zz (if_pos hc) h [u.toInt, w.toInt] [q] [.ref q, .int u, .int w] hJ hT (by rw [hpre]; exact ⟨aE2 (b u) (b w), tau_1 hq, (fun e he => nomatch he), (fun e he => nomatch he), (fun e he => nomatch he)⟩) (by rw [har]; exact ⟨⟨q, rfl, rfl⟩, ⟨u.toInt, rfl, by rw [Int.add_zero, Int32.ofInt_toInt]⟩, ⟨w.toInt, rfl, by rw [Int.add_zero, Int32.ofInt_toInt]⟩, trivial⟩)))
  rintro rv h1 ⟨J1, T1, F1, po, hpo1, nu1, mu1, X1, ok1, res1⟩
  refine ⟨J1, T1, F1, ?_⟩
  rw [hpo po hpo1] at res1
  cases rv with
  | none => exact res1.elim
  | some v =>
    obtain ⟨z, hz, e⟩ := (show ∃ z : Int, nu1[2]? = some z ∧ v = .int (Int32.ofInt (z + 0)) from res1)
    exact ⟨_, congrArg some e⟩
def xM (a : Nat) : nM := if a = 0 then nm_154 else nm_155
def xT (a : Nat) : Nat := if a = 0 then 22 else 9
def xL (a : Nat) : nM := if a = 0 then nm_lP else nm_lQ
/-- how a call that may throw comes out -/
def xRes (L : Nat) (xs : Nat → Int32) (a qx : Nat) (u w : Int32) (qo : Nat) (h : List nC) (r : Int32 × List nC × Nat × Nat) : Prop :=
  ((∃ h1, nRr L xs (xL a) 20 0 (lv_args 0 [.ref qx, .int u, .int w, .ref qo]) [] h (some (.int (Int32.ofInt 0))) h1 ∧ r = (Int32.ofInt 0, h1, 0, 0)) ∨
   (∃ n h1 fx, nj_stop nj_M L xs (xT a) [] n 19 (xM a) 0 (lv_args 0 [.ref qx, .int u, .int w]) [] h 0 h1 ∧ h1.length = h.length ∧ h[qx]? = some (.inr (8, fx)) ∧ r = (Int32.ofInt 1, h1, 1, 6))) ∧
  (lwB5 h → lwB5 r.2.1)
noncomputable def lX (L : Nat) (xs : Nat → Int32) : nX := fun a as h => match as with
  | [.ref qx, .int u, .int w, .ref qo] => @dite _ (∃ r, xRes L xs a qx u w qo h r) (Classical.propDecidable _) (fun e => some e.choose) (fun _ => none)
  | _ => none
theorem lX_of {a qx qo : Nat} {u w : Int32} {h : List nC} (e : ∃ r, xRes L xs a qx u w qo h r) : ∃ r, lX L xs a [.ref qx, .int u, .int w, .ref qo] h = some r ∧ xRes L xs a qx u w qo h r := by
  refine ⟨e.choose, ?_, e.choose_spec⟩
  show @dite _ (∃ r, xRes L xs a qx u w qo h r) (Classical.propDecidable _) (fun e => some e.choose) (fun _ => none) = _
  exact dif_pos e
theorem lX_spec {a : Nat} {as : List Value} {h : List nC} {r : Int32 × List nC × Nat × Nat} (hX : lX L xs a as h = some r) : ∃ (qx : Nat) (u w : Int32) (qo : Nat), as = [.ref qx, .int u, .int w, .ref qo] ∧ xRes L xs a qx u w qo h r := by
  unfold lX at hX
  split at hX
  · next qx u w qo =>
    refine ⟨qx, u, w, qo, rfl, ?_⟩
    by_cases e : ∃ r, xRes L xs a qx u w qo h r
    · rw [dif_pos e] at hX
      cases hX
      exact e.choose_spec
    · rw [dif_neg e] at hX
      cases hX
  · cases hX
theorem x_one {mt : nM} {pT a k pos idx : Nat} {y : MethodName} {cc : ByteArray} {c : nK} (eM : xM a = mt) (eT : xT a = pT) (eL : xL a = nm_lw y cc idx k pos) (hM : nj_M k = some mt) (hcl : (nj_cl[8]?).map (fun z => z.1) = some mt.1.cls) (h3 : 3 ≤ mt.2.2.1) (hret : mt.2.2.2.1 = some .int) (hall : mt.2.2.2.2.2.all (vTok pT) = true) (hp : ¬ 0 = pT + 1)
    (hv : nV (nj_Mz (nv mt pT)) nX0 L xs 0 nFT nAT fS (nJJ fS) c) (hc : c.1 = 265) (hgd : goodB (nv mt pT) = true) (hd : c.2.1 ≤ 19) (hpre : c.2.2.1 = ([(-2147483648, 2147483647), (-2147483648, 2147483647)], [8], [], [], [])) (har : c.2.2.2.1 = [.inr (.inr (.inl 0)), .inr (.inl (0, 0)), .inr (.inl (1, 0))]) (hpo : ∀ po ∈ c.2.2.2.2.2.2, po.2 = some (.inr (.inl (2, 0))))
    (n2 : (9, 1002) ∉ c.2.2.2.2.1) (n3 : (9, 1003) ∉ c.2.2.2.2.1) (n4 : (9, 1004) ∉ c.2.2.2.2.1) (n5 : (8, 3) ∉ c.2.2.2.2.1) (n6 : (2, 0) ∉ c.2.2.2.2.1) (h50 : 50 ∉ c.2.2.2.2.2.1) (hz : zB c.2.2.2.2.1 c.2.2.2.2.2.1 = true) (hcc : hcB c.2.2.2.2.1 c.2.2.2.2.2.1 = true) (hyy : fyC c.2.2.2.2.1 = true) (u w : Int32) {h : List nC} (I : lwB5 h) : ∃ r, xRes L xs a 0 u w 195 h r := by
  obtain ⟨n, rv, h1, e, J1, T1, F1, v, rfl⟩ := thr_app (d := 19) (q := 0) (u := u) (w := w) hv hc hgd hd hpre har hpo (by decide) (lwB5_I I).1 (lwB5_I I).2.1
  have I1 : lwB5 h1 := lwB5_fr I J1 T1 F1 h50 hz hcc hyy
  have hlen := nj_run_len nj_M nX0 nX0_len L xs n 19 _ 0 _ [] h 0 _ h1 0 0 0 e
  obtain ⟨fx, hx, -⟩ := (lwB5_I I).2.2.2.1
  rcases nv_run hret hall n 19 0 _ [] h _ h1 0 hp e with k | k
  · obtain ⟨h2, e2, I2⟩ := lw_out (v := v) I1
    exact ⟨(Int32.ofInt 0, h2, 0, 0), Or.inl ⟨h2, by rw [eL]; exact lw_run hM hcl h3 hx k e2, rfl⟩, fun _ => I2⟩
  · exact ⟨(Int32.ofInt 1, h1, 1, 6), Or.inr ⟨n, h1, fx, by rw [eT, eM]; exact k, by simpa using hlen, hx, rfl⟩, fun _ => I1⟩
set_option maxRecDepth 100000 in
theorem x_hX : ∀ a, a < 2 → ∀ (u w : Int32) (h : List nC), lwB5 h → ∃ (r : Int32) (h1 : List nC) (dg ms : Nat), lX L xs a [.ref 0, .int u, .int w, .ref 195] h = some (r, h1, dg, ms) ∧ dg ≤ 1 ∧ ms ≤ 6 ∧ lwB5 h1 := by
  intro a ha u w h I
  have ex : ∃ r, xRes L xs a 0 u w 195 h r := by
    match a, ha with
    | 0, _ => exact x_one (mt := nm_154) (pT := 22) (c := nkP) (y := nm_lP.1) (cc := nm_lP.2.1) (idx := 7) (k := 154) (pos := 1169) rfl rfl rfl rfl rfl (Nat.le_of_ble_eq_true rfl) rfl (by decide +kernel) (by decide) vkP rfl good_vP (by decide) rfl rfl (List.forall_mem_cons.mpr ⟨rfl, (fun _ hx => nomatch hx)⟩) (by decide) (by decide) (by decide) (by decide) (by decide) (by decide +kernel) (by decide +kernel) (by decide +kernel) (by decide +kernel) u w I
    | 1, _ => exact x_one (mt := nm_155) (pT := 9) (c := nkQ) (y := nm_lQ.1) (cc := nm_lQ.2.1) (idx := 15) (k := 155) (pos := 1238) rfl rfl rfl rfl rfl (Nat.le_of_ble_eq_true rfl) rfl (by decide +kernel) (by decide) vkQ rfl good_vQ (by decide) rfl rfl (List.forall_mem_cons.mpr ⟨rfl, (fun _ hx => nomatch hx)⟩) (by decide) (by decide) (by decide) (by decide) (by decide) (by decide +kernel) (by decide +kernel) (by decide +kernel) (by decide +kernel) u w I
    | n + 2, ha => exact absurd ha (by omega)
  obtain ⟨⟨r, h1, dg, ms⟩, e, k, k2⟩ := lX_of ex
  refine ⟨r, h1, dg, ms, e, ?_, ?_, k2 I⟩
  · rcases k with ⟨h2, -, e2⟩ | ⟨n, h2, fx, -, -, -, e2⟩
    · cases e2; exact Nat.zero_le _
    · cases e2; exact Nat.le_refl _
  · rcases k with ⟨h2, -, e2⟩ | ⟨n, h2, fx, -, -, -, e2⟩
    · cases e2; exact Nat.zero_le _
    · cases e2; exact Nat.le_refl _
end LWR
