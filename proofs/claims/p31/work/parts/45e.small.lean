/-! the law in the small machine, from its first instruction to its end -/
def nW (X : nX) (L : Nat) (xs : Nat → Int32) (d pc : Nat) (lv : nLv) (st : List Value) (h : List nC) (g a b : Nat) : Prop := ∃ (n : Nat) (h1 : List nC) (g1 mc ms : Nat), nj_run nj_M X L xs n d nm_265 pc lv st h g = some (some (.int (Int32.ofInt 1)), h1, g1, mc, ms) ∧ mc ≤ a ∧ ms ≤ b
section SML
variable {X : nX} {L : Nat} {xs : Nat → Int32} {d pc g : Nat} {lv : nLv} {st : List Value} {h : List nC} {i : Instr} {q a b pos : Nat} {v : Int}
theorem nW_step (hf : nm_265.2.2.2.2.2.find? (fun q => q.1 == pc) = some (q, i, a, b, v, pos)) (hr : nj_ret nm_265.2.2.2.1 i st = none) {pc1 : Nat} {lv1 : nLv} {st1 : List Value} {h1 : List nC} {g1 m z A B : Nat} (hs : ∀ run, nj_step nj_M X L xs run d nm_265 i a b v pc lv st h g = some (pc1, lv1, st1, h1, g1, m, z)) (k : nW X L xs d pc1 lv1 st1 h1 g1 A B) : nW X L xs d pc lv st h g (m + A) (z + B) := by
  obtain ⟨n, h2, g2, mc, ms, e1, e2⟩ := k
  refine ⟨n + 1, h2, g2, m + mc, z + ms, ?_, by omega, by omega⟩
  unfold nj_run
  simp only [hf, hr, hs, e1]
theorem nW_pure (hf : nm_265.2.2.2.2.2.find? (fun q => q.1 == pc) = some (q, i, a, b, v, pos)) (hr : nj_ret nm_265.2.2.2.1 i st = none) {pc1 : Nat} {lv1 : nLv} {st1 : List Value} {A B : Nat} (hs : nj_pure lv nm_265.2.2.1 pc st i = some (pc1, lv1, st1)) (k : nW X L xs d pc1 lv1 st1 h g A B) : nW X L xs d pc lv st h g A B := by
  have := nW_step (m := 0) (z := 0) (d := d) (h := h) (g := g) hf hr (fun run => by unfold nj_step; rw [hs]) k
  rw [Nat.zero_add, Nat.zero_add] at this
  exact this
theorem nW_call {d1 : Nat} {mz : nM} (hf : nm_265.2.2.2.2.2.find? (fun q => q.1 == pc) = some (q, i, a, b, v, pos)) (hi : nj_isinv i = true) (h4 : ¬ v = 4) (h5 : ¬ v = 5) (h6 : ¬ v = 6) (h7 : ¬ v = 7) (hM : nj_M a = some mz) (hp : nj_pass mz i b st h = true) {n1 : Nat} {rv1 : Option Value} {h1 : List nC} {g1 m z A B : Nat} (e1 : nj_run nj_M X L xs n1 d1 mz 0 (lv_args 0 (st.take b).reverse) [] h g = some (rv1, h1, g1, m, z)) (k : nW X L xs (d1 + 1) (pc + 3) lv (rv1.toList ++ st.drop b) h1 g1 A B) : nW X L xs (d1 + 1) pc lv st h g (m + A) (z + B) := by
  obtain ⟨n2, h2, g2, mc, ms, e2, e3⟩ := k
  refine ⟨max n1 n2 + 1, h2, g2, m + mc, z + ms, ?_, by omega, by omega⟩
  unfold nj_run
  have e1' := nj_run_mono (Nat.le_max_left n1 n2) e1
  have e2' := nj_run_mono (Nat.le_max_right n1 n2) e2
  simp only [hf, nj_inv_ret hi]
  have hs : nj_step nj_M X L xs (fun d1 mz lv0 h0 g0 => nj_run nj_M X L xs (max n1 n2) d1 mz 0 lv0 [] h0 g0) (d1 + 1) nm_265 i a b v pc lv st h g = some (pc + 3, lv, rv1.toList ++ st.drop b, h1, g1, m, z) := by
    unfold nj_step
    rw [nj_inv_pure hi, nj_inv_mem hi, nj_inv_new hi]
    unfold nj_calls
    rw [if_neg (by rw [hi]; decide), if_neg h4, if_neg h5, if_neg h6, if_neg h7]
    unfold nj_inv
    simp only [hM, hp, if_true, e1']
  rw [hs]
  simp only [e2']
theorem f_ex : ∃ h1 h2 mc1 ms1 mc2 ms2, nj_lS 4000 8 nm_0 0 (lv_args 0 [.ref 0]) [] [fNew 8 17] 0 0 0 = some (none, h1, 0, mc1, ms1) ∧ nj_lS 4000 8 nm_159 0 (lv_args 0 [.ref 175]) [] (h1 ++ [fNew 9 48]) 0 0 0 = some (none, h2, 0, mc2, ms2) ∧ h1.length = 175 ∧ h2.length = 195 ∧ mc1 + mc2 = 193 ∧ ms1 + ms2 ≤ 8882 ∧ lwB5 (h2 ++ [fArr]) := by
  obtain ⟨h1, h2, mc1, ms1, mc2, ms2, e, k1⟩ := f_get f_run
  have k2 := f_inW e
  simp only [Bool.and_eq_true, decide_eq_true_eq] at k1
  refine ⟨h1, h2, mc1, ms1, mc2, ms2, ?_⟩
  unfold fRun at e
  split at e
  · next h1c mc1c ms1c e1 =>
    split at e
    · next h2c mc2c ms2c e2 =>
      cases e
      exact ⟨e1, e2, k1.1, k1.2.1, k1.2.2.1, k1.2.2.2, k2⟩
    · cases e
  · cases e
end SML
set_option maxRecDepth 100000 in
theorem law_small {X : nX} {L : Nat} {xs : Nat → Int32} {C : Nat × Nat} {d1 : Nat} (hd : 30 ≤ d1) (hX : ∀ a, a < 2 → ∀ (u w : Int32) (h : List nC), lwB5 h → ∃ (r : Int32) (h1 : List nC) (dg ms : Nat), X a [.ref 0, .int u, .int w, .ref 195] h = some (r, h1, dg, ms) ∧ dg ≤ C.1 ∧ ms ≤ C.2 ∧ lwB5 h1) (hL : L ≤ 3072) : nW X L xs (d1 + 1) 0 (lv_args 0 [.retAddr 0]) [] [] 0 (196 + C.1 * 512) (8948 + C.2 * 512) := by
  obtain ⟨h1, h2, mc1, ms1, mc2, ms2, r1, r2, l1, l2, m1, m2, I⟩ := f_ex
  obtain ⟨a1, b1, r1, p1, p2⟩ := lS_run (X := X) (L := L) (xs := xs) _ _ _ _ _ _ _ _ _ _ _ _ _ _ _ r1
  obtain ⟨a2, b2, r2, p3, p4⟩ := lS_run (X := X) (L := L) (xs := xs) _ _ _ _ _ _ _ _ _ _ _ _ _ _ _ r2
  have r1 := nj_run_dmono _ 8 d1 _ _ _ _ _ _ _ (by omega) r1
  have r2 := nj_run_dmono _ 8 d1 _ _ _ _ _ _ _ (by omega) r2
  have fin : nW X L xs (d1 + 1) 23 [(4, .int (Int32.ofInt 0)), (3, .ref 195), (2, .ref 175), (1, .ref 0), (0, .retAddr 0)] [] (h2 ++ [fArr]) 0 (C.1 * 512) (C.2 * 512) := law_loop hd hX hL (by decide) (by decide) (by decide) (by decide) (by decide) 512 0 _ _ 0 (by decide) (by omega) (by omega) ⟨rfl, rfl, rfl, rfl, rfl⟩ I
  have s7 : nW X L xs (d1 + 1) 15 [(1, .ref 0), (0, .retAddr 0)] [.ref 175] h2 0 (1 + C.1 * 512) (1 + C.2 * 512) := by
    refine nW_pure (pc1 := 16) (lv1 := [(2, .ref 175), (1, .ref 0), (0, .retAddr 0)]) (st1 := []) rfl rfl rfl ?_
    refine nW_pure (pc1 := 17) (lv1 := [(2, .ref 175), (1, .ref 0), (0, .retAddr 0)]) (st1 := [.int (Int32.ofInt 1)]) rfl rfl rfl ?_
    refine nW_step (pc1 := 19) (lv1 := [(2, .ref 175), (1, .ref 0), (0, .retAddr 0)]) (st1 := [.ref h2.length]) (h1 := h2 ++ [fArr]) (g1 := 0) rfl rfl (fun run => rfl) ?_
    rw [l2]
    refine nW_pure (pc1 := 20) (lv1 := [(3, .ref 195), (2, .ref 175), (1, .ref 0), (0, .retAddr 0)]) (st1 := []) rfl rfl rfl ?_
    refine nW_pure (pc1 := 21) (lv1 := [(3, .ref 195), (2, .ref 175), (1, .ref 0), (0, .retAddr 0)]) (st1 := [.int (Int32.ofInt 0)]) rfl rfl rfl ?_
    exact nW_pure (pc1 := 23) (lv1 := [(4, .int (Int32.ofInt 0)), (3, .ref 195), (2, .ref 175), (1, .ref 0), (0, .retAddr 0)]) (st1 := []) rfl rfl rfl fin
  have s4 : nW X L xs (d1 + 1) 7 [(0, .retAddr 0)] [.ref 0] h1 0 (1 + (a2 + (1 + C.1 * 512))) (48 + (b2 + (1 + C.2 * 512))) := by
    refine nW_pure (pc1 := 8) (lv1 := [(1, .ref 0), (0, .retAddr 0)]) (st1 := []) rfl rfl rfl ?_
    refine nW_step (pc1 := 11) (lv1 := [(1, .ref 0), (0, .retAddr 0)]) (st1 := [.ref h1.length]) (h1 := h1 ++ [fNew 9 48]) (g1 := 0) rfl rfl (fun run => rfl) ?_
    rw [l1]
    refine nW_pure (pc1 := 12) (lv1 := [(1, .ref 0), (0, .retAddr 0)]) (st1 := [.ref 175, .ref 175]) rfl rfl rfl ?_
    refine nW_call (b := 1) (rv1 := none) (mz := nm_159) rfl rfl (by decide) (by decide) (by decide) (by decide) rfl rfl r2 ?_
    exact s7
  have s0 : nW X L xs (d1 + 1) 0 (lv_args 0 [.retAddr 0]) [] [] 0 (1 + (a1 + (1 + (a2 + (1 + C.1 * 512))))) (17 + (b1 + (48 + (b2 + (1 + C.2 * 512))))) := by
    refine nW_step (pc1 := 3) (lv1 := [(0, .retAddr 0)]) (st1 := [.ref 0]) (h1 := [fNew 8 17]) (g1 := 0) rfl rfl (fun run => rfl) ?_
    refine nW_pure (pc1 := 4) (lv1 := [(0, .retAddr 0)]) (st1 := [.ref 0, .ref 0]) rfl rfl rfl ?_
    refine nW_call (b := 1) (rv1 := none) (mz := nm_0) rfl rfl (by decide) (by decide) (by decide) (by decide) rfl rfl r1 ?_
    exact s4
  obtain ⟨n, h3, g3, mc, ms, e1, e2, e3⟩ := s0
  exact ⟨n, h3, g3, mc, ms, e1, by omega, by omega⟩
