/-! runs of the law are runs of the machine -/
theorem nj_k4 : ([.codeWith nm_lP.1 method_3_code 5 (some .int) [(0, 10, 13, 13)], .methodLink "SlipHeirsLaw" 41 nm_lP.1, .static nm_lP.1, .initialized "SlipHeirsLaw", .codeWith nm_lQ.1 method_4_code 5 (some .int) [(0, 10, 13, 13)], .methodLink "SlipHeirsLaw" 93 nm_lQ.1, .static nm_lQ.1] : List Cond).all (fun w => decide (w ∈ lw_tbl) && goodWord w) = true := by decide +kernel
section XWW
variable {L : Nat} {xs : Nat → Int32} {base : Nat} {ext : Nat → Option Nat} {cA : Nat → ClassId} {D : va_G} {l : Launch}
theorem x_W1 (hl0 : l.stackTraces = false) {y : MethodName} {cc : ByteArray} {idx k pos il pT : Nat} {mz : nM} (hy : plainName y.cls = true) (hyc : y.cls = "SlipHeirsLaw") (hni : (y.name == "<init>") = false) (hok : nj_okE nj_M (nm_lw y cc idx k pos)) (hMz : nj_M k = some mz) (hcl : mz.1.cls = RX8) (h3 : 3 ≤ mz.2.2.1) (d0 : decode mz.2.1 pT = .ok (.new 137, 3)) (d3 : decode mz.2.1 (pT + 3) = .ok (.dup, 1)) (d4 : decode mz.2.1 (pT + 4) = .ok (.invokespecial 139, 3)) (d7 : decode mz.2.1 (pT + 7) = .ok (.athrow, 1)) (e13 : decode cc 13 = .ok (.astore 4, 2)) (e15 : decode cc 15 = .ok (.iconst 1, 1)) (e16 : decode cc 16 = .ok (.ireturn, 1))
    (hcw : Cond.codeWith y cc 5 (some .int) [(0, 10, 13, 13)] ∈ nj_T) (hlk : Cond.methodLink "SlipHeirsLaw" il y ∈ nj_T) (hstc : Cond.static y ∈ nj_T) (hini : Cond.initialized y.cls ∈ nj_T) (hyd : y.cls ≠ "java/lang/invoke/MethodHandle" ∧ y.cls ≠ "java/lang/invoke/VarHandle" ∧ (parseMethodDescriptor y.desc).map (fun d => d.parameters.length) = some 4)
    {qx qo : Nat} {u w : Int32} {h : List nC} {r : Int32} {h1 : List nC} {dg ms : Nat} (hres : (∃ h2, nRr L xs (nm_lw y cc idx k pos) 20 0 (lv_args 0 [.ref qx, .int u, .int w, .ref qo]) [] h (some (.int (Int32.ofInt 0))) h2 ∧ (r, h1, dg, ms) = (Int32.ofInt 0, h2, 0, 0)) ∨ (∃ n h2 fx, nj_stop nj_M L xs pT [] n 19 mz 0 (lv_args 0 [.ref qx, .int u, .int w]) [] h 0 h2 ∧ h2.length = h.length ∧ h[qx]? = some (.inr (8, fx)) ∧ (r, h1, dg, ms) = (Int32.ofInt 1, h2, 1, 6)))
    {p : Program} {e : Env} {R : Room} {s : State} {m : MethodId} {args : Array Value} {below : List Frame} {meth : Method} {c : Code} {H : Heap} {locs : List Loc} {cells slots : Nat} {Q : State → Prop} {ls : Array Slot} {st : List Value} {g pc : Nat} (hCx : nj_Cx base ext cA D L xs nm_265 p s m args meth c) (hT : nj_Thr base s) (hls : ls.size = 7) (hst : nj_St base ext cA D s h g H locs cells) (has : (st.take 4).reverse = [.ref qx, .int u, .int w, .ref qo]) (hsum : nj_sum (st.drop 4) ≤ 8) (hd : decode nm_265.2.1 pc = .ok (.invokestatic il, 3)) (hR1 : 22 ≤ R.frames) (hR2 : 64 * 22 ≤ R.locals) (hR3 : cells + dg ≤ R.cells) (hR4 : slots + ms ≤ R.slots)
    (kk : ∀ (H1 : Heap) (locs1 : List Loc), nj_St base ext cA D s h1 (g + dg) H1 locs1 (cells + dg) → W p l e R s m args below meth c H1 locs1 (cells + dg) (slots + ms) Q (F0 m (pc + 3) ls ((.int r :: st.drop 4).map (nj_rl base ext)))) : W p l e R s m args below meth c H locs cells slots Q (F0 m pc ls (st.map (nj_rl base ext))) := by
  obtain ⟨hx, hb, hml, hts, hown, hK, hE, -⟩ := hCx
  have hsum' : (((st.drop 4).map (nj_rl base ext)).map fun v => v.category).sum ≤ 8 := by rw [nj_sum_rl]; exact hsum
  have hstk : st.map (nj_rl base ext) = ([.ref qx, .int u, .int w, .ref qo].map (nj_rl base ext)).reverse ++ (st.drop 4).map (nj_rl base ext) := by
    rw [← has, List.map_reverse, List.reverse_reverse, ← List.map_append, List.take_append_drop]
  have hG : GoodIn nj_T (va_wsS "SlipHeirsLaw" il y (lw_ws y cc)) := nj_T_good (fun w hw => by
    simp only [va_wsS, lw_ws, List.mem_append, List.mem_cons, List.not_mem_nil, or_false] at hw
    rcases hw with (rfl | rfl | rfl) | (rfl | hw)
    · exact hlk
    · exact hstc
    · exact hini
    · exact hcw
    · exact hw)
  rcases hres with ⟨h2, hr, e1⟩ | ⟨n, h2, fx, hsp, hlen, hqx, e1⟩
  · cases e1
    have hmet := lw_returns (l := l) (base := base) (ext := ext) (cA := cA) (D := D) (g := g) hy hni hok (Nat.le_of_ble_eq_true rfl) hr
    obtain ⟨n, hr2⟩ := hr
    have hlen := nj_run_len nj_M nX0 nX0_len L xs n 20 _ 0 _ [] h 0 _ h1 0 0 0 hr2
    exact nj_goon (vx_runSW (As := [.ref qx, .int u, .int w, .ref qo].map (nj_rl base ext)) (rest := (st.drop 4).map (nj_rl base ext)) ⟨hx, hb, hml, hown, hts⟩ hmet (vx_cwSW 4 hts hG rfl rfl rfl hyd ⟨hR1, show 8 + (5 + 11) + 64 * (20 + 1) ≤ R.locals by omega⟩) ⟨nj_blind2, fun U hU hW => ⟨rfl, nj_pre2 (p := p) hK hE hT hst U hU hW⟩⟩ rfl rfl hls hstk (lv_room hsum') hd ⟨hR3, hR4⟩) hst (by omega) kk
  · cases e1
    have hmet := lw_throws (l := l) (base := base) (ext := ext) (cA := cA) (D := D) (qo := qo) hl0 hy hyc hni hok hMz (nj_hM k mz hMz) hcl h3 hlen hqx (nj_stop_g _ _ _ _ _ _ _ _ hsp g) d0 d3 d4 d7 e13 e15 e16
    exact nj_goon (vx_runSW (As := [.ref qx, .int u, .int w, .ref qo].map (nj_rl base ext)) (rest := (st.drop 4).map (nj_rl base ext)) ⟨hx, hb, hml, hown, hts⟩ hmet (vx_cwSW 4 hts hG rfl rfl rfl hyd ⟨hR1, show 8 + (5 + 11) + 64 * (20 + 1) ≤ R.locals by omega⟩) ⟨nj_blind2, fun U hU hW => ⟨rfl, nj_pre2 (p := p) hK hE hT hst U hU hW⟩⟩ rfl rfl hls hstk (lv_room hsum') hd ⟨hR3, hR4⟩) hst (by omega) kk
set_option maxRecDepth 100000 in
theorem x_W (hl0 : l.stackTraces = false) {a il : Nat} (ha : (a = 0 ∧ il = 41) ∨ (a = 1 ∧ il = 93)) {h : List nC} {r : Int32} {h1 : List nC} {dg ms : Nat} {st : List Value} (hX : lX L xs a (st.take 4).reverse h = some (r, h1, dg, ms))
    {p : Program} {e : Env} {R : Room} {s : State} {m : MethodId} {args : Array Value} {below : List Frame} {meth : Method} {c : Code} {H : Heap} {locs : List Loc} {cells slots : Nat} {Q : State → Prop} {ls : Array Slot} {g pc : Nat} (hCx : nj_Cx base ext cA D L xs nm_265 p s m args meth c) (hT : nj_Thr base s) (hls : ls.size = 7) (hst : nj_St base ext cA D s h g H locs cells) (hsum : nj_sum (st.drop 4) ≤ 8) (hd : decode nm_265.2.1 pc = .ok (.invokestatic il, 3)) (hR1 : 22 ≤ R.frames) (hR2 : 64 * 22 ≤ R.locals) (hR3 : cells + dg ≤ R.cells) (hR4 : slots + ms ≤ R.slots)
    (kk : ∀ (H1 : Heap) (locs1 : List Loc), nj_St base ext cA D s h1 (g + dg) H1 locs1 (cells + dg) → W p l e R s m args below meth c H1 locs1 (cells + dg) (slots + ms) Q (F0 m (pc + 3) ls ((.int r :: st.drop 4).map (nj_rl base ext)))) : W p l e R s m args below meth c H locs cells slots Q (F0 m pc ls (st.map (nj_rl base ext))) := by
  obtain ⟨qx, u, w, qo, has, hres, -⟩ := lX_spec hX
  rcases ha with ⟨rfl, rfl⟩ | ⟨rfl, rfl⟩
  · exact x_W1 (y := nm_lP.1) (cc := method_3_code) (idx := 7) (k := 154) (pos := 1169) (pT := 22) (mz := nm_154) hl0 (by decide) rfl (by decide) (fun q hq => List.all_eq_true.mp ne_lP q hq) rfl rfl (Nat.le_of_ble_eq_true rfl) (by decide +kernel) (by decide +kernel) (by decide +kernel) (by decide +kernel) (by decide +kernel) (by decide +kernel) (by decide +kernel) (nj_in_of nj_k4 _ (by simp)) (nj_in_of nj_k4 _ (by simp)) (nj_in_of nj_k4 _ (by simp)) (nj_in_of nj_k4 (.initialized "SlipHeirsLaw") (by simp)) ⟨by decide, by decide, by decide +kernel⟩ hres hCx hT hls hst has hsum hd hR1 hR2 hR3 hR4 kk
  · exact x_W1 (y := nm_lQ.1) (cc := method_4_code) (idx := 15) (k := 155) (pos := 1238) (pT := 9) (mz := nm_155) hl0 (by decide) rfl (by decide) (fun q hq => List.all_eq_true.mp ne_lQ q hq) rfl rfl (Nat.le_of_ble_eq_true rfl) (by decide +kernel) (by decide +kernel) (by decide +kernel) (by decide +kernel) (by decide +kernel) (by decide +kernel) (by decide +kernel) (nj_in_of nj_k4 _ (by simp)) (nj_in_of nj_k4 _ (by simp)) (nj_in_of nj_k4 _ (by simp)) (nj_in_of nj_k4 (.initialized "SlipHeirsLaw") (by simp)) ⟨by decide, by decide, by decide +kernel⟩ hres hCx hT hls hst has hsum hd hR1 hR2 hR3 hR4 kk
theorem law_sim (hl0 : l.stackTraces = false) : ∀ (n d pc : Nat) (lv : nLv) (st : List Value) (h : List nC) (g : Nat) (rv : Option Value) (h1 : List nC) (g1 mc ms : Nat), 21 ≤ d → nj_run nj_M (lX L xs) L xs n d nm_265 pc lv st h g = some (rv, h1, g1, mc, ms) →
  ∀ (p : Program) (e : Env) (R : Room) (s : State) (m : MethodId) (args : Array Value) (below : List Frame) (meth : Method) (c : Code) (H : Heap) (locs : List Loc) (cells slots : Nat) (Q : State → Prop) (ls : Array Slot),
  nj_Cx base ext cA D L xs nm_265 p s m args meth c → nj_Thr base s → lv_has ls nm_265.2.2.1 (nj_rlv base ext lv) → nj_St base ext cA D s h g H locs cells → d + 1 ≤ R.frames → 64 * (d + 1) ≤ R.locals → cells + mc ≤ R.cells → slots + ms ≤ R.slots →
  (∀ (H1 : Heap) (locs1 : List Loc) (pc1 : Nat) (ls1 : Array Slot) (i : Instr) (st1 : List Value), nj_St base ext cA D s h1 g1 H1 locs1 (cells + mc) → decode nm_265.2.1 pc1 = .ok (i, 1) → nj_ret nm_265.2.2.2.1 i st1 = some rv → W p l e R s m args below meth c H1 locs1 (cells + mc) (slots + ms) Q (F0 m pc1 ls1 (st1.map (nj_rl base ext)))) →
  W p l e R s m args below meth c H locs cells slots Q (F0 m pc ls (st.map (nj_rl base ext))) := by
  intro n
  induction n with
  | zero => intro d pc lv st h g rv h1 g1 mc ms _ hr; cases hr
  | succ n ih =>
    intro d pc lv st h g rv h1 g1 mc ms hd21 hr p e R s m args below meth c H locs cells slots Q ls hCx hT hl hst hR1 hR2 hR3 hR4 kret
    unfold nj_run at hr
    cases hf : nm_265.2.2.2.2.2.find? (fun q => q.1 == pc) with
    | none => rw [hf] at hr; cases hr
    | some en =>
      obtain ⟨q, i, a, b, v, pos⟩ := en
      rw [hf] at hr
      simp only at hr
      have hmem := List.mem_of_find?_eq_some hf
      have hpc : q = pc := by
        have := List.find?_some hf
        simpa using this
      subst hpc
      have hoke := nc_265 _ hmem
      cases hret : nj_ret nm_265.2.2.2.1 i st with
      | some rv0 =>
        rw [hret] at hr
        simp only at hr
        cases hr
        refine kret H locs q ls i st (by simpa using hst) ?_ hret
        simp only [nj_oke, Bool.and_eq_true, decide_eq_true_eq] at hoke
        have hd := hoke.1
        have : nj_len i b = 1 := by
          cases i <;> first | rfl | (exact nomatch (show (none : Option (Option Value)) = some rv from hret))
        rw [this] at hd
        exact hd
      | none =>
        rw [hret] at hr
        simp only at hr
        cases hs : nj_step nj_M (lX L xs) L xs (fun d1 mz lv0 h0 g0 => nj_run nj_M (lX L xs) L xs n d1 mz 0 lv0 [] h0 g0) d nm_265 i a b v q lv st h g with
        | none => rw [hs] at hr; cases hr
        | some res =>
          obtain ⟨pc1, lv1, st1, h2, g2, mc1, ms1⟩ := res
          rw [hs] at hr
          simp only at hr
          cases hr2 : nj_run nj_M (lX L xs) L xs n d nm_265 pc1 lv1 st1 h2 g2 with
          | none => rw [hr2] at hr; cases hr
          | some res2 =>
            obtain ⟨rv3, h3, g3, mc2, ms2⟩ := res2
            rw [hr2] at hr
            simp only [Option.some.injEq, Prod.mk.injEq] at hr
            obtain ⟨e1, e2, e3, e4, e5⟩ := hr
            subst e1; subst e2; subst e3; subst e4; subst e5
            have go : ∀ (H1 : Heap) (locs1 : List Loc) (ls1 : Array Slot), lv_has ls1 nm_265.2.2.1 (nj_rlv base ext lv1) → nj_St base ext cA D s h2 g2 H1 locs1 (cells + mc1) → W p l e R s m args below meth c H1 locs1 (cells + mc1) (slots + ms1) Q (F0 m pc1 ls1 (st1.map (nj_rl base ext))) := by
              intro H1 locs1 ls1 hl1 hst1
              refine ih d pc1 lv1 st1 h2 g2 rv3 h3 g3 mc2 ms2 hd21 hr2 p e R s m args below meth c H1 locs1 (cells + mc1) (slots + ms1) Q ls1 hCx hT hl1 hst1 hR1 hR2 (by omega) (by omega) ?_
              intro H2 locs2 pc2 ls2 i2 st2 a1 a2 a3
              rw [Nat.add_assoc] at a1 ⊢
              rw [Nat.add_assoc]
              exact kret H2 locs2 pc2 ls2 i2 st2 a1 a2 a3
            by_cases hv : v = 6
            · subst hv
              have k := List.all_eq_true.mp x6_265 _ hmem
              simp only [Bool.or_eq_true, decide_eq_true_eq] at k
              have key : ∃ il, i = .invokestatic il ∧ b = 4 ∧ ((a = 0 ∧ il = 41) ∨ (a = 1 ∧ il = 93)) := by
                rcases k with k | k | k
                · simp at k
                · cases k; exact ⟨41, rfl, rfl, Or.inl ⟨rfl, rfl⟩⟩
                · cases k; exact ⟨93, rfl, rfl, Or.inr ⟨rfl, rfl⟩⟩
              obtain ⟨il, rfl, rfl, hail⟩ := key
              have hs2 : (if 4 ≤ st.length ∧ nj_sum (st.drop 4) ≤ 8 then (match lX L xs a (st.take 4).reverse h with
                | some (r, h1, dg, ms) => some (q + 3, lv, .int r :: st.drop 4, h1, g + dg, dg, ms)
                | none => none) else none) = some (pc1, lv1, st1, h2, g2, mc1, ms1) := hs
              split at hs2
              · next hc =>
                cases hXr : lX L xs a (st.take 4).reverse h with
                | none => rw [hXr] at hs2; cases hs2
                | some xr =>
                  obtain ⟨r, hx1, dg, xms⟩ := xr
                  rw [hXr] at hs2
                  simp only [Option.some.injEq, Prod.mk.injEq] at hs2
                  obtain ⟨f1, f2, f3, f4, f5, f6, f7⟩ := hs2
                  subst f1; subst f2; subst f3; subst f4; subst f5; subst f6; subst f7
                  have hdec : decode nm_265.2.1 q = .ok (.invokestatic il, 3) := by
                    simp only [nj_oke, Bool.and_eq_true, decide_eq_true_eq] at hoke
                    exact hoke.1
                  exact x_W hl0 hail hXr hCx hT hl.1 hst hc.2 hdec (by omega) (by omega) (by omega) (by omega) (fun H1 locs1 hst1 => go H1 locs1 ls hl hst1)
              · cases hs2
            · rw [nj_step_X (run := fun d1 mz lv0 h0 g0 => nj_run nj_M nX0 L xs n d1 mz 0 lv0 [] h0 g0) (fun d1 mz lv0 h0 g0 hz => nj_run_X n d1 mz 0 lv0 [] h0 g0 hz) hv] at hs
              exact nj_sim_step nj_hM nX0_ok nX0_len (nj_sim0 n) hCx hl hst hoke hs hR1 hR2 (by omega) (by omega) go
end XWW
