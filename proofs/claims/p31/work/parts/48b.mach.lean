/-! the law's two calls that may throw, in the machine -/
def nE9 : String := "java/util/NoSuchElementException"
def nE8 : List String := ["java/lang/RuntimeException", "java/lang/Exception"]
def nj_tw : List Cond := [.declares ⟨"java/lang/RuntimeException", "<init>", "()V"⟩, .declares ⟨"java/lang/Exception", "<init>", "()V"⟩, .declares ⟨"java/lang/Throwable", "<init>", "()V"⟩, .castable nE9 nE9]
def nj_Thr (base : Nat) (s : State) : Prop := (∀ w ∈ nj_tw, va_Nw w s) ∧ vx_Zq Bundle.tN "UNASSIGNED_STACK" Bundle.steD (nj_A base) s s.heap ∧ vx_Zq Bundle.tN "SUPPRESSED_SENTINEL" Bundle.listD (nj_A base) s s.heap
theorem nj_tw_warm {s U : State} (hW : s.WarmedH U.vm) (h : ∀ w ∈ nj_tw, va_Nw w s) : ∀ w ∈ nj_tw, va_Nw w U := by
  intro w hw
  simp only [nj_tw, List.mem_cons, List.not_mem_nil, or_false] at hw
  rcases hw with rfl | rfl | rfl | rfl
  · exact va_Nw.warmD hW (h _ (by simp [nj_tw]))
  · exact va_Nw.warmD hW (h _ (by simp [nj_tw]))
  · exact va_Nw.warmD hW (h _ (by simp [nj_tw]))
  · exact va_Nw.warmC hW (h _ (by simp [nj_tw]))
theorem nj_tw_on : ∀ w ∈ nj_tw, w.onTables = true := by
  intro w hw
  simp only [nj_tw, List.mem_cons, List.not_mem_nil, or_false] at hw
  rcases hw with rfl | rfl | rfl | rfl <;> rfl
theorem nj_Thr.warm {base : Nat} {s U : State} (hW : s.WarmedH U.vm) (hq : ∀ q : Nat, q < s.heap.size → ¬ nj_A base q → U.heap[q]? = s.heap[q]?) (h : nj_Thr base s) : nj_Thr base U := ⟨nj_tw_warm hW h.1, vx_Zq.moved hW.alike (h.2.1.kept hq), vx_Zq.moved hW.alike (h.2.2.kept hq)⟩
theorem nj_Thr.same {base : Nat} {s U : State} (hv : U.vm = s.vm) (hh : U.heap = s.heap) (h : nj_Thr base s) : nj_Thr base U := by
  have hvm : s.vm.Alike U.vm := by rw [hv]; exact Vm.Alike.refl _
  unfold nj_Thr
  rw [hh]
  exact ⟨fun w hw => va_Nw.same (nj_tw_on w hw) hv.symm (h.1 w hw), vx_Zq.moved hvm h.2.1, vx_Zq.moved hvm h.2.2⟩
def nj_Pre2 (base : Nat) (ext : Nat → Option Nat) (cA : Nat → ClassId) (D : va_G) (L : Nat) (xs : Nat → Int32) (h : List nC) (g : Nat) (U : State) : Prop := nj_Pre base ext cA D L xs h g U ∧ nj_Thr base U
theorem nj_blind2 {base : Nat} {ext : Nat → Option Nat} {cA : Nat → ClassId} {D : va_G} {L : Nat} {xs : Nat → Int32} {h : List nC} {gg : Nat} {as : List Value} : FrameBlind (va_Pc as (nj_Pre2 base ext cA D L xs h gg)) := by
  intro a U g mz q
  obtain ⟨q0, ⟨qP, qK, qE, qz⟩, qT⟩ := q
  exact ⟨q0, ⟨qP, va_K.moved (u := U) (U := U.calling g mz a) (Vm.Alike.refl U.vm) qK, nj_Env.same (s := U) (U := U.calling g mz a) rfl rfl qE, qz⟩, nj_Thr.same (s := U) (U := U.calling g mz a) rfl rfl qT⟩
/-- how it throws: the class, the world behind it, the one new cell -/
def nj_XC (base : Nat) (ext : Nat → Option Nat) (cA : Nat → ClassId) (D : va_G) (h : List nC) (g : Nat) : String → State → State → Prop := fun E st t => E = nE9 ∧ va_P D nj_cl (nj_ws base ext cA h) t.heap ∧ t.heap.size = base + h.length + g ∧ va_F (nj_A base) st t
theorem nj_at0 : (vx_at0 RX8 139 nE9 nE8).all (fun w => (decide (w ∈ lw_tbl) && goodWord w) || decide (w ∈ nj_tw)) = true := by decide +kernel
theorem nj_gd0 : (Cond.classLink RX8 137 nE9 :: Cond.initialized nE9 :: vx_at0 RX8 139 nE9 nE8).all vx_ot = true := by decide +kernel
theorem nj_k3 : ([.classLink RX8 137 nE9, .initialized nE9, .classLink "SlipHeirsLaw" 13 nE9, .initialized "SlipHeirsLaw"] : List Cond).all (fun w => decide (w ∈ lw_tbl) && goodWord w) = true := by decide +kernel
section THM
variable {L : Nat} {xs : Nat → Int32} {base : Nat} {ext : Nat → Option Nat} {cA : Nat → ClassId} {D : va_G} {l : Launch}
theorem nj_pre2 {p : Program} {s : State} {h : List nC} {gg : Nat} {H : Heap} {locs : List Loc} {cells : Nat} (hK : va_K D nj_cl (nj_tys cA) s) (hE : nj_Env base ext L xs s) (hT : nj_Thr base s) (hst : nj_St base ext cA D s h gg H locs cells) : ∀ U : State, U.heap = H → s.WarmedH U.vm → nj_Pre2 base ext cA D L xs h gg U := fun U hU hW => ⟨nj_pre hK hE hst U hU hW, hT.warm hW (fun q h1 h2 => by rw [hU]; exact hst.2.1.2.1 q h1 h2)⟩
theorem thr_met (hl0 : l.stackTraces = false) {mt : nM} {pT n g : Nat} {as : List Value} {h h1 : List nC} (hok : nj_okM nj_M mt) (hcl : mt.1.cls = RX8) (hsl : (lg_sl as).length ≤ mt.2.2.1) (hsp : nj_stop nj_M L xs pT [] n 19 mt 0 (lv_args 0 as) [] h g h1) (d0 : decode mt.2.1 pT = .ok (.new 137, 3)) (d3 : decode mt.2.1 (pT + 3) = .ok (.dup, 1)) (d4 : decode mt.2.1 (pT + 4) = .ok (.invokespecial 139, 3)) (d7 : decode mt.2.1 (pT + 7) = .ok (.athrow, 1)) :
    vx_Met l mt.1 (nj_wsm mt) (nj_rm 19 1 6) (va_Pc (as.map (nj_rl base ext)) (nj_Pre2 base ext cA D L xs h g)) (fun _ _ _ _ => False) (nj_XC base ext cA D h1 (g + 1)) 1 6 (nj_A base) := by
  refine vx_ofW (cc := mt.2.1) (maxL := mt.2.2.1) (ret := mt.2.2.2.1) hok.1 rfl ?_
  intro p e s m args below meth c s₁ B hml htab hv
  obtain ⟨rfl, ⟨hP, hK, hE, hz⟩, hT⟩ := hv
  have hts0 := atoms_spec (ws := nj_wsm mt) B.pre
  have hts : ∀ w ∈ nj_T, w.before (as.map (nj_rl base ext)).toArray s = true := fun w hw => hts0 w (List.mem_cons_of_mem _ hw)
  have hown : s.vm.findClass mt.1.cls = some m.cls := findClass_of_methodNamed B.named
  have hlocks := B.notSynchronized
  have hin : meth.name = mt.1.name := (name_of_methodNamed B.named B.method).1
  have hl := lv_entry (as.map (nj_rl base ext)) (n := mt.2.2.1) (by rw [nj_sl_len]; exact hsl)
  rw [lg_entry_eq]
  generalize (lg_sl (as.map (nj_rl base ext)) ++ List.replicate (mt.2.2.1 - (lg_sl (as.map (nj_rl base ext))).length) Slot.unset).toArray = ls at hl ⊢
  rw [nj_args_rl] at hl
  have hCx : nj_Cx base ext cA D L xs mt p s m (as.map (nj_rl base ext)).toArray meth c := ⟨B.exec, B.bytes, hml, hts, hown, hK, hE, fun hi => by rw [hin]; simpa using hi⟩
  refine nj_stop_W n 19 mt 0 (lv_args 0 as) [] h g h1 hok.2.2.2.2.2 hsp p e _ s m _ below meth c s.heap [] 0 0 _ ls hCx hl ⟨hP, va_S.rf, hz, by omega⟩ (Nat.le_refl _) (Nat.le_refl _) (Nat.zero_le _) (Nat.zero_le _) ?_
  intro H1 locs1 ls1 hls1 hst1
  obtain ⟨g1, g2, g3, g4⟩ := hst1
  have hat : ∀ w ∈ vx_at0 RX8 139 nE9 nE8, w.before (as.map (nj_rl base ext)).toArray s = true := by
    intro w hw
    have k := List.all_eq_true.mp nj_at0 w hw
    simp only [Bool.or_eq_true, Bool.and_eq_true, decide_eq_true_eq] at k
    rcases k with k | k
    · exact hts w (List.mem_filter.mpr k)
    · exact va_Nw.use (nj_tw_on w k) (hT.1 w k)
  rw [hcl] at hown
  refine vx_throw1 (own := RX8) (cls := nE9) (names := nE8) (ik := 137) (ic := 139) (A := nj_A base) (rest := []) B.exec B.bytes hl0 hown (by decide) (by decide) (hts _ (nj_in_of nj_k3 _ (by simp))) (hts _ (nj_in_of nj_k3 _ (by simp))) hat (fun w hw => List.all_eq_true.mp nj_gd0 w hw) hT.2.1 hT.2.2 g2 (by rw [hml]; exact hls1.1) d0 d3 d4 d7 (fun x hx => (htab x hx).elim) (show 2 + 3 < 19 + 1 by decide) (show 0 + (13 * (2 + 1) + 42) ≤ 64 * (19 + 1) by decide) (Nat.le_refl _) (Nat.le_refl _) hlocks ?_ g2.2.2 (Nat.le_refl _) (Nat.le_refl _)
  intro t ht hz1 hq
  refine ⟨rfl, g1.kept (fun k q hk => hq _ (g1 k q hk).lt), by omega, ⟨?_, fun q a1 a2 => ?_⟩⟩
  · have := g2.1
    omega
  · rw [hq q (Nat.lt_of_lt_of_le a1 g2.1)]
    exact g2.2.1 q a1 a2
end THM
section NGX
variable {p : Program} {l : Launch} {e : Env} {R : Room} {s : State} {m : MethodId} {args : Array Value} {below : List Frame} {meth : Method} {c : Code} {H : Heap} {locs : List Loc} {cells slots : Nat} {Q : State → Prop} {base : Nat} {ext : Nat → Option Nat} {cA : Nat → ClassId} {D : va_G} {h h1 : List nC} {gg : Nat} {pc : Nat} {ls : Array Slot} {st0 rest : List Value}
/-- behind a call that throws -/
theorem nj_goonX (hr : vx_Run p l e R s m args below meth c H locs cells slots 1 6 (F0 m pc ls st0) rest (fun _ _ _ => False) (nj_XC base ext cA D h1 (gg + 1)) (nj_A base)) (hst : nj_St base ext cA D s h gg H locs cells) (hlen : h1.length = h.length)
    (kk : ∀ (H1 : Heap) (locs1 : List Loc) (q : Addr) (ce : Cell), nj_St base ext cA D s h1 (gg + 1) H1 locs1 (cells + 1) → H1[q]? = some ce → ce.vm = .none → s.vm.findClass nE9 = some ce.cls → vx_W p l e R s m args below meth c H1 locs1 (cells + 1) (slots + 6) Q (F0 m pc ls rest) q) : W p l e R s m args below meth c H locs cells slots Q (F0 m pc ls st0) := by
  intro T hT X
  rcases hr T hT X with ⟨v, st₀, t, T', Lc, h0, X', hL, e1, e2, hF, st⟩ | ⟨q, st₀, t, T', Lc, E, ce, h0, X', hL, e1, e2, ⟨hE, hP, hz, hF⟩, hce, hcv, hcl, st⟩
  · exact hF.elim
  · subst hE
    obtain ⟨hP0, hS, g3, g4⟩ := hst
    have hS1 : va_S (nj_A base) s.heap T'.heap (locs ++ Lc) := by
      rw [va_F, h0] at hF
      refine ⟨?_, fun q a1 a2 => ?_, fun q hq => ?_⟩
      · rw [e1]; exact Nat.le_trans hS.1 hF.1
      · rw [e1, hF.2 q (Nat.lt_of_lt_of_le a1 hS.1) a2]; exact hS.2.1 q a1 a2
      · rcases List.mem_append.mp hq with h | h
        · exact hS.2.2 q h
        · exact hL q h
    obtain ⟨t2, a1, b1⟩ := kk T'.heap (locs ++ Lc) q ce ⟨by rw [e1]; exact hP, hS1, by rw [e1]; exact hz, by omega⟩ (by rw [e1]; exact hce) hcv hcl T' rfl X'
    exact ⟨t2, st.trans a1, b1⟩
end NGX
abbrev lw_ws (y : MethodName) (cc : ByteArray) : List Cond := .codeWith y cc 5 (some .int) [(0, 10, 13, 13)] :: nj_T
section LWM
variable {L : Nat} {xs : Nat → Int32} {base : Nat} {ext : Nat → Option Nat} {cA : Nat → ClassId} {D : va_G} {l : Launch}
/-- the law's method, where the call in it returns -/
theorem lw_returns {y : MethodName} {cc : ByteArray} {idx k pos g : Nat} {as : List Value} {h h1 : List nC} {rv : Option Value} (hy : plainName y.cls = true) (hni : (y.name == "<init>") = false) (hok : nj_okE nj_M (nm_lw y cc idx k pos)) (hsl : (lg_sl as).length ≤ 5) (hrun : nRr L xs (nm_lw y cc idx k pos) 20 0 (lv_args 0 as) [] h rv h1) :
    Met l y (lw_ws y cc) (nj_rm 20 0 0) (va_Pc (as.map (nj_rl base ext)) (nj_Pre2 base ext cA D L xs h g)) (nj_Qc base ext cA D rv h1 g) 0 0 (nj_A base) := by
  obtain ⟨n, hrun⟩ := hrun
  have hrun := (nj_run_g n 20 _ 0 _ [] h rv h1 0 0 hrun).2 g
  refine va_MetW (hh := [(0, 10, 13, 13)]) (cc := cc) (maxL := 5) (ret := some .int) hy rfl ?_
  intro p e s m args below meth c s₁ B hml hv
  obtain ⟨rfl, ⟨hP, hK, hE, hz⟩, hT⟩ := hv
  have hts0 := atoms_spec (ws := lw_ws y cc) B.pre
  have hown : s.vm.findClass y.cls = some m.cls := findClass_of_methodNamed B.named
  have hlocks := B.notSynchronized
  have hl := lv_entry (as.map (nj_rl base ext)) (n := 5) (by rw [nj_sl_len]; exact hsl)
  rw [lg_entry_eq]
  generalize (lg_sl (as.map (nj_rl base ext)) ++ List.replicate (5 - (lg_sl (as.map (nj_rl base ext))).length) Slot.unset).toArray = ls at hl ⊢
  rw [nj_args_rl] at hl
  have hCx : nj_Cx base ext cA D L xs (nm_lw y cc idx k pos) p s m (as.map (nj_rl base ext)).toArray meth c := ⟨B.exec, B.bytes, hml, fun w hw => hts0 w (List.mem_cons_of_mem _ hw), hown, hK, hE, fun hi => by
    have hi2 : (y.name == "<init>") = true := hi
    rw [hni] at hi2
    cases hi2⟩
  refine nj_sim0 n 20 (nm_lw y cc idx k pos) 0 (lv_args 0 as) [] h g rv h1 g 0 0 hok hrun p e _ s m _ below meth c s.heap [] 0 0 _ ls hCx hl ⟨hP, va_S.rf, hz, by omega⟩ (Nat.le_refl _) (Nat.le_refl _) (Nat.le_refl _) (Nat.le_refl _) ?_
  intro H1 locs1 pc1 ls1 i st1 hst hdec hret
  have hq : ∀ t : State, t.heap = H1 → nj_Qc base ext cA D rv h1 g (as.map (nj_rl base ext)).toArray s (.returned (rv.map (nj_rl base ext))) t := by
    intro t ht
    refine ⟨rfl, by rw [ht]; exact hst.1, by rw [ht]; exact hst.2.2.1, hst.2.1.F ht⟩
  have hf : ∀ q ∈ locs1, nj_A base q.base := hst.2.1.2.2
  have hr := B.returns
  cases i with
  | ireturn =>
    have hret2 : nj_ret (some .int) .ireturn st1 = some rv := hret
    simp only [nj_ret] at hret2
    split at hret2
    · next x ty _ hty =>
      split at hret2
      · next hn =>
        cases hret2
        cases hty
        exact W.iret B.exec B.bytes hr (fun t ht _ => hq t ht) hf hdec
      · cases hret2
    · cases hret2
  | lreturn =>
    have hret2 : nj_ret (some .int) .lreturn st1 = some rv := hret
    simp only [nj_ret] at hret2
    split at hret2
    · split at hret2
      · next hn => cases hn
      · cases hret2
    · cases hret2
  | return_ =>
    have hret2 : nj_ret (some .int) .return_ st1 = some rv := hret
    simp only [nj_ret] at hret2
    cases hret2
  | _ => exact nomatch (show (none : Option (Option Value)) = some rv from hret)
/-- the law's method, where the call in it throws -/
theorem lw_throws (hl0 : l.stackTraces = false) {y : MethodName} {cc : ByteArray} {idx k pos g pT n qx qo : Nat} {u w : Int32} {h h1 : List nC} {fx : List Value} {mz : nM} (hy : plainName y.cls = true) (hyc : y.cls = "SlipHeirsLaw") (hni : (y.name == "<init>") = false) (hok : nj_okE nj_M (nm_lw y cc idx k pos)) (hMz : nj_M k = some mz) (hokz : nj_okM nj_M mz) (hcl : mz.1.cls = RX8) (h3 : 3 ≤ mz.2.2.1) (hlen : h1.length = h.length) (hx : h[qx]? = some (.inr (8, fx))) (hsp : nj_stop nj_M L xs pT [] n 19 mz 0 (lv_args 0 [.ref qx, .int u, .int w]) [] h g h1) (d0 : decode mz.2.1 pT = .ok (.new 137, 3)) (d3 : decode mz.2.1 (pT + 3) = .ok (.dup, 1)) (d4 : decode mz.2.1 (pT + 4) = .ok (.invokespecial 139, 3)) (d7 : decode mz.2.1 (pT + 7) = .ok (.athrow, 1))
    (e13 : decode cc 13 = .ok (.astore 4, 2)) (e15 : decode cc 15 = .ok (.iconst 1, 1)) (e16 : decode cc 16 = .ok (.ireturn, 1)) :
    Met l y (lw_ws y cc) (nj_rm 20 1 6) (va_Pc ([.ref qx, .int u, .int w, .ref qo].map (nj_rl base ext)) (nj_Pre2 base ext cA D L xs h g)) (nj_Qc base ext cA D (some (.int (Int32.ofInt 1))) h1 (g + 1)) 1 6 (nj_A base) := by
  refine va_MetW (hh := [(0, 10, 13, 13)]) (cc := cc) (maxL := 5) (ret := some .int) hy rfl ?_
  intro p e s m args below meth c s₁ B hml hv
  obtain ⟨rfl, ⟨hP, hK, hE, hz⟩, hT⟩ := hv
  have hts0 := atoms_spec (ws := lw_ws y cc) B.pre
  have hts : ∀ w9 ∈ nj_T, w9.before ([.ref qx, .int u, .int w, .ref qo].map (nj_rl base ext)).toArray s = true := fun w9 hw => hts0 w9 (List.mem_cons_of_mem _ hw)
  have htb : c.exceptionTable.toList = [⟨0, 10, 13, 13⟩] := vx_table (x := y) B (hts0 _ List.mem_cons_self)
  have hown : s.vm.findClass y.cls = some m.cls := findClass_of_methodNamed B.named
  have hlocks := B.notSynchronized
  have hl := lv_entry ([.ref qx, .int u, .int w, .ref qo].map (nj_rl base ext)) (n := 5) (by rw [nj_sl_len]; exact Nat.le_of_ble_eq_true rfl)
  rw [lg_entry_eq]
  generalize (lg_sl ([.ref qx, .int u, .int w, .ref qo].map (nj_rl base ext)) ++ List.replicate (5 - (lg_sl ([.ref qx, .int u, .int w, .ref qo].map (nj_rl base ext))).length) Slot.unset).toArray = ls at hl ⊢
  rw [nj_args_rl] at hl
  have hCx : nj_Cx base ext cA D L xs (nm_lw y cc idx k pos) p s m ([.ref qx, .int u, .int w, .ref qo].map (nj_rl base ext)).toArray meth c := ⟨B.exec, B.bytes, hml, hts, hown, hK, hE, fun hi => by
    have hi2 : (y.name == "<init>") = true := hi
    rw [hni] at hi2
    cases hi2⟩
  have h5 : nj_stop nj_M L xs 5 [.int w, .int u, .ref qx, .int (Int32.ofInt 0), .ref qo] 6 20 (nm_lw y cc idx k pos) 0 (lv_args 0 [.ref qx, .int u, .int w, .ref qo]) [] h g h :=
    Or.inr ⟨0, .aload_n 3, 0, 0, 0, 0, 1, lv_args 0 [.ref qx, .int u, .int w, .ref qo], [.ref qo], h, rfl, rfl,
    Or.inr ⟨1, .iconst 0, 0, 0, 0, 0, 2, lv_args 0 [.ref qx, .int u, .int w, .ref qo], [.int (Int32.ofInt 0), .ref qo], h, rfl, rfl,
    Or.inr ⟨2, .aload_n 0, 0, 0, 0, 0, 3, lv_args 0 [.ref qx, .int u, .int w, .ref qo], [.ref qx, .int (Int32.ofInt 0), .ref qo], h, rfl, rfl,
    Or.inr ⟨3, .iload_n 1, 0, 0, 0, 0, 4, lv_args 0 [.ref qx, .int u, .int w, .ref qo], [.int u, .ref qx, .int (Int32.ofInt 0), .ref qo], h, rfl, rfl,
    Or.inr ⟨4, .iload_n 2, 0, 0, 0, 0, 5, lv_args 0 [.ref qx, .int u, .int w, .ref qo], [.int w, .int u, .ref qx, .int (Int32.ofInt 0), .ref qo], h, rfl, rfl,
    Or.inl ⟨rfl, rfl, rfl⟩⟩⟩⟩⟩⟩
  refine nj_stop_W 6 20 (nm_lw y cc idx k pos) 0 (lv_args 0 [.ref qx, .int u, .int w, .ref qo]) [] h g h hok h5 p e _ s m _ below meth c s.heap [] 0 0 _ ls hCx hl ⟨hP, va_S.rf, hz, by omega⟩ (Nat.le_refl _) (Nat.le_refl _) (Nat.zero_le _) (Nat.zero_le _) ?_
  intro H1 locs1 ls1 hls1 hst1
  have hoke := hok (5, .invokevirtual idx, k, 3, 0, pos) (by simp [nm_lw])
  simp only [nj_oke, nj_okc, hMz, Bool.and_eq_true, decide_eq_true_eq] at hoke
  obtain ⟨hd5, -, -, -, o1, o2, o3, o4⟩ := hoke
  obtain ⟨z1, z2, z3, z4, z5, z6⟩ := id hokz
  have o4' : ((parseMethodDescriptor mz.1.desc).map (fun d => d.parameters.length)).map (fun d => d + 1) = some 3 := by simpa [Option.map_map, Function.comp] using o4
  obtain ⟨np, hnp, hbn⟩ := nj_desc o4'
  have hnp2 : np = 2 := by omega
  subst hnp2
  have hG : GoodIn nj_T (wsV y.cls idx RX8 mz.1 (nj_wsm mz)) := nj_T_good (fun w hw => by
    simp only [wsV, List.mem_append, List.mem_cons, List.not_mem_nil, or_false] at hw
    rcases hw with (rfl | rfl | rfl | rfl) | (rfl | hw)
    · exact nj_w_mem o1
    · exact nj_w_mem o2
    · rw [← hcl]; exact nj_w_mem o3
    · rw [← hcl]; exact z4
    · exact z2
    · exact hw)
  have hmet := thr_met (l := l) (base := base) (ext := ext) (cA := cA) (D := D) hl0 hokz hcl (as := [.ref qx, .int u, .int w]) (show (3 : Nat) ≤ _ from h3) hsp d0 d3 d4 d7
  obtain ⟨zc, hzc, hzc1⟩ : ∃ z, nj_cl[8]? = some z ∧ z.1 = RX8 := ⟨_, rfl, rfl⟩
  have hrc := va_recv hK hst1.1 hzc (nj_ws_get hx)
  rw [hzc1] at hrc
  refine nj_goonX (vx_runV (C := RX8) (b := base + qx) (As := [.int u, .int w]) (rest := [.int (Int32.ofInt 0), .ref (base + qo)]) ⟨B.exec, B.bytes, hml, hown, hts⟩ hmet (cwV 2 hts hG rfl rfl rfl ⟨hcl, z3.1, z3.2, hnp⟩ ⟨show 19 + 1 + 1 ≤ 20 + 1 by decide, ?_⟩) ⟨nj_blind2, hrc, fun U hU hW => ⟨rfl, nj_pre2 (p := p) hK hE hT hst1 U hU hW⟩⟩ rfl rfl hls1.1 rfl (lv_room (show (1 + (1 + 0) : Nat) ≤ 8 by decide)) hd5 ⟨Nat.le_refl _, Nat.le_refl _⟩) hst1 hlen ?_
  · show 8 + (mz.2.2.1 + 11) + 64 * (19 + 1) ≤ 64 * (20 + 1)
    omega
  · intro H2 locs2 q ce hst2 hce hcv hclq
    refine vy_catch (own := y.cls) (name := nE9) (E := nE9) hown ⟨0, 10, 13, 13⟩ htb (by decide) (by decide) (by rw [hyc]; exact hts _ (nj_in_of nj_k3 _ (by simp))) (va_Nw.use rfl (hT.1 (.castable nE9 nE9) (by simp [nj_tw]))) hce hcv hclq ?_
    refine lv_astore (nL := 5) (lv := []) B.exec B.bytes e13 hls1 (by decide) rfl (fun ls2 hls2 => ?_)
    refine lv_iconst B.exec B.bytes e15 rfl ?_
    have hq : ∀ t : State, t.heap = H2 → nj_Qc base ext cA D (some (.int (Int32.ofInt 1))) h1 (g + 1) ([.ref qx, .int u, .int w, .ref qo].map (nj_rl base ext)).toArray s (.returned (some (.int (Int32.ofInt 1)))) t := by
      intro t ht
      refine ⟨rfl, by rw [ht]; exact hst2.1, by rw [ht]; exact hst2.2.2.1, hst2.2.1.F ht⟩
    have hf : ∀ q ∈ locs2, nj_A base q.base := hst2.2.1.2.2
    exact W.iret B.exec B.bytes B.returns (fun t ht _ => hq t ht) hf e16
end LWM
