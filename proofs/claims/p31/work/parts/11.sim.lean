def nj_Cx (base : Nat) (ext : Nat → Option Nat) (cA : Nat → ClassId) (D : va_G) (L : Nat) (xs : Nat → Int32) (mt : nM) (p : Program) (s : State) (m : MethodId) (args : Array Value) (meth : Method) (c : Code) : Prop :=
  p.tables.exec = Jvm.exec ∧ c.code = mt.2.1 ∧ c.maxLocals = mt.2.2.1 ∧ (∀ w ∈ nj_T, w.before args s = true) ∧ s.vm.findClass mt.1.cls = some m.cls ∧ va_K D nj_cl (nj_tys cA) s ∧ nj_Env base ext L xs s ∧ ((mt.1.name == "<init>") = true → meth.name = "<init>")
/-- the rule of what stands outside -/
def nj_XOk (X : nX) (L : Nat) (xs : Nat → Int32) (base : Nat) (ext : Nat → Option Nat) (cA : Nat → ClassId) (D : va_G) (l : Launch) : Prop :=
  ∀ (mt : nM) (d pc idx a b : Nat) (st : List Value) (h : List nC) (g : Nat) (r : Int32) (h1 : List nC) (dg ms : Nat), X a (st.take b).reverse h = some (r, h1, dg, ms) → b ≤ st.length → nj_sum (st.drop b) ≤ 8 →
  ∀ (p : Program) (e : Env) (R : Room) (s : State) (m : MethodId) (args : Array Value) (below : List Frame) (meth : Method) (c : Code) (H : Heap) (locs : List Loc) (cells slots : Nat) (Q : State → Prop) (ls : Array Slot),
  nj_Cx base ext cA D L xs mt p s m args meth c → ls.size = mt.2.2.1 → nj_St base ext cA D s h g H locs cells → decode mt.2.1 pc = .ok (.invokestatic idx, 3) → d + 1 ≤ R.frames → 64 * (d + 1) ≤ R.locals → cells + dg ≤ R.cells → slots + ms ≤ R.slots →
  (∀ (H1 : Heap) (locs1 : List Loc), nj_St base ext cA D s h1 (g + dg) H1 locs1 (cells + dg) → W p l e R s m args below meth c H1 locs1 (cells + dg) (slots + ms) Q (F0 m (pc + 3) ls ((.int r :: st.drop b).map (nj_rl base ext)))) →
  W p l e R s m args below meth c H locs cells slots Q (F0 m pc ls (st.map (nj_rl base ext)))
/-- runs of at most n steps are runs of the machine -/
def nj_Sim (M : Nat → Option nM) (X : nX) (L : Nat) (xs : Nat → Int32) (base : Nat) (ext : Nat → Option Nat) (cA : Nat → ClassId) (D : va_G) (l : Launch) (n : Nat) : Prop :=
  ∀ (d : Nat) (mt : nM) (pc : Nat) (lv : nLv) (st : List Value) (h : List nC) (g : Nat) (rv : Option Value) (h1 : List nC) (g1 mc ms : Nat), nj_okE M mt → nj_run M X L xs n d mt pc lv st h g = some (rv, h1, g1, mc, ms) →
  ∀ (p : Program) (e : Env) (R : Room) (s : State) (m : MethodId) (args : Array Value) (below : List Frame) (meth : Method) (c : Code) (H : Heap) (locs : List Loc) (cells slots : Nat) (Q : State → Prop) (ls : Array Slot),
  nj_Cx base ext cA D L xs mt p s m args meth c → lv_has ls mt.2.2.1 (nj_rlv base ext lv) → nj_St base ext cA D s h g H locs cells → d + 1 ≤ R.frames → 64 * (d + 1) ≤ R.locals → cells + mc ≤ R.cells → slots + ms ≤ R.slots →
  (∀ (H1 : Heap) (locs1 : List Loc) (pc1 : Nat) (ls1 : Array Slot) (i : Instr) (st1 : List Value), nj_St base ext cA D s h1 g1 H1 locs1 (cells + mc) → decode mt.2.1 pc1 = .ok (i, 1) → nj_ret mt.2.2.2.1 i st1 = some rv → W p l e R s m args below meth c H1 locs1 (cells + mc) (slots + ms) Q (F0 m pc1 ls1 (st1.map (nj_rl base ext)))) →
  W p l e R s m args below meth c H locs cells slots Q (F0 m pc ls (st.map (nj_rl base ext)))
section NMT
variable {M : Nat → Option nM} {X : nX} {L : Nat} {xs : Nat → Int32} {base : Nat} {ext : Nat → Option Nat} {cA : Nat → ClassId} {D : va_G} {l : Launch} {n : Nat}
theorem nj_met (hsim : nj_Sim M X L xs base ext cA D l n) {d : Nat} {mt : nM} {as : List Value} {h : List nC} {g : Nat} {rv : Option Value} {h1 : List nC} {g1 mc ms : Nat} (hok : nj_okM M mt) (hsl : (lg_sl as).length ≤ mt.2.2.1) (hrun : nj_run M X L xs n d mt 0 (lv_args 0 as) [] h g = some (rv, h1, g1, mc, ms)) :
    Met l mt.1 (nj_wsm mt) (nj_rm d mc ms) (va_Pc (as.map (nj_rl base ext)) (nj_Pre base ext cA D L xs h g)) (nj_Qc base ext cA D rv h1 g1) mc ms (nj_A base) := by
  refine Met.ofW (cc := mt.2.1) (maxL := mt.2.2.1) (ret := mt.2.2.2.1) hok.1 rfl ?_
  intro p e s m args below meth c s₁ B hml hv
  obtain ⟨rfl, hP, hK, hE, hz⟩ := hv
  have hts0 := atoms_spec (ws := nj_wsm mt) B.pre
  have hown : s.vm.findClass mt.1.cls = some m.cls := findClass_of_methodNamed B.named
  have hlocks := B.notSynchronized
  have hin : meth.name = mt.1.name := (name_of_methodNamed B.named B.method).1
  have hl := lv_entry (as.map (nj_rl base ext)) (n := mt.2.2.1) (by rw [nj_sl_len]; exact hsl)
  rw [lg_entry_eq]
  generalize (lg_sl (as.map (nj_rl base ext)) ++ List.replicate (mt.2.2.1 - (lg_sl (as.map (nj_rl base ext))).length) Slot.unset).toArray = ls at hl ⊢
  rw [nj_args_rl] at hl
  have hCx : nj_Cx base ext cA D L xs mt p s m (as.map (nj_rl base ext)).toArray meth c := ⟨B.exec, B.bytes, hml, fun w hw => hts0 w (List.mem_cons_of_mem _ hw), hown, hK, hE, fun hi => by rw [hin]; simpa using hi⟩
  refine hsim d mt 0 (lv_args 0 as) [] h g rv h1 g1 mc ms hok.2.2.2.2.2 hrun p e _ s m _ below meth c s.heap [] 0 0 _ ls hCx hl ⟨hP, va_S.rf, hz, by omega⟩ (Nat.le_refl _) (Nat.le_refl _) (by show 0 + mc ≤ mc; omega) (by show 0 + ms ≤ ms; omega) ?_
  intro H1 locs1 pc1 ls1 i st1 hst hdec hret
  have hq : ∀ t : State, t.heap = H1 → nj_Qc base ext cA D rv h1 g1 (as.map (nj_rl base ext)).toArray s (.returned (rv.map (nj_rl base ext))) t := by
    intro t ht
    refine ⟨rfl, by rw [ht]; exact hst.1, by rw [ht]; exact hst.2.2.1, hst.2.1.F ht⟩
  have hf : ∀ q ∈ locs1, nj_A base q.base := hst.2.1.2.2
  rw [Nat.zero_add, Nat.zero_add]
  have hr := B.returns
  cases i with
  | ireturn =>
    simp only [nj_ret] at hret
    split at hret
    · next x ty hty =>
      split at hret
      · next hn =>
        cases hret
        exact W.zret (ty := ty) B.exec B.bytes (by rw [hr]; exact hty) hn (fun t ht _ => hq t ht) hf hdec
      · cases hret
    · cases hret
  | lreturn =>
    simp only [nj_ret] at hret
    split at hret
    · next x =>
      split at hret
      · next hn =>
        cases hret
        exact W.lret B.exec B.bytes (by rw [hr]; exact hn) (fun t ht _ => hq t ht) hf hdec
      · cases hret
    · cases hret
  | return_ =>
    simp only [nj_ret] at hret
    split at hret
    · next hn =>
      cases hret
      exact W.vret B.exec B.bytes (by rw [hr]; exact hn) (fun t ht _ => hq t ht) hf hdec
    · cases hret
  | _ => exact nomatch (show (none : Option (Option Value)) = some rv from hret)
end NMT
section NGO
variable {p : Program} {l : Launch} {e : Env} {R : Room} {s : State} {m : MethodId} {args : Array Value} {below : List Frame} {meth : Method} {c : Code} {H : Heap} {locs : List Loc} {cells slots : Nat} {Q : State → Prop} {base : Nat} {ext : Nat → Option Nat} {cA : Nat → ClassId} {D : va_G} {h h1 : List nC} {gg g1 : Nat} {pc : Nat} {ls : Array Slot} {st0 rest : List Value} {rv : Option Value} {mc ms : Nat} {a : Array Value}
theorem nj_goon (hr : va_Run p l e R s m args below meth c H locs cells slots mc ms (F0 m pc ls st0) rest (nj_Qc base ext cA D rv h1 g1 a) (nj_A base)) (hst : nj_St base ext cA D s h gg H locs cells) (hlen : h1.length + g1 = h.length + gg + mc)
    (kk : ∀ (H1 : Heap) (locs1 : List Loc), nj_St base ext cA D s h1 g1 H1 locs1 (cells + mc) → W p l e R s m args below meth c H1 locs1 (cells + mc) (slots + ms) Q (F0 m (pc + 3) ls ((rv.map (nj_rl base ext)).toList ++ rest))) : W p l e R s m args below meth c H locs cells slots Q (F0 m pc ls st0) := by
  intro T hT X
  obtain ⟨v, st₀, t, T', Lc, h0, X', hL, e1, e2, ⟨hv, hP, hz, hF⟩, go⟩ := hr T hT X
  obtain ⟨hP0, hS, g3, g4⟩ := hst
  cases hv
  have hS1 : va_S (nj_A base) s.heap T'.heap (locs ++ Lc) := by
    rw [va_F, h0] at hF
    refine ⟨?_, fun q a1 a2 => ?_, fun q hq => ?_⟩
    · rw [e1]; exact Nat.le_trans hS.1 hF.1
    · rw [e1, hF.2 q (Nat.lt_of_lt_of_le a1 hS.1) a2]; exact hS.2.1 q a1 a2
    · rcases List.mem_append.mp hq with h | h
      · exact hS.2.2 q h
      · exact hL q h
  obtain ⟨t2, a1, b1⟩ := kk T'.heap (locs ++ Lc) ⟨by rw [e1]; exact hP, hS1, by rw [e1]; exact hz, by omega⟩ T' rfl X'
  exact ⟨t2, go t2 a1, b1⟩
theorem nj_blind {base : Nat} {ext : Nat → Option Nat} {cA : Nat → ClassId} {D : va_G} {L : Nat} {xs : Nat → Int32} {h : List nC} {gg : Nat} {as : List Value} : FrameBlind (va_Pc as (nj_Pre base ext cA D L xs h gg)) := by
  intro a U g mz q
  obtain ⟨q0, qP, qK, qE, qz⟩ := q
  exact ⟨q0, qP, va_K.moved (u := U) (U := U.calling g mz a) (Vm.Alike.refl U.vm) qK, nj_Env.same (s := U) (U := U.calling g mz a) rfl rfl qE, qz⟩
theorem nj_pre {L : Nat} {xs : Nat → Int32} (hK : va_K D nj_cl (nj_tys cA) s) (hE : nj_Env base ext L xs s) (hst : nj_St base ext cA D s h gg H locs cells) : ∀ U : State, U.heap = H → s.WarmedH U.vm → nj_Pre base ext cA D L xs h gg U := by
  intro U hU hW
  refine ⟨by rw [hU]; exact hst.1, va_K.moved hW.alike hK, hE.warm hW (by rw [hU]; exact hst.2.1.1) (fun q h1 h2 => by rw [hU]; exact hst.2.1.2.1 q h1 h2), by rw [hU]; exact hst.2.2.1⟩
end NGO
theorem nj_mem_len {L : Nat} {xs : Nat → Int32} {ini : Bool} {pc a b : Nat} {v : Int} {st : List Value} {h : List nC} {i : Instr} {r : Nat × List Value × List nC} (hr : nj_mem L xs ini pc a b v st h i = some r) : r.2.2.length = h.length := by
  cases i with
  | getfield idx => simp only [nj_mem, nj_getf] at hr; (repeat' (split at hr)) <;> first | (cases hr; done) | (cases hr; rfl)
  | putfield idx => simp only [nj_mem, nj_putf] at hr; (repeat' (split at hr)) <;> first | (cases hr; done) | (cases hr; simp)
  | iaload => simp only [nj_mem, nj_iald] at hr; (repeat' (split at hr)) <;> first | (cases hr; done) | (cases hr; rfl)
  | baload => simp only [nj_mem, nj_bald] at hr; (repeat' (split at hr)) <;> first | (cases hr; done) | (cases hr; rfl)
  | laload => simp only [nj_mem, nj_lald] at hr; (repeat' (split at hr)) <;> first | (cases hr; done) | (cases hr; rfl)
  | aaload => simp only [nj_mem, nj_aald] at hr; (repeat' (split at hr)) <;> first | (cases hr; done) | (cases hr; rfl)
  | iastore => simp only [nj_mem, nj_iast] at hr; (repeat' (split at hr)) <;> first | (cases hr; done) | (cases hr; simp)
  | bastore => simp only [nj_mem, nj_bast] at hr; (repeat' (split at hr)) <;> first | (cases hr; done) | (cases hr; simp)
  | lastore => simp only [nj_mem, nj_last] at hr; (repeat' (split at hr)) <;> first | (cases hr; done) | (cases hr; simp)
  | aastore => simp only [nj_mem, nj_aast] at hr; (repeat' (split at hr)) <;> first | (cases hr; done) | (cases hr; simp)
  | arraylength => simp only [nj_mem, nj_alen] at hr; (repeat' (split at hr)) <;> first | (cases hr; done) | (cases hr; rfl)
  | ldc idx => simp only [nj_mem] at hr; split at hr <;> (cases hr; rfl)
  | ldc_w idx => cases hr; rfl
  | ldc2_w idx => cases hr; rfl
  | getstatic idx => simp only [nj_mem] at hr; (repeat' (split at hr)) <;> first | (cases hr; done) | (cases hr; rfl)
  | _ => exact nomatch (show (none : nR) = some r from hr)
theorem nj_copy_len {st : List Value} {h : List nC} {r : List Value × List nC} (hr : nj_copy st h = some r) : r.2.length = h.length := by
  unfold nj_copy at hr
  (repeat' (split at hr)) <;> first | (cases hr; done) | (cases hr; simp)
/-- the counts of cells -/
theorem nj_run_len (M : Nat → Option nM) (X : nX) (hX : ∀ a as h r, X a as h = some r → r.2.1.length = h.length) (L : Nat) (xs : Nat → Int32) : ∀ (n d : Nat) (mt : nM) (pc : Nat) (lv : nLv) (st : List Value) (h : List nC) (g : Nat) (rv : Option Value) (h1 : List nC) (g1 mc ms : Nat), nj_run M X L xs n d mt pc lv st h g = some (rv, h1, g1, mc, ms) → h1.length + g1 = h.length + g + mc := by
  intro n
  induction n with
  | zero => intro d mt pc lv st h g rv h1 g1 mc ms hr; cases hr
  | succ n ih =>
    intro d mt pc lv st h g rv h1 g1 mc ms hr
    unfold nj_run at hr
    split at hr
    · cases hr
    · next q i a b v pos hf =>
      split at hr
      · cases hr; rfl
      · split at hr
        · cases hr
        · next pc1 lv1 st1 h2 g2 mc1 ms1 hstep =>
          split at hr
          · cases hr
          · next rv3 h3 g3 mc2 ms2 hr2 =>
            cases hr
            have e2 := ih _ _ _ _ _ _ _ _ _ _ _ _ hr2
            have e1 : h2.length + g2 = h.length + g + mc1 := by
              unfold nj_step at hstep
              split at hstep
              · cases hstep; rfl
              · split at hstep
                · next hm => cases hstep; have := nj_mem_len hm; simp at this; omega
                · split at hstep
                  · split at hstep
                    · next hg => cases hstep; simp; omega
                    · cases hstep
                  · unfold nj_calls at hstep
                    split at hstep
                    · cases hstep
                    · split at hstep
                      · split at hstep
                        · split at hstep
                          · cases hstep; rfl
                          · cases hstep
                        · cases hstep
                      · split at hstep
                        · split at hstep
                          · next hm =>
                            split at hstep
                            · cases hstep; have := nj_copy_len hm; simp at this; omega
                            · cases hstep
                          · cases hstep
                        · split at hstep
                          · split at hstep
                            · split at hstep
                              · next hm => cases hstep; have := hX _ _ _ _ hm; simp at this; omega
                              · cases hstep
                            · cases hstep
                          · split at hstep
                            · split at hstep
                              · split at hstep
                                · cases hstep; rfl
                                · cases hstep
                              · cases hstep
                            · unfold nj_inv at hstep
                              split at hstep
                              · split at hstep
                                · split at hstep
                                  · next hq => cases hstep; exact ih _ _ _ _ _ _ _ _ _ _ _ _ hq
                                  · cases hstep
                                · cases hstep
                              · cases hstep
            omega
