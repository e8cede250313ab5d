theorem nj_k1 : ([.native arraycopyName, .static arraycopyName, .initialized "java/lang/System", .instanceMethod objectInit, .code objectInit ⟨#[0xb1]⟩ 1 none] : List Cond).all (fun w => decide (w ∈ lw_tbl) && goodWord w) = true := by decide +kernel
theorem nj_k1n : Cond.native arraycopyName ∈ nj_T := nj_in_of nj_k1 _ (by simp)
theorem nj_k1s : Cond.static arraycopyName ∈ nj_T := nj_in_of nj_k1 _ (by simp)
theorem nj_k1i : Cond.initialized "java/lang/System" ∈ nj_T := nj_in_of nj_k1 _ (by simp)
theorem nj_k1o : Cond.instanceMethod objectInit ∈ nj_T := nj_in_of nj_k1 _ (by simp)
theorem nj_k1c : Cond.code objectInit ⟨#[0xb1]⟩ 1 none ∈ nj_T := nj_in_of nj_k1 _ (by simp)
theorem nj_k2 : ([.static Lib.Math.min.name, .initialized "java/lang/Math", .code Lib.Math.min.name Lib.Math.min.code 2 (some .int)] : List Cond).all (fun w => decide (w ∈ lw_tbl) && goodWord w) = true := by decide +kernel
theorem nj_k2s : Cond.static Lib.Math.min.name ∈ nj_T := nj_in_of nj_k2 _ (by simp)
theorem nj_k2i : Cond.initialized "java/lang/Math" ∈ nj_T := nj_in_of nj_k2 _ (by simp)
theorem nj_k2c : Cond.code Lib.Math.min.name Lib.Math.min.code 2 (some .int) ∈ nj_T := nj_in_of nj_k2 _ (by simp)
section NCP
variable {L : Nat} {xs : Nat → Int32} {base : Nat} {ext : Nat → Option Nat} {cA : Nat → ClassId} {D : va_G} {l : Launch}
variable {p : Program} {e : Env} {R : Room} {s : State} {m : MethodId} {args : Array Value} {below : List Frame} {meth : Method} {c : Code} {H : Heap} {locs : List Loc} {cells slots : Nat} {Q : State → Prop} {h : List nC} {pc : Nat} {ls : Array Slot} {st : List Value} {mt : nM} {idx gg : Nat} {r : List Value × List nC}
theorem nj_s_copy (hCx : nj_Cx base ext cA D L xs mt p s m args meth c) (hls : ls.size = mt.2.2.1) (hst : nj_St base ext cA D s h gg H locs cells) (hd : decode mt.2.1 pc = .ok (.invokestatic idx, 3)) (hlk : (Cond.methodLink mt.1.cls idx arraycopyName).before args s = true) (hr : nj_copy st h = some r) (hsum : nj_sum r.1 ≤ 8) (hR1 : 1 ≤ R.frames) (hR2 : 64 ≤ R.locals)
    (kk : ∀ (H1 : Heap) (locs1 : List Loc), nj_St base ext cA D s r.2 gg H1 locs1 cells → W p l e R s m args below meth c H1 locs1 cells slots Q (F0 m (pc + 3) ls (r.1.map (nj_rl base ext)))) : W p l e R s m args below meth c H locs cells slots Q (F0 m pc ls (st.map (nj_rl base ext))) := by
  obtain ⟨hx, hb, hml, hts, hown, hK, hE, -⟩ := hCx
  have hlo : ((r.1.map (nj_rl base ext)).map fun v => v.category).sum + (nativeFrameWords "java/lang/System" "arraycopy" 5 + 11) ≤ R.locals := by
    rw [nj_sum_rl]
    have : nativeFrameWords "java/lang/System" "arraycopy" 5 = 7 := by decide +kernel
    omega
  unfold nj_copy at hr
  split at hr
  · next nn dp q1 sp q0 r0 =>
    split at hr
    · next k0 n0 f k1 n1 g h0 h1 =>
      split at hr
      · next hc =>
        obtain ⟨rfl, rfl, c1, c2, c3, c4, c5⟩ := hc
        cases hr
        have kk2 := nj_wr (g := F0 m (pc + 3) ls (r0.map (nj_rl base ext))) (slots := slots) (p := p) (l := l) (e := e) (R := R) (args := args) (below := below) (meth := meth) (c := c) (m := m) (Q := Q) hst (h1 := h.set q1 (.inl (0, n1, .inl (va_cpy f g sp.toNatClampNeg dp.toNatClampNeg nn.toNatClampNeg)))) (by simp) kk
        rw [← nj_ws_set] at kk2
        exact va_copyi (ty := .int) hx hb (by rw [hml, hls]) hown hlk (hts _ nj_k1n) (hts _ nj_k1s) (hts _ nj_k1i) hK hst.1 (nj_ws_D base ext cA h) (nj_S_rf hst.2.1) q0 q1 0 0 (nj_ws_get h0) (nj_ws_get h1) (nj_tys_at cA (by decide)) (nj_tys_at cA (by decide)) rfl c1 c2 c3 c4 c5 (fun _ _ => rfl) hR1 hlo hd kk2
      · cases hr
    · next k0 n0 f k1 n1 g h0 h1 =>
      split at hr
      · next hc =>
        obtain ⟨rfl, rfl, c1, c2, c3, c4, c5⟩ := hc
        cases hr
        have kk2 := nj_wr (g := F0 m (pc + 3) ls (r0.map (nj_rl base ext))) (slots := slots) (p := p) (l := l) (e := e) (R := R) (args := args) (below := below) (meth := meth) (c := c) (m := m) (Q := Q) hst (h1 := h.set q1 (.inl (3, n1, .inr (.inl (va_cpy f g sp.toNatClampNeg dp.toNatClampNeg nn.toNatClampNeg))))) (by simp) kk
        rw [← nj_ws_set] at kk2
        exact va_copyl (ty := .long) hx hb (by rw [hml, hls]) hown hlk (hts _ nj_k1n) (hts _ nj_k1s) (hts _ nj_k1i) hK hst.1 (nj_ws_D base ext cA h) (nj_S_rf hst.2.1) q0 q1 3 3 (nj_ws_get h0) (nj_ws_get h1) (nj_tys_at cA (by decide)) (nj_tys_at cA (by decide)) rfl c1 c2 c3 c4 c5 (fun _ _ => rfl) hR1 hlo hd kk2
      · cases hr
    · cases hr
  · cases hr
end NCP
section NST
variable {M : Nat → Option nM} {X : nX} {L : Nat} {xs : Nat → Int32} {base : Nat} {ext : Nat → Option Nat} {cA : Nat → ClassId} {D : va_G} {l : Launch} {n : Nat}
variable {p : Program} {e : Env} {R : Room} {s : State} {m : MethodId} {args : Array Value} {below : List Frame} {meth : Method} {c : Code} {H : Heap} {locs : List Loc} {cells slots : Nat} {Q : State → Prop} {h h1 : List nC} {pc pc1 : Nat} {lv lv1 : nLv} {ls : Array Slot} {st st1 : List Value} {mt : nM} {d a b pos g g1 mc ms : Nat} {v : Int}
/-- one instruction -/
theorem nj_sim_step (hM : ∀ (k : Nat) (mt : nM), M k = some mt → nj_okM M mt) (hX : nj_XOk X L xs base ext cA D l) (hXl : ∀ a as h r, X a as h = some r → r.2.1.length = h.length) (ih : nj_Sim M X L xs base ext cA D l n) (hCx : nj_Cx base ext cA D L xs mt p s m args meth c) (hl : lv_has ls mt.2.2.1 (nj_rlv base ext lv)) (hst : nj_St base ext cA D s h g H locs cells) {i : Instr} (hoke : nj_oke M mt.1.cls mt.2.1 (pc, i, a, b, v, pos) = true)
    (hstep : nj_step M X L xs (fun d1 mz lv0 h0 g0 => nj_run M X L xs n d1 mz 0 lv0 [] h0 g0) d mt i a b v pc lv st h g = some (pc1, lv1, st1, h1, g1, mc, ms)) (hR1 : d + 1 ≤ R.frames) (hR2 : 64 * (d + 1) ≤ R.locals) (hR3 : cells + mc ≤ R.cells) (hR4 : slots + ms ≤ R.slots)
    (kk : ∀ (H1 : Heap) (locs1 : List Loc) (ls1 : Array Slot), lv_has ls1 mt.2.2.1 (nj_rlv base ext lv1) → nj_St base ext cA D s h1 g1 H1 locs1 (cells + mc) → W p l e R s m args below meth c H1 locs1 (cells + mc) (slots + ms) Q (F0 m pc1 ls1 (st1.map (nj_rl base ext)))) : W p l e R s m args below meth c H locs cells slots Q (F0 m pc ls (st.map (nj_rl base ext))) := by
  have hCx' := hCx
  obtain ⟨hx, hb, hml, hts, hown, hK, hE, hini⟩ := hCx
  simp only [nj_oke, Bool.and_eq_true, decide_eq_true_eq] at hoke
  obtain ⟨hd, okm, okn, okc⟩ := hoke
  unfold nj_step at hstep
  split at hstep
  · next pc2 lv2 st2 hp =>
    cases hstep
    exact nj_sim_pure hx hb hl hd hp (fun ls' hl' => kk H locs ls' hl' hst)
  · split at hstep
    · next pc2 st2 h2 hm =>
      cases hstep
      exact nj_sim_mem hx hb hts hown hK hE hini hst hd okm hm (fun H1 locs1 hst1 => kk H1 locs1 ls hl hst1)
    · split at hstep
      · next pc2 st2 x z hn =>
        split at hstep
        · next hg =>
          cases hstep
          subst hg
          exact nj_sim_new hx hb hts hown hK hE hst hd okn hn hR3 hR4 (fun H1 locs1 hst1 => kk H1 locs1 ls hl hst1)
        · cases hstep
      · unfold nj_calls at hstep
        split at hstep
        · cases hstep
        · next hinv =>
          split at hstep
          · next hv4 =>
            have hsp : ∃ idx, i = .invokespecial idx ∧ nj_w pos (.methodLink mt.1.cls idx objectInit) = true := by
              cases i with
              | invokespecial idx => simp only [nj_okc, if_pos hv4] at okc; exact ⟨idx, rfl, okc⟩
              | invokevirtual idx => subst hv4; simp [nj_okc] at okc
              | invokestatic idx =>
                subst hv4
                simp only [nj_okc] at okc
                cases hMa : M a with
                | none => rw [hMa] at okc; simp at okc
                | some mz => rw [hMa] at okc; simp at okc
              | _ => exact absurd rfl hinv
            obtain ⟨idx, rfl, hw⟩ := hsp
            split at hstep
            · next k r _ _ _ =>
              split at hstep
              · next hsum =>
                cases hstep
                refine W.objInit hx hb hown (hts _ (nj_w_mem hw)) (hts _ nj_k1o) (hts _ nj_k1c) rfl (by rw [hml]; exact hl.1) (a := base + k) (rest := st1.map (nj_rl base ext)) rfl hd (by omega) ?_ ?_
                · show 2 * 0 + _ + 12 ≤ _
                  rw [nj_sum_rl]
                  omega
                · exact kk H locs ls hl hst
              · cases hstep
            · cases hstep
          · next hv4 =>
            split at hstep
            · next hv5 =>
              have hsp : ∃ idx, i = .invokestatic idx ∧ nj_w pos (.methodLink mt.1.cls idx arraycopyName) = true := by
                cases i with
                | invokestatic idx => simp only [nj_okc, if_pos hv5] at okc; exact ⟨idx, rfl, okc⟩
                | invokevirtual idx => subst hv5; simp [nj_okc] at okc
                | invokespecial idx =>
                  subst hv5
                  simp only [nj_okc] at okc
                  cases hMa : M a with
                  | none => rw [hMa] at okc; simp at okc
                  | some mz => rw [hMa] at okc; simp at okc
                | _ => exact absurd rfl hinv
              obtain ⟨idx, rfl, hw⟩ := hsp
              split at hstep
              · next r h2 hcp =>
                split at hstep
                · next hsum =>
                  cases hstep
                  exact nj_s_copy hCx' hl.1 hst hd (hts _ (nj_w_mem hw)) hcp hsum (by omega) (by omega) (fun H1 locs1 hst1 => kk H1 locs1 ls hl hst1)
                · cases hstep
              · cases hstep
            · next hv5 =>
              split at hstep
              · next hv6 =>
                have hsp : ∃ idx, i = .invokestatic idx := by
                  cases i with
                  | invokestatic idx => exact ⟨idx, rfl⟩
                  | invokevirtual idx => subst hv6; simp [nj_okc] at okc
                  | invokespecial idx =>
                    subst hv6
                    simp only [nj_okc] at okc
                    cases hMa : M a with
                    | none => rw [hMa] at okc; simp at okc
                    | some mz => rw [hMa] at okc; simp at okc
                  | _ => exact absurd rfl hinv
                obtain ⟨idx, rfl⟩ := hsp
                split at hstep
                · next hc =>
                  split at hstep
                  · next r h2 dg ms2 hXr =>
                    cases hstep
                    exact hX mt d pc idx a b st h g r h1 mc ms hXr hc.1 hc.2 p e R s m args below meth c H locs cells slots Q ls hCx' hl.1 hst hd hR1 hR2 hR3 hR4 (fun H1 locs1 hst1 => kk H1 locs1 ls hl hst1)
                  · cases hstep
                · cases hstep
              · next hv6 =>
                split at hstep
                · next hv7 =>
                  have hsp : ∃ idx, i = .invokestatic idx ∧ nj_w pos (.methodLink mt.1.cls idx Lib.Math.min.name) = true := by
                    cases i with
                    | invokestatic idx => simp only [nj_okc, if_neg hv5, if_neg hv6, if_pos hv7] at okc; exact ⟨idx, rfl, okc⟩
                    | invokevirtual idx => subst hv7; simp [nj_okc] at okc
                    | invokespecial idx =>
                      subst hv7
                      simp only [nj_okc] at okc
                      cases hMa : M a with
                      | none => rw [hMa] at okc; simp at okc
                      | some mz => rw [hMa] at okc; simp at okc
                    | _ => exact absurd rfl hinv
                  obtain ⟨idx, rfl, hw⟩ := hsp
                  split at hstep
                  · next y x r _ _ _ =>
                    split at hstep
                    · next hsum =>
                      cases hstep
                      have k0 := kk H locs ls hl hst
                      exact va_mmin hx hb (by rw [hml, hl.1]) hown (hts _ (nj_w_mem hw)) (hts _ nj_k2s) (hts _ nj_k2i) (hts _ nj_k2c) (rest := r.map (nj_rl base ext)) (by omega) (by rw [nj_sum_rl]; omega) (by omega) (by omega) hd k0
                    · cases hstep
                  · cases hstep
                · next hv7 =>
                  unfold nj_inv at hstep
                  split at hstep
                  · next d1 mz hMa =>
                    split at hstep
                    · next hpass =>
                      split at hstep
                      · next rv1 h2 g2 mc1 ms1 hr1 =>
                        cases hstep
                        exact nj_call hXl ih hCx' hl.1 hst hd okc hv4 hv5 hv6 hv7 hMa (hM a mz hMa) hpass hr1 hR1 hR2 hR3 hR4 (fun H1 locs1 hst1 => kk H1 locs1 ls hl hst1)
                      · cases hstep
                    · cases hstep
                  · cases hstep
end NST
theorem nj_sim (M : Nat → Option nM) (X : nX) (hM : ∀ (k : Nat) (mt : nM), M k = some mt → nj_okM M mt) (hXl : ∀ a as h r, X a as h = some r → r.2.1.length = h.length) (L : Nat) (xs : Nat → Int32) (base : Nat) (ext : Nat → Option Nat) (cA : Nat → ClassId) (D : va_G) (l : Launch) (hX : nj_XOk X L xs base ext cA D l) : ∀ n : Nat, nj_Sim M X L xs base ext cA D l n := by
  intro n
  induction n with
  | zero => intro d mt pc lv st h g rv h1 g1 mc ms hok hr; cases hr
  | succ n ih =>
    intro d mt pc lv st h g rv h1 g1 mc ms hok hr p e R s m args below meth c H locs cells slots Q ls hCx hl hst hR1 hR2 hR3 hR4 kret
    unfold nj_run at hr
    split at hr
    · cases hr
    · next q i a b v pos hf =>
      have hmem := List.mem_of_find?_eq_some hf
      have hpc : q = pc := by
        have := List.find?_some hf
        simpa using this
      subst hpc
      have hoke := hok _ hmem
      split at hr
      · next rv0 hret =>
        cases hr
        refine kret H locs q ls i st (by simpa using hst) ?_ hret
        simp only [nj_oke, Bool.and_eq_true, decide_eq_true_eq] at hoke
        have hd := hoke.1
        have : nj_len i b = 1 := by
          cases i <;> first | rfl | (exact nomatch (show (none : Option (Option Value)) = some rv from hret))
        rw [this] at hd
        exact hd
      · split at hr
        · cases hr
        · next pc1 lv1 st1 h2 g2 mc1 ms1 hstep =>
          split at hr
          · cases hr
          · next rv3 h3 g3 mc2 ms2 hr2 =>
            cases hr
            refine nj_sim_step hM hX hXl ih hCx hl hst hoke hstep hR1 hR2 (by omega) (by omega) (fun H1 locs1 ls1 hl1 hst1 => ?_)
            refine ih d mt pc1 lv1 st1 h2 g2 rv h1 g1 mc2 ms2 hok hr2 p e R s m args below meth c H1 locs1 (cells + mc1) (slots + ms1) Q ls1 hCx hl1 hst1 hR1 hR2 (by omega) (by omega) ?_
            intro H2 locs2 pc2 ls2 i2 st2 a1 a2 a3
            rw [Nat.add_assoc] at a1 ⊢
            rw [Nat.add_assoc]
            exact kret H2 locs2 pc2 ls2 i2 st2 a1 a2 a3
