theorem nj_k1 : ([.native arraycopyName, .static arraycopyName, .initialized "java/lang/System", .instanceMethod objectInit, .code objectInit ⟨#[0xb1]⟩ 1 none] : List Cond).all (fun w => decide (w ∈ lw_tbl) && goodWord w) = true := by decide +kernel
theorem nj_k1n : Cond.native arraycopyName ∈ nj_T := nj_in_of nj_k1 _ (by simp)
theorem nj_k1s : Cond.static arraycopyName ∈ nj_T := nj_in_of nj_k1 _ (by simp)
theorem nj_k1i : Cond.initialized "java/lang/System" ∈ nj_T := nj_in_of nj_k1 _ (by simp)
theorem nj_k1o : Cond.instanceMethod objectInit ∈ nj_T := nj_in_of nj_k1 _ (by simp)
theorem nj_k1c : Cond.code objectInit ⟨#[0xb1]⟩ 1 none ∈ nj_T := nj_in_of nj_k1 _ (by simp)
section NCP
variable {L : Nat} {xs : Nat → Int32} {base : Nat} {ext : Nat → Option Nat} {cA : Nat → ClassId} {D : va_G} {l : Launch}
variable {p : Program} {e : Env} {R : Room} {s : State} {m : MethodId} {args : Array Value} {below : List Frame} {meth : Method} {c : Code} {H : Heap} {locs : List Loc} {cells slots : Nat} {Q : State → Prop} {h : List nC} {pc : Nat} {ls : Array Slot} {st : List Value} {mt : nM} {idx : Nat} {r : List Value × List nC}
theorem nj_s_copy (hCx : nj_Cx base ext cA D L xs mt p s m args meth c) (hls : ls.size = mt.2.2.1) (hst : nj_St base ext cA D s h H locs cells) (hd : decode mt.2.1 pc = .ok (.invokestatic idx, 3)) (hlk : (Cond.methodLink mt.1.cls idx arraycopyName).before args s = true) (hr : nj_copy st h = some r) (hsum : nj_sum r.1 ≤ 8) (hR1 : 1 ≤ R.frames) (hR2 : 64 ≤ R.locals)
    (kk : ∀ (H1 : Heap) (locs1 : List Loc), nj_St base ext cA D s r.2 H1 locs1 cells → W p l e R s m args below meth c H1 locs1 cells slots Q (F0 m (pc + 3) ls (r.1.map (nj_rl base ext)))) : W p l e R s m args below meth c H locs cells slots Q (F0 m pc ls (st.map (nj_rl base ext))) := by
  obtain ⟨hx, hb, hml, hts, hown, hK, hE, -⟩ := hCx
  have hlo : ((r.1.map (nj_rl base ext)).map fun v => v.category).sum + (nativeFrameWords "java/lang/System" "arraycopy" 5 + 11) ≤ R.locals := by
    rw [nj_sum_rl]
    have : nativeFrameWords "java/lang/System" "arraycopy" 5 = 7 := by decide +kernel
    omega
  unfold nj_copy at hr
  split at hr
  · next nn dp q1 sp q0 r0 =>
    split at hr
    · next k0 n0 f k1 n1 g h0 h1 =>
      split at hr
      · next hc =>
        obtain ⟨rfl, rfl, c1, c2, c3, c4, c5⟩ := hc
        cases hr
        have kk2 := nj_wr (g := F0 m (pc + 3) ls (r0.map (nj_rl base ext))) (slots := slots) (p := p) (l := l) (e := e) (R := R) (args := args) (below := below) (meth := meth) (c := c) (m := m) (Q := Q) hst (h1 := h.set q1 (.inl (0, n1, .inl (va_cpy f g sp.toNatClampNeg dp.toNatClampNeg nn.toNatClampNeg)))) (by simp) kk
        rw [← nj_ws_set] at kk2
        exact va_copyi (ty := .int) hx hb (by rw [hml, hls]) hown hlk (hts _ nj_k1n) (hts _ nj_k1s) (hts _ nj_k1i) hK hst.1 (nj_ws_D base ext cA h) (nj_S_rf hst.2.1) q0 q1 0 0 (nj_ws_get h0) (nj_ws_get h1) (nj_tys_at cA (by decide)) (nj_tys_at cA (by decide)) rfl c1 c2 c3 c4 c5 (fun _ _ => rfl) hR1 hlo hd kk2
      · cases hr
    · next k0 n0 f k1 n1 g h0 h1 =>
      split at hr
      · next hc =>
        obtain ⟨rfl, rfl, c1, c2, c3, c4, c5⟩ := hc
        cases hr
        have kk2 := nj_wr (g := F0 m (pc + 3) ls (r0.map (nj_rl base ext))) (slots := slots) (p := p) (l := l) (e := e) (R := R) (args := args) (below := below) (meth := meth) (c := c) (m := m) (Q := Q) hst (h1 := h.set q1 (.inl (3, n1, .inr (.inl (va_cpy f g sp.toNatClampNeg dp.toNatClampNeg nn.toNatClampNeg))))) (by simp) kk
        rw [← nj_ws_set] at kk2
        exact va_copyl (ty := .long) hx hb (by rw [hml, hls]) hown hlk (hts _ nj_k1n) (hts _ nj_k1s) (hts _ nj_k1i) hK hst.1 (nj_ws_D base ext cA h) (nj_S_rf hst.2.1) q0 q1 3 3 (nj_ws_get h0) (nj_ws_get h1) (nj_tys_at cA (by decide)) (nj_tys_at cA (by decide)) rfl c1 c2 c3 c4 c5 (fun _ _ => rfl) hR1 hlo hd kk2
      · cases hr
    · cases hr
  · cases hr
end NCP
theorem nj_sim (M : Nat → Option nM) (hM : ∀ (k : Nat) (mt : nM), M k = some mt → nj_okM M mt) (L : Nat) (xs : Nat → Int32) (base : Nat) (ext : Nat → Option Nat) (cA : Nat → ClassId) (D : va_G) (l : Launch) : ∀ n : Nat, nj_Sim M L xs base ext cA D l n := by
  intro n
  induction n with
  | zero => intro d mt pc lv st h rv h1 mc ms hok hr; cases hr
  | succ n ih =>
    intro d mt pc lv st h rv h1 mc ms hok hr p e R s m args below meth c H locs cells slots Q ls hCx hl hst hR1 hR2 hR3 hR4 kret
    have hCx' := hCx
    obtain ⟨hx, hb, hml, hts, hown, hK, hE, hini⟩ := hCx
    unfold nj_run at hr
    split at hr
    · cases hr
    · next q i a b v pos hf =>
      have hmem := List.mem_of_find?_eq_some hf
      have hpc : q = pc := by
        have := List.find?_some hf
        simpa using this
      subst hpc
      have hoke := hok.2.2.2.2.2 _ hmem
      simp only [nj_oke, Bool.and_eq_true, decide_eq_true_eq] at hoke
      obtain ⟨hd, okm, okn, okc⟩ := hoke
      split at hr
      · next rv0 hret =>
        cases hr
        refine kret H locs q ls i st (by simpa using hst) ?_ hret
        have : nj_len i b = 1 := by
          cases i <;> first | rfl | (exact nomatch (show (none : Option (Option Value)) = some rv from hret))
        rw [this] at hd
        exact hd
      · split at hr
        · next pc1 lv1 st1 hp =>
          exact nj_sim_pure hx hb hl hd hp (fun ls' hl' => ih d mt pc1 lv1 st1 h rv h1 mc ms hok hr p e R s m args below meth c H locs cells slots Q ls' hCx' hl' hst hR1 hR2 hR3 hR4 kret)
        · split at hr
          · next pc1 st1 h2 hm =>
            exact nj_sim_mem hx hb hts hown hK hE hini hst hd okm hm (fun H1 locs1 hst1 => ih d mt pc1 lv st1 h2 rv h1 mc ms hok hr p e R s m args below meth c H1 locs1 cells slots Q ls hCx' hl hst1 hR1 hR2 hR3 hR4 kret)
          · split at hr
            · next pc1 st1 x z hn =>
              split at hr
              · next rv0 h2 mc1 ms1 hr1 =>
                cases hr
                refine nj_sim_new hx hb hts hown hK hE hst hd okn hn (by omega) (by show slots + z ≤ _; omega) (fun H1 locs1 hst1 => ?_)
                refine ih d mt pc1 lv st1 (h ++ [x]) rv h1 mc1 ms1 hok hr1 p e R s m args below meth c H1 locs1 (cells + 1) (slots + z) Q ls hCx' hl hst1 hR1 hR2 (by omega) (by omega) ?_
                intro H2 locs2 pc2 ls2 i2 st2 a1 a2 a3
                have e1 : cells + 1 + mc1 = cells + (mc1 + 1) := by omega
                have e2 : slots + z + ms1 = slots + (ms1 + z) := by omega
                rw [e1] at a1 ⊢
                rw [e2]
                exact kret H2 locs2 pc2 ls2 i2 st2 a1 a2 a3
              · cases hr
            · split at hr
              · cases hr
              · next hinv =>
                have hlen : nj_len i b = 3 := by
                  cases i <;> first | rfl | (exact absurd rfl hinv)
                split at hr
                · next hv4 =>
                  split at hr
                  · next k r _ _ _ _ =>
                    split at hr
                    · next hsum =>
                      have hsp : ∃ idx, i = .invokespecial idx ∧ nj_w pos (.methodLink mt.1.cls idx objectInit) = true := by
                        cases i with
                        | invokespecial idx => simp only [nj_okc, if_pos hv4] at okc; exact ⟨idx, rfl, okc⟩
                        | invokevirtual idx => subst hv4; simp [nj_okc] at okc
                        | invokestatic idx =>
                          subst hv4
                          simp only [nj_okc] at okc
                          cases hMa : M a with
                          | none => rw [hMa] at okc; simp at okc
                          | some mz => rw [hMa] at okc; simp at okc
                        | _ => exact absurd rfl hinv
                      obtain ⟨idx, rfl, hw⟩ := hsp
                      refine W.objInit hx hb hown (hts _ (nj_w_mem hw)) (hts _ nj_k1o) (hts _ nj_k1c) rfl (by rw [hml]; exact hl.1) (a := base + k) (rest := r.map (nj_rl base ext)) rfl hd (by omega) ?_ ?_
                      · show 2 * 0 + _ + 12 ≤ _
                        rw [nj_sum_rl]
                        omega
                      · exact ih d mt (q + 3) lv r h rv h1 mc ms hok hr p e R s m args below meth c H locs cells slots Q ls hCx' hl hst hR1 hR2 hR3 hR4 kret
                    · cases hr
                  · cases hr
                · next hv4 =>
                  split at hr
                  · next hv5 =>
                    split at hr
                    · next r h2 hcp =>
                      split at hr
                      · next hsum =>
                        have hsp : ∃ idx, i = .invokestatic idx ∧ nj_w pos (.methodLink mt.1.cls idx arraycopyName) = true := by
                          cases i with
                          | invokestatic idx => simp only [nj_okc, if_pos hv5] at okc; exact ⟨idx, rfl, okc⟩
                          | invokevirtual idx => subst hv5; simp [nj_okc] at okc
                          | invokespecial idx =>
                            subst hv5
                            simp only [nj_okc] at okc
                            cases hMa : M a with
                            | none => rw [hMa] at okc; simp at okc
                            | some mz => rw [hMa] at okc; simp at okc
                          | _ => exact absurd rfl hinv
                        obtain ⟨idx, rfl, hw⟩ := hsp
                        exact nj_s_copy hCx' hl.1 hst hd (hts _ (nj_w_mem hw)) hcp hsum (by omega) (by omega) (fun H1 locs1 hst1 => ih d mt (q + 3) lv r h2 rv h1 mc ms hok hr p e R s m args below meth c H1 locs1 cells slots Q ls hCx' hl hst1 hR1 hR2 hR3 hR4 kret)
                      · cases hr
                    · cases hr
                  · next hv5 =>
                    split at hr
                    · next d1 mz hMa =>
                      split at hr
                      · next hpass =>
                        split at hr
                        · next rv1 h2 mc1 ms1 hr1 =>
                          split at hr
                          · next rv2 h3 mc2 ms2 hr2 =>
                            cases hr
                            refine nj_call ih hCx' hl.1 hst hd okc hv4 hv5 hMa (hM a mz hMa) hpass hr1 hR1 hR2 (by omega) (by omega) (fun H1 locs1 hst1 => ?_)
                            refine ih (d1 + 1) mt (q + 3) lv (rv1.toList ++ st.drop b) h2 rv h1 mc2 ms2 hok hr2 p e R s m args below meth c H1 locs1 (cells + mc1) (slots + ms1) Q ls hCx' hl hst1 hR1 hR2 (by omega) (by omega) ?_
                            intro H2 locs2 pc2 ls2 i2 st2 a1 a2 a3
                            rw [Nat.add_assoc] at a1 ⊢
                            rw [Nat.add_assoc]
                            exact kret H2 locs2 pc2 ls2 i2 st2 a1 a2 a3
                          · cases hr
                        · cases hr
                      · cases hr
                    · cases hr
