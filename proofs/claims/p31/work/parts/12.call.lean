theorem nj_take_split {st : List Value} {b : Nat} {x : Value} {As : List Value} (h : (st.take b).reverse = x :: As) : st = As.reverse ++ x :: st.drop b := by
  have h1 : st.take b = As.reverse ++ [x] := by
    have := congrArg List.reverse h
    simpa using this
  calc st = st.take b ++ st.drop b := (List.take_append_drop b st).symm
    _ = As.reverse ++ x :: st.drop b := by rw [h1]; simp
theorem nj_desc {o : Option Nat} {b : Nat} (h : o.map (fun d => d + 1) = some b) : ∃ n, o = some n ∧ b = n + 1 := by
  cases o with
  | none => cases h
  | some n => exact ⟨n, rfl, (Option.some.inj h).symm⟩
section NCL
variable {M : Nat → Option nM} {X : nX} {L : Nat} {xs : Nat → Int32} {base : Nat} {ext : Nat → Option Nat} {cA : Nat → ClassId} {D : va_G} {l : Launch} {n : Nat}
variable {p : Program} {e : Env} {R : Room} {s : State} {m : MethodId} {args : Array Value} {below : List Frame} {meth : Method} {c : Code} {H : Heap} {locs : List Loc} {cells slots : Nat} {Q : State → Prop} {h h1 : List nC} {pc : Nat} {ls : Array Slot} {st : List Value} {rv : Option Value} {mc ms : Nat} {mt mz : nM} {d1 a b pos gg g1 : Nat} {v : Int}
theorem nj_call (hXl : ∀ a as h r, X a as h = some r → r.2.1.length = h.length) (hsim : nj_Sim M X L xs base ext cA D l n) (hCx : nj_Cx base ext cA D L xs mt p s m args meth c) (hls : ls.size = mt.2.2.1) (hst : nj_St base ext cA D s h gg H locs cells) {i : Instr} (hd : decode mt.2.1 pc = .ok (i, nj_len i b)) (hok : nj_okc M mt.1.cls i a b v pos = true) (hv4 : ¬ v = 4) (hv5 : ¬ v = 5) (hv6 : ¬ v = 6) (hv7 : ¬ v = 7) (hMa : M a = some mz) (hokz : nj_okM M mz) (hpass : nj_pass mz i b st h = true) (hrun : nj_run M X L xs n d1 mz 0 (lv_args 0 (st.take b).reverse) [] h gg = some (rv, h1, g1, mc, ms))
    (hR1 : d1 + 1 + 1 ≤ R.frames) (hR2 : 64 * (d1 + 1 + 1) ≤ R.locals) (hR3 : cells + mc ≤ R.cells) (hR4 : slots + ms ≤ R.slots)
    (kk : ∀ (H1 : Heap) (locs1 : List Loc), nj_St base ext cA D s h1 g1 H1 locs1 (cells + mc) → W p l e R s m args below meth c H1 locs1 (cells + mc) (slots + ms) Q (F0 m (pc + 3) ls ((rv.toList ++ st.drop b).map (nj_rl base ext)))) : W p l e R s m args below meth c H locs cells slots Q (F0 m pc ls (st.map (nj_rl base ext))) := by
  obtain ⟨hx, hb, hml, hts, hown, hK, hE, -⟩ := hCx
  obtain ⟨z1, z2, z3, z4, z5, z6⟩ := id hokz
  simp only [nj_pass, Bool.and_eq_true, decide_eq_true_eq] at hpass
  obtain ⟨p1, p2, p3, p4⟩ := hpass
  have hmet := nj_met hsim hokz p3 hrun
  have hlen := nj_run_len M X hXl L xs n d1 mz 0 _ [] h gg rv h1 g1 mc ms hrun
  have hws : ∀ w ∈ nj_wsm mz, w ∈ nj_T := fun w hw => (List.mem_cons.mp hw).elim (fun q => by rw [q]; exact z2) (fun q => q)
  have hsum : (((st.drop b).map (nj_rl base ext)).map fun v => v.category).sum ≤ 8 := by rw [nj_sum_rl]; exact p2
  have hlas : (st.take b).reverse.length = b := by simp; omega
  have hroom : (nj_rm d1 mc ms).frames + 1 ≤ R.frames ∧ 8 + (mz.2.2.1 + 11) + (nj_rm d1 mc ms).locals ≤ R.locals := by
    refine ⟨hR1, ?_⟩
    show 8 + (mz.2.2.1 + 11) + 64 * (d1 + 1) ≤ R.locals
    omega
  have kk2 : ∀ (H1 : Heap) (locs1 : List Loc), nj_St base ext cA D s h1 g1 H1 locs1 (cells + mc) → W p l e R s m args below meth c H1 locs1 (cells + mc) (slots + ms) Q (F0 m (pc + 3) ls ((rv.map (nj_rl base ext)).toList ++ (st.drop b).map (nj_rl base ext))) := by
    intro H1 locs1 hs1
    have := kk H1 locs1 hs1
    rw [List.map_append] at this
    have e1 : (rv.map (nj_rl base ext)).toList = rv.toList.map (nj_rl base ext) := by cases rv <;> rfl
    rw [e1]
    exact this
  have hini : ∀ w ∈ nj_T, w.before args s = true := hts
  cases i with
  | invokevirtual idx =>
    simp only [nj_okc, hMa, Bool.and_eq_true, decide_eq_true_eq] at hok
    obtain ⟨-, o1, o2, o3, o4⟩ := hok
    have o4' : ((parseMethodDescriptor mz.1.desc).map (fun d => d.parameters.length)).map (fun d => d + 1) = some b := by simpa [Option.map_map, Function.comp] using o4
    obtain ⟨np, hnp, hbn⟩ := nj_desc o4'
    have hG : GoodIn nj_T (wsV mt.1.cls idx mz.1.cls mz.1 (nj_wsm mz)) := nj_T_good (fun w hw => by
      simp only [wsV, List.mem_append, List.mem_cons, List.not_mem_nil, or_false] at hw
      rcases hw with (rfl | rfl | rfl | rfl) | (rfl | hw)
      · exact nj_w_mem o1
      · exact nj_w_mem o2
      · exact nj_w_mem o3
      · exact z4
      · exact z2
      · exact hw)
    have go : ∀ (x : Value) (As : List Value) (ad : Nat), (st.take b).reverse = x :: As → nj_rl base ext x = .ref ad → (∃ cell : Cell, H[ad]? = some cell ∧ cell.vm.isStatics = false ∧ s.vm.findClass mz.1.cls = some cell.cls) → W p l e R s m args below meth c H locs cells slots Q (F0 m pc ls (st.map (nj_rl base ext))) := by
      intro x As ad hAs hrx hrc
      rw [hAs] at hmet
      simp only [List.map_cons, hrx] at hmet
      have hstk : st.map (nj_rl base ext) = (As.map (nj_rl base ext)).reverse ++ .ref ad :: (st.drop b).map (nj_rl base ext) := by
        have := congrArg (List.map (nj_rl base ext)) (nj_take_split hAs)
        rw [List.map_append, List.map_cons, hrx] at this
        rw [this, List.map_reverse]
      exact nj_goon (va_runV (C := mz.1.cls) (b := ad) (As := As.map (nj_rl base ext)) (rest := (st.drop b).map (nj_rl base ext)) ⟨hx, hb, hml, hown, hts⟩ hmet (cwV np hts hG rfl rfl rfl ⟨rfl, z3.1, z3.2, hnp⟩ hroom) ⟨nj_blind, hrc, fun U hU hW => ⟨rfl, nj_pre hK hE hst U hU hW⟩⟩ rfl (by rw [hAs] at hlas; simp at hlas ⊢; omega) hls hstk (lv_room hsum) hd ⟨hR3, hR4⟩) hst hlen kk2
    have p4 : nj_recv mz (st.take b).reverse h = true := p4
    unfold nj_recv at p4
    split at p4
    · next q As hAs =>
      split at p4
      · next ci fs hq =>
        have hcl := of_decide_eq_true p4
        obtain ⟨z, hz, hz1⟩ := Option.map_eq_some_iff.mp hcl
        have hrc := va_recv hK hst.1 hz (nj_ws_get hq)
        rw [hz1] at hrc
        exact go (.ref q) As (base + q) hAs rfl hrc
      · cases p4
    · next j As hAs =>
      simp only [Bool.and_eq_true, decide_eq_true_eq] at p4
      obtain ⟨rfl, hcls⟩ := p4
      obtain ⟨-, -, -, ⟨x2, x3, c1, c2, c3, c4, -⟩, -⟩ := id hE
      obtain ⟨cell, g1, g2, g3, -⟩ := c4.kept hst.2.1.2.1
      exact go (.retAddr 2) As x2 hAs (by show va_rf (ext 2) = _; rw [c1]; rfl) ⟨cell, g1, g2, by rw [hcls]; exact g3⟩
    · cases p4
  | invokespecial idx =>
    simp only [nj_okc, hMa, if_neg hv4, Bool.and_eq_true, decide_eq_true_eq] at hok
    obtain ⟨⟨o2, o3, o5, o4⟩, o1⟩ := hok
    have o4' : ((parseMethodDescriptor mz.1.desc).map (fun d => d.parameters.length)).map (fun d => d + 1) = some b := by simpa [Option.map_map, Function.comp] using o4
    obtain ⟨np, hnp, hbn⟩ := nj_desc o4'
    have hp4 : nj_isref (st.take b).reverse = true := p4
    unfold nj_isref at hp4
    split at hp4
    · next q As hAs =>
      rw [hAs] at hmet
      have hstk : st.map (nj_rl base ext) = (As.map (nj_rl base ext)).reverse ++ .ref (base + q) :: (st.drop b).map (nj_rl base ext) := by
        have := congrArg (List.map (nj_rl base ext)) (nj_take_split hAs)
        rw [List.map_append, List.map_cons] at this
        rw [this, List.map_reverse]
        rfl
      have hlA : (As.map (nj_rl base ext)).length = np := by rw [hAs] at hlas; simp at hlas ⊢; omega
      split at o1
      · exact nj_goon (va_runI (b := base + q) (As := As.map (nj_rl base ext)) (rest := (st.drop b).map (nj_rl base ext)) ⟨hx, hb, hml, hown, hts⟩ hmet (cwI np hts (nj_T_good hws) (by rw [nj_wsm, o5]) rfl rfl (hts _ z4) (hts _ (nj_w_mem o1)) (hts _ (nj_w_mem o2)) o3 ⟨z3.1, z3.2, hnp⟩ hroom) ⟨nj_blind, fun U hU hW => ⟨rfl, nj_pre hK hE hst U hU hW⟩⟩ rfl hlA hls hstk (lv_room hsum) hd ⟨hR3, hR4⟩) hst hlen kk2
      · simp only [Bool.and_eq_true, decide_eq_true_eq] at o1
        exact nj_goon (va_runIN (host := RX8) (b := base + q) (As := As.map (nj_rl base ext)) (rest := (st.drop b).map (nj_rl base ext)) ⟨hx, hb, hml, hown, hts⟩ hmet ⟨va_cnB np hts (nj_T_good hws) (by rw [nj_wsm, o5]) rfl rfl (hE.1 _ o1.2) (hts _ z4) ⟨z3.1, z3.2, hnp⟩ hroom, o3, hts _ (nj_w_mem o2)⟩ ⟨nj_blind, fun U hU hW => ⟨rfl, nj_pre hK hE hst U hU hW⟩⟩ rfl hlA hls hstk (lv_room hsum) hd ⟨hR3, hR4⟩) hst hlen kk2
    · cases hp4
  | invokestatic idx =>
    simp only [nj_okc, hMa, if_neg hv5, if_neg hv6, if_neg hv7, Bool.and_eq_true, decide_eq_true_eq] at hok
    obtain ⟨-, o1, o2, o4⟩ := hok
    have hG : GoodIn nj_T (va_wsS mt.1.cls idx mz.1 (nj_wsm mz)) := nj_T_good (fun w hw => by
      simp only [va_wsS, List.mem_append, List.mem_cons, List.not_mem_nil, or_false] at hw
      rcases hw with (rfl | rfl | rfl) | (rfl | hw)
      · exact nj_w_mem o1
      · exact nj_w_mem o2
      · exact z4
      · exact z2
      · exact hw)
    have hstk : st.map (nj_rl base ext) = ((st.take b).reverse.map (nj_rl base ext)).reverse ++ (st.drop b).map (nj_rl base ext) := by
      rw [List.map_reverse, List.reverse_reverse, ← List.map_append, List.take_append_drop]
    exact nj_goon (va_runS (As := (st.take b).reverse.map (nj_rl base ext)) (rest := (st.drop b).map (nj_rl base ext)) ⟨hx, hb, hml, hown, hts⟩ hmet (va_cwS b hts hG rfl rfl rfl ⟨z3.1, z3.2, o4⟩ hroom) ⟨nj_blind, fun U hU hW => ⟨rfl, nj_pre hK hE hst U hU hW⟩⟩ rfl (by simp; omega) hls hstk (lv_room hsum) hd ⟨hR3, hR4⟩) hst hlen kk2
  | _ => exact nomatch (show false = true from p4)
end NCL
