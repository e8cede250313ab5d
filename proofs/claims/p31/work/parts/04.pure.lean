theorem nj_ldi_inv {lv : nLv} {pc k : Nat} {st : List Value} {r : Nat × nLv × List Value} (h : nj_ldi lv pc k st = some r) : ∃ x : Int32, nj_get lv k = some (.int x) ∧ r = (pc, lv, .int x :: st) := by
  unfold nj_ldi at h
  split at h
  · next x hx => exact ⟨x, hx, (Option.some.inj h).symm⟩
  · cases h
theorem nj_ldl_inv {lv : nLv} {pc k : Nat} {st : List Value} {r : Nat × nLv × List Value} (h : nj_ldl lv pc k st = some r) : ∃ x : Int64, nj_get lv k = some (.long x) ∧ r = (pc, lv, .long x :: st) := by
  unfold nj_ldl at h
  split at h
  · next x hx => exact ⟨x, hx, (Option.some.inj h).symm⟩
  · cases h
theorem nj_rl_ext (base : Nat) (ext : Nat → Option Nat) (j : Nat) : (∃ x, nj_rl base ext (.retAddr j) = .ref x) ∨ nj_rl base ext (.retAddr j) = .null := by
  show (∃ x, va_rf (ext j) = .ref x) ∨ va_rf (ext j) = .null
  cases ext j with
  | none => exact Or.inr rfl
  | some x => exact Or.inl ⟨x, rfl⟩
theorem nj_lda_inv {lv : nLv} {pc k : Nat} {st : List Value} {r : Nat × nLv × List Value} (base : Nat) (ext : Nat → Option Nat) (h : nj_lda lv pc k st = some r) : ∃ v : Value, nj_get lv k = some v ∧ ((∃ x, nj_rl base ext v = .ref x) ∨ nj_rl base ext v = .null) ∧ r = (pc, lv, v :: st) := by
  unfold nj_lda at h
  split at h
  · next x hx => exact ⟨.ref x, hx, Or.inl ⟨base + x, rfl⟩, (Option.some.inj h).symm⟩
  · next x hx => exact ⟨.retAddr x, hx, nj_rl_ext base ext x, (Option.some.inj h).symm⟩
  · cases h
theorem nj_sti_inv {lv : nLv} {mL pc k : Nat} {st : List Value} {r : Nat × nLv × List Value} (h : nj_sti lv mL pc k st = some r) : ∃ (x : Int32) (t : List Value), st = .int x :: t ∧ k < mL ∧ r = (pc, nj_put lv k (.int x), t) := by
  unfold nj_sti at h
  split at h
  · next x t =>
    split at h
    · next hk => exact ⟨x, t, rfl, hk, (Option.some.inj h).symm⟩
    · cases h
  · cases h
theorem nj_stl_inv {lv : nLv} {mL pc k : Nat} {st : List Value} {r : Nat × nLv × List Value} (h : nj_stl lv mL pc k st = some r) : ∃ (x : Int64) (t : List Value), st = .long x :: t ∧ k + 1 < mL ∧ r = (pc, nj_put2 lv k (.long x), t) := by
  unfold nj_stl at h
  split at h
  · next x t =>
    split at h
    · next hk => exact ⟨x, t, rfl, hk, (Option.some.inj h).symm⟩
    · cases h
  · cases h
theorem nj_sta_inv {lv : nLv} {mL pc k : Nat} {st : List Value} {r : Nat × nLv × List Value} (base : Nat) (ext : Nat → Option Nat) (h : nj_sta lv mL pc k st = some r) : ∃ (v : Value) (t : List Value), st = v :: t ∧ ((∃ x, nj_rl base ext v = .ref x) ∨ nj_rl base ext v = .null) ∧ k < mL ∧ r = (pc, nj_put lv k v, t) := by
  unfold nj_sta at h
  split at h
  · next x t =>
    split at h
    · next hk => exact ⟨.ref x, t, rfl, Or.inl ⟨base + x, rfl⟩, hk, (Option.some.inj h).symm⟩
    · cases h
  · next x t =>
    split at h
    · next hk => exact ⟨.retAddr x, t, rfl, nj_rl_ext base ext x, hk, (Option.some.inj h).symm⟩
    · cases h
  · cases h
theorem nj_b2_inv {f : Int32 → Int32 → Int32} {lv : nLv} {pc : Nat} {st : List Value} {r : Nat × nLv × List Value} (h : nj_b2 f lv pc st = some r) : ∃ (x y : Int32) (t : List Value), st = .int y :: .int x :: t ∧ r = (pc + 1, lv, .int (f x y) :: t) := by
  unfold nj_b2 at h
  split at h
  · next y x t => exact ⟨x, y, t, rfl, (Option.some.inj h).symm⟩
  · cases h
theorem nj_l2_inv {f : Int64 → Int64 → Int64} {lv : nLv} {pc : Nat} {st : List Value} {r : Nat × nLv × List Value} (h : nj_l2 f lv pc st = some r) : ∃ (x y : Int64) (t : List Value), st = .long y :: .long x :: t ∧ r = (pc + 1, lv, .long (f x y) :: t) := by
  unfold nj_l2 at h
  split at h
  · next y x t => exact ⟨x, y, t, rfl, (Option.some.inj h).symm⟩
  · cases h
theorem nj_i1_inv {f : Int32 → Int32} {lv : nLv} {pc : Nat} {st : List Value} {r : Nat × nLv × List Value} (h : nj_i1 f lv pc st = some r) : ∃ (x : Int32) (t : List Value), st = .int x :: t ∧ r = (pc + 1, lv, .int (f x) :: t) := by
  unfold nj_i1 at h
  split at h
  · next x t => exact ⟨x, t, rfl, (Option.some.inj h).symm⟩
  · cases h
theorem nj_go_inv {pc : Nat} {off : Int} {lv : nLv} {st : List Value} {r : Nat × nLv × List Value} (h : nj_go pc off lv st = some r) : (pc : Int) + off = (r.1 : Int) ∧ r.2.1 = lv ∧ r.2.2 = st := by
  unfold nj_go at h
  split at h
  · next hk =>
    cases h
    exact ⟨by show _ = ((((pc : Int) + off).toNat : Nat) : Int); omega, rfl, rfl⟩
  · cases h
section NSP
variable {p : Program} {l : Launch} {e : Env} {R : Room} {s : State} {m : MethodId} {args : Array Value} {below : List Frame} {meth : Method} {c : Code} {H : Heap} {locs : List Loc} {cells slots : Nat} {Q : State → Prop} {cc : ByteArray} {pc mL b : Nat} {lv : nLv} {st : List Value} {ls : Array Slot} {base : Nat} {ext : Nat → Option Nat}
theorem nj_sim_go {off : Int} {r : Nat × nLv × List Value} (h : nj_go pc off lv st = some r) (hl : lv_has ls mL (nj_rlv base ext lv)) (kk : ∀ ls', lv_has ls' mL (nj_rlv base ext r.2.1) → W p l e R s m args below meth c H locs cells slots Q (F0 m r.1 ls' (r.2.2.map (nj_rl base ext)))) : ∃ tgt : Nat, (pc : Int) + off = (tgt : Int) ∧ W p l e R s m args below meth c H locs cells slots Q (F0 m tgt ls (st.map (nj_rl base ext))) := by
  obtain ⟨h1, h2, h3⟩ := nj_go_inv h
  refine ⟨r.1, h1, ?_⟩
  have := kk ls (by rw [h2]; exact hl)
  rw [h3] at this
  exact this
theorem nj_sim_br {off : Int} {cb : Bool} {r : Nat × nLv × List Value} (h : nj_br pc off cb lv st = some r) (hl : lv_has ls mL (nj_rlv base ext lv)) (kk : ∀ ls', lv_has ls' mL (nj_rlv base ext r.2.1) → W p l e R s m args below meth c H locs cells slots Q (F0 m r.1 ls' (r.2.2.map (nj_rl base ext)))) : ∃ tgt : Nat, (pc : Int) + off = (tgt : Int) ∧ (cb = true → W p l e R s m args below meth c H locs cells slots Q (F0 m tgt ls (st.map (nj_rl base ext)))) ∧ (cb = false → W p l e R s m args below meth c H locs cells slots Q (F0 m (pc + 3) ls (st.map (nj_rl base ext)))) := by
  unfold nj_br at h
  split at h
  · next hk =>
    refine ⟨((pc : Int) + off).toNat, by omega, fun hc => ?_, fun hc => ?_⟩
    · rw [if_pos hc] at h
      cases h
      exact kk ls hl
    · rw [if_neg (by rw [hc]; decide)] at h
      cases h
      exact kk ls hl
  · cases h
theorem nj_W_if (hx : p.tables.exec = Jvm.exec) (hb : c.code = cc) {cd : Jvm.ClassFile.Cond} {off : Int} (hd : decode cc pc = .ok (.ifCond cd off, 3)) {x : Int32} {rest : List Value} {tgt : Nat} (h2 : (pc : Int) + off = (tgt : Int)) (kt : nj_cmp cd x 0 = true → W p l e R s m args below meth c H locs cells slots Q (F0 m tgt ls rest)) (kf : nj_cmp cd x 0 = false → W p l e R s m args below meth c H locs cells slots Q (F0 m (pc + 3) ls rest)) : W p l e R s m args below meth c H locs cells slots Q (F0 m pc ls (.int x :: rest)) := by
  cases cd <;> simp only [nj_cmp, decide_eq_true_eq, decide_eq_false_iff_not] at kt kf
  · exact lv_if_eq hx hb hd h2 kt kf
  · exact lv_if_ne hx hb hd h2 kt (fun q => kf (fun z => z q))
  · exact lv_if_lt hx hb hd h2 kt kf
  · exact lv_if_ge hx hb hd h2 kt kf
  · exact lv_if_gt hx hb hd h2 kt kf
  · exact lv_if_le hx hb hd h2 kt kf
theorem nj_W_icmp (hx : p.tables.exec = Jvm.exec) (hb : c.code = cc) {cd : Jvm.ClassFile.Cond} {off : Int} (hd : decode cc pc = .ok (.if_icmp cd off, 3)) {x y : Int32} {rest : List Value} {tgt : Nat} (h2 : (pc : Int) + off = (tgt : Int)) (kt : nj_cmp cd x y = true → W p l e R s m args below meth c H locs cells slots Q (F0 m tgt ls rest)) (kf : nj_cmp cd x y = false → W p l e R s m args below meth c H locs cells slots Q (F0 m (pc + 3) ls rest)) : W p l e R s m args below meth c H locs cells slots Q (F0 m pc ls (.int y :: .int x :: rest)) := by
  cases cd <;> simp only [nj_cmp, decide_eq_true_eq, decide_eq_false_iff_not] at kt kf
  · exact lv_icmp_eq hx hb hd h2 kt kf
  · exact lv_icmp_ne hx hb hd h2 kt (fun q => kf (fun z => z q))
  · exact lv_icmp_lt hx hb hd h2 kt kf
  · exact lv_icmp_ge hx hb hd h2 kt kf
  · exact lv_icmp_gt hx hb hd h2 kt kf
  · exact lv_icmp_le hx hb hd h2 kt kf
set_option maxHeartbeats 4000000 in
theorem nj_sim_pure (hx : p.tables.exec = Jvm.exec) (hb : c.code = cc) (hl : lv_has ls mL (nj_rlv base ext lv)) {i : Instr} (hd : decode cc pc = .ok (i, nj_len i b)) {r : Nat × nLv × List Value} (h : nj_pure lv mL pc st i = some r)
    (kk : ∀ ls', lv_has ls' mL (nj_rlv base ext r.2.1) → W p l e R s m args below meth c H locs cells slots Q (F0 m r.1 ls' (r.2.2.map (nj_rl base ext)))) : W p l e R s m args below meth c H locs cells slots Q (F0 m pc ls (st.map (nj_rl base ext))) := by
  cases i with
  | iconst n => cases h; exact lv_iconst hx hb hd rfl (kk ls hl)
  | bipush n => cases h; exact lv_bipush hx hb hd rfl (kk ls hl)
  | sipush n => cases h; exact lv_sipush hx hb hd rfl (kk ls hl)
  | lconst n => cases h; exact lv_lconst hx hb hd rfl (kk ls hl)
  | iload_n k =>
    obtain ⟨x, h1, rfl⟩ := nj_ldi_inv h
    exact lv_iload_n hx hb hd rfl (nj_get_at hl h1) (kk ls hl)
  | iload k =>
    obtain ⟨x, h1, rfl⟩ := nj_ldi_inv h
    exact lv_iload hx hb hd (nj_get_at hl h1) (kk ls hl)
  | lload_n k =>
    obtain ⟨x, h1, rfl⟩ := nj_ldl_inv h
    exact lv_lload_n hx hb hd rfl (nj_get_at hl h1) (kk ls hl)
  | lload k =>
    obtain ⟨x, h1, rfl⟩ := nj_ldl_inv h
    exact lv_lload hx hb hd (nj_get_at hl h1) (kk ls hl)
  | aload_n k =>
    obtain ⟨v, h1, h2, rfl⟩ := nj_lda_inv base ext h
    have h3 := nj_get_at hl h1
    have h4 := kk ls hl
    simp only [List.map_cons] at h4
    rcases h2 with ⟨x, h2⟩ | h2
    · rw [h2] at h3 h4
      exact lv_aload_n hx hb hd rfl h3 h4
    · rw [h2] at h3 h4
      exact lv_aload_nN hx hb hd rfl h3 h4
  | aload k =>
    obtain ⟨v, h1, h2, rfl⟩ := nj_lda_inv base ext h
    have h3 := nj_get_at hl h1
    have h4 := kk ls hl
    simp only [List.map_cons] at h4
    rcases h2 with ⟨x, h2⟩ | h2
    · rw [h2] at h3 h4
      exact lv_aload hx hb hd h3 h4
    · rw [h2] at h3 h4
      exact lv_aloadN hx hb hd h3 h4
  | istore_n k =>
    obtain ⟨x, t, rfl, h1, rfl⟩ := nj_sti_inv h
    exact lv_istore_n hx hb hd rfl hl h1 (nj_put_rl base ext lv k (.int x)) kk
  | istore k =>
    obtain ⟨x, t, rfl, h1, rfl⟩ := nj_sti_inv h
    exact lv_istore hx hb hd hl h1 (nj_put_rl base ext lv k (.int x)) kk
  | lstore_n k =>
    obtain ⟨x, t, rfl, h1, rfl⟩ := nj_stl_inv h
    exact lv_lstore_n hx hb hd rfl hl h1 (nj_put2_rl base ext lv k (.long x)) kk
  | lstore k =>
    obtain ⟨x, t, rfl, h1, rfl⟩ := nj_stl_inv h
    exact lv_lstore hx hb hd hl h1 (nj_put2_rl base ext lv k (.long x)) kk
  | astore_n k =>
    obtain ⟨v, t, rfl, h2, h1, rfl⟩ := nj_sta_inv base ext h
    have h5 := nj_put_rl base ext lv k v
    simp only [List.map_cons]
    rcases h2 with ⟨x, h2⟩ | h2
    · rw [h2] at h5 ⊢
      exact lv_astore_n hx hb hd rfl hl h1 h5 kk
    · rw [h2] at h5 ⊢
      exact lv_astore_nN hx hb hd rfl hl h1 h5 kk
  | astore k =>
    obtain ⟨v, t, rfl, h2, h1, rfl⟩ := nj_sta_inv base ext h
    have h5 := nj_put_rl base ext lv k v
    simp only [List.map_cons]
    rcases h2 with ⟨x, h2⟩ | h2
    · rw [h2] at h5 ⊢
      exact lv_astore hx hb hd hl h1 h5 kk
    · rw [h2] at h5 ⊢
      exact lv_astoreN hx hb hd hl h1 h5 kk
  | iinc k n =>
    simp only [nj_pure] at h
    split at h
    · next x h1 =>
      split at h
      · next h2 =>
        cases h
        have h3 : (k, nj_rl base ext (.int x)) ∈ nj_rlv base ext lv := List.mem_map.mpr ⟨(k, .int x), nj_get_mem h1, rfl⟩
        obtain ⟨j, hj⟩ := List.getElem?_of_mem h3
        exact lv_iinc (v := x + Int32.ofInt n) hx hb hd hl hj rfl h2 (nj_put_rl base ext lv k (.int (x + Int32.ofInt n))) kk
      · cases h
    · cases h
  | iadd => obtain ⟨x, y, t, rfl, rfl⟩ := nj_b2_inv h; exact lv_iadd hx hb hd (kk ls hl)
  | isub => obtain ⟨x, y, t, rfl, rfl⟩ := nj_b2_inv h; exact lv_isub hx hb hd (kk ls hl)
  | imul => obtain ⟨x, y, t, rfl, rfl⟩ := nj_b2_inv h; exact lv_imul hx hb hd (kk ls hl)
  | iand => obtain ⟨x, y, t, rfl, rfl⟩ := nj_b2_inv h; exact lv_iand hx hb hd (kk ls hl)
  | ior => obtain ⟨x, y, t, rfl, rfl⟩ := nj_b2_inv h; exact lv_ior hx hb hd (kk ls hl)
  | ixor => obtain ⟨x, y, t, rfl, rfl⟩ := nj_b2_inv h; exact lv_ixor hx hb hd (kk ls hl)
  | ishl => obtain ⟨x, y, t, rfl, rfl⟩ := nj_b2_inv h; exact lv_ishl hx hb hd (kk ls hl)
  | ishr => obtain ⟨x, y, t, rfl, rfl⟩ := nj_b2_inv h; exact lv_ishr hx hb hd (kk ls hl)
  | iushr => obtain ⟨x, y, t, rfl, rfl⟩ := nj_b2_inv h; exact lv_iushr hx hb hd rfl (kk ls hl)
  | irem =>
    simp only [nj_pure] at h
    split at h
    · split at h
      · cases h
      · next h2 => cases h; exact lv_irem hx hb hd h2 (kk ls hl)
    · cases h
  | ladd => obtain ⟨x, y, t, rfl, rfl⟩ := nj_l2_inv h; exact lv_ladd hx hb hd (kk ls hl)
  | lsub => obtain ⟨x, y, t, rfl, rfl⟩ := nj_l2_inv h; exact lv_lsub hx hb hd (kk ls hl)
  | lmul => obtain ⟨x, y, t, rfl, rfl⟩ := nj_l2_inv h; exact lv_lmul hx hb hd (kk ls hl)
  | lor => obtain ⟨x, y, t, rfl, rfl⟩ := nj_l2_inv h; exact lv_lor hx hb hd (kk ls hl)
  | lshl =>
    simp only [nj_pure] at h
    split at h
    · cases h; exact lv_lshl hx hb hd rfl (kk ls hl)
    · cases h
  | lcmp =>
    simp only [nj_pure] at h
    split at h
    · cases h; exact W.lcmp hx hb hd (kk ls hl)
    · cases h
  | i2l =>
    simp only [nj_pure] at h
    split at h
    · cases h; exact lv_i2l hx hb hd rfl (kk ls hl)
    · cases h
  | l2i =>
    simp only [nj_pure] at h
    split at h
    · cases h; exact lv_l2i hx hb hd rfl (kk ls hl)
    · cases h
  | i2b => obtain ⟨x, t, rfl, rfl⟩ := nj_i1_inv h; exact lv_i2b hx hb hd rfl (kk ls hl)
  | i2c => obtain ⟨x, t, rfl, rfl⟩ := nj_i1_inv h; exact lv_i2c hx hb hd rfl (kk ls hl)
  | dup =>
    simp only [nj_pure] at h
    split at h
    · split at h
      · next h2 => cases h; exact lv_dup hx hb hd (by rw [nj_rl_cat]; exact h2) (kk ls hl)
      · cases h
    · cases h
  | pop =>
    simp only [nj_pure] at h
    split at h
    · split at h
      · next h2 => cases h; exact lv_pop hx hb hd (by rw [nj_rl_cat]; exact h2) (kk ls hl)
      · cases h
    · cases h
  | dup2 =>
    simp only [nj_pure] at h
    split at h
    · split at h
      · next h2 => cases h; exact lv_dup2_11 hx hb hd (by rw [nj_rl_cat]; exact h2.1) (by rw [nj_rl_cat]; exact h2.2) (kk ls hl)
      · cases h
    · cases h
  | ifCond cd off =>
    simp only [nj_pure] at h
    split at h
    · obtain ⟨tgt, h2, kt, kf⟩ := nj_sim_br h hl kk
      exact nj_W_if hx hb hd h2 kt kf
    · cases h
  | if_icmp cd off =>
    simp only [nj_pure] at h
    split at h
    · obtain ⟨tgt, h2, kt, kf⟩ := nj_sim_br h hl kk
      exact nj_W_icmp hx hb hd h2 kt kf
    · cases h
  | goto off =>
    obtain ⟨tgt, h2, k⟩ := nj_sim_go h hl kk
    exact lv_goto hx hb hd h2 k
  | tableswitch d lo hi offs =>
    simp only [nj_pure] at h
    split at h
    · next x t =>
      unfold nj_tab at h
      split at h
      · next hc =>
        obtain ⟨tgt, h2, k⟩ := nj_sim_go h hl kk
        exact lv_tableOut hx hb hd hc h2 k
      · next hc =>
        split at h
        · next o ho =>
          obtain ⟨tgt, h2, k⟩ := nj_sim_go h hl kk
          exact lv_tableIn hx hb hd (fun q => hc (Or.inl q)) (fun q => hc (Or.inr q)) ho h2 k
        · cases h
    · cases h
  | lookupswitch d ps =>
    simp only [nj_pure] at h
    split at h
    · next x t =>
      split at h
      · next hc =>
        obtain ⟨tgt, h2, k⟩ := nj_sim_go h hl kk
        exact lv_lookup hx hb hd hc rfl h2 k
      · cases h
    · cases h
  | _ => exact nomatch (show (none : Option (Nat × nLv × List Value)) = some r from h)
end NSP
