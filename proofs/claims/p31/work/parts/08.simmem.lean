section NSM
variable {p : Program} {l : Launch} {e : Env} {R : Room} {s : State} {m : MethodId} {args : Array Value} {below : List Frame} {meth : Method} {c : Code} {H : Heap} {locs : List Loc} {cells slots : Nat} {Q : State → Prop} {cc : ByteArray} {pc : Nat} {ls : Array Slot} {base : Nat} {ext : Nat → Option Nat} {cA : Nat → ClassId} {D : va_G} {h : List nC} {st : List Value} {own : String} {L : Nat} {xs : Nat → Int32} {ini : Bool} {a b pos : Nat} {v : Int} {r : Nat × List Value × List nC} {gg : Nat}
theorem nj_obj_cl {q ci : Nat} {fs : List Value} (hst : nj_St base ext cA D s h gg H locs cells) (hq : h[q]? = some (.inr (ci, fs))) : ∃ z : vw_C, nj_cl[ci]? = some z := by
  obtain ⟨z, h1, -⟩ := hst.1 q _ (nj_ws_get hq)
  exact ⟨z, h1⟩
theorem nj_s_getf (hx : p.tables.exec = Jvm.exec) (hb : c.code = cc) (hts : ∀ w ∈ nj_T, w.before args s = true) (hown : s.vm.findClass own = some m.cls) (hK : va_K D nj_cl (nj_tys cA) s) (hE : nj_Env base ext L xs s) (hst : nj_St base ext cA D s h gg H locs cells) {idx : Nat} (hd : decode cc pc = .ok (.getfield idx, 3)) (hok : nj_okm own (.getfield idx) a b v pos = true) (hr : nj_getf pc a b st h = some r) (kk : ∀ H1 locs1, nj_St base ext cA D s r.2.2 gg H1 locs1 cells → W p l e R s m args below meth c H1 locs1 cells slots Q (F0 m r.1 ls (r.2.1.map (nj_rl base ext)))) : W p l e R s m args below meth c H locs cells slots Q (F0 m pc ls (st.map (nj_rl base ext))) := by
  unfold nj_getf at hr
  split at hr
  · next q r0 =>
    split at hr
    · next ci fs hq =>
      split at hr
      · next hci =>
        subst hci
        split at hr
        · next x hfx =>
          cases hr
          obtain ⟨z, hz⟩ := nj_obj_cl hst hq
          obtain ⟨k1, k2, k3⟩ := nj_cl_ok hz
          simp only [nj_okm] at hok
          split at hok
          · next h100 => rw [h100] at hz; simp [nj_cl] at hz
          · rw [hz] at hok
            simp only [Bool.and_eq_true, decide_eq_true_eq] at hok
            exact va_get (C := z.1) (T := z.2.1) (N := z.2.2) hx hb hts k1 hown hK hst.1 q (nj_ws_get hq) hz b hok.1 (hts _ (nj_w_mem hok.2)) (fun _ w => w) (v := nj_rl base ext x) (by rw [List.getElem?_map, hfx]; rfl) hd (kk H locs hst)
        · cases hr
      · cases hr
    · cases hr
  · next j r0 =>
    split at hr
    · next hj =>
      obtain ⟨rfl, rfl⟩ := hj
      obtain ⟨-, -, -, ⟨x2, x3, c1, c2, c3, c4, c5, c6, c7⟩, -⟩ := hE
      have e2 : nj_rl base ext (.retAddr 2) = .ref x2 := by show va_rf (ext 2) = _; rw [c1]; rfl
      simp only [List.map_cons, e2]
      simp only [nj_okm] at hok
      rw [if_pos trivial] at hok
      split at hr
      · next hb0 =>
        cases hr
        rw [if_pos hb0] at hok
        exact vk_getf hx hb c5 hst.2.1 hown (hts _ (nj_w_mem hok)) (fun _ w => w) hd (kk H locs hst)
      · next hb0 =>
        cases hr
        rw [if_neg hb0] at hok
        have e3 : nj_rl base ext (.retAddr 3) = .ref x3 := by show va_rf (ext 3) = _; rw [c2]; rfl
        have k := kk H locs hst
        simp only [List.map_cons, e3] at k
        exact vk_getf hx hb c6 hst.2.1 hown (hts _ (nj_w_mem hok)) (fun _ w => w) hd k
    · cases hr
  · cases hr
theorem nj_s_putf (hx : p.tables.exec = Jvm.exec) (hb : c.code = cc) (hts : ∀ w ∈ nj_T, w.before args s = true) (hown : s.vm.findClass own = some m.cls) (hK : va_K D nj_cl (nj_tys cA) s) (hini : ini = true → meth.name = "<init>") (hst : nj_St base ext cA D s h gg H locs cells) {idx : Nat} (hd : decode cc pc = .ok (.putfield idx, 3)) (hok : nj_okm own (.putfield idx) a b v pos = true) (hr : nj_putf ini pc a b v st h = some r) (kk : ∀ H1 locs1, nj_St base ext cA D s r.2.2 gg H1 locs1 cells → W p l e R s m args below meth c H1 locs1 cells slots Q (F0 m r.1 ls (r.2.1.map (nj_rl base ext)))) : W p l e R s m args below meth c H locs cells slots Q (F0 m pc ls (st.map (nj_rl base ext))) := by
  unfold nj_putf at hr
  split at hr
  · next x q r0 =>
    split at hr
    · next ci fs hq =>
      split at hr
      · next hc =>
        obtain ⟨rfl, hb1, hfit, hfin⟩ := hc
        cases hr
        obtain ⟨z, hz⟩ := nj_obj_cl hst hq
        obtain ⟨k1, k2, k3⟩ := nj_cl_ok hz
        simp only [nj_okm] at hok
        rw [hz] at hok
        simp only [Bool.and_eq_true, decide_eq_true_eq] at hok
        obtain ⟨o1, o2, o3⟩ := hok
        obtain ⟨f1, f2⟩ := nj_fit_ok base ext hfit
        have hset : (nj_ws base ext cA h).set q (base + q, .inr (ci, (fs.map (nj_rl base ext)).set b (nj_rl base ext x))) = nj_ws base ext cA (h.set q (.inr (ci, fs.set b x))) := by
          rw [← nj_ws_set]
          simp [nj_rc, List.map_set]
        have kk2 := nj_wr (g := F0 m (pc + 3) ls (r0.map (nj_rl base ext))) (slots := slots) (p := p) (l := l) (e := e) (R := R) (args := args) (below := below) (meth := meth) (c := c) (m := m) (Q := Q) hst (h1 := h.set q (.inr (ci, fs.set b x))) (by simp) kk
        rw [← hset] at kk2
        by_cases hv : v = 0
        · rw [if_pos hv] at o3
          exact va_put (C := z.1) (T := z.2.1) (N := z.2.2) hx hb hts k1 (nj_ty ci) k2 k3 hown hK hst.1 (nj_ws_D base ext cA h) (nj_S_rf hst.2.1) q (nj_ws_get hq) hz b o1 (hts _ (nj_w_mem o2)) (fun _ w => w) (of_decide_eq_true o3) (k2 b o1) f1 f2 (by simpa using hb1) hd kk2
        · rw [if_neg hv] at o3
          simp only [Bool.and_eq_true, decide_eq_true_eq] at o3
          have hi : ini = true := hfin.resolve_left hv
          exact va_putF (C := z.1) (T := z.2.1) (N := z.2.2) hx hb hts k1 (nj_ty ci) k2 k3 hown hK hst.1 (nj_ws_D base ext cA h) (nj_S_rf hst.2.1) q (nj_ws_get hq) hz b o1 (hts _ (nj_w_mem o2)) (fun _ w => w) o3.1 (hini hi) o3.2 (k2 b o1) f1 f2 (by simpa using hb1) hd kk2
      · cases hr
    · cases hr
  · cases hr
theorem nj_s_iald (hx : p.tables.exec = Jvm.exec) (hb : c.code = cc) (hK : va_K D nj_cl (nj_tys cA) s) (hE : nj_Env base ext L xs s) (hst : nj_St base ext cA D s h gg H locs cells) (hd : decode cc pc = .ok (.iaload, 1)) (hr : nj_iald L xs pc st h = some r) (kk : ∀ H1 locs1, nj_St base ext cA D s r.2.2 gg H1 locs1 cells → W p l e R s m args below meth c H1 locs1 cells slots Q (F0 m r.1 ls (r.2.1.map (nj_rl base ext)))) : W p l e R s m args below meth c H locs cells slots Q (F0 m pc ls (st.map (nj_rl base ext))) := by
  unfold nj_iald at hr
  split at hr
  · next i q r0 =>
    split at hr
    · next k n f hq =>
      split at hr
      · next hc =>
        obtain ⟨rfl, hi⟩ := hc
        cases hr
        exact va_iald hx hb hK hst.1 q 0 (nj_ws_get hq) (nj_tys_at cA (by decide)) (nj_ix_in hi) hd (kk H locs hst)
      · cases hr
    · cases hr
  · next i j r0 =>
    obtain ⟨-, ⟨x0, a1, a2, a3, a4⟩, ⟨x1, b1, b2, b3⟩, -⟩ := hE
    unfold nj_xr at hr
    split at hr
    · next n f hnf =>
      split at hr
      · next hi =>
        cases hr
        split at hnf
        · next hj =>
          cases hnf
          subst hj
          have e0 : nj_rl base ext (.retAddr 0) = .ref x0 := by show va_rf (ext 0) = _; rw [a1]; rfl
          simp only [List.map_cons, e0]
          exact va_sld hx hb a2 (by omega) (Nat.not_le.mpr a3) hst.2.1 (nj_ix_in hi) hd (kk H locs hst)
        · split at hnf
          · next hj =>
            cases hnf
            subst hj
            have e0 : nj_rl base ext (.retAddr 1) = .ref x1 := by show va_rf (ext 1) = _; rw [b1]; rfl
            simp only [List.map_cons, e0]
            exact va_ti hx hb b3 hst.2.1 (nj_ix_in hi) rfl hd (kk H locs hst)
          · cases hnf
      · cases hr
    · cases hr
  · cases hr
theorem nj_s_bald (hx : p.tables.exec = Jvm.exec) (hb : c.code = cc) (hK : va_K D nj_cl (nj_tys cA) s) (hE : nj_Env base ext L xs s) (hst : nj_St base ext cA D s h gg H locs cells) (hd : decode cc pc = .ok (.baload, 1)) (hr : nj_bald pc st h = some r) (kk : ∀ H1 locs1, nj_St base ext cA D s r.2.2 gg H1 locs1 cells → W p l e R s m args below meth c H1 locs1 cells slots Q (F0 m r.1 ls (r.2.1.map (nj_rl base ext)))) : W p l e R s m args below meth c H locs cells slots Q (F0 m pc ls (st.map (nj_rl base ext))) := by
  unfold nj_bald at hr
  split at hr
  · next i q r0 =>
    split at hr
    · next k n f hq =>
      split at hr
      · next hc =>
        obtain ⟨hk, hi⟩ := hc
        cases hr
        rcases hk with rfl | rfl
        · exact va_bald hx hb hK hst.1 q 1 (nj_ws_get hq) (nj_tys_at cA (by decide)) (nj_ix_in hi) hd (kk H locs hst)
        · exact va_zald hx hb hK hst.1 q 2 (nj_ws_get hq) (nj_tys_at cA (by decide)) (nj_ix_in hi) hd (kk H locs hst)
      · cases hr
    · cases hr
  · next i j r0 =>
    split at hr
    · next hc =>
      obtain ⟨rfl, hi⟩ := hc
      cases hr
      obtain ⟨-, -, -, ⟨x2, x3, c1, c2, c3, c4, c5, c6, c7⟩, -⟩ := hE
      have e3 : nj_rl base ext (.retAddr 3) = .ref x3 := by show va_rf (ext 3) = _; rw [c2]; rfl
      simp only [List.map_cons, e3]
      exact va_tb hx hb c7 hst.2.1 (nj_ix_in hi) rfl hd (kk H locs hst)
    · cases hr
  · cases hr
theorem nj_s_lald (hx : p.tables.exec = Jvm.exec) (hb : c.code = cc) (hK : va_K D nj_cl (nj_tys cA) s) (hE : nj_Env base ext L xs s) (hst : nj_St base ext cA D s h gg H locs cells) (hd : decode cc pc = .ok (.laload, 1)) (hr : nj_lald pc st h = some r) (kk : ∀ H1 locs1, nj_St base ext cA D s r.2.2 gg H1 locs1 cells → W p l e R s m args below meth c H1 locs1 cells slots Q (F0 m r.1 ls (r.2.1.map (nj_rl base ext)))) : W p l e R s m args below meth c H locs cells slots Q (F0 m pc ls (st.map (nj_rl base ext))) := by
  unfold nj_lald at hr
  split at hr
  · next i q r0 =>
    split at hr
    · next k n f hq =>
      split at hr
      · next hc =>
        obtain ⟨rfl, hi⟩ := hc
        cases hr
        exact va_lald hx hb hK hst.1 q 3 (nj_ws_get hq) (nj_tys_at cA (by decide)) (nj_ix_in hi) hd (kk H locs hst)
      · cases hr
    · cases hr
  · cases hr
theorem nj_s_aald (hx : p.tables.exec = Jvm.exec) (hb : c.code = cc) (hK : va_K D nj_cl (nj_tys cA) s) (hE : nj_Env base ext L xs s) (hst : nj_St base ext cA D s h gg H locs cells) (hd : decode cc pc = .ok (.aaload, 1)) (hr : nj_aald pc st h = some r) (kk : ∀ H1 locs1, nj_St base ext cA D s r.2.2 gg H1 locs1 cells → W p l e R s m args below meth c H1 locs1 cells slots Q (F0 m r.1 ls (r.2.1.map (nj_rl base ext)))) : W p l e R s m args below meth c H locs cells slots Q (F0 m pc ls (st.map (nj_rl base ext))) := by
  unfold nj_aald at hr
  split at hr
  · next i q r0 =>
    split at hr
    · next k n f hq =>
      split at hr
      · next hc =>
        obtain ⟨hk, hi⟩ := hc
        split at hr
        · next x hfx =>
          cases hr
          have k0 := kk H locs hst
          have e1 : va_rf ((fun j => (f j).map (fun x => base + x)) i.toNatClampNeg) = nj_rl base ext (.ref x) := by simp [hfx, va_rf, nj_rl]
          rcases hk with rfl | rfl
          · refine va_aldq hx hb hK hst.1 q 4 (nj_ws_get hq) (nj_tys_at cA (by decide)) (nj_ix_in hi) hd ?_
            rw [e1]
            exact k0
          · refine va_aldq hx hb hK hst.1 q 5 (nj_ws_get hq) (nj_tys_at cA (by decide)) (nj_ix_in hi) hd ?_
            rw [e1]
            exact k0
        · cases hr
      · cases hr
    · cases hr
  · cases hr
theorem nj_s_iast (hx : p.tables.exec = Jvm.exec) (hb : c.code = cc) (hK : va_K D nj_cl (nj_tys cA) s) (hE : nj_Env base ext L xs s) (hst : nj_St base ext cA D s h gg H locs cells) (hd : decode cc pc = .ok (.iastore, 1)) (hr : nj_iast pc st h = some r) (kk : ∀ H1 locs1, nj_St base ext cA D s r.2.2 gg H1 locs1 cells → W p l e R s m args below meth c H1 locs1 cells slots Q (F0 m r.1 ls (r.2.1.map (nj_rl base ext)))) : W p l e R s m args below meth c H locs cells slots Q (F0 m pc ls (st.map (nj_rl base ext))) := by
  unfold nj_iast at hr
  split at hr
  · next x i q r0 =>
    split at hr
    · next k n f hq =>
      split at hr
      · next hc =>
        obtain ⟨rfl, hi⟩ := hc
        cases hr
        have kk2 := nj_wr (g := F0 m (pc + 1) ls (r0.map (nj_rl base ext))) (slots := slots) (p := p) (l := l) (e := e) (R := R) (args := args) (below := below) (meth := meth) (c := c) (m := m) (Q := Q) hst (h1 := h.set q (.inl (0, n, .inl (upd f i.toNatClampNeg x)))) (by simp) kk
        rw [← nj_ws_set] at kk2
        exact va_iast hx hb hK hst.1 (nj_ws_D base ext cA h) (nj_S_rf hst.2.1) q 0 (nj_ws_get hq) (nj_tys_at cA (by decide)) (nj_ix_in hi) hd kk2
      · cases hr
    · cases hr
  · cases hr
theorem nj_s_bast (hx : p.tables.exec = Jvm.exec) (hb : c.code = cc) (hK : va_K D nj_cl (nj_tys cA) s) (hE : nj_Env base ext L xs s) (hst : nj_St base ext cA D s h gg H locs cells) (hd : decode cc pc = .ok (.bastore, 1)) (hr : nj_bast pc st h = some r) (kk : ∀ H1 locs1, nj_St base ext cA D s r.2.2 gg H1 locs1 cells → W p l e R s m args below meth c H1 locs1 cells slots Q (F0 m r.1 ls (r.2.1.map (nj_rl base ext)))) : W p l e R s m args below meth c H locs cells slots Q (F0 m pc ls (st.map (nj_rl base ext))) := by
  unfold nj_bast at hr
  split at hr
  · next x i q r0 =>
    split at hr
    · next k n f hq =>
      split at hr
      · next hc =>
        obtain ⟨hk, hi⟩ := hc
        cases hr
        have kk2 := nj_wr (g := F0 m (pc + 1) ls (r0.map (nj_rl base ext))) (slots := slots) (p := p) (l := l) (e := e) (R := R) (args := args) (below := below) (meth := meth) (c := c) (m := m) (Q := Q) hst (h1 := h.set q (.inl (k, n, .inl (upd f i.toNatClampNeg (vp_nar (nj_kt k) x))))) (by simp) kk
        rw [← nj_ws_set] at kk2
        rcases hk with rfl | rfl
        · exact va_bast hx hb hK hst.1 (nj_ws_D base ext cA h) (nj_S_rf hst.2.1) q 1 (nj_ws_get hq) (nj_tys_at cA (by decide)) (nj_ix_in hi) hd kk2
        · exact va_zast hx hb hK hst.1 (nj_ws_D base ext cA h) (nj_S_rf hst.2.1) q 2 (nj_ws_get hq) (nj_tys_at cA (by decide)) (nj_ix_in hi) hd kk2
      · cases hr
    · cases hr
  · cases hr
theorem nj_s_last (hx : p.tables.exec = Jvm.exec) (hb : c.code = cc) (hK : va_K D nj_cl (nj_tys cA) s) (hE : nj_Env base ext L xs s) (hst : nj_St base ext cA D s h gg H locs cells) (hd : decode cc pc = .ok (.lastore, 1)) (hr : nj_last pc st h = some r) (kk : ∀ H1 locs1, nj_St base ext cA D s r.2.2 gg H1 locs1 cells → W p l e R s m args below meth c H1 locs1 cells slots Q (F0 m r.1 ls (r.2.1.map (nj_rl base ext)))) : W p l e R s m args below meth c H locs cells slots Q (F0 m pc ls (st.map (nj_rl base ext))) := by
  unfold nj_last at hr
  split at hr
  · next x i q r0 =>
    split at hr
    · next k n f hq =>
      split at hr
      · next hc =>
        obtain ⟨rfl, hi⟩ := hc
        cases hr
        have kk2 := nj_wr (g := F0 m (pc + 1) ls (r0.map (nj_rl base ext))) (slots := slots) (p := p) (l := l) (e := e) (R := R) (args := args) (below := below) (meth := meth) (c := c) (m := m) (Q := Q) hst (h1 := h.set q (.inl (3, n, .inr (.inl (vp_updL f i.toNatClampNeg x))))) (by simp) kk
        rw [← nj_ws_set] at kk2
        exact va_last hx hb hK hst.1 (nj_ws_D base ext cA h) (nj_S_rf hst.2.1) q 3 (nj_ws_get hq) (nj_tys_at cA (by decide)) (nj_ix_in hi) hd kk2
      · cases hr
    · cases hr
  · cases hr
theorem nj_up_map (base : Nat) (f : Nat → Option Nat) (k x : Nat) : (fun j => (va_up f k (some x) j).map (fun x => base + x)) = va_up (fun j => (f j).map (fun x => base + x)) k (some (base + x)) := by
  funext j
  by_cases hj : j = k <;> simp [va_up, hj]
theorem nj_s_aast (hx : p.tables.exec = Jvm.exec) (hb : c.code = cc) (hK : va_K D nj_cl (nj_tys cA) s) (hE : nj_Env base ext L xs s) (hst : nj_St base ext cA D s h gg H locs cells) (hd : decode cc pc = .ok (.aastore, 1)) (hr : nj_aast pc st h = some r) (kk : ∀ H1 locs1, nj_St base ext cA D s r.2.2 gg H1 locs1 cells → W p l e R s m args below meth c H1 locs1 cells slots Q (F0 m r.1 ls (r.2.1.map (nj_rl base ext)))) : W p l e R s m args below meth c H locs cells slots Q (F0 m pc ls (st.map (nj_rl base ext))) := by
  unfold nj_aast at hr
  split at hr
  · next x i q r0 =>
    split at hr
    · next k n f ci fs hq hv =>
      split at hr
      · next hc =>
        obtain ⟨hk, hi⟩ := hc
        cases hr
        have kk2 := nj_wr (g := F0 m (pc + 1) ls (r0.map (nj_rl base ext))) (slots := slots) (p := p) (l := l) (e := e) (R := R) (args := args) (below := below) (meth := meth) (c := c) (m := m) (Q := Q) hst (h1 := h.set q (.inl (k, n, .inr (.inr (va_up f i.toNatClampNeg (some x)))))) (by simp) kk
        rw [← nj_ws_set] at kk2
        simp only [nj_rc, nj_up_map] at kk2
        rcases hk with ⟨rfl, rfl⟩ | ⟨rfl, rfl⟩
        · exact va_astq (r := (RX2, TX2, 12)) hx hb hK hst.1 (nj_ws_D base ext cA h) (nj_S_rf hst.2.1) q 4 x 2 (nj_ws_get hq) (nj_tys_at cA (by decide)) (nj_ws_get hv) rfl (nj_ix_in hi) hd kk2
        · exact va_astq (r := (RX1, TX1, 4)) hx hb hK hst.1 (nj_ws_D base ext cA h) (nj_S_rf hst.2.1) q 5 x 1 (nj_ws_get hq) (nj_tys_at cA (by decide)) (nj_ws_get hv) rfl (nj_ix_in hi) hd kk2
      · cases hr
    · cases hr
  · cases hr
theorem nj_s_alen (hx : p.tables.exec = Jvm.exec) (hb : c.code = cc) (hK : va_K D nj_cl (nj_tys cA) s) (hE : nj_Env base ext L xs s) (hst : nj_St base ext cA D s h gg H locs cells) (hd : decode cc pc = .ok (.arraylength, 1)) (hr : nj_alen L pc st h = some r) (kk : ∀ H1 locs1, nj_St base ext cA D s r.2.2 gg H1 locs1 cells → W p l e R s m args below meth c H1 locs1 cells slots Q (F0 m r.1 ls (r.2.1.map (nj_rl base ext)))) : W p l e R s m args below meth c H locs cells slots Q (F0 m pc ls (st.map (nj_rl base ext))) := by
  unfold nj_alen at hr
  split at hr
  · next q r0 =>
    split at hr
    · next k n f hq =>
      split at hr
      · next hk =>
        cases hr
        have hw := nj_ws_get (base := base) (ext := ext) (cA := cA) hq
        rcases f with f | f | f
        · exact va_alen hx hb hK hst.1 q k hw (nj_tys_at cA hk) rfl hd (kk H locs hst)
        · exact va_alen hx hb hK hst.1 q k hw (nj_tys_at cA hk) rfl hd (kk H locs hst)
        · exact va_alen hx hb hK hst.1 q k hw (nj_tys_at cA hk) rfl hd (kk H locs hst)
      · cases hr
    · cases hr
  · next j r0 =>
    obtain ⟨-, ⟨x0, a1, a2, a3, a4⟩, ⟨x1, b1, b2, b3⟩, ⟨x2, x3, c1, c2, c3, c4, c5, c6, c7⟩, -⟩ := hE
    split at hr
    · next hj =>
      cases hr
      subst hj
      have e0 : nj_rl base ext (.retAddr 0) = .ref x0 := by show va_rf (ext 0) = _; rw [a1]; rfl
      simp only [List.map_cons, e0]
      exact va_slen hx hb a2 (by omega) (Nat.not_le.mpr a3) hst.2.1 hd (kk H locs hst)
    · split at hr
      · next hj =>
        cases hr
        subst hj
        have e0 : nj_rl base ext (.retAddr 1) = .ref x1 := by show va_rf (ext 1) = _; rw [b1]; rfl
        simp only [List.map_cons, e0]
        exact va_tlen hx hb b3 hst.2.1 (by decide) hd (kk H locs hst)
      · split at hr
        · next hj =>
          cases hr
          subst hj
          have e0 : nj_rl base ext (.retAddr 3) = .ref x3 := by show va_rf (ext 3) = _; rw [c2]; rfl
          simp only [List.map_cons, e0]
          exact va_tlen hx hb c7 hst.2.1 (by decide) hd (kk H locs hst)
        · cases hr
  · cases hr
end NSM
