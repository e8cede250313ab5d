section NSA
variable {p : Program} {l : Launch} {e : Env} {R : Room} {s : State} {m : MethodId} {args : Array Value} {below : List Frame} {meth : Method} {c : Code} {H : Heap} {locs : List Loc} {cells slots : Nat} {Q : State → Prop} {cc : ByteArray} {pc : Nat} {ls : Array Slot} {base : Nat} {ext : Nat → Option Nat} {cA : Nat → ClassId} {D : va_G} {h : List nC} {st : List Value} {own : String} {L : Nat} {xs : Nat → Int32} {ini : Bool} {a b pos : Nat} {v : Int} {r : Nat × List Value × List nC} {gg : Nat}
theorem nj_nwF (hE : nj_Env base ext L xs s) : (Cond.fieldLinkNest RX0 121 "SlipHeirs" "FIRST_SLOT" "[I" "SlipHeirs").before args s = true := va_Nw.use rfl (hE.1 _ (by simp [nj_nw, RX0]))
theorem nj_sim_mem (hx : p.tables.exec = Jvm.exec) (hb : c.code = cc) (hts : ∀ w ∈ nj_T, w.before args s = true) (hown : s.vm.findClass own = some m.cls) (hK : va_K D nj_cl (nj_tys cA) s) (hE : nj_Env base ext L xs s) (hini : ini = true → meth.name = "<init>") (hst : nj_St base ext cA D s h gg H locs cells) {i : Instr} (hd : decode cc pc = .ok (i, nj_len i b)) (hok : nj_okm own i a b v pos = true) (hr : nj_mem L xs ini pc a b v st h i = some r) (kk : ∀ H1 locs1, nj_St base ext cA D s r.2.2 gg H1 locs1 cells → W p l e R s m args below meth c H1 locs1 cells slots Q (F0 m r.1 ls (r.2.1.map (nj_rl base ext)))) : W p l e R s m args below meth c H locs cells slots Q (F0 m pc ls (st.map (nj_rl base ext))) := by
  cases i with
  | getfield idx => exact nj_s_getf hx hb hts hown hK hE hst hd hok hr kk
  | putfield idx => exact nj_s_putf hx hb hts hown hK hini hst hd hok hr kk
  | iaload => exact nj_s_iald hx hb hK hE hst hd hr kk
  | baload => exact nj_s_bald hx hb hK hE hst hd hr kk
  | laload => exact nj_s_lald hx hb hK hE hst hd hr kk
  | aaload => exact nj_s_aald hx hb hK hE hst hd hr kk
  | iastore => exact nj_s_iast hx hb hK hE hst hd hr kk
  | bastore => exact nj_s_bast hx hb hK hE hst hd hr kk
  | lastore => exact nj_s_last hx hb hK hE hst hd hr kk
  | aastore => exact nj_s_aast hx hb hK hE hst hd hr kk
  | arraylength => exact nj_s_alen hx hb hK hE hst hd hr kk
  | ldc idx =>
    simp only [nj_mem] at hr
    simp only [nj_okm] at hok
    split at hr
    · next hb1 =>
      cases hr
      rw [if_pos hb1] at hok
      simp only [Bool.and_eq_true, decide_eq_true_eq] at hok
      obtain ⟨rfl, rfl⟩ := hok
      obtain ⟨-, -, -, ⟨x2, x3, c1, c2, c3, c4, c5, c6, c7⟩, -⟩ := hE
      have e2 : nj_rl base ext (.retAddr 2) = .ref x2 := by show va_rf (ext 2) = _; rw [c1]; rfl
      have k := kk H locs hst
      simp only [List.map_cons, e2] at k
      exact va_ldcS hx hb hown c3 hd k
    · next hb1 =>
      cases hr
      rw [if_neg hb1] at hok
      exact lv_ldc hx hb hown (hts _ (nj_w_mem hok)) hd (kk H locs hst)
  | ldc_w idx =>
    cases hr
    exact lv_ldcw hx hb hown (hts _ (nj_w_mem hok)) hd (kk H locs hst)
  | ldc2_w idx =>
    cases hr
    exact lv_ldc2 hx hb hown (hts _ (nj_w_mem hok)) hd (kk H locs hst)
  | getstatic idx =>
    simp only [nj_mem] at hr
    simp only [nj_okm] at hok
    split at hr
    · next ha =>
      cases hr
      rw [if_pos ha] at hok
      simp only [Bool.and_eq_true, decide_eq_true_eq] at hok
      obtain ⟨rfl, rfl⟩ := hok
      have hN := nj_nwF (args := args) hE
      obtain ⟨-, -, ⟨x1, b1, b2, b3⟩, -⟩ := hE
      have e1 : nj_rl base ext (.retAddr 1) = .ref x1 := by show va_rf (ext 1) = _; rw [b1]; rfl
      have k := kk H locs hst
      simp only [List.map_cons, e1] at k
      exact va_getsN hx hb b2 hst.2.1 hown hN (fun _ w => w) hd k
    · next ha =>
      rw [if_neg ha] at hok
      obtain ⟨-, -, -, -, h5, h6, -⟩ := hE
      split at hr
      · next ha1 =>
        cases hr
        rw [if_pos ha1] at hok
        exact va_gets hx hb h5 hst.2.1 hown (hts _ (nj_w_mem hok)) (fun _ w => w) hd (kk H locs hst)
      · next ha1 =>
        split at hr
        · cases hr
          rw [if_neg ha1] at hok
          exact va_gets hx hb h6 hst.2.1 hown (hts _ (nj_w_mem hok)) (fun _ w => w) hd (kk H locs hst)
        · cases hr
  | _ => exact nomatch (show (none : nR) = some r from hr)
end NSA
/-- what makes a cell: the next place, the stack, the cell, its size -/
def nj_new (pc a : Nat) (st : List Value) (h : List nC) (i : Instr) : Option (Nat × List Value × nC × Nat) := match i with
  | .new _ => match nj_cl[a]? with
    | some q => some (pc + 3, .ref h.length :: st, .inr (a, (List.range q.2.2).map (fun j => defaultValue (nj_ty a j))), q.2.2)
    | none => none
  | .newarray _ => match st with
    | .int n :: r => if ¬ n < 0 ∧ n.toNatClampNeg ≤ 65536 then (if a < 3 then some (pc + 2, .ref h.length :: r, .inl (a, n.toNatClampNeg, .inl (fun _ => 0)), n.toNatClampNeg) else if a = 3 then some (pc + 2, .ref h.length :: r, .inl (3, n.toNatClampNeg, .inr (.inl (fun _ => 0))), n.toNatClampNeg) else none) else none
    | _ => none
  | .anewarray _ => match st with
    | .int n :: r => if (¬ n < 0 ∧ n.toNatClampNeg ≤ 65536) ∧ (a = 4 ∨ a = 5) then some (pc + 3, .ref h.length :: r, .inl (a, n.toNatClampNeg, .inr (.inr (fun _ => none))), n.toNatClampNeg) else none
    | _ => none
  | _ => none
def nj_okn (own : String) (i : Instr) (a b : Nat) (v : Int) (pos : Nat) : Bool := match i with
  | .new idx => match nj_cl[a]? with
    | some q => nj_w pos (.classLink own idx q.1) && (nj_w b (.instantiable q.1 q.2.2) && nj_w v.toNat (.initialized q.1))
    | none => false
  | .newarray t => decide (newarray.typeOf t = nj_kt a) && nj_w pos (.arrayClass (nj_kt a))
  | .anewarray idx => if a = 4 then nj_w pos (.classLink own idx RX2) else nj_w pos (.classLink own idx RX1)
  | _ => true
theorem nj_rl_dv (base : Nat) (ext : Nat → Option Nat) (ty : FieldType) : nj_rl base ext (defaultValue ty) = defaultValue ty := by cases ty <;> rfl
section NSB
variable {p : Program} {l : Launch} {e : Env} {R : Room} {s : State} {m : MethodId} {args : Array Value} {below : List Frame} {meth : Method} {c : Code} {H : Heap} {locs : List Loc} {cells slots : Nat} {Q : State → Prop} {cc : ByteArray} {pc : Nat} {ls : Array Slot} {base : Nat} {ext : Nat → Option Nat} {cA : Nat → ClassId} {D : va_G} {h : List nC} {st : List Value} {own : String} {L : Nat} {xs : Nat → Int32} {a b pos : Nat} {v : Int} {r : Nat × List Value × nC × Nat}
theorem nj_ra {U : State} {x y : ClassId} {ty : FieldType} (h1 : va_RA U x ty) (h2 : va_RA U y ty) : x = y := by
  cases ty with
  | object C =>
    obtain ⟨_, _, _, _, _, e1⟩ := h1
    obtain ⟨_, _, _, _, _, e2⟩ := h2
    exact Option.some.inj (e1.symm.trans e2)
  | _ => exact Option.some.inj (h1.symm.trans h2)
/-- the array's kind is the tables' one -/
theorem nj_ac (hK : va_K D nj_cl (nj_tys cA) s) {k : Nat} (hk : k < 6) {cX : ClassId} {ty : FieldType} (hty : ty = nj_kt k) (h2 : va_K D nj_cl (nj_tys cA ++ [(cX, ty)]) s) : cX = cA k := by
  subst hty
  have hl : (nj_tys cA).length = 6 := by simp [nj_tys]
  have h4 := (h2.2 6 (cX, nj_kt k) (by rw [List.getElem?_append_right (by omega), hl]; rfl)).2
  exact nj_ra h4 (hK.2 k _ (nj_tys_at cA hk)).2
theorem nj_sim_new (hx : p.tables.exec = Jvm.exec) (hb : c.code = cc) (hts : ∀ w ∈ nj_T, w.before args s = true) (hown : s.vm.findClass own = some m.cls) (hK : va_K D nj_cl (nj_tys cA) s) (hE : nj_Env base ext L xs s) (hst : nj_St base ext cA D s h 0 H locs cells) {i : Instr} (hd : decode cc pc = .ok (i, nj_len i b)) (hok : nj_okn own i a b v pos = true) (hr : nj_new pc a st h i = some r) (hc1 : cells + 1 ≤ R.cells) (hc2 : slots + r.2.2.2 ≤ R.slots) (kk : ∀ H1 locs1, nj_St base ext cA D s (h ++ [r.2.2.1]) 0 H1 locs1 (cells + 1) → W p l e R s m args below meth c H1 locs1 (cells + 1) (slots + r.2.2.2) Q (F0 m r.1 ls (r.2.1.map (nj_rl base ext)))) : W p l e R s m args below meth c H locs cells slots Q (F0 m pc ls (st.map (nj_rl base ext))) := by
  have hA : ∀ q, H.size ≤ q → nj_A base q := fun q hq => by
    have := hst.2.2.1
    show base ≤ q
    omega
  cases i with
  | new idx =>
    simp only [nj_new] at hr
    simp only [nj_okn] at hok
    split at hr
    · next q hq =>
      cases hr
      rw [hq] at hok
      simp only [Bool.and_eq_true] at hok
      obtain ⟨k1, k2, k3⟩ := nj_cl_ok hq
      refine va_new (C := q.1) (T := q.2.1) (N := q.2.2) (ci := a) (fs := (List.range q.2.2).map (fun j => defaultValue (nj_ty a j))) hx hb hts k1 (nj_ty a) k2 hown (hts _ (nj_w_mem hok.1)) (hts _ (nj_w_mem hok.2.1)) (hts _ (nj_w_mem hok.2.2)) hK hst.1 (nj_ws_D base ext cA h) (nj_S_rf hst.2.1) hA hq (fun j hj => by simp [vp_V, hj]) hc1 hc2 hd (fun x H1 g1 g2 g3 => ?_)
      have e1 : (Sum.inr (a, (List.range q.2.2).map (fun j => defaultValue (nj_ty a j))) : va_E) = nj_rc base ext cA (.inr (a, (List.range q.2.2).map (fun j => defaultValue (nj_ty a j)))) := by
        simp only [nj_rc, List.map_map]
        congr 2
        apply List.map_congr_left
        intro j _
        exact (nj_rl_dv base ext _).symm
      rw [e1] at g1 g2
      exact nj_mk (g := fun y => F0 m (pc + 3) ls (.ref y :: st.map (nj_rl base ext))) hst kk x H1 locs g1 g2 g3
    · cases hr
  | newarray t =>
    simp only [nj_new] at hr
    simp only [nj_okn, Bool.and_eq_true, decide_eq_true_eq] at hok
    split at hr
    · next n r0 =>
      split at hr
      · next hn =>
        split at hr
        · next ha3 =>
          cases hr
          refine va_newa (ty := nj_kt a) (a0 := (n.toNatClampNeg, .inl (fun _ => 0))) hx hb (by rw [hok.1]; exact hts _ (nj_w_mem hok.2)) hok.1 hK hst.1 (nj_ws_D base ext cA h) (nj_S_rf hst.2.1) hA (fun cX => ?_) hn.1 rfl ?_ hc1 hc2 hd (fun x cX H1 g0 g1 g2 g3 => ?_)
          · match a, ha3 with
            | 0, _ => rfl
            | 1, _ => rfl
            | 2, _ => rfl
          · have := hn.2
            have h4 : componentBytes (nj_kt a) ≤ 8 := by match a, ha3 with
              | 0, _ => decide
              | 1, _ => decide
              | 2, _ => decide
            exact Nat.le_trans (Nat.mul_le_mul this h4) (by decide)
          · have e1 := nj_ac hK (Nat.lt_trans ha3 (by decide)) rfl g0
            subst e1
            exact nj_mk (x := .inl (a, n.toNatClampNeg, .inl (fun _ => 0))) (g := fun y => F0 m (pc + 2) ls (.ref y :: r0.map (nj_rl base ext))) hst kk x H1 locs g1 g2 g3
        · split at hr
          · next ha =>
            cases hr
            subst ha
            refine va_newa (ty := nj_kt 3) (a0 := (n.toNatClampNeg, .inr (.inl (fun _ => 0)))) hx hb (by rw [hok.1]; exact hts _ (nj_w_mem hok.2)) hok.1 hK hst.1 (nj_ws_D base ext cA h) (nj_S_rf hst.2.1) hA (fun cX => rfl) hn.1 rfl ?_ hc1 hc2 hd (fun x cX H1 g0 g1 g2 g3 => ?_)
            · exact Nat.le_trans (Nat.mul_le_mul hn.2 (show componentBytes (nj_kt 3) ≤ 8 by decide)) (by decide)
            · have e1 := nj_ac hK (by decide) rfl g0
              subst e1
              exact nj_mk (x := .inl (3, n.toNatClampNeg, .inr (.inl (fun _ => 0)))) (g := fun y => F0 m (pc + 2) ls (.ref y :: r0.map (nj_rl base ext))) hst kk x H1 locs g1 g2 g3
          · cases hr
      · cases hr
    · cases hr
  | anewarray idx =>
    simp only [nj_new] at hr
    simp only [nj_okn] at hok
    split at hr
    · next n r0 =>
      split at hr
      · next hn =>
        cases hr
        obtain ⟨hn, ha⟩ := hn
        have hb4 : n.toNatClampNeg * 4 ≤ 536870912 := Nat.le_trans (Nat.mul_le_mul hn.2 (Nat.le_refl 4)) (by decide)
        rcases ha with rfl | rfl
        · refine va_newq (C := RX2) hx hb hown (hts _ (nj_w_mem hok)) hE.2.2.2.2.2.2.1 hK hst.1 (nj_ws_D base ext cA h) (nj_S_rf hst.2.1) hA hn.1 rfl hb4 hc1 hc2 hd (fun x cX H1 g0 g1 g2 g3 => ?_)
          have e1 := nj_ac (k := 4) hK (by decide) rfl g0
          subst e1
          exact nj_mk (x := .inl (4, n.toNatClampNeg, .inr (.inr (fun _ => none)))) (g := fun y => F0 m (pc + 3) ls (.ref y :: r0.map (nj_rl base ext))) hst kk x H1 locs g1 g2 g3
        · refine va_newq (C := RX1) hx hb hown (hts _ (nj_w_mem hok)) hE.2.2.2.2.2.2.2 hK hst.1 (nj_ws_D base ext cA h) (nj_S_rf hst.2.1) hA hn.1 rfl hb4 hc1 hc2 hd (fun x cX H1 g0 g1 g2 g3 => ?_)
          have e1 := nj_ac (k := 5) hK (by decide) rfl g0
          subst e1
          exact nj_mk (x := .inl (5, n.toNatClampNeg, .inr (.inr (fun _ => none)))) (g := fun y => F0 m (pc + 3) ls (.ref y :: r0.map (nj_rl base ext))) hst kk x H1 locs g1 g2 g3
      · cases hr
    · cases hr
  | _ => exact nomatch (show (none : Option (Nat × List Value × nC × Nat)) = some r from hr)
end NSB
