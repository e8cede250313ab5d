/-! the class reads an error and a deed -/
section RLE
variable {L : Nat} {xs : Nat → Int32} {d : Nat} {b kd pl : Nat → Int32} {vl ky : Nat → Int64} {len tok cur tak tl fk fp : Int32} {T : Nat → Tk} {p : Nat} {z : Ho} {H : Hs}
def sW (T : Nat → Tk) (p : Nat) : Rs (Nat × Nat × Nat) := sBind (sNum T p 1 20) (fun p5 x => sBind (sNum T p5 0 20) (fun p6 y => sBind (sNum T p6 0 20) (fun p7 v => .inr (p7, (x, y, v)))))
theorem r_weights (hT : tkOk T) (h : txR T kd pl vl tok cur p) {c : Nat} (hc : c < 6) : mS nj_M nX0 L xs (d + 2) 44 [.ref 22, .ref 1, .int (Int32.ofNat c)] (th b kd pl vl ky len tok cur tak tl fk fp z) (fun rv l => (∃ q x y v cur1 tak1, sW T p = .inr (q, (x, y, v)) ∧ rv = some (.int 1) ∧ txR T kd pl vl tok cur1 q ∧ l = th b kd pl vl ky len tok cur1 tak1 tl fk fp (z.1, z.2.1, z.2.2.1, z.2.2.2.1, z.2.2.2.2.1, z.2.2.2.2.2.1, z.2.2.2.2.2.2.1, z.2.2.2.2.2.2.2.1, z.2.2.2.2.2.2.2.2.1, upd z.2.2.2.2.2.2.2.2.2.1 c (Int32.ofNat x), upd z.2.2.2.2.2.2.2.2.2.2.1 c (Int32.ofNat y), upd z.2.2.2.2.2.2.2.2.2.2.2.1 c (Int32.ofNat v), z.2.2.2.2.2.2.2.2.2.2.2.2)) ∨ (∃ e q z1 cur1 tak1, sW T p = .inl (e, q) ∧ rv = some (.int 0) ∧ l = th b kd pl vl ky len tok cur1 tak1 tl (Int32.ofNat e) (Int32.ofNat q) z1)) := by
  have hx := ix_nat (i := c) (n := 6) hc (by decide)
  refine mS_of rfl (fun h0 => ?_)
  refine xw_go nostop 20 (fun K e => e _ _ _ _ (kT_call rfl rfl rfl rfl (r_num (lo := 1) (hi := 20) hT h (by decide) (by decide)) ⟨rfl, rfl, rfl, rfl, rfl, rfl, trivial⟩ rfl rfl (fun rv l1 hP _ => ?_)))
  rcases hP with ⟨q, x, cur1, e1, hy, rfl, h1, rfl⟩ | ⟨e, q, tak2, e1, rfl, rfl⟩
  · refine xw_go nostop 20 (fun K e => And.intro (fun _ => And.intro hx.1 (e _ _ _ _ (kT_call rfl rfl rfl rfl (r_num (lo := 0) (hi := 20) hT h1 (by decide) (by decide)) ⟨rfl, rfl, rfl, rfl, rfl, rfl, trivial⟩ rfl rfl (fun rv l1 hP _ => ?_)))) (fun c1 => nomatch (show true = false from c1)))
    rcases hP with ⟨q2, y, cur2, e2, hy, rfl, h2, rfl⟩ | ⟨e, q2, tak2, e2, rfl, rfl⟩
    · refine xw_go nostop 20 (fun K e => And.intro (fun _ => And.intro hx.1 (e _ _ _ _ (kT_call rfl rfl rfl rfl (r_num (lo := 0) (hi := 20) hT h2 (by decide) (by decide)) ⟨rfl, rfl, rfl, rfl, rfl, rfl, trivial⟩ rfl rfl (fun rv l1 hP _ => ?_)))) (fun c1 => nomatch (show true = false from c1)))
      rcases hP with ⟨q3, v, cur3, e3, hy, rfl, h3, rfl⟩ | ⟨e, q3, tak2, e3, rfl, rfl⟩
      · refine xw_go nostop 20 (fun K e => And.intro (fun _ => And.intro hx.1 (e _ _ _ _ (kT_end rfl rfl (Or.inl ⟨q3, x, y, v, cur3, Int32.ofNat v, ?_, rfl, h3, ?_⟩)))) (fun c1 => nomatch (show true = false from c1)))
        · unfold sW
          rw [e1]
          show sBind (sNum T q 0 20) _ = _
          rw [e2]
          show sBind (sNum T q2 0 20) _ = _
          rw [e3]
          rfl
        · rw [show th b kd pl vl ky len tok cur3 (Int32.ofNat v) tl fk fp (z.1, z.2.1, z.2.2.1, z.2.2.2.1, z.2.2.2.2.1, z.2.2.2.2.2.1, z.2.2.2.2.2.2.1, z.2.2.2.2.2.2.2.1, z.2.2.2.2.2.2.2.2.1, upd z.2.2.2.2.2.2.2.2.2.1 c (Int32.ofNat x), upd z.2.2.2.2.2.2.2.2.2.2.1 c (Int32.ofNat y), upd z.2.2.2.2.2.2.2.2.2.2.2.1 c (Int32.ofNat v), z.2.2.2.2.2.2.2.2.2.2.2.2) = th b kd pl vl ky len tok cur3 (Int32.ofNat v) tl fk fp (z.1, z.2.1, z.2.2.1, z.2.2.2.1, z.2.2.2.2.1, z.2.2.2.2.2.1, z.2.2.2.2.2.2.1, z.2.2.2.2.2.2.2.1, z.2.2.2.2.2.2.2.2.1, upd z.2.2.2.2.2.2.2.2.2.1 (Int32.ofNat c).toNatClampNeg (Int32.ofNat x), upd z.2.2.2.2.2.2.2.2.2.2.1 (Int32.ofNat c).toNatClampNeg (Int32.ofNat y), upd z.2.2.2.2.2.2.2.2.2.2.2.1 (Int32.ofNat c).toNatClampNeg (Int32.ofNat v), z.2.2.2.2.2.2.2.2.2.2.2.2) from by rw [hx.2]]
          rfl
      · refine xw_go nostop 20 (fun K e => And.intro (fun c1 => nomatch (show false = true from c1)) (fun _ => e _ _ _ _ (kT_end rfl rfl (Or.inr ⟨_, _, (z.1, z.2.1, z.2.2.1, z.2.2.2.1, z.2.2.2.2.1, z.2.2.2.2.2.1, z.2.2.2.2.2.2.1, z.2.2.2.2.2.2.2.1, z.2.2.2.2.2.2.2.2.1, upd z.2.2.2.2.2.2.2.2.2.1 (Int32.ofNat c).toNatClampNeg (Int32.ofNat x), upd z.2.2.2.2.2.2.2.2.2.2.1 (Int32.ofNat c).toNatClampNeg (Int32.ofNat y), z.2.2.2.2.2.2.2.2.2.2.2), cur2, tak2, ?_, rfl, rfl⟩))))
        unfold sW
        rw [e1]
        show sBind (sNum T q 0 20) _ = _
        rw [e2]
        show sBind (sNum T q2 0 20) _ = _
        rw [e3]
        rfl
    · refine xw_go nostop 20 (fun K e => And.intro (fun c1 => nomatch (show false = true from c1)) (fun _ => e _ _ _ _ (kT_end rfl rfl (Or.inr ⟨_, _, (z.1, z.2.1, z.2.2.1, z.2.2.2.1, z.2.2.2.2.1, z.2.2.2.2.2.1, z.2.2.2.2.2.2.1, z.2.2.2.2.2.2.2.1, z.2.2.2.2.2.2.2.2.1, upd z.2.2.2.2.2.2.2.2.2.1 (Int32.ofNat c).toNatClampNeg (Int32.ofNat x), z.2.2.2.2.2.2.2.2.2.2), cur1, tak2, ?_, rfl, rfl⟩))))
      unfold sW
      rw [e1]
      show sBind (sNum T q 0 20) _ = _
      rw [e2]
      rfl
  · refine xw_go nostop 20 (fun K e => And.intro (fun c1 => nomatch (show false = true from c1)) (fun _ => e _ _ _ _ (kT_end rfl rfl (Or.inr ⟨_, _, z, cur, tak2, ?_, rfl, rfl⟩))))
    unfold sW
    rw [e1]
    rfl
theorem r_weightsV (hT : tkOk T) (h : txR T kd pl vl tok cur p) {c : Nat} (hc : c < 6) {v2 : Int32} (hv2 : v2 = Int32.ofNat c) : mS nj_M nX0 L xs (d + 2) 44 [.ref 22, .ref 1, .int v2] (th b kd pl vl ky len tok cur tak tl fk fp z) (fun rv l => (∃ q x y v cur1 tak1, sW T p = .inr (q, (x, y, v)) ∧ rv = some (.int 1) ∧ txR T kd pl vl tok cur1 q ∧ l = th b kd pl vl ky len tok cur1 tak1 tl fk fp (z.1, z.2.1, z.2.2.1, z.2.2.2.1, z.2.2.2.2.1, z.2.2.2.2.2.1, z.2.2.2.2.2.2.1, z.2.2.2.2.2.2.2.1, z.2.2.2.2.2.2.2.2.1, upd z.2.2.2.2.2.2.2.2.2.1 c (Int32.ofNat x), upd z.2.2.2.2.2.2.2.2.2.2.1 c (Int32.ofNat y), upd z.2.2.2.2.2.2.2.2.2.2.2.1 c (Int32.ofNat v), z.2.2.2.2.2.2.2.2.2.2.2.2)) ∨ (∃ e q z1 cur1 tak1, sW T p = .inl (e, q) ∧ rv = some (.int 0) ∧ l = th b kd pl vl ky len tok cur1 tak1 tl (Int32.ofNat e) (Int32.ofNat q) z1)) := by
  subst hv2
  exact r_weights hT h hc
theorem sW_bind {α : Type} (g : Nat → Nat → Nat → Nat → Rs α) : sBind (sNum T p 1 20) (fun p5 x => sBind (sNum T p5 0 20) (fun p6 y => sBind (sNum T p6 0 20) (fun p7 v => g p7 x y v))) = sBind (sW T p) (fun p7 w => g p7 w.1 w.2.1 w.2.2) := by
  unfold sW
  cases sNum T p 1 20 with
  | inl e => rfl
  | inr a =>
    obtain ⟨p5, x⟩ := a
    show sBind (sNum T p5 0 20) _ = sBind (sBind (sNum T p5 0 20) _) _
    cases sNum T p5 0 20 with
    | inl e => rfl
    | inr a =>
      obtain ⟨p6, y⟩ := a
      show sBind (sNum T p6 0 20) _ = sBind (sBind (sNum T p6 0 20) _) _
      cases sNum T p6 0 20 with
      | inl e => rfl
      | inr a => rfl
set_option maxHeartbeats 4000000 in
theorem r_error (hT : tkOk T) (h : txR T kd pl vl tok cur p) (hH : hoR H z) : mS nj_M nX0 L xs (d + 3) 43 [.ref 22, .ref 1] (th b kd pl vl ky len tok cur tak tl fk fp z) (pLn T b kd pl vl ky len tok tl fk fp z (sErr T p H)) := by
  obtain ⟨n1, n2, n3, n4⟩ := hH
  have hb := sBe_ok (p := p) hT n1 H.1.2.2.1.length 6
  have hl6 := n1.2.2.1
  have hlS := n1.1
  have hlP := n1.2.1
  have hci : (z.1 2).toNatClampNeg = H.1.2.2.1.length := by rw [n3.2.2.1]; exact ofN_cl (by omega)
  refine mS_of rfl (fun h0 => ?_)
  refine xw_go nostop 20 (fun K e => And.intro rfl (e _ _ _ _ (kT_call rfl rfl rfl rfl (r_begins (c := H.1.2.2.1.length) (s := 2) (lo := 16) (hi := 22) hT h n2 (by decide) rfl rfl (by decide) (by omega) n3.2.2.1) ⟨rfl, rfl, rfl, rfl, rfl, rfl, rfl, rfl, rfl, rfl, rfl, rfl, rfl, rfl, rfl, rfl, rfl, rfl, rfl, rfl, rfl, trivial⟩ rfl rfl (fun rv l1 hP _ => ?_))))
  rcases hP with ⟨q, w, cur1, e1, hlt, w1, w2, w3, rfl, h1, rfl⟩ | ⟨e, q, cur1, e1, rfl, rfl⟩
  · have hnew := hb.2 q w e1
    have e1' := hb.1.symm.trans e1
    have hlen : H.1.2.2.1.length < 6 := by omega
    have hix : nj_ix (z.1 2) 6 = true := by rw [n3.2.2.1]; exact (ix_nat (by omega) (by decide)).1
    have hN' := nmOk_3 n1 ⟨w1, w2, w3⟩ hnew hlen
    have hn' : nmR (vp_updL z.2.1 (16 + H.1.2.2.1.length) (Int64.ofNat (e32 w 0))) (nsl (H.1.1, H.1.2.1, H.1.2.2.1 ++ [w], H.1.2.2.2)) := by
      have := nmR_set n2 (k := 16 + H.1.2.2.1.length) (by omega) (w := w) ⟨w1, w2, w3⟩
      rw [nsl_3 n1 hlen] at this
      exact this
    have hbk : ∀ (f : Nat → Int32) (k : Nat) (v : Int32), upd f k v k = v := fun f k v => if_pos rfl
    have hS : sErr T p H = sBind (sKno T q H.1.2.1) (fun p2 o => sBind (sKno T (T p2).2.2.2.2 H.1.1) (fun p3 f => sBind (sKno T (T p3).2.2.2.2 H.1.1) (fun p4 t => if t = f then .inl (3, (T p4).2.1) else sBind (sW T (T p4).2.2.2.2) (fun p7 v => .inr (p7, ((H.1.1, H.1.2.1, H.1.2.2.1 ++ [w], H.1.2.2.2), H.2.1, H.2.2.1 ++ [(o, f, t, v.1, v.2.1, v.2.2)], H.2.2.2)))))) := by
      unfold sErr
      rw [e1']
      show sBind (sKno T q H.1.2.1) _ = _
      congr 1
      funext p2 o
      congr 1
      funext p3 f
      congr 1
      funext p4 t
      split
      · rfl
      · exact sW_bind (fun p7 x y v => .inr (p7, ((H.1.1, H.1.2.1, H.1.2.2.1 ++ [w], H.1.2.2.2), H.2.1, H.2.2.1 ++ [(o, f, t, x, y, v)], H.2.2.2)))
    refine xw_go nostop 20 (fun K e => And.intro (fun _ => e _ _ _ _ (kT_call rfl rfl rfl rfl (r_pers (z := (upd z.1 2 (Int32.ofNat (H.1.2.2.1.length + 1)), vp_updL z.2.1 (16 + H.1.2.2.1.length) (Int64.ofNat (e32 w 0)), z.2.2)) hT h1 hN' hn') ⟨rfl, rfl, rfl, rfl, rfl, rfl, rfl, rfl, rfl, rfl, rfl, rfl, rfl, rfl, rfl, rfl, rfl, rfl, rfl, rfl, rfl, trivial⟩ rfl rfl (fun rv l1 hP _ => ?_))) (fun c1 => nomatch (show true = false from c1)))
    rcases hP with ⟨o, e2, ho, rfl, rfl⟩ | ⟨e, q2, e2, rfl, rfl⟩
    · have hno := ofN_ne (c := o) (by have : o < H.1.2.1.length := ho; omega)
      rw [e2] at hS
      refine xw_go nostop 30 (fun K e => And.intro hix (And.intro hix (And.intro (fun _ => e _ _ _ _ (kT_call rfl rfl rfl rfl (r_adv hT h1) ⟨rfl, rfl, rfl, rfl, rfl, rfl, trivial⟩ rfl rfl (fun rv l1 hP _ => ?_))) (fun c2 => ?_))))
      · obtain ⟨rfl, cur2, h2, rfl⟩ := hP
        refine kT_pic (l2 := th b kd pl vl ky len tok cur2 tak tl fk fp (upd z.1 2 (Int32.ofNat (H.1.2.2.1.length + 1)), vp_updL z.2.1 (16 + H.1.2.2.1.length) (Int64.ofNat (e32 w 0)), z.2.2.1, z.2.2.2.1, z.2.2.2.2.1, z.2.2.2.2.2.1, upd z.2.2.2.2.2.2.1 (z.1 2).toNatClampNeg (Int32.ofNat o), z.2.2.2.2.2.2.2)) rfl ?_
        refine xw_go nostop 20 (fun K e => e _ _ _ _ (kT_call rfl rfl rfl rfl (r_stp (z := (upd z.1 2 (Int32.ofNat (H.1.2.2.1.length + 1)), vp_updL z.2.1 (16 + H.1.2.2.1.length) (Int64.ofNat (e32 w 0)), z.2.2.1, z.2.2.2.1, z.2.2.2.2.1, z.2.2.2.2.2.1, upd z.2.2.2.2.2.2.1 (z.1 2).toNatClampNeg (Int32.ofNat o), z.2.2.2.2.2.2.2)) hT h2 hN' hn') ⟨rfl, rfl, rfl, rfl, rfl, rfl, rfl, rfl, rfl, rfl, rfl, rfl, rfl, rfl, rfl, rfl, rfl, rfl, rfl, rfl, rfl, trivial⟩ rfl rfl (fun rv l1 hP _ => ?_)))
        rcases hP with ⟨f, e3, hf, rfl, rfl⟩ | ⟨e, q2, e3, rfl, rfl⟩
        · have hnf := ofN_ne (c := f) (by have : f < H.1.1.length := hf; omega)
          have hS : sErr T p H = sBind (sKno T (T (T q).2.2.2.2).2.2.2.2 H.1.1) (fun p4 t => if t = f then .inl (3, (T p4).2.1) else sBind (sW T (T p4).2.2.2.2) (fun p7 v => .inr (p7, ((H.1.1, H.1.2.1, H.1.2.2.1 ++ [w], H.1.2.2.2), H.2.1, H.2.2.1 ++ [(o, f, t, v.1, v.2.1, v.2.2)], H.2.2.2)))) := by
            rw [hS]
            show sBind (sKno T (T q).2.2.2.2 H.1.1) _ = _
            rw [e3]
            rfl
          refine xw_go nostop 30 (fun K e => And.intro hix (And.intro hix (And.intro (fun _ => e _ _ _ _ (kT_call rfl rfl rfl rfl (r_adv hT h2) ⟨rfl, rfl, rfl, rfl, rfl, rfl, trivial⟩ rfl rfl (fun rv l1 hP _ => ?_))) (fun c2 => ?_))))
          · obtain ⟨rfl, cur3, h3, rfl⟩ := hP
            refine kT_pic (l2 := th b kd pl vl ky len tok cur3 tak tl fk fp (upd z.1 2 (Int32.ofNat (H.1.2.2.1.length + 1)), vp_updL z.2.1 (16 + H.1.2.2.1.length) (Int64.ofNat (e32 w 0)), z.2.2.1, z.2.2.2.1, z.2.2.2.2.1, z.2.2.2.2.2.1, upd z.2.2.2.2.2.2.1 (z.1 2).toNatClampNeg (Int32.ofNat o), upd z.2.2.2.2.2.2.2.1 (z.1 2).toNatClampNeg (Int32.ofNat f), z.2.2.2.2.2.2.2.2)) rfl ?_
            refine xw_go nostop 20 (fun K e => e _ _ _ _ (kT_call rfl rfl rfl rfl (r_stp (z := (upd z.1 2 (Int32.ofNat (H.1.2.2.1.length + 1)), vp_updL z.2.1 (16 + H.1.2.2.1.length) (Int64.ofNat (e32 w 0)), z.2.2.1, z.2.2.2.1, z.2.2.2.2.1, z.2.2.2.2.2.1, upd z.2.2.2.2.2.2.1 (z.1 2).toNatClampNeg (Int32.ofNat o), upd z.2.2.2.2.2.2.2.1 (z.1 2).toNatClampNeg (Int32.ofNat f), z.2.2.2.2.2.2.2.2)) hT h3 hN' hn') ⟨rfl, rfl, rfl, rfl, rfl, rfl, rfl, rfl, rfl, rfl, rfl, rfl, rfl, rfl, rfl, rfl, rfl, rfl, rfl, rfl, rfl, trivial⟩ rfl rfl (fun rv l1 hP _ => ?_)))
            rcases hP with ⟨t, e4, ht, rfl, rfl⟩ | ⟨e, q2, e4, rfl, rfl⟩
            · have hnt := ofN_ne (c := t) (by have : t < H.1.1.length := ht; omega)
              rw [e4] at hS
              have hct := cmp_nat (i := t) (j := f) (by have : t < H.1.1.length := ht; omega) (by have : f < H.1.1.length := hf; omega)
              refine xw_go nostop 50 (fun K e => And.intro hix (And.intro hix (And.intro (fun _ => And.intro hix (And.intro hix (And.intro (fun c3 => e _ _ _ _ (kT_call rfl rfl rfl rfl (r_adv hT h3) ⟨rfl, rfl, rfl, rfl, rfl, rfl, trivial⟩ rfl rfl (fun rv l1 hP _ => ?_))) (fun c3 => e _ _ _ _ (kT_call rfl rfl rfl rfl (r_fails hT h3 _) ⟨rfl, rfl, rfl, rfl, rfl, rfl, trivial⟩ rfl rfl (fun rv l1 hP _ => ?_)))))) (fun c2 => ?_))))
              · obtain ⟨rfl, cur4, h4, rfl⟩ := hP
                refine kT_pic (l2 := th b kd pl vl ky len tok cur4 tak tl fk fp (upd z.1 2 (Int32.ofNat (H.1.2.2.1.length + 1)), vp_updL z.2.1 (16 + H.1.2.2.1.length) (Int64.ofNat (e32 w 0)), z.2.2.1, z.2.2.2.1, z.2.2.2.2.1, z.2.2.2.2.2.1, upd z.2.2.2.2.2.2.1 (z.1 2).toNatClampNeg (Int32.ofNat o), upd z.2.2.2.2.2.2.2.1 (z.1 2).toNatClampNeg (Int32.ofNat f), upd z.2.2.2.2.2.2.2.2.1 (z.1 2).toNatClampNeg (Int32.ofNat t), z.2.2.2.2.2.2.2.2.2)) rfl ?_
                have c4 : nj_cmp .ne (upd z.2.2.2.2.2.2.2.2.1 (z.1 2).toNatClampNeg (Int32.ofNat t) (z.1 2).toNatClampNeg) (upd z.2.2.2.2.2.2.2.1 (z.1 2).toNatClampNeg (Int32.ofNat f) (z.1 2).toNatClampNeg) = true := c3
                rw [hbk, hbk] at c4
                have c5 := of_decide_eq_true (hct.2.2.2.2.2.symm.trans c4)
                have hS := hS.trans (if_neg c5)
                refine xw_go nostop 20 (fun K e => e _ _ _ _ (kT_call rfl rfl rfl rfl (r_weightsV (v2 := z.1 2) (hv2 := n3.2.2.1) (z := (upd z.1 2 (Int32.ofNat (H.1.2.2.1.length + 1)), vp_updL z.2.1 (16 + H.1.2.2.1.length) (Int64.ofNat (e32 w 0)), z.2.2.1, z.2.2.2.1, z.2.2.2.2.1, z.2.2.2.2.2.1, upd z.2.2.2.2.2.2.1 (z.1 2).toNatClampNeg (Int32.ofNat o), upd z.2.2.2.2.2.2.2.1 (z.1 2).toNatClampNeg (Int32.ofNat f), upd z.2.2.2.2.2.2.2.2.1 (z.1 2).toNatClampNeg (Int32.ofNat t), z.2.2.2.2.2.2.2.2.2)) hT h4 hlen) ⟨rfl, rfl, rfl, rfl, rfl, rfl, rfl, rfl, rfl, rfl, rfl, rfl, rfl, rfl, rfl, rfl, rfl, rfl, rfl, rfl, rfl, trivial⟩ rfl rfl (fun rv l1 hP _ => ?_)))
                rcases hP with ⟨q5, x, y, v, cur5, tak5, e5, rfl, h5, rfl⟩ | ⟨e, q5, z5, cur5, tak5, e5, rfl, rfl⟩
                · rw [e5] at hS
                  refine xw_go nostop 20 (fun K e => e _ _ _ _ (kT_end rfl rfl (Or.inl ⟨q5, _, (upd z.1 2 (Int32.ofNat (H.1.2.2.1.length + 1)), vp_updL z.2.1 (16 + H.1.2.2.1.length) (Int64.ofNat (e32 w 0)), z.2.2.1, z.2.2.2.1, z.2.2.2.2.1, z.2.2.2.2.2.1, upd z.2.2.2.2.2.2.1 (z.1 2).toNatClampNeg (Int32.ofNat o), upd z.2.2.2.2.2.2.2.1 (z.1 2).toNatClampNeg (Int32.ofNat f), upd z.2.2.2.2.2.2.2.2.1 (z.1 2).toNatClampNeg (Int32.ofNat t), upd z.2.2.2.2.2.2.2.2.2.1 H.1.2.2.1.length (Int32.ofNat x), upd z.2.2.2.2.2.2.2.2.2.2.1 H.1.2.2.1.length (Int32.ofNat y), upd z.2.2.2.2.2.2.2.2.2.2.2.1 H.1.2.2.1.length (Int32.ofNat v), z.2.2.2.2.2.2.2.2.2.2.2.2), cur5, tak5, hS, rfl, h5, ⟨hN', hn', ⟨n3.1, n3.2.1, ?_, n3.2.2.2⟩, ?_⟩, ?_, rfl⟩)))
                  · show Int32.ofNat (H.1.2.2.1.length + 1) = Int32.ofNat (H.1.2.2.1 ++ [w]).length
                    rw [List.length_append]; rfl
                  · rw [hci]
                    obtain ⟨⟨a1, a2, a3, a4, a5, a6⟩, g2, g3, g4, g5, g6, g7⟩ := n4
                    refine ⟨⟨a1, a2, a3, a4, ?_, a6⟩, g2, g3, g4, g5, ?_, g7⟩
                    · show (H.2.2.1 ++ [_]).length = (H.1.2.2.1 ++ [w]).length
                      rw [List.length_append, List.length_append, a5]; rfl
                    · intro i hi
                      have hi2 : i < H.1.2.2.1.length + 1 := by
                        have : i < (H.1.2.2.1 ++ [w]).length := hi
                        rw [List.length_append] at this
                        exact this
                      show upd _ _ _ i = Int32.ofNat ((H.2.2.1 ++ [(o, f, t, x, y, v)]).getD i e6).1 ∧ upd _ _ _ i = Int32.ofNat ((H.2.2.1 ++ [(o, f, t, x, y, v)]).getD i e6).2.1 ∧ upd _ _ _ i = Int32.ofNat ((H.2.2.1 ++ [(o, f, t, x, y, v)]).getD i e6).2.2.1 ∧ upd _ _ _ i = Int32.ofNat ((H.2.2.1 ++ [(o, f, t, x, y, v)]).getD i e6).2.2.2.1 ∧ upd _ _ _ i = Int32.ofNat ((H.2.2.1 ++ [(o, f, t, x, y, v)]).getD i e6).2.2.2.2.1 ∧ upd _ _ _ i = Int32.ofNat ((H.2.2.1 ++ [(o, f, t, x, y, v)]).getD i e6).2.2.2.2.2
                      rw [gd_app, a5]
                      by_cases ei : i = H.1.2.2.1.length
                      · rw [if_neg (by omega), if_pos ei]
                        exact ⟨if_pos ei, if_pos ei, if_pos ei, if_pos ei, if_pos ei, if_pos ei⟩
                      · rw [if_pos (by omega)]
                        have g := g6 i (by omega)
                        exact ⟨(if_neg ei).trans g.1, (if_neg ei).trans g.2.1, (if_neg ei).trans g.2.2.1, (if_neg ei).trans g.2.2.2.1, (if_neg ei).trans g.2.2.2.2.1, (if_neg ei).trans g.2.2.2.2.2⟩
                  · rfl
                · rw [e5] at hS
                  exact xw_go nostop 20 (fun K e => e _ _ _ _ (kT_end rfl rfl (Or.inr ⟨_, _, z5, cur5, tak5, hS, rfl, rfl⟩)))
              · obtain ⟨rfl, rfl⟩ := hP
                have c4 : nj_cmp .ne (upd z.2.2.2.2.2.2.2.2.1 (z.1 2).toNatClampNeg (Int32.ofNat t) (z.1 2).toNatClampNeg) (upd z.2.2.2.2.2.2.2.1 (z.1 2).toNatClampNeg (Int32.ofNat f) (z.1 2).toNatClampNeg) = false := c3
                rw [hbk, hbk] at c4
                have c5 := Classical.not_not.mp (of_decide_eq_false (hct.2.2.2.2.2.symm.trans c4))
                exact xw_go nostop 20 (fun K e => e _ _ _ _ (kT_end rfl rfl (Or.inr ⟨3, _, (upd z.1 2 (Int32.ofNat (H.1.2.2.1.length + 1)), vp_updL z.2.1 (16 + H.1.2.2.1.length) (Int64.ofNat (e32 w 0)), z.2.2.1, z.2.2.2.1, z.2.2.2.2.1, z.2.2.2.2.2.1, upd z.2.2.2.2.2.2.1 (z.1 2).toNatClampNeg (Int32.ofNat o), upd z.2.2.2.2.2.2.2.1 (z.1 2).toNatClampNeg (Int32.ofNat f), upd z.2.2.2.2.2.2.2.2.1 (z.1 2).toNatClampNeg (Int32.ofNat t), z.2.2.2.2.2.2.2.2.2), cur3, tak, hS.trans (if_pos c5), rfl, rfl⟩)))
              · have c3 : nj_cmp .ne (upd z.2.2.2.2.2.2.2.2.1 (z.1 2).toNatClampNeg (Int32.ofNat t) (z.1 2).toNatClampNeg) (Int32.ofInt (-1)) = false := c2
                rw [hbk] at c3
                exact absurd (Classical.not_not.mp (of_decide_eq_false c3)) hnt
            · refine xw_go nostop 30 (fun K e => And.intro hix (And.intro hix (And.intro (fun c2 => ?_) (fun _ => e _ _ _ _ (kT_end rfl rfl (Or.inr ⟨_, _, (upd z.1 2 (Int32.ofNat (H.1.2.2.1.length + 1)), vp_updL z.2.1 (16 + H.1.2.2.1.length) (Int64.ofNat (e32 w 0)), z.2.2.1, z.2.2.2.1, z.2.2.2.2.1, z.2.2.2.2.2.1, upd z.2.2.2.2.2.2.1 (z.1 2).toNatClampNeg (Int32.ofNat o), upd z.2.2.2.2.2.2.2.1 (z.1 2).toNatClampNeg (Int32.ofNat f), upd z.2.2.2.2.2.2.2.2.1 (z.1 2).toNatClampNeg (Int32.ofInt (-1)), z.2.2.2.2.2.2.2.2.2), cur3, tak, ?_, rfl, rfl⟩))))))
              · have c3 : nj_cmp .ne (upd z.2.2.2.2.2.2.2.2.1 (z.1 2).toNatClampNeg (Int32.ofInt (-1)) (z.1 2).toNatClampNeg) (Int32.ofInt (-1)) = true := c2
                rw [hbk] at c3
                exact nomatch (show false = true from c3)
              · rw [hS, e4]
                rfl
          · have c3 : nj_cmp .ne (upd z.2.2.2.2.2.2.2.1 (z.1 2).toNatClampNeg (Int32.ofNat f) (z.1 2).toNatClampNeg) (Int32.ofInt (-1)) = false := c2
            rw [hbk] at c3
            exact absurd (Classical.not_not.mp (of_decide_eq_false c3)) hnf
        · refine xw_go nostop 30 (fun K e => And.intro hix (And.intro hix (And.intro (fun c2 => ?_) (fun _ => e _ _ _ _ (kT_end rfl rfl (Or.inr ⟨_, _, (upd z.1 2 (Int32.ofNat (H.1.2.2.1.length + 1)), vp_updL z.2.1 (16 + H.1.2.2.1.length) (Int64.ofNat (e32 w 0)), z.2.2.1, z.2.2.2.1, z.2.2.2.2.1, z.2.2.2.2.2.1, upd z.2.2.2.2.2.2.1 (z.1 2).toNatClampNeg (Int32.ofNat o), upd z.2.2.2.2.2.2.2.1 (z.1 2).toNatClampNeg (Int32.ofInt (-1)), z.2.2.2.2.2.2.2.2), cur2, tak, ?_, rfl, rfl⟩))))))
          · have c3 : nj_cmp .ne (upd z.2.2.2.2.2.2.2.1 (z.1 2).toNatClampNeg (Int32.ofInt (-1)) (z.1 2).toNatClampNeg) (Int32.ofInt (-1)) = true := c2
            rw [hbk] at c3
            exact nomatch (show false = true from c3)
          · rw [hS]
            show sBind (sKno T (T q).2.2.2.2 H.1.1) _ = _
            rw [e3]
            rfl
      · have c3 : nj_cmp .ne (upd z.2.2.2.2.2.2.1 (z.1 2).toNatClampNeg (Int32.ofNat o) (z.1 2).toNatClampNeg) (Int32.ofInt (-1)) = false := c2
        rw [hbk] at c3
        exact absurd (Classical.not_not.mp (of_decide_eq_false c3)) hno
    · refine xw_go nostop 30 (fun K e => And.intro hix (And.intro hix (And.intro (fun c2 => ?_) (fun _ => e _ _ _ _ (kT_end rfl rfl (Or.inr ⟨_, _, (upd z.1 2 (Int32.ofNat (H.1.2.2.1.length + 1)), vp_updL z.2.1 (16 + H.1.2.2.1.length) (Int64.ofNat (e32 w 0)), z.2.2.1, z.2.2.2.1, z.2.2.2.2.1, z.2.2.2.2.2.1, upd z.2.2.2.2.2.2.1 (z.1 2).toNatClampNeg (Int32.ofInt (-1)), z.2.2.2.2.2.2.2), cur1, tak, ?_, rfl, rfl⟩))))))
      · have c3 : nj_cmp .ne (upd z.2.2.2.2.2.2.1 (z.1 2).toNatClampNeg (Int32.ofInt (-1)) (z.1 2).toNatClampNeg) (Int32.ofInt (-1)) = true := c2
        rw [hbk] at c3
        exact nomatch (show false = true from c3)
      · rw [hS, e2]
        rfl
  · refine xw_go nostop 20 (fun K e => And.intro (fun c1 => nomatch (show false = true from c1)) (fun _ => e _ _ _ _ (kT_end rfl rfl (Or.inr ⟨_, _, z, cur1, tak, ?_, rfl, rfl⟩))))
    unfold sErr
    rw [hb.1.symm.trans e1]
    rfl
end RLE
