/-! the class reads a person, a god, a care -/
theorem gd_none {α : Type} (l : List (Option α)) (i : Nat) : (l ++ [none]).getD i none = l.getD i none := by
  rw [gd_app]
  split
  · rfl
  · next h =>
    rw [gd_out (by omega)]
    split <;> rfl
theorem hoB_pers {H : Hs} {z : Ho} {w : List Nat} {y : Nat} {o : Option Nat} {cn pa : Nat → Int32} {nm : Nat → Int64} (h : hoB H z) (hl : H.1.2.1.length < 10) (hy : y ≤ 300) (hpa : ∀ i, i < 10 → pa i = oI ((H.2.1.2.1 ++ [o]).getD i none)) : hoB ((H.1.1, H.1.2.1 ++ [w], H.1.2.2), (H.2.1.1 ++ [y], H.2.1.2.1 ++ [o], H.2.1.2.2.1 ++ [none], H.2.1.2.2.2 ++ [none]), H.2.2) (cn, nm, upd z.2.2.1 H.1.2.1.length (Int32.ofNat y), pa, z.2.2.2.2) := by
  obtain ⟨⟨a1, a2, a3, a4, a5, a6⟩, h2, h3, h4, h5, h6, h7⟩ := h
  refine ⟨⟨?_, ?_, ?_, ?_, a5, a6⟩, ?_, hpa, ?_, ?_, h6, h7⟩
  · show (H.2.1.1 ++ [y]).length = (H.1.2.1 ++ [w]).length
    rw [List.length_append, List.length_append, a1]; rfl
  · show (H.2.1.2.1 ++ [o]).length = (H.1.2.1 ++ [w]).length
    rw [List.length_append, List.length_append, a2]; rfl
  · show (H.2.1.2.2.1 ++ [none]).length = (H.1.2.1 ++ [w]).length
    rw [List.length_append, List.length_append, a3]; rfl
  · show (H.2.1.2.2.2 ++ [none]).length = (H.1.2.1 ++ [w]).length
    rw [List.length_append, List.length_append, a4]; rfl
  · intro i hi
    have hi2 : i < H.1.2.1.length + 1 := by
      have : i < (H.1.2.1 ++ [w]).length := hi
      rw [List.length_append] at this
      exact this
    show upd z.2.2.1 H.1.2.1.length (Int32.ofNat y) i = Int32.ofNat ((H.2.1.1 ++ [y]).getD i 0) ∧ (H.2.1.1 ++ [y]).getD i 0 ≤ 300
    rw [gd_app, a1]
    by_cases e : i = H.1.2.1.length
    · rw [if_neg (by omega), if_pos e]
      exact ⟨if_pos e, hy⟩
    · rw [if_pos (by omega)]
      have := h2 i (by omega)
      exact ⟨(if_neg e).trans this.1, this.2⟩
  · intro i hi
    show z.2.2.2.2.1 i = oI ((H.2.1.2.2.1 ++ [none]).getD i none) ∧ ∀ j, (H.2.1.2.2.1 ++ [none]).getD i none = some j → j < 10
    rw [gd_none]
    exact h4 i hi
  · intro i hi
    show z.2.2.2.2.2.1 i = oC ((H.2.1.2.2.2 ++ [none]).getD i none) ∧ bt z.2.2.2.2.2.2.2.2.2.2.2.2.2.2.1 i = ((H.2.1.2.2.2 ++ [none]).getD i none).isSome
    rw [gd_none]
    exact h5 i hi
section RLP
variable {L : Nat} {xs : Nat → Int32} {d : Nat} {b kd pl : Nat → Int32} {vl ky : Nat → Int64} {len tok cur tak tl fk fp : Int32} {T : Nat → Tk} {p : Nat} {z : Ho} {H : Hs}
theorem sKno_app (P : List (List Nat)) (w : List Nat) : (∀ k, sKno T p (P ++ [w]) = .inr (p, k) → (k < P.length → sKno T p P = .inr (p, k)) ∧ (¬ k < P.length → k = P.length ∧ sKno T p P = .inl (3, (T p).2.1))) ∧ (∀ e, sKno T p (P ++ [w]) = .inl e → sKno T p P = .inl e) := by
  rw [sKno_ok, sKno_ok]
  unfold kn3
  by_cases e : (T p).1 = 2
  · rw [if_neg (fun y => y e), if_neg (fun y => y e), fi_app]
    cases h1 : fi P (T p).2.2.1 with
    | some i =>
      have := (fi_some h1).1
      refine ⟨fun k y => ?_, fun e y => nomatch y⟩
      have y2 : (Sum.inr (p, i) : Rs Nat) = .inr (p, k) := y
      cases y2
      exact ⟨fun _ => rfl, fun y => absurd this y⟩
    | none =>
      cases h2 : fi [w] (T p).2.2.1 with
      | none => exact ⟨(fun k y => nomatch y), fun e y => y⟩
      | some i =>
        have := (fi_some h2).1
        have hi : i = 0 := by simpa using this
        subst hi
        refine ⟨fun k y => ?_, fun e y => nomatch y⟩
        have y2 : (Sum.inr (p, 0 + P.length) : Rs Nat) = .inr (p, k) := y
        cases y2
        exact ⟨fun y => absurd y (by omega), fun _ => ⟨by omega, rfl⟩⟩
  · rw [if_pos e, if_pos e]
    exact ⟨(fun k y => nomatch y), fun e y => y⟩
theorem r_person (hT : tkOk T) (h : txR T kd pl vl tok cur p) (hH : hoR H z) : mS nj_M nX0 L xs (d + 2) 38 [.ref 22, .ref 1] (th b kd pl vl ky len tok cur tak tl fk fp z) (pLn T b kd pl vl ky len tok tl fk fp z (sPers T p H)) := by
  obtain ⟨n1, n2, n3, n4⟩ := hH
  have hb := sBe_ok (p := p) hT n1 H.1.2.1.length 10
  have hl10 := n1.2.1
  have hci : (z.1 1).toNatClampNeg = H.1.2.1.length := by rw [n3.2.1]; exact ofN_cl (by omega)
  refine mS_of rfl (fun h0 => ?_)
  refine xw_go nostop 20 (fun K e => And.intro rfl (e _ _ _ _ (kT_call rfl rfl rfl rfl (r_begins (c := H.1.2.1.length) (s := 1) (lo := 6) (hi := 16) hT h n2 (by decide) rfl rfl (by decide) (by omega) n3.2.1) ⟨rfl, rfl, rfl, rfl, rfl, rfl, rfl, rfl, rfl, rfl, rfl, rfl, rfl, rfl, rfl, rfl, rfl, rfl, rfl, rfl, rfl, trivial⟩ rfl rfl (fun rv l1 hP _ => ?_))))
  rcases hP with ⟨q, w, cur1, e1, hlt, w1, w2, w3, rfl, h1, rfl⟩ | ⟨e, q, cur1, e1, rfl, rfl⟩
  · have hnew := hb.2 q w e1
    have e1' := hb.1.symm.trans e1
    have hlen : H.1.2.1.length < 10 := by omega
    have hix : nj_ix (z.1 1) 10 = true := by rw [n3.2.1]; exact (ix_nat (by omega) (by decide)).1
    have hN' := nmOk_2 n1 ⟨w1, w2, w3⟩ hnew hlen
    have hn' : nmR (vp_updL z.2.1 (6 + H.1.2.1.length) (Int64.ofNat (e32 w 0))) (nsl (H.1.1, H.1.2.1 ++ [w], H.1.2.2)) := by
      have := nmR_set n2 (k := 6 + H.1.2.1.length) (by omega) (w := w) ⟨w1, w2, w3⟩
      rw [nsl_2 n1 hlen] at this
      exact this
    have hcn' : (upd z.1 1 (Int32.ofNat (H.1.2.1.length + 1)) 0 = Int32.ofNat H.1.1.length ∧ upd z.1 1 (Int32.ofNat (H.1.2.1.length + 1)) 1 = Int32.ofNat (H.1.2.1 ++ [w]).length ∧ upd z.1 1 (Int32.ofNat (H.1.2.1.length + 1)) 2 = Int32.ofNat H.1.2.2.1.length ∧ upd z.1 1 (Int32.ofNat (H.1.2.1.length + 1)) 3 = Int32.ofNat H.1.2.2.2.length) := by
      refine ⟨n3.1, ?_, n3.2.2.1, n3.2.2.2⟩
      rw [List.length_append]
      rfl
    have hS : ∀ q2 y, sNum T q 0 300 = .inr (q2, y) → sPers T p H = (if (T q2).1 = 102 then sBind (sKno T (T q2).2.2.2.2 H.1.2.1) (fun p3 i => if y ≤ H.2.1.1.getD i 0 then .inl (3, (T p3).2.1) else .inr ((T p3).2.2.2.2, ((H.1.1, H.1.2.1 ++ [w], H.1.2.2), (H.2.1.1 ++ [y], H.2.1.2.1 ++ [some i], H.2.1.2.2.1 ++ [none], H.2.1.2.2.2 ++ [none]), H.2.2))) else .inr (q2, ((H.1.1, H.1.2.1 ++ [w], H.1.2.2), (H.2.1.1 ++ [y], H.2.1.2.1 ++ [none], H.2.1.2.2.1 ++ [none], H.2.1.2.2.2 ++ [none]), H.2.2))) := by
      intro q2 y hy
      unfold sPers
      rw [e1']
      show sBind (sNum T q 0 300) _ = _
      rw [hy]
      rfl
    refine xw_go nostop 20 (fun K e => And.intro (fun c1 => nomatch (show false = true from c1)) (fun _ => e _ _ _ _ (kT_call rfl rfl rfl rfl (r_num (lo := 0) (hi := 300) hT h1 (by decide) (by decide)) ⟨rfl, rfl, rfl, rfl, rfl, rfl, trivial⟩ rfl rfl (fun rv l1 hP _ => ?_))))
    rcases hP with ⟨q2, y, cur2, e2, hy, rfl, h2, rfl⟩ | ⟨e, q2, tak2, e2, rfl, rfl⟩
    · refine xw_go nostop 20 (fun K e => And.intro (fun _ => And.intro hix (e _ _ _ _ (kT_call rfl rfl rfl rfl (r_kind hT h2) ⟨rfl, rfl, rfl, rfl, rfl, rfl, trivial⟩ rfl rfl (fun rv l1 hP _ => ?_)))) (fun c1 => nomatch (show true = false from c1)))
      obtain ⟨rfl, rfl⟩ := hP
      have b3 := hT.2.2.1 q2
      have hc : nj_cmp .eq (Int32.ofNat (T q2).1) 102 = decide ((T q2).1 = 102) := (cmp_nat (i := (T q2).1) (j := 102) (by omega) (by omega)).2.2.2.2.1
      refine xw_go nostop 20 (fun K e => And.intro (fun c1 => e _ _ _ _ (kT_call rfl rfl rfl rfl (r_adv hT h2) ⟨rfl, rfl, rfl, rfl, rfl, rfl, trivial⟩ rfl rfl (fun rv l1 hP _ => ?_))) (fun c1 => e _ _ _ _ (kT_end rfl rfl (Or.inl ⟨q2, _, (upd z.1 1 (Int32.ofNat (H.1.2.1.length + 1)), vp_updL z.2.1 (6 + H.1.2.1.length) (Int64.ofNat (e32 w 0)), upd z.2.2.1 (z.1 1).toNatClampNeg (Int32.ofNat y), z.2.2.2), cur2, Int32.ofNat y, (hS q2 y e2).trans (if_neg (of_decide_eq_false (hc.symm.trans c1))), rfl, h2, ⟨hN', hn', hcn', ?_⟩, rfl, rfl⟩))))
      · obtain ⟨rfl, cur3, h3, rfl⟩ := hP
        have hk102 := of_decide_eq_true (hc.symm.trans c1)
        have hS2 := (hS q2 y e2).trans (if_pos hk102)
        refine xw_go nostop 20 (fun K e => e _ _ _ _ (kT_call rfl rfl rfl rfl (r_pers (z := (upd z.1 1 (Int32.ofNat (H.1.2.1.length + 1)), vp_updL z.2.1 (6 + H.1.2.1.length) (Int64.ofNat (e32 w 0)), upd z.2.2.1 (z.1 1).toNatClampNeg (Int32.ofNat y), z.2.2.2)) hT h3 hN' hn') ⟨rfl, rfl, rfl, rfl, rfl, rfl, rfl, rfl, rfl, rfl, rfl, rfl, rfl, rfl, rfl, rfl, rfl, rfl, rfl, rfl, rfl, trivial⟩ rfl rfl (fun rv l1 hP _ => ?_)))
        have hap := sKno_app (T := T) (p := (T q2).2.2.2.2) H.1.2.1 w
        rcases hP with ⟨k, e3, hk, rfl, rfl⟩ | ⟨e, q3, e3, rfl, rfl⟩
        · have hk2 : k < H.1.2.1.length + 1 := by
            have : k < (H.1.2.1 ++ [w]).length := hk
            rw [List.length_append] at this
            exact this
          have hxk := ix_nat (i := k) (n := 10) (by omega) (by decide)
          have hne := ofN_ne (c := k) (by omega)
          have hbk : ∀ v, upd z.2.2.1 (z.1 1).toNatClampNeg v (z.1 1).toNatClampNeg = v := fun v => if_pos rfl
          refine xw_go nostop 30 (fun K e => And.intro (fun _ => And.intro hxk.1 (And.intro hix (And.intro (fun c2 => And.intro hix (e _ _ _ _ (kT_call rfl rfl rfl rfl (r_adv hT h3) ⟨rfl, rfl, rfl, rfl, rfl, rfl, trivial⟩ rfl rfl (fun rv l1 hP _ => ?_)))) (fun c2 => e _ _ _ _ (kT_call rfl rfl rfl rfl (r_fails hT h3 _) ⟨rfl, rfl, rfl, rfl, rfl, rfl, trivial⟩ rfl rfl (fun rv l1 hP _ => ?_)))))) (fun c2 => absurd (Classical.not_not.mp (of_decide_eq_false (show decide (¬ Int32.ofNat k = Int32.ofInt (-1)) = false from c2))) hne))
          · obtain ⟨rfl, cur4, h4, rfl⟩ := hP
            have c3 : nj_cmp .lt (upd z.2.2.1 (z.1 1).toNatClampNeg (Int32.ofNat y) (Int32.ofNat k).toNatClampNeg) (upd z.2.2.1 (z.1 1).toNatClampNeg (Int32.ofNat y) (z.1 1).toNatClampNeg) = true := c2
            rw [hbk, hxk.2, hci] at c3
            by_cases hkl : k < H.1.2.1.length
            · have e4 := (hap.1 k e3).1 hkl
              have hbo := n4.2.1 k hkl
              rw [show upd z.2.2.1 H.1.2.1.length (Int32.ofNat y) k = z.2.2.1 k from if_neg (by omega), hbo.1] at c3
              have c4 := of_decide_eq_true ((cmp_nat (i := H.2.1.1.getD k 0) (j := y) (by omega) (by omega)).2.1.symm.trans c3)
              refine xw_go nostop 20 (fun K e => e _ _ _ _ (kT_end rfl rfl (Or.inl ⟨_, ((H.1.1, H.1.2.1 ++ [w], H.1.2.2), (H.2.1.1 ++ [y], H.2.1.2.1 ++ [some k], H.2.1.2.2.1 ++ [none], H.2.1.2.2.2 ++ [none]), H.2.2), (upd z.1 1 (Int32.ofNat (H.1.2.1.length + 1)), vp_updL z.2.1 (6 + H.1.2.1.length) (Int64.ofNat (e32 w 0)), upd z.2.2.1 (z.1 1).toNatClampNeg (Int32.ofNat y), upd z.2.2.2.1 (z.1 1).toNatClampNeg (Int32.ofNat k), z.2.2.2.2), cur4, Int32.ofNat y, ?_, rfl, h4, ⟨hN', hn', hcn', ?_⟩, rfl, rfl⟩)))
              · rw [hS2, e4]
                show (if y ≤ H.2.1.1.getD k 0 then _ else _) = _
                rw [if_neg (by omega)]
              · rw [hci]
                refine hoB_pers n4 hlen hy (fun i hi => ?_)
                rw [gd_app, n4.1.2.1]
                by_cases ei : i = H.1.2.1.length
                · rw [if_neg (by omega), if_pos ei]
                  exact if_pos ei
                · by_cases ei2 : i < H.1.2.1.length
                  · rw [if_pos ei2]
                    exact (if_neg ei).trans (n4.2.2.1 i hi)
                  · rw [if_neg ei2, if_neg ei]
                    have := n4.2.2.1 i hi
                    rw [gd_out (by rw [n4.1.2.1]; omega)] at this
                    exact (if_neg ei).trans this
            · have e4 := (hap.1 k e3).2 hkl
              rw [e4.1, show upd z.2.2.1 H.1.2.1.length (Int32.ofNat y) H.1.2.1.length = Int32.ofNat y from if_pos rfl] at c3
              have c4 := of_decide_eq_true ((cmp_nat (i := y) (j := y) (by omega) (by omega)).2.1.symm.trans c3)
              omega
          · obtain ⟨rfl, rfl⟩ := hP
            have c3 : nj_cmp .lt (upd z.2.2.1 (z.1 1).toNatClampNeg (Int32.ofNat y) (Int32.ofNat k).toNatClampNeg) (upd z.2.2.1 (z.1 1).toNatClampNeg (Int32.ofNat y) (z.1 1).toNatClampNeg) = false := c2
            rw [hbk, hxk.2, hci] at c3
            refine xw_go nostop 20 (fun K e => e _ _ _ _ (kT_end rfl rfl (Or.inr ⟨3, _, (upd z.1 1 (Int32.ofNat (H.1.2.1.length + 1)), vp_updL z.2.1 (6 + H.1.2.1.length) (Int64.ofNat (e32 w 0)), upd z.2.2.1 (z.1 1).toNatClampNeg (Int32.ofNat y), z.2.2.2), cur3, Int32.ofNat y, ?_, rfl, rfl⟩)))
            rw [hS2]
            by_cases hkl : k < H.1.2.1.length
            · have hbo := n4.2.1 k hkl
              rw [show upd z.2.2.1 H.1.2.1.length (Int32.ofNat y) k = z.2.2.1 k from if_neg (by omega), hbo.1] at c3
              have c4 := of_decide_eq_false ((cmp_nat (i := H.2.1.1.getD k 0) (j := y) (by omega) (by omega)).2.1.symm.trans c3)
              rw [(hap.1 k e3).1 hkl]
              show (if y ≤ H.2.1.1.getD k 0 then _ else _) = _
              rw [if_pos (by omega)]
            · rw [((hap.1 k e3).2 hkl).2]
              rfl
        · refine xw_go nostop 20 (fun K e => And.intro (fun c2 => nomatch (show false = true from c2)) (fun _ => e _ _ _ _ (kT_end rfl rfl (Or.inr ⟨_, _, (upd z.1 1 (Int32.ofNat (H.1.2.1.length + 1)), vp_updL z.2.1 (6 + H.1.2.1.length) (Int64.ofNat (e32 w 0)), upd z.2.2.1 (z.1 1).toNatClampNeg (Int32.ofNat y), z.2.2.2), cur3, Int32.ofNat y, ?_, rfl, rfl⟩))))
          rw [hS2, hap.2 _ e3]
          rfl
      · rw [hci]
        refine hoB_pers n4 hlen hy (fun i hi => ?_)
        rw [gd_none]
        exact n4.2.2.1 i hi
    · refine xw_go nostop 20 (fun K e => And.intro (fun c1 => nomatch (show false = true from c1)) (fun _ => e _ _ _ _ (kT_end rfl rfl (Or.inr ⟨_, _, (upd z.1 1 (Int32.ofNat (H.1.2.1.length + 1)), vp_updL z.2.1 (6 + H.1.2.1.length) (Int64.ofNat (e32 w 0)), z.2.2), cur1, tak2, ?_, rfl, rfl⟩))))
      unfold sPers
      rw [e1']
      show sBind (sNum T q 0 300) _ = _
      rw [e2]
      rfl
  · refine xw_go nostop 20 (fun K e => And.intro (fun _ => e _ _ _ _ (kT_end rfl rfl (Or.inr ⟨_, _, z, cur1, tak, ?_, rfl, rfl⟩))) (fun c1 => nomatch (show true = false from c1)))
    unfold sPers
    rw [hb.1.symm.trans e1]
    rfl
theorem r_god (hT : tkOk T) (h : txR T kd pl vl tok cur p) (hH : hoR H z) : mS nj_M nX0 L xs (d + 2) 41 [.ref 22, .ref 1] (th b kd pl vl ky len tok cur tak tl fk fp z) (pLn T b kd pl vl ky len tok tl fk fp z (sGod T p H)) := by
  obtain ⟨n1, n2, n3, n4⟩ := hH
  have hl10 := n1.2.1
  refine mS_of rfl (fun h0 => ?_)
  refine xw_go nostop 20 (fun K e => e _ _ _ _ (kT_call rfl rfl rfl rfl (r_adv hT h) ⟨rfl, rfl, rfl, rfl, rfl, rfl, trivial⟩ rfl rfl (fun rv l1 hP _ => ?_)))
  obtain ⟨rfl, cur1, h1, rfl⟩ := hP
  refine xw_go nostop 20 (fun K e => e _ _ _ _ (kT_call rfl rfl rfl rfl (r_pers (z := z) hT h1 n1 n2) ⟨rfl, rfl, rfl, rfl, rfl, rfl, rfl, rfl, rfl, rfl, rfl, rfl, rfl, rfl, rfl, rfl, rfl, rfl, rfl, rfl, rfl, trivial⟩ rfl rfl (fun rv l1 hP _ => ?_)))
  rcases hP with ⟨i, e1, hi, rfl, rfl⟩ | ⟨e, q, e1, rfl, rfl⟩
  · have hxi := ix_nat (i := i) (n := 10) (by omega) (by decide)
    have hne := ofN_ne (c := i) (by omega)
    have hgo := n4.2.2.2.1 i (by omega)
    have hS : sGod T p H = if (H.2.1.2.2.1.getD i none).isSome = true then .inl (3, (T (T p).2.2.2.2).2.1) else sBind (sKno T (T (T p).2.2.2.2).2.2.2.2 H.1.2.1) (fun p2 j => if j = i then .inl (3, (T p2).2.1) else .inr ((T p2).2.2.2.2, (H.1, (H.2.1.1, H.2.1.2.1, H.2.1.2.2.1.set i (some j), H.2.1.2.2.2), H.2.2))) := by
      unfold sGod
      rw [e1]
      rfl
    refine xw_go nostop 30 (fun K e => And.intro (fun _ => And.intro hxi.1 (And.intro (fun c2 => e _ _ _ _ (kT_call rfl rfl rfl rfl (r_adv hT h1) ⟨rfl, rfl, rfl, rfl, rfl, rfl, trivial⟩ rfl rfl (fun rv l1 hP _ => ?_))) (fun c2 => e _ _ _ _ (kT_call rfl rfl rfl rfl (r_fails hT h1 _) ⟨rfl, rfl, rfl, rfl, rfl, rfl, trivial⟩ rfl rfl (fun rv l1 hP _ => ?_))))) (fun c2 => absurd (Classical.not_not.mp (of_decide_eq_false (show decide (¬ Int32.ofNat i = Int32.ofInt (-1)) = false from c2))) hne))
    · obtain ⟨rfl, cur2, h2, rfl⟩ := hP
      have c3 : nj_cmp .eq (z.2.2.2.2.1 (Int32.ofNat i).toNatClampNeg) (Int32.ofInt (-1)) = true := c2
      rw [hxi.2, hgo.1] at c3
      have hg0 : H.2.1.2.2.1.getD i none = none := by
        cases hg : H.2.1.2.2.1.getD i none with
        | none => rfl
        | some j =>
          rw [hg] at c3
          have := hgo.2 j hg
          exact absurd (of_decide_eq_true (show decide (Int32.ofNat j = Int32.ofInt (-1)) = true from c3)) (ofN_ne (by omega))
      rw [hg0, if_neg (by decide)] at hS
      refine xw_go nostop 20 (fun K e => e _ _ _ _ (kT_call rfl rfl rfl rfl (r_pers (z := z) hT h2 n1 n2) ⟨rfl, rfl, rfl, rfl, rfl, rfl, rfl, rfl, rfl, rfl, rfl, rfl, rfl, rfl, rfl, rfl, rfl, rfl, rfl, rfl, rfl, trivial⟩ rfl rfl (fun rv l1 hP _ => ?_)))
      rcases hP with ⟨j, e2, hj, rfl, rfl⟩ | ⟨e, q, e2, rfl, rfl⟩
      · have hnej := ofN_ne (c := j) (by omega)
        rw [e2] at hS
        have hcj := cmp_nat (i := j) (j := i) (by omega) (by omega)
        refine xw_go nostop 30 (fun K e => And.intro (fun _ => And.intro (fun c4 => And.intro hxi.1 (e _ _ _ _ (kT_call rfl rfl rfl rfl (r_adv hT h2) ⟨rfl, rfl, rfl, rfl, rfl, rfl, trivial⟩ rfl rfl (fun rv l1 hP _ => ?_)))) (fun c4 => e _ _ _ _ (kT_call rfl rfl rfl rfl (r_fails hT h2 _) ⟨rfl, rfl, rfl, rfl, rfl, rfl, trivial⟩ rfl rfl (fun rv l1 hP _ => ?_)))) (fun c4 => absurd (Classical.not_not.mp (of_decide_eq_false (show decide (¬ Int32.ofNat j = Int32.ofInt (-1)) = false from c4))) hnej))
        · obtain ⟨rfl, cur3, h3, rfl⟩ := hP
          have c5 := of_decide_eq_true (hcj.2.2.2.2.2.symm.trans c4)
          refine xw_go nostop 20 (fun K e => e _ _ _ _ (kT_end rfl rfl (Or.inl ⟨_, _, (z.1, z.2.1, z.2.2.1, z.2.2.2.1, upd z.2.2.2.2.1 (Int32.ofNat i).toNatClampNeg (Int32.ofNat j), z.2.2.2.2.2), cur3, tak, hS.trans (if_neg c5), rfl, h3, ⟨n1, n2, n3, ?_⟩, rfl, rfl⟩)))
          rw [hxi.2]
          obtain ⟨⟨a1, a2, a3, a4, a5, a6⟩, g2, g3, g4, g5, g6, g7⟩ := n4
          refine ⟨⟨a1, a2, (List.length_set ..).trans a3, a4, a5, a6⟩, g2, g3, ?_, g5, g6, g7⟩
          intro k hk
          show upd z.2.2.2.2.1 i (Int32.ofNat j) k = oI ((H.2.1.2.2.1.set i (some j)).getD k none) ∧ ∀ x, (H.2.1.2.2.1.set i (some j)).getD k none = some x → x < 10
          rw [gd_set _ _ _ _ (by rw [a3]; exact hi)]
          by_cases ek : k = i
          · rw [if_pos ek]
            exact ⟨if_pos ek, fun x hx => by cases hx; omega⟩
          · rw [if_neg ek]
            exact ⟨(if_neg ek).trans (g4 k hk).1, (g4 k hk).2⟩
        · obtain ⟨rfl, rfl⟩ := hP
          have c5 := Classical.not_not.mp (of_decide_eq_false (hcj.2.2.2.2.2.symm.trans c4))
          exact xw_go nostop 20 (fun K e => e _ _ _ _ (kT_end rfl rfl (Or.inr ⟨3, _, z, cur2, tak, hS.trans (if_pos c5), rfl, rfl⟩)))
      · rw [e2] at hS
        exact xw_go nostop 20 (fun K e => And.intro (fun c4 => nomatch (show false = true from c4)) (fun _ => e _ _ _ _ (kT_end rfl rfl (Or.inr ⟨_, _, z, cur2, tak, hS, rfl, rfl⟩))))
    · obtain ⟨rfl, rfl⟩ := hP
      have c3 : nj_cmp .eq (z.2.2.2.2.1 (Int32.ofNat i).toNatClampNeg) (Int32.ofInt (-1)) = false := c2
      rw [hxi.2, hgo.1] at c3
      have hg0 : (H.2.1.2.2.1.getD i none).isSome = true := by
        cases hg : H.2.1.2.2.1.getD i none with
        | none => rw [hg] at c3; exact nomatch (show true = false from c3)
        | some j => rfl
      exact xw_go nostop 20 (fun K e => e _ _ _ _ (kT_end rfl rfl (Or.inr ⟨3, _, z, cur1, tak, hS.trans (if_pos hg0), rfl, rfl⟩)))
  · have hS : sGod T p H = .inl (e, q) := by
      unfold sGod
      rw [e1]
      rfl
    exact xw_go nostop 20 (fun K e => And.intro (fun c4 => nomatch (show false = true from c4)) (fun _ => e _ _ _ _ (kT_end rfl rfl (Or.inr ⟨_, _, z, cur1, tak, hS, rfl, rfl⟩))))
theorem r_care (hT : tkOk T) (h : txR T kd pl vl tok cur p) (hH : hoR H z) : mS nj_M nX0 L xs (d + 2) 42 [.ref 22, .ref 1] (th b kd pl vl ky len tok cur tak tl fk fp z) (pLn T b kd pl vl ky len tok tl fk fp z (sCare T p H)) := by
  obtain ⟨n1, n2, n3, n4⟩ := hH
  have hl10 := n1.2.1
  refine mS_of rfl (fun h0 => ?_)
  refine xw_go nostop 20 (fun K e => e _ _ _ _ (kT_call rfl rfl rfl rfl (r_adv hT h) ⟨rfl, rfl, rfl, rfl, rfl, rfl, trivial⟩ rfl rfl (fun rv l1 hP _ => ?_)))
  obtain ⟨rfl, cur1, h1, rfl⟩ := hP
  refine xw_go nostop 20 (fun K e => e _ _ _ _ (kT_call rfl rfl rfl rfl (r_pers (z := z) hT h1 n1 n2) ⟨rfl, rfl, rfl, rfl, rfl, rfl, rfl, rfl, rfl, rfl, rfl, rfl, rfl, rfl, rfl, rfl, rfl, rfl, rfl, rfl, rfl, trivial⟩ rfl rfl (fun rv l1 hP _ => ?_)))
  rcases hP with ⟨i, e1, hi, rfl, rfl⟩ | ⟨e, q, e1, rfl, rfl⟩
  · have hxi := ix_nat (i := i) (n := 10) (by omega) (by decide)
    have hne := ofN_ne (c := i) (by omega)
    have hca := n4.2.2.2.2.1 i (by omega)
    have hbt := bt_c (x := z.2.2.2.2.2.2.2.2.2.2.2.2.2.2.1) (i := i) (by omega)
    have hS : sCare T p H = if (H.2.1.2.2.2.getD i none).isSome = true then .inl (3, (T (T p).2.2.2.2).2.1) else sBind (sNum T (T (T p).2.2.2.2).2.2.2.2 0 9) (fun p2 v => .inr (p2, (H.1, (H.2.1.1, H.2.1.2.1, H.2.1.2.2.1, H.2.1.2.2.2.set i (some v)), H.2.2))) := by
      unfold sCare
      rw [e1]
      rfl
    refine xw_go nostop 40 (fun K e => And.intro (fun _ => And.intro (fun c2 => And.intro rfl (e _ _ _ _ (kT_call rfl rfl rfl rfl (r_adv hT h1) ⟨rfl, rfl, rfl, rfl, rfl, rfl, trivial⟩ rfl rfl (fun rv l1 hP _ => ?_)))) (fun c2 => e _ _ _ _ (kT_call rfl rfl rfl rfl (r_fails hT h1 _) ⟨rfl, rfl, rfl, rfl, rfl, rfl, trivial⟩ rfl rfl (fun rv l1 hP _ => ?_)))) (fun c2 => absurd (Classical.not_not.mp (of_decide_eq_false (show decide (¬ Int32.ofNat i = Int32.ofInt (-1)) = false from c2))) hne))
    · obtain ⟨rfl, cur2, h2, rfl⟩ := hP
      have c3 := hbt.symm.trans c2
      rw [hca.2] at c3
      have hg0 : (H.2.1.2.2.2.getD i none).isSome = false := by simpa using c3
      rw [if_neg (by rw [hg0]; decide)] at hS
      refine xw_go nostop 20 (fun K e => e _ _ _ _ (kT_call rfl rfl rfl rfl (r_num (lo := 0) (hi := 9) hT h2 (by decide) (by decide)) ⟨rfl, rfl, rfl, rfl, rfl, rfl, trivial⟩ rfl rfl (fun rv l1 hP _ => ?_)))
      rcases hP with ⟨q2, y, cur3, e2, hy, rfl, h3, rfl⟩ | ⟨e, q2, tak2, e2, rfl, rfl⟩
      · rw [e2] at hS
        refine xw_go nostop 20 (fun K e => And.intro (fun _ => And.intro hxi.1 (e _ _ _ _ (kT_end rfl rfl (Or.inl ⟨_, _, (z.1, z.2.1, z.2.2.1, z.2.2.2.1, z.2.2.2.2.1, upd z.2.2.2.2.2.1 (Int32.ofNat i).toNatClampNeg (Int32.ofNat y), z.2.2.2.2.2.2.1, z.2.2.2.2.2.2.2.1, z.2.2.2.2.2.2.2.2.1, z.2.2.2.2.2.2.2.2.2.1, z.2.2.2.2.2.2.2.2.2.2.1, z.2.2.2.2.2.2.2.2.2.2.2.1, z.2.2.2.2.2.2.2.2.2.2.2.2.1, z.2.2.2.2.2.2.2.2.2.2.2.2.2.1, z.2.2.2.2.2.2.2.2.2.2.2.2.2.2.1 ||| (Int32.ofInt 1 <<< (Int32.ofNat i &&& 31)), z.2.2.2.2.2.2.2.2.2.2.2.2.2.2.2), cur3, Int32.ofNat y, hS, rfl, h3, ⟨n1, n2, n3, ?_⟩, rfl, rfl⟩)))) (fun c1 => nomatch (show true = false from c1)))
        rw [hxi.2]
        obtain ⟨⟨a1, a2, a3, a4, a5, a6⟩, g2, g3, g4, g5, g6, g7⟩ := n4
        refine ⟨⟨a1, a2, a3, (List.length_set ..).trans a4, a5, a6⟩, g2, g3, g4, ?_, g6, g7⟩
        intro k hk
        show upd z.2.2.2.2.2.1 i (Int32.ofNat y) k = oC ((H.2.1.2.2.2.set i (some y)).getD k none) ∧ bt (z.2.2.2.2.2.2.2.2.2.2.2.2.2.2.1 ||| (Int32.ofInt 1 <<< (Int32.ofNat i &&& 31))) k = ((H.2.1.2.2.2.set i (some y)).getD k none).isSome
        rw [gd_set _ _ _ _ (by rw [a4]; exact hi), bt_or (by omega) (by omega)]
        by_cases ek : k = i
        · rw [if_pos ek, decide_eq_true ek]
          exact ⟨if_pos ek, rfl⟩
        · rw [if_neg ek, decide_eq_false ek]
          exact ⟨(if_neg ek).trans (g5 k hk).1, (g5 k hk).2⟩
      · rw [e2] at hS
        exact xw_go nostop 20 (fun K e => And.intro (fun c1 => nomatch (show false = true from c1)) (fun _ => e _ _ _ _ (kT_end rfl rfl (Or.inr ⟨_, _, (z.1, z.2.1, z.2.2.1, z.2.2.2.1, z.2.2.2.2.1, z.2.2.2.2.2.1, z.2.2.2.2.2.2.1, z.2.2.2.2.2.2.2.1, z.2.2.2.2.2.2.2.2.1, z.2.2.2.2.2.2.2.2.2.1, z.2.2.2.2.2.2.2.2.2.2.1, z.2.2.2.2.2.2.2.2.2.2.2.1, z.2.2.2.2.2.2.2.2.2.2.2.2.1, z.2.2.2.2.2.2.2.2.2.2.2.2.2.1, z.2.2.2.2.2.2.2.2.2.2.2.2.2.2.1 ||| (Int32.ofInt 1 <<< (Int32.ofNat i &&& 31)), z.2.2.2.2.2.2.2.2.2.2.2.2.2.2.2), cur2, tak2, hS, rfl, rfl⟩))))
    · obtain ⟨rfl, rfl⟩ := hP
      have c3 := hbt.symm.trans c2
      rw [hca.2] at c3
      have hg0 : (H.2.1.2.2.2.getD i none).isSome = true := by simpa using c3
      exact xw_go nostop 20 (fun K e => e _ _ _ _ (kT_end rfl rfl (Or.inr ⟨3, _, z, cur1, tak, hS.trans (if_pos hg0), rfl, rfl⟩)))
  · have hS : sCare T p H = .inl (e, q) := by
      unfold sCare
      rw [e1]
      rfl
    exact xw_go nostop 20 (fun K e => And.intro (fun c4 => nomatch (show false = true from c4)) (fun _ => e _ _ _ _ (kT_end rfl rfl (Or.inr ⟨_, _, z, cur1, tak, hS, rfl, rfl⟩))))
end RLP
