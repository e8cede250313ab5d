/-! the reference reads an error -/
theorem rhB_err {H : Hs} {hh h1 : Nat → Int32} {crs : Int32} {w : List Nat} {po f t v1 v2 v3 : Nat} (h : rhB H hh crs) (n1 : nmOk H.1) (hl : H.1.2.2.1.length < 6) (ha : ∀ i, 4 ≤ i → ¬ i = 74 + H.1.2.2.1.length → ¬ i = 44 + H.1.2.2.1.length → ¬ i = 50 + H.1.2.2.1.length → ¬ i = 56 + H.1.2.2.1.length → ¬ i = 62 + H.1.2.2.1.length → ¬ i = 68 + H.1.2.2.1.length → h1 i = hh i) (b1 : h1 (74 + H.1.2.2.1.length) = Int32.ofNat po) (b2 : h1 (44 + H.1.2.2.1.length) = Int32.ofNat f) (b3 : h1 (50 + H.1.2.2.1.length) = Int32.ofNat t) (b4 : h1 (56 + H.1.2.2.1.length) = Int32.ofNat v1) (b5 : h1 (62 + H.1.2.2.1.length) = Int32.ofNat v2) (b6 : h1 (68 + H.1.2.2.1.length) = Int32.ofNat v3) : rhB ((H.1.1, H.1.2.1, H.1.2.2.1 ++ [w], H.1.2.2.2), H.2.1, H.2.2.1 ++ [(po, f, t, v1, v2, v3)], H.2.2.2) h1 crs := by
  obtain ⟨⟨a1, a2, a3, a4, a5, a6⟩, g2, g3, g4, g5, g6, g7, g8⟩ := h
  have l2 := n1.2.1
  have l4 := n1.2.2.2.1
  refine ⟨⟨a1, a2, a3, a4, ?_, a6⟩, ?_, ?_, ?_, ?_, g6, ?_, ?_⟩
  · show (H.2.2.1 ++ [_]).length = (H.1.2.2.1 ++ [w]).length
    rw [List.length_append, List.length_append, a5]; rfl
  · intro i hi
    have hi3 : i < H.1.2.1.length := hi
    rw [ha (4 + i) (by omega) (by omega) (by omega) (by omega) (by omega) (by omega) (by omega)]
    exact g2 i hi3
  · intro i hi
    have hi3 : i < H.1.2.1.length := hi
    rw [ha (14 + i) (by omega) (by omega) (by omega) (by omega) (by omega) (by omega) (by omega)]
    exact g3 i hi3
  · intro i hi
    rw [ha (24 + i) (by omega) (by omega) (by omega) (by omega) (by omega) (by omega) (by omega)]
    exact g4 i hi
  · intro i hi
    have hi3 : i < H.1.2.1.length := hi
    rw [ha (34 + i) (by omega) (by omega) (by omega) (by omega) (by omega) (by omega) (by omega)]
    exact g5 i hi3
  · intro i hi
    have hi2 : i < H.1.2.2.1.length + 1 := by
      have : i < (H.1.2.2.1 ++ [w]).length := hi
      rw [List.length_append] at this
      exact this
    show h1 (74 + i) = Int32.ofNat ((H.2.2.1 ++ [(po, f, t, v1, v2, v3)]).getD i e6).1 ∧ h1 (44 + i) = Int32.ofNat ((H.2.2.1 ++ [(po, f, t, v1, v2, v3)]).getD i e6).2.1 ∧ h1 (50 + i) = Int32.ofNat ((H.2.2.1 ++ [(po, f, t, v1, v2, v3)]).getD i e6).2.2.1 ∧ h1 (56 + i) = Int32.ofNat ((H.2.2.1 ++ [(po, f, t, v1, v2, v3)]).getD i e6).2.2.2.1 ∧ h1 (62 + i) = Int32.ofNat ((H.2.2.1 ++ [(po, f, t, v1, v2, v3)]).getD i e6).2.2.2.2.1 ∧ h1 (68 + i) = Int32.ofNat ((H.2.2.1 ++ [(po, f, t, v1, v2, v3)]).getD i e6).2.2.2.2.2
    rw [gd_app, a5]
    by_cases e : i = H.1.2.2.1.length
    · rw [if_neg (by omega), if_pos e, e]
      exact ⟨b1, b2, b3, b4, b5, b6⟩
    · rw [if_pos (by omega), ha (74 + i) (by omega) (by omega) (by omega) (by omega) (by omega) (by omega) (by omega), ha (44 + i) (by omega) (by omega) (by omega) (by omega) (by omega) (by omega) (by omega), ha (50 + i) (by omega) (by omega) (by omega) (by omega) (by omega) (by omega) (by omega), ha (56 + i) (by omega) (by omega) (by omega) (by omega) (by omega) (by omega) (by omega), ha (62 + i) (by omega) (by omega) (by omega) (by omega) (by omega) (by omega) (by omega), ha (68 + i) (by omega) (by omega) (by omega) (by omega) (by omega) (by omega) (by omega)]
      exact g7 i (by omega)
  · intro i hi
    have hi3 : i < H.1.2.2.2.length := hi
    have g := g8 i hi3
    refine ⟨g.1, ?_, fun j hj => ?_⟩
    · rw [ha (80 + i) (by omega) (by omega) (by omega) (by omega) (by omega) (by omega) (by omega)]
      exact g.2.1
    · rw [ha (84 + 12 * i + j) (by omega) (by omega) (by omega) (by omega) (by omega) (by omega) (by omega)]
      exact g.2.2 j hj
section RFQ
variable {L : Nat} {xs : Nat → Int32} {d : Nat} {o : Nat → Value} {thr len sz lim : Int32} {X : Lx} {flt fat got lns crs : Int32} {b hh : Nat → Int32} {nms rsv : Nat → Int64} {n m q : Nat} {H : Hs}
set_option maxHeartbeats 4000000 in
theorem k_error (hn : n ≤ 940) (hm : m ≤ 900) (hby : ∀ i, i < 940 → -128 ≤ (b i).toInt ∧ (b i).toInt ≤ 127) (hrs : rsvOk rsv) (h : rX b n m q X) (hH : rfR H hh nms crs) : mS nj_M nX0 L xs (d + 4) 179 [.ref 175] (rfP o thr len (Int32.ofNat n) (Int32.ofNat m) X flt fat got lns crs b hh nms rsv) (pLr o thr len n m flt fat lns b rsv (sErr (tk b n m) q H)) := by
  obtain ⟨n1, n2, n3, n4⟩ := hH
  have hl10 := n1.2.1
  have hl6 := n1.1
  have hlE := n1.2.2.1
  have hlD := n1.2.2.2.1
  have okP : ∀ w ∈ H.1.2.1, wOk w := fun w hw => n1.2.2.2.2.2 w (alln_mem.mpr (Or.inr (Or.inl hw)))
  have okS : ∀ w ∈ H.1.1, wOk w := fun w hw => n1.2.2.2.2.2 w (alln_mem.mpr (Or.inl hw))
  have hcc := (cmp_nat (i := H.1.2.2.1.length) (j := 6) (by omega) (by omega)).2.2.2.2.2
  rw [← n3.2.2.1] at hcc
  refine mS_of rfl (fun h0 => ?_)
  refine xw_go nostop 20 (fun K e => And.intro rfl (And.intro (fun c => e _ _ _ _ (kT_call rfl rfl rfl rfl (k_next hn hm hby h) ⟨rfl, rfl, rfl, rfl, rfl, trivial⟩ rfl rfl (fun rv l1 hP _ => ?_))) (fun c => e _ _ _ _ (kT_call rfl rfl rfl rfl (k_bad h _) ⟨rfl, rfl, rfl, rfl, rfl, trivial⟩ rfl rfl (fun rv l1 hP _ => ?_)))))
  · obtain ⟨rfl, X1, hX1, rfl⟩ := hP
    have hne := of_decide_eq_true (hcc.symm.trans c)
    have hlt : H.1.2.2.1.length < 6 := by omega
    have hB0 : sBeg (tk b n m) H.1.2.2.1.length 6 q H = sFr (tk b n m) ((tk b n m) q).2.2.2.2 H := by rw [sBeg_fr, if_neg hne]
    have h42 : Int32.ofNat 42 + hh 2 = Int32.ofNat (42 + H.1.2.2.1.length) := by rw [n3.2.2.1, Int32.ofNat_add]
    have h56 : Int32.ofNat 56 + hh 2 = Int32.ofNat (56 + H.1.2.2.1.length) := by rw [n3.2.2.1, Int32.ofNat_add]
    have h62 : Int32.ofNat 62 + hh 2 = Int32.ofNat (62 + H.1.2.2.1.length) := by rw [n3.2.2.1, Int32.ofNat_add]
    have h68 : Int32.ofNat 68 + hh 2 = Int32.ofNat (68 + H.1.2.2.1.length) := by rw [n3.2.2.1, Int32.ofNat_add]
    have i74 := ix_add (k := 74) n3.2.2.1 (by omega)
    have i44 := ix_add (k := 44) n3.2.2.1 (by omega)
    have i50 := ix_add (k := 50) n3.2.2.1 (by omega)
    refine xw_go nostop 20 (fun K e => e _ _ _ _ (kT_call rfl rfl rfl rfl (k_fresh (t := Int32.ofNat 42 + hh 2) (t0 := 42 + H.1.2.2.1.length) hn hm hby hrs hX1 n1 n2 n3 h42 (by omega)) ⟨rfl, rfl, rfl, rfl, rfl, trivial⟩ rfl rfl (fun rv l1 hP _ => ?_)))
    rcases hP with ⟨q2, w, X2, e2, hw, hnew, rfl, hX2, rfl⟩ | ⟨e, p, e2, rfl, rfl⟩
    · have hN' := nmOk_3 n1 hw hnew hlt
      have nS : nmF (vp_updL nms (42 + H.1.2.2.1.length) (Int64.ofNat (e256 w 0))) 26 H.1.1 := nmF_ne n2.1 (by omega)
      have nP : nmF (vp_updL nms (42 + H.1.2.2.1.length) (Int64.ofNat (e256 w 0))) 32 H.1.2.1 := nmF_ne n2.2.1 (by omega)
      have hn' : nmQ (vp_updL nms (42 + H.1.2.2.1.length) (Int64.ofNat (e256 w 0))) (H.1.1, H.1.2.1, H.1.2.2.1 ++ [w], H.1.2.2.2) := ⟨nS, nP, nmF_app n2.2.2.1, nmF_ne n2.2.2.2 (Or.inl (by omega))⟩
      have hS : sErr (tk b n m) q H = sBind (sKno (tk b n m) q2 H.1.2.1) (fun p2 po => sBind (sKno (tk b n m) ((tk b n m) p2).2.2.2.2 H.1.1) (fun p3 f => sBind (sKno (tk b n m) ((tk b n m) p3).2.2.2.2 H.1.1) (fun p4 t => if t = f then .inl (3, ((tk b n m) p4).2.1) else sBind (sNum (tk b n m) ((tk b n m) p4).2.2.2.2 1 20) (fun p5 v1 => sBind (sNum (tk b n m) p5 0 20) (fun p6 v2 => sBind (sNum (tk b n m) p6 0 20) (fun p7 v3 => .inr (p7, ((H.1.1, H.1.2.1, H.1.2.2.1 ++ [w], H.1.2.2.2), H.2.1, H.2.2.1 ++ [(po, f, t, v1, v2, v3)], H.2.2.2))))))))  := by
        unfold sErr
        rw [hB0, e2]
        rfl
      refine xw_go nostop 20 (fun K e => And.intro (fun c1 => nomatch (show false = true from c1)) (fun _ => e _ _ _ _ (kT_call rfl rfl rfl rfl (k_pers (nms := (vp_updL nms (42 + H.1.2.2.1.length) (Int64.ofNat (e256 w 0)))) (ns := H.1.2.1) hn hm hby hrs hX2 (by omega) nP okP n3.2.1) ⟨rfl, rfl, rfl, rfl, rfl, trivial⟩ rfl rfl (fun rv l1 hP _ => ?_))))
      rcases hP with ⟨po, e3, hk1, rfl, rfl⟩ | ⟨e, p, g, e3, rfl, rfl⟩
      · rw [e3] at hS
        refine xw_go nostop 20 (fun K e => And.intro (fun _ => And.intro i74.1 (e _ _ _ _ (kT_call rfl rfl rfl rfl (k_next (hh := (upd hh (Int32.ofNat 74 + hh 2).toNatClampNeg (Int32.ofNat po))) hn hm hby hX2) ⟨rfl, rfl, rfl, rfl, rfl, trivial⟩ rfl rfl (fun rv l1 hP _ => ?_)))) (fun c1 => nomatch (show true = false from c1)))
        obtain ⟨rfl, X3, hX3, rfl⟩ := hP
        refine kT_pic (l2 := (rfP o thr len (Int32.ofNat n) (Int32.ofNat m) X3 flt fat (Int32.ofNat po) lns crs b (upd hh (Int32.ofNat 74 + hh 2).toNatClampNeg (Int32.ofNat po)) (vp_updL nms (42 + H.1.2.2.1.length) (Int64.ofNat (e256 w 0))) rsv)) rfl ?_
        rw [i74.2]
        refine xw_go nostop 20 (fun K e => e _ _ _ _ (kT_call rfl rfl rfl rfl (k_stp (hh := (upd hh (74 + H.1.2.2.1.length) (Int32.ofNat po))) (nms := (vp_updL nms (42 + H.1.2.2.1.length) (Int64.ofNat (e256 w 0)))) (ns := H.1.1) hn hm hby hrs hX3 (by omega) nS okS (by rw [up_ne (by omega)]; exact n3.1)) ⟨rfl, rfl, rfl, rfl, rfl, trivial⟩ rfl rfl (fun rv l1 hP _ => ?_)))
        rcases hP with ⟨f, e4, hf1, rfl, rfl⟩ | ⟨e, p, g, e4, rfl, rfl⟩
        · have hS2 : sErr (tk b n m) q H = sBind (sKno (tk b n m) ((tk b n m) ((tk b n m) q2).2.2.2.2).2.2.2.2 H.1.1) (fun p4 t => if t = f then .inl (3, ((tk b n m) p4).2.1) else sBind (sNum (tk b n m) ((tk b n m) p4).2.2.2.2 1 20) (fun p5 v1 => sBind (sNum (tk b n m) p5 0 20) (fun p6 v2 => sBind (sNum (tk b n m) p6 0 20) (fun p7 v3 => .inr (p7, ((H.1.1, H.1.2.1, H.1.2.2.1 ++ [w], H.1.2.2.2), H.2.1, H.2.2.1 ++ [(po, f, t, v1, v2, v3)], H.2.2.2)))))) := by
            rw [hS]
            show sBind (sKno (tk b n m) ((tk b n m) q2).2.2.2.2 H.1.1) _ = _
            rw [e4]
            rfl
          refine xw_go nostop 20 (fun K e => And.intro (fun _ => And.intro i44.1 (e _ _ _ _ (kT_call rfl rfl rfl rfl (k_next (hh := (upd (upd hh (74 + H.1.2.2.1.length) (Int32.ofNat po)) (Int32.ofNat 44 + hh 2).toNatClampNeg (Int32.ofNat f))) hn hm hby hX3) ⟨rfl, rfl, rfl, rfl, rfl, trivial⟩ rfl rfl (fun rv l1 hP _ => ?_)))) (fun c1 => nomatch (show true = false from c1)))
          obtain ⟨rfl, X4, hX4, rfl⟩ := hP
          refine kT_pic (l2 := (rfP o thr len (Int32.ofNat n) (Int32.ofNat m) X4 flt fat (Int32.ofNat f) lns crs b (upd (upd hh (74 + H.1.2.2.1.length) (Int32.ofNat po)) (Int32.ofNat 44 + hh 2).toNatClampNeg (Int32.ofNat f)) (vp_updL nms (42 + H.1.2.2.1.length) (Int64.ofNat (e256 w 0))) rsv)) rfl ?_
          rw [i44.2]
          refine xw_go nostop 20 (fun K e => e _ _ _ _ (kT_call rfl rfl rfl rfl (k_stp (hh := (upd (upd hh (74 + H.1.2.2.1.length) (Int32.ofNat po)) (44 + H.1.2.2.1.length) (Int32.ofNat f))) (nms := (vp_updL nms (42 + H.1.2.2.1.length) (Int64.ofNat (e256 w 0)))) (ns := H.1.1) hn hm hby hrs hX4 (by omega) nS okS (by rw [up_ne (by omega), up_ne (by omega)]; exact n3.1)) ⟨rfl, rfl, rfl, rfl, rfl, trivial⟩ rfl rfl (fun rv l1 hP _ => ?_)))
          rcases hP with ⟨t, e5, ht1, rfl, rfl⟩ | ⟨e, p, g, e5, rfl, rfl⟩
          · rw [e5] at hS2
            have hct := (cmp_nat (i := t) (j := f) (by omega) (by omega)).2.2.2.2.2
            refine xw_go nostop 40 (fun K e => And.intro (fun _ => And.intro i44.1 (And.intro (fun c1 => And.intro i50.1 (e _ _ _ _ (kT_call rfl rfl rfl rfl (k_next (hh := (upd (upd (upd hh (74 + H.1.2.2.1.length) (Int32.ofNat po)) (44 + H.1.2.2.1.length) (Int32.ofNat f)) (Int32.ofNat 50 + hh 2).toNatClampNeg (Int32.ofNat t))) hn hm hby hX4) ⟨rfl, rfl, rfl, rfl, rfl, trivial⟩ rfl rfl (fun rv l1 hP _ => ?_)))) (fun c1 => e _ _ _ _ (kT_call rfl rfl rfl rfl (k_bad hX4 _) ⟨rfl, rfl, rfl, rfl, rfl, trivial⟩ rfl rfl (fun rv l1 hP _ => ?_))))) (fun c1 => nomatch (show true = false from c1)))
            · obtain ⟨rfl, X5, hX5, rfl⟩ := hP
              have c2 : nj_cmp .ne (Int32.ofNat t) ((upd (upd hh (74 + H.1.2.2.1.length) (Int32.ofNat po)) (44 + H.1.2.2.1.length) (Int32.ofNat f)) (Int32.ofNat 44 + hh 2).toNatClampNeg) = true := c1
              rw [i44.2, up_eq] at c2
              have htf := of_decide_eq_true (hct.symm.trans c2)
              have hS3 := hS2.trans (if_neg htf)
              refine kT_pic (l2 := (rfP o thr len (Int32.ofNat n) (Int32.ofNat m) X5 flt fat (Int32.ofNat t) lns crs b (upd (upd (upd hh (74 + H.1.2.2.1.length) (Int32.ofNat po)) (44 + H.1.2.2.1.length) (Int32.ofNat f)) (Int32.ofNat 50 + hh 2).toNatClampNeg (Int32.ofNat t)) (vp_updL nms (42 + H.1.2.2.1.length) (Int64.ofNat (e256 w 0))) rsv)) rfl ?_
              rw [i50.2]
              refine xw_go nostop 20 (fun K e => e _ _ _ _ (kT_call rfl rfl rfl rfl (k_puts (hh := (upd (upd (upd hh (74 + H.1.2.2.1.length) (Int32.ofNat po)) (44 + H.1.2.2.1.length) (Int32.ofNat f)) (50 + H.1.2.2.1.length) (Int32.ofNat t))) (lo := 1) (hi := 20) (t := Int32.ofNat 56 + hh 2) (t0 := 56 + H.1.2.2.1.length) hn hm hby hX5 (by decide) (by decide) h56 (by omega)) ⟨rfl, rfl, rfl, rfl, rfl, trivial⟩ rfl rfl (fun rv l1 hP _ => ?_)))
              rcases hP with ⟨q6, v1, X6, e6', hy1, rfl, hX6, rfl⟩ | ⟨e, p, e6', rfl, rfl⟩
              · rw [e6'] at hS3
                refine xw_go nostop 20 (fun K e => And.intro (fun c1 => nomatch (show false = true from c1)) (fun _ => e _ _ _ _ (kT_call rfl rfl rfl rfl (k_puts (hh := (upd (upd (upd (upd hh (74 + H.1.2.2.1.length) (Int32.ofNat po)) (44 + H.1.2.2.1.length) (Int32.ofNat f)) (50 + H.1.2.2.1.length) (Int32.ofNat t)) (56 + H.1.2.2.1.length) (Int32.ofNat v1))) (lo := 0) (hi := 20) (t := Int32.ofNat 62 + hh 2) (t0 := 62 + H.1.2.2.1.length) hn hm hby hX6 (by decide) (by decide) h62 (by omega)) ⟨rfl, rfl, rfl, rfl, rfl, trivial⟩ rfl rfl (fun rv l1 hP _ => ?_))))
                rcases hP with ⟨q7, v2, X7, e7, hy2, rfl, hX7, rfl⟩ | ⟨e, p, e7, rfl, rfl⟩
                · have hS4 : sErr (tk b n m) q H = sBind (sNum (tk b n m) q7 0 20) (fun p7 v3 => .inr (p7, ((H.1.1, H.1.2.1, H.1.2.2.1 ++ [w], H.1.2.2.2), H.2.1, H.2.2.1 ++ [(po, f, t, v1, v2, v3)], H.2.2.2))) := by
                    rw [hS3]
                    show sBind (sNum (tk b n m) q6 0 20) _ = _
                    rw [e7]
                    rfl
                  refine kT_pic (l2 := (rfP o thr len (Int32.ofNat n) (Int32.ofNat m) X7 flt fat (Int32.ofNat v2) lns crs b (upd (upd (upd (upd (upd hh (74 + H.1.2.2.1.length) (Int32.ofNat po)) (44 + H.1.2.2.1.length) (Int32.ofNat f)) (50 + H.1.2.2.1.length) (Int32.ofNat t)) (56 + H.1.2.2.1.length) (Int32.ofNat v1)) (62 + H.1.2.2.1.length) (Int32.ofNat v2)) (vp_updL nms (42 + H.1.2.2.1.length) (Int64.ofNat (e256 w 0))) rsv)) rfl ?_
                  refine xw_go nostop 20 (fun K e => And.intro (fun c1 => nomatch (show false = true from c1)) (fun _ => e _ _ _ _ (kT_call rfl rfl rfl rfl (k_puts (hh := (upd (upd (upd (upd (upd hh (74 + H.1.2.2.1.length) (Int32.ofNat po)) (44 + H.1.2.2.1.length) (Int32.ofNat f)) (50 + H.1.2.2.1.length) (Int32.ofNat t)) (56 + H.1.2.2.1.length) (Int32.ofNat v1)) (62 + H.1.2.2.1.length) (Int32.ofNat v2))) (lo := 0) (hi := 20) (t := Int32.ofNat 68 + hh 2) (t0 := 68 + H.1.2.2.1.length) hn hm hby hX7 (by decide) (by decide) h68 (by omega)) ⟨rfl, rfl, rfl, rfl, rfl, trivial⟩ rfl rfl (fun rv l1 hP _ => ?_))))
                  rcases hP with ⟨q8, v3, X8, e8, hy3, rfl, hX8, rfl⟩ | ⟨e, p, e8, rfl, rfl⟩
                  · rw [e8] at hS4
                    refine xw_go nostop 20 (fun K e => And.intro (fun _ => And.intro rfl (And.intro rfl (e _ _ _ _ (kT_end rfl rfl (Or.inl ⟨q8, ((H.1.1, H.1.2.1, H.1.2.2.1 ++ [w], H.1.2.2.2), H.2.1, H.2.2.1 ++ [(po, f, t, v1, v2, v3)], H.2.2.2), X8, Int32.ofNat v3, crs, upd (upd (upd (upd (upd (upd (upd hh (74 + H.1.2.2.1.length) (Int32.ofNat po)) (44 + H.1.2.2.1.length) (Int32.ofNat f)) (50 + H.1.2.2.1.length) (Int32.ofNat t)) (56 + H.1.2.2.1.length) (Int32.ofNat v1)) (62 + H.1.2.2.1.length) (Int32.ofNat v2)) (68 + H.1.2.2.1.length) (Int32.ofNat v3)) 2 ((upd (upd (upd (upd (upd (upd hh (74 + H.1.2.2.1.length) (Int32.ofNat po)) (44 + H.1.2.2.1.length) (Int32.ofNat f)) (50 + H.1.2.2.1.length) (Int32.ofNat t)) (56 + H.1.2.2.1.length) (Int32.ofNat v1)) (62 + H.1.2.2.1.length) (Int32.ofNat v2)) (68 + H.1.2.2.1.length) (Int32.ofNat v3)) 2 + Int32.ofInt 1), (vp_updL nms (42 + H.1.2.2.1.length) (Int64.ofNat (e256 w 0))), hS4, rfl, hX8, ⟨hN', hn', ⟨?_, ?_, ?_, ?_⟩, rhB_err n4 n1 hlt ?_ ?_ ?_ ?_ ?_ ?_ ?_⟩, rfl⟩))))) (fun c1 => nomatch (show true = false from c1)))
                    · rw [up_ne (by omega), up_ne (by omega), up_ne (by omega), up_ne (by omega), up_ne (by omega), up_ne (by omega), up_ne (by omega)]; exact n3.1
                    · rw [up_ne (by omega), up_ne (by omega), up_ne (by omega), up_ne (by omega), up_ne (by omega), up_ne (by omega), up_ne (by omega)]; exact n3.2.1
                    · rw [up_eq, up_ne (by omega), up_ne (by omega), up_ne (by omega), up_ne (by omega), up_ne (by omega), up_ne (by omega), n3.2.2.1, i32_succ]
                      show _ = Int32.ofNat (H.1.2.2.1 ++ [w]).length
                      rw [List.length_append]; rfl
                    · rw [up_ne (by omega), up_ne (by omega), up_ne (by omega), up_ne (by omega), up_ne (by omega), up_ne (by omega), up_ne (by omega)]; exact n3.2.2.2
                    · intro i hi z1 z2 z3 z4 z5 z6
                      rw [up_ne (by omega), up_ne z6, up_ne z5, up_ne z4, up_ne z3, up_ne z2, up_ne z1]
                    · rw [up_ne (by omega), up_ne (by omega), up_ne (by omega), up_ne (by omega), up_ne (by omega), up_ne (by omega), up_eq]
                    · rw [up_ne (by omega), up_ne (by omega), up_ne (by omega), up_ne (by omega), up_ne (by omega), up_eq]
                    · rw [up_ne (by omega), up_ne (by omega), up_ne (by omega), up_ne (by omega), up_eq]
                    · rw [up_ne (by omega), up_ne (by omega), up_ne (by omega), up_eq]
                    · rw [up_ne (by omega), up_ne (by omega), up_eq]
                    · rw [up_ne (by omega), up_eq]
                  · rw [e8] at hS4
                    exact xw_go nostop 20 (fun K e9 => And.intro (fun c1 => nomatch (show false = true from c1)) (fun _ => e9 _ _ _ _ (kT_end rfl rfl (Or.inr ⟨e, p, X7, _, crs, _, (vp_updL nms (42 + H.1.2.2.1.length) (Int64.ofNat (e256 w 0))), hS4, rfl, rfl⟩))))
                · refine xw_go nostop 20 (fun K e9 => And.intro (fun _ => e9 _ _ _ _ (kT_end rfl rfl (Or.inr ⟨e, p, X6, _, crs, _, (vp_updL nms (42 + H.1.2.2.1.length) (Int64.ofNat (e256 w 0))), hS3.trans ?_, rfl, rfl⟩))) (fun c1 => nomatch (show true = false from c1)))
                  show sBind (sNum (tk b n m) q6 0 20) _ = _
                  rw [e7]
                  rfl
              · rw [e6'] at hS3
                exact xw_go nostop 20 (fun K e9 => And.intro (fun _ => e9 _ _ _ _ (kT_end rfl rfl (Or.inr ⟨e, p, X5, _, crs, _, (vp_updL nms (42 + H.1.2.2.1.length) (Int64.ofNat (e256 w 0))), hS3, rfl, rfl⟩))) (fun c1 => nomatch (show true = false from c1)))
            · obtain ⟨rfl, rfl⟩ := hP
              have c2 : nj_cmp .ne (Int32.ofNat t) ((upd (upd hh (74 + H.1.2.2.1.length) (Int32.ofNat po)) (44 + H.1.2.2.1.length) (Int32.ofNat f)) (Int32.ofNat 44 + hh 2).toNatClampNeg) = false := c1
              rw [i44.2, up_eq] at c2
              have htf := Classical.not_not.mp (of_decide_eq_false (hct.symm.trans c2))
              exact xw_go nostop 20 (fun K e => e _ _ _ _ (kT_end rfl rfl (Or.inr ⟨3, _, X4, _, crs, _, (vp_updL nms (42 + H.1.2.2.1.length) (Int64.ofNat (e256 w 0))), hS2.trans (if_pos htf), rfl, rfl⟩)))
          · rw [e5] at hS2
            exact xw_go nostop 20 (fun K e9 => And.intro (fun c1 => nomatch (show false = true from c1)) (fun _ => e9 _ _ _ _ (kT_end rfl rfl (Or.inr ⟨e, p, X4, g, crs, _, (vp_updL nms (42 + H.1.2.2.1.length) (Int64.ofNat (e256 w 0))), hS2, rfl, rfl⟩))))
        · refine xw_go nostop 20 (fun K e9 => And.intro (fun c1 => nomatch (show false = true from c1)) (fun _ => e9 _ _ _ _ (kT_end rfl rfl (Or.inr ⟨e, p, X3, g, crs, _, (vp_updL nms (42 + H.1.2.2.1.length) (Int64.ofNat (e256 w 0))), hS.trans ?_, rfl, rfl⟩))))
          show sBind (sKno (tk b n m) ((tk b n m) q2).2.2.2.2 H.1.1) _ = _
          rw [e4]
          rfl
      · rw [e3] at hS
        exact xw_go nostop 20 (fun K e9 => And.intro (fun c1 => nomatch (show false = true from c1)) (fun _ => e9 _ _ _ _ (kT_end rfl rfl (Or.inr ⟨e, p, X2, g, crs, _, (vp_updL nms (42 + H.1.2.2.1.length) (Int64.ofNat (e256 w 0))), hS, rfl, rfl⟩))))
    · refine xw_go nostop 20 (fun K e9 => And.intro (fun _ => e9 _ _ _ _ (kT_end rfl rfl (Or.inr ⟨e, p, X1, got, crs, hh, nms, ?_, rfl, rfl⟩))) (fun c1 => nomatch (show true = false from c1)))
      unfold sErr
      rw [hB0, e2]
      rfl
  · obtain ⟨rfl, rfl⟩ := hP
    have hne := Classical.not_not.mp (of_decide_eq_false (hcc.symm.trans c))
    refine xw_go nostop 20 (fun K e => e _ _ _ _ (kT_end rfl rfl (Or.inr ⟨4, _, X, got, crs, hh, nms, ?_, rfl, rfl⟩)))
    unfold sErr
    rw [sBeg_fr, if_pos hne]
    rfl
end RFQ
