/-! the reference reads a person -/
theorem rhB_pers {H : Hs} {hh h1 : Nat → Int32} {crs : Int32} {w : List Nat} {y : Nat} {oo : Option Nat} (h : rhB H hh crs) (hl : H.1.2.1.length < 10) (hy : y ≤ 300) (ha : ∀ i, 4 ≤ i → ¬ i = 4 + H.1.2.1.length → ¬ i = 14 + H.1.2.1.length → ¬ i = 34 + H.1.2.1.length → h1 i = hh i) (b1 : h1 (4 + H.1.2.1.length) = Int32.ofNat y) (b2 : h1 (14 + H.1.2.1.length) = oP oo) (b3 : h1 (34 + H.1.2.1.length) = 1) (n1 : nmOk H.1) : rhB ((H.1.1, H.1.2.1 ++ [w], H.1.2.2), (H.2.1.1 ++ [y], H.2.1.2.1 ++ [oo], H.2.1.2.2.1 ++ [none], H.2.1.2.2.2 ++ [none]), H.2.2) h1 crs := by
  obtain ⟨⟨a1, a2, a3, a4, a5, a6⟩, g2, g3, g4, g5, g6, g7, g8⟩ := h
  have l3 := n1.2.2.1
  have l4 := n1.2.2.2.1
  have hlen : ∀ i, i < (H.1.2.1 ++ [w]).length → i < H.1.2.1.length + 1 := fun i hi => by rw [List.length_append] at hi; exact hi
  refine ⟨⟨?_, ?_, ?_, ?_, a5, a6⟩, ?_, ?_, ?_, ?_, ?_, ?_, ?_⟩
  · show (H.2.1.1 ++ [y]).length = (H.1.2.1 ++ [w]).length
    rw [List.length_append, List.length_append, a1]; rfl
  · show (H.2.1.2.1 ++ [oo]).length = (H.1.2.1 ++ [w]).length
    rw [List.length_append, List.length_append, a2]; rfl
  · show (H.2.1.2.2.1 ++ [none]).length = (H.1.2.1 ++ [w]).length
    rw [List.length_append, List.length_append, a3]; rfl
  · show (H.2.1.2.2.2 ++ [none]).length = (H.1.2.1 ++ [w]).length
    rw [List.length_append, List.length_append, a4]; rfl
  · intro i hi
    have hi2 := hlen i hi
    show h1 (4 + i) = Int32.ofNat ((H.2.1.1 ++ [y]).getD i 0) ∧ (H.2.1.1 ++ [y]).getD i 0 ≤ 300
    rw [gd_app, a1]
    by_cases e : i = H.1.2.1.length
    · rw [if_neg (by omega), if_pos e, e]
      exact ⟨b1, hy⟩
    · rw [if_pos (by omega), ha (4 + i) (by omega) (by omega) (by omega) (by omega)]
      exact g2 i (by omega)
  · intro i hi
    have hi2 := hlen i hi
    show h1 (14 + i) = oP ((H.2.1.2.1 ++ [oo]).getD i none)
    rw [gd_app, a2]
    by_cases e : i = H.1.2.1.length
    · rw [if_neg (by omega), if_pos e, e]
      exact b2
    · rw [if_pos (by omega), ha (14 + i) (by omega) (by omega) (by omega) (by omega)]
      exact g3 i (by omega)
  · intro i hi
    show h1 (24 + i) = oP ((H.2.1.2.2.1 ++ [none]).getD i none) ∧ ∀ j, (H.2.1.2.2.1 ++ [none]).getD i none = some j → j < 10
    rw [gd_none, ha (24 + i) (by omega) (by omega) (by omega) (by omega)]
    exact g4 i hi
  · intro i hi
    have hi2 := hlen i hi
    show h1 (34 + i) = oC ((H.2.1.2.2.2 ++ [none]).getD i none)
    rw [gd_none]
    by_cases e : i = H.1.2.1.length
    · rw [e, b3, gd_out (by rw [a4]; exact Nat.le_refl _)]
      rfl
    · rw [ha (34 + i) (by omega) (by omega) (by omega) (by omega)]
      exact g5 i (by omega)
  · intro i hi
    show bt crs i = ((H.2.1.2.2.2 ++ [none]).getD i none).isSome
    rw [gd_none]
    exact g6 i hi
  · intro i hi
    have hi3 : i < H.1.2.2.1.length := hi
    have g := g7 i hi3
    rw [ha (74 + i) (by omega) (by omega) (by omega) (by omega), ha (44 + i) (by omega) (by omega) (by omega) (by omega), ha (50 + i) (by omega) (by omega) (by omega) (by omega), ha (56 + i) (by omega) (by omega) (by omega) (by omega), ha (62 + i) (by omega) (by omega) (by omega) (by omega), ha (68 + i) (by omega) (by omega) (by omega) (by omega)]
    exact g
  · intro i hi
    have hi3 : i < H.1.2.2.2.length := hi
    have g := g8 i hi3
    refine ⟨g.1, ?_, fun j hj => ?_⟩
    · rw [ha (80 + i) (by omega) (by omega) (by omega) (by omega)]
      exact g.2.1
    · rw [ha (84 + 12 * i + j) (by omega) (by omega) (by omega) (by omega)]
      exact g.2.2 j hj
section RFP
variable {L : Nat} {xs : Nat → Int32} {d : Nat} {o : Nat → Value} {thr len sz lim : Int32} {X : Lx} {flt fat got lns crs : Int32} {b hh : Nat → Int32} {nms rsv : Nat → Int64} {n m q : Nat} {H : Hs}
theorem k_person (hn : n ≤ 940) (hm : m ≤ 900) (hby : ∀ i, i < 940 → -128 ≤ (b i).toInt ∧ (b i).toInt ≤ 127) (hrs : rsvOk rsv) (h : rX b n m q X) (hH : rfR H hh nms crs) : mS nj_M nX0 L xs (d + 4) 173 [.ref 175] (rfP o thr len (Int32.ofNat n) (Int32.ofNat m) X flt fat got lns crs b hh nms rsv) (pLr o thr len n m flt fat lns b rsv (sPers (tk b n m) q H)) := by
  obtain ⟨n1, n2, n3, n4⟩ := hH
  have hl10 := n1.2.1
  have hl6 := n1.1
  have hlE := n1.2.2.1
  have hlD := n1.2.2.2.1
  have hcc := (cmp_nat (i := H.1.2.1.length) (j := 10) (by omega) (by omega)).2.2.2.2.2
  rw [← n3.2.1] at hcc
  refine mS_of rfl (fun h0 => ?_)
  refine xw_go nostop 20 (fun K e => And.intro rfl (And.intro (fun c => e _ _ _ _ (kT_call rfl rfl rfl rfl (k_next hn hm hby h) ⟨rfl, rfl, rfl, rfl, rfl, trivial⟩ rfl rfl (fun rv l1 hP _ => ?_))) (fun c => e _ _ _ _ (kT_call rfl rfl rfl rfl (k_bad h _) ⟨rfl, rfl, rfl, rfl, rfl, trivial⟩ rfl rfl (fun rv l1 hP _ => ?_)))))
  · obtain ⟨rfl, X1, hX1, rfl⟩ := hP
    have hne := of_decide_eq_true (hcc.symm.trans c)
    have hlt : H.1.2.1.length < 10 := by omega
    have hB0 : sBeg (tk b n m) H.1.2.1.length 10 q H = sFr (tk b n m) ((tk b n m) q).2.2.2.2 H := by rw [sBeg_fr, if_neg hne]
    have h32 : Int32.ofNat 32 + hh 1 = Int32.ofNat (32 + H.1.2.1.length) := by rw [n3.2.1, Int32.ofNat_add]
    have h4 : Int32.ofNat 4 + hh 1 = Int32.ofNat (4 + H.1.2.1.length) := by rw [n3.2.1, Int32.ofNat_add]
    have i4 := ix_add (k := 4) n3.2.1 (by omega)
    have i14 := ix_add (k := 14) n3.2.1 (by omega)
    have i34 := ix_add (k := 34) n3.2.1 (by omega)
    refine xw_go nostop 20 (fun K e => e _ _ _ _ (kT_call rfl rfl rfl rfl (k_fresh (t := Int32.ofNat 32 + hh 1) (t0 := 32 + H.1.2.1.length) hn hm hby hrs hX1 n1 n2 n3 h32 (by omega)) ⟨rfl, rfl, rfl, rfl, rfl, trivial⟩ rfl rfl (fun rv l1 hP _ => ?_)))
    rcases hP with ⟨q2, w, X2, e2, hw, hnew, rfl, hX2, rfl⟩ | ⟨e, p, e2, rfl, rfl⟩
    · have hN' := nmOk_2 n1 hw hnew hlt
      have hn' : nmQ (vp_updL nms (32 + H.1.2.1.length) (Int64.ofNat (e256 w 0))) (H.1.1, H.1.2.1 ++ [w], H.1.2.2) := ⟨nmF_ne n2.1 (Or.inr (by show 26 + H.1.1.length ≤ 32 + H.1.2.1.length; omega)), nmF_app n2.2.1, nmF_ne n2.2.2.1 (Or.inl (by omega)), nmF_ne n2.2.2.2 (Or.inl (by omega))⟩
      have hS : ∀ q3 y, sNum (tk b n m) q2 0 300 = .inr (q3, y) → sPers (tk b n m) q H = (if ((tk b n m) q3).1 = 102 then sBind (sKno (tk b n m) ((tk b n m) q3).2.2.2.2 H.1.2.1) (fun p3 i => if y ≤ H.2.1.1.getD i 0 then .inl (3, ((tk b n m) p3).2.1) else .inr (((tk b n m) p3).2.2.2.2, ((H.1.1, H.1.2.1 ++ [w], H.1.2.2), (H.2.1.1 ++ [y], H.2.1.2.1 ++ [some i], H.2.1.2.2.1 ++ [none], H.2.1.2.2.2 ++ [none]), H.2.2))) else .inr (q3, ((H.1.1, H.1.2.1 ++ [w], H.1.2.2), (H.2.1.1 ++ [y], H.2.1.2.1 ++ [none], H.2.1.2.2.1 ++ [none], H.2.1.2.2.2 ++ [none]), H.2.2))) := by
        intro q3 y hy
        unfold sPers
        rw [hB0, e2]
        show sBind (sNum (tk b n m) q2 0 300) _ = _
        rw [hy]
        rfl
      refine xw_go nostop 20 (fun K e => And.intro (fun c1 => nomatch (show false = true from c1)) (fun _ => e _ _ _ _ (kT_call rfl rfl rfl rfl (k_puts (lo := 0) (hi := 300) (t := Int32.ofNat 4 + hh 1) (t0 := 4 + H.1.2.1.length) hn hm hby hX2 (by decide) (by decide) h4 (by omega)) ⟨rfl, rfl, rfl, rfl, rfl, trivial⟩ rfl rfl (fun rv l1 hP _ => ?_))))
      rcases hP with ⟨q3, y, X3, e3, hy, rfl, hX3, rfl⟩ | ⟨e, p, e3, rfl, rfl⟩
      · have h140 : ∀ (hx : Nat → Int32) (X4 : Lx) (q4 : Nat) (g4 : Int32) (oo : Option Nat), sPers (tk b n m) q H = .inr (q4, ((H.1.1, H.1.2.1 ++ [w], H.1.2.2), (H.2.1.1 ++ [y], H.2.1.2.1 ++ [oo], H.2.1.2.2.1 ++ [none], H.2.1.2.2.2 ++ [none]), H.2.2)) → rX b n m q4 X4 → (∀ i, ¬ i = 4 + H.1.2.1.length → ¬ i = 14 + H.1.2.1.length → ¬ i = 34 + H.1.2.1.length → hx i = hh i) → hx (4 + H.1.2.1.length) = Int32.ofNat y → hx (14 + H.1.2.1.length) = oP oo → hx (34 + H.1.2.1.length) = 1 → kT nj_M nX0 L xs (d + 4) nm_173 (mQ (rfP o thr len (Int32.ofNat n) (Int32.ofNat m) X flt fat got lns crs b hh nms rsv) (pLr o thr len n m flt fat lns b rsv (sPers (tk b n m) q H)) h0) (hk (rfP o thr len (Int32.ofNat n) (Int32.ofNat m) X flt fat got lns crs b hh nms rsv)) h0 140 [(0, .ref 175), (1, .int (hh 1))] [] (rfP o thr len (Int32.ofNat n) (Int32.ofNat m) X4 flt fat g4 lns crs b hx (vp_updL nms (32 + H.1.2.1.length) (Int64.ofNat (e256 w 0))) rsv) := by
          intro hx X4 q4 g4 oo hs hX4 ha b1 b2 b3
          refine xw_go nostop 20 (fun K e => And.intro rfl (And.intro rfl (e _ _ _ _ (kT_end rfl rfl (Or.inl ⟨q4, _, X4, g4, crs, upd hx 1 (hx 1 + Int32.ofInt 1), (vp_updL nms (32 + H.1.2.1.length) (Int64.ofNat (e256 w 0))), hs, rfl, hX4, ⟨hN', hn', ⟨?_, ?_, ?_, ?_⟩, rhB_pers n4 hlt hy ?_ ?_ ?_ ?_ n1⟩, rfl⟩)))))
          · rw [up_ne (by omega), ha 0 (by omega) (by omega) (by omega)]; exact n3.1
          · rw [up_eq, ha 1 (by omega) (by omega) (by omega), n3.2.1, i32_succ, List.length_append]; rfl
          · rw [up_ne (by omega), ha 2 (by omega) (by omega) (by omega)]; exact n3.2.2.1
          · rw [up_ne (by omega), ha 3 (by omega) (by omega) (by omega)]; exact n3.2.2.2
          · intro i hi z1 z2 z3
            rw [up_ne (by omega)]; exact ha i z1 z2 z3
          · rw [up_ne (by omega)]; exact b1
          · rw [up_ne (by omega)]; exact b2
          · rw [up_ne (by omega)]; exact b3
        have k14 : (Int32.ofNat 14 + hh 1).toNatClampNeg = 14 + H.1.2.1.length := i14.2
        have k34 : (Int32.ofNat 34 + hh 1).toNatClampNeg = 34 + H.1.2.1.length := i34.2
        have hw0 : Int64.ofInt 28518 = Int64.ofNat (e256 (keyws.getD 2 []) 0) := by decide
        refine xw_go nostop 30 (fun K e => And.intro (fun _ => And.intro i14.1 (And.intro i34.1 (e _ _ _ _ (kT_call rfl rfl rfl rfl (k_isWord (hh := upd (upd (upd hh (4 + H.1.2.1.length) (Int32.ofNat y)) (Int32.ofNat 14 + hh 1).toNatClampNeg (Int32.ofInt 0)) (Int32.ofNat 34 + hh 1).toNatClampNeg (Int32.ofInt 1)) hX3 (i := 2) (by decide) hw0) ⟨rfl, rfl, rfl, rfl, rfl, trivial⟩ rfl rfl (fun rv l1 hP _ => ?_))))) (fun c1 => nomatch (show true = false from c1)))
        obtain ⟨rfl, rfl⟩ := hP
        refine kT_pic (l2 := (rfP o thr len (Int32.ofNat n) (Int32.ofNat m) X3 flt fat (Int32.ofNat y) lns crs b (upd (upd (upd hh (4 + H.1.2.1.length) (Int32.ofNat y)) (Int32.ofNat 14 + hh 1).toNatClampNeg (Int32.ofInt 0)) (Int32.ofNat 34 + hh 1).toNatClampNeg (Int32.ofInt 1)) (vp_updL nms (32 + H.1.2.1.length) (Int64.ofNat (e256 w 0))) rsv)) rfl ?_
        rw [k14, k34]
        by_cases hof : ((tk b n m) q3).1 = 100 + 2
        · rw [decide_eq_true hof]
          have hS2 := (hS q3 y e3).trans (if_pos hof)
          refine xw_go nostop 20 (fun K e => And.intro (fun c1 => nomatch (show false = true from c1)) (fun _ => e _ _ _ _ (kT_call rfl rfl rfl rfl (k_next hn hm hby hX3) ⟨rfl, rfl, rfl, rfl, rfl, trivial⟩ rfl rfl (fun rv l1 hP _ => ?_))))
          obtain ⟨rfl, X4, hX4, rfl⟩ := hP
          refine xw_go nostop 20 (fun K e => e _ _ _ _ (kT_call rfl rfl rfl rfl (k_pers (hh := upd (upd (upd hh (4 + H.1.2.1.length) (Int32.ofNat y)) (14 + H.1.2.1.length) (Int32.ofInt 0)) (34 + H.1.2.1.length) (Int32.ofInt 1)) (nms := (vp_updL nms (32 + H.1.2.1.length) (Int64.ofNat (e256 w 0)))) (ns := H.1.2.1) hn hm hby hrs hX4 (by omega) (nmF_ne n2.2.1 (by omega)) (fun w hw => n1.2.2.2.2.2 w (alln_mem.mpr (Or.inr (Or.inl hw)))) (by rw [up_ne (by omega), up_ne (by omega), up_ne (by omega)]; exact n3.2.1)) ⟨rfl, rfl, rfl, rfl, rfl, trivial⟩ rfl rfl (fun rv l1 hP _ => ?_)))
          rcases hP with ⟨k, e4, hk1, rfl, rfl⟩ | ⟨e, p, g, e4, rfl, rfl⟩
          · rw [e4] at hS2
            have hk4 := ix_add (k := 4) (c := k) (v := Int32.ofNat k) rfl (by omega)
            have hbo := n4.2.1 k hk1
            have hclt := (cmp_nat (i := H.2.1.1.getD k 0) (j := y) (by omega) (by omega)).2.1
            refine xw_go nostop 40 (fun K e => And.intro (fun _ => And.intro hk4.1 (And.intro i4.1 (And.intro (fun c1 => And.intro i14.1 (e _ _ _ _ (kT_call rfl rfl rfl rfl (k_next (hh := upd (upd (upd (upd hh (4 + H.1.2.1.length) (Int32.ofNat y)) (14 + H.1.2.1.length) (Int32.ofInt 0)) (34 + H.1.2.1.length) (Int32.ofInt 1)) (Int32.ofNat 14 + hh 1).toNatClampNeg (Int32.ofNat k + Int32.ofInt 1)) hn hm hby hX4) ⟨rfl, rfl, rfl, rfl, rfl, trivial⟩ rfl rfl (fun rv l1 hP _ => ?_)))) (fun c1 => e _ _ _ _ (kT_call rfl rfl rfl rfl (k_bad hX4 _) ⟨rfl, rfl, rfl, rfl, rfl, trivial⟩ rfl rfl (fun rv l1 hP _ => ?_)))))) (fun c1 => nomatch (show true = false from c1)))
            · obtain ⟨rfl, X5, hX5, rfl⟩ := hP
              have c2 : nj_cmp .lt (upd (upd (upd hh (4 + H.1.2.1.length) (Int32.ofNat y)) (14 + H.1.2.1.length) (Int32.ofInt 0)) (34 + H.1.2.1.length) (Int32.ofInt 1) (Int32.ofNat 4 + Int32.ofNat k).toNatClampNeg) (upd (upd (upd hh (4 + H.1.2.1.length) (Int32.ofNat y)) (14 + H.1.2.1.length) (Int32.ofInt 0)) (34 + H.1.2.1.length) (Int32.ofInt 1) (Int32.ofNat 4 + hh 1).toNatClampNeg) = true := c1
              rw [hk4.2, i4.2, up_ne (by omega), up_ne (by omega), up_ne (by omega), up_ne (by omega), up_ne (by omega), up_eq, hbo.1, hclt] at c2
              have c3 := of_decide_eq_true c2
              have h14 := h140 (upd (upd (upd (upd hh (4 + H.1.2.1.length) (Int32.ofNat y)) (14 + H.1.2.1.length) (Int32.ofInt 0)) (34 + H.1.2.1.length) (Int32.ofInt 1)) (Int32.ofNat 14 + hh 1).toNatClampNeg (Int32.ofNat k + Int32.ofInt 1)) X5 _ (Int32.ofNat k) (some k) (hS2.trans (by show (if y ≤ H.2.1.1.getD k 0 then _ else _) = _; rw [if_neg (by omega)])) hX5 (fun i z1 z2 z3 => by rw [k14, up_ne z2, up_ne z3, up_ne z2, up_ne z1]) (by rw [k14, up_ne (by omega), up_ne (by omega), up_ne (by omega), up_eq]) (by rw [k14, up_eq, i32_succ]; rfl) (by rw [k14, up_ne (by omega), up_eq]; rfl)
              exact kT_sort rfl (kT_pic rfl h14)
            · obtain ⟨rfl, rfl⟩ := hP
              have c2 : nj_cmp .lt (upd (upd (upd hh (4 + H.1.2.1.length) (Int32.ofNat y)) (14 + H.1.2.1.length) (Int32.ofInt 0)) (34 + H.1.2.1.length) (Int32.ofInt 1) (Int32.ofNat 4 + Int32.ofNat k).toNatClampNeg) (upd (upd (upd hh (4 + H.1.2.1.length) (Int32.ofNat y)) (14 + H.1.2.1.length) (Int32.ofInt 0)) (34 + H.1.2.1.length) (Int32.ofInt 1) (Int32.ofNat 4 + hh 1).toNatClampNeg) = false := c1
              rw [hk4.2, i4.2, up_ne (by omega), up_ne (by omega), up_ne (by omega), up_ne (by omega), up_ne (by omega), up_eq, hbo.1, hclt] at c2
              have c3 := of_decide_eq_false c2
              refine xw_go nostop 10 (fun K e => e _ _ _ _ (kT_end rfl rfl (Or.inr ⟨3, _, X4, Int32.ofNat k, crs, _, (vp_updL nms (32 + H.1.2.1.length) (Int64.ofNat (e256 w 0))), hS2.trans ?_, rfl, rfl⟩)))
              show (if y ≤ H.2.1.1.getD k 0 then _ else _) = _
              rw [if_pos (by omega)]
          · rw [e4] at hS2
            exact xw_go nostop 20 (fun K e9 => And.intro (fun c1 => nomatch (show false = true from c1)) (fun _ => e9 _ _ _ _ (kT_end rfl rfl (Or.inr ⟨e, p, X4, g, crs, _, (vp_updL nms (32 + H.1.2.1.length) (Int64.ofNat (e256 w 0))), hS2, rfl, rfl⟩))))
        · rw [decide_eq_false hof]
          have h14 := h140 (upd (upd (upd hh (4 + H.1.2.1.length) (Int32.ofNat y)) (14 + H.1.2.1.length) (Int32.ofInt 0)) (34 + H.1.2.1.length) (Int32.ofInt 1)) X3 q3 (Int32.ofNat y) none ((hS q3 y e3).trans (if_neg hof)) hX3 (fun i z1 z2 z3 => by rw [up_ne z3, up_ne z2, up_ne z1]) (by rw [up_ne (by omega), up_ne (by omega), up_eq]) (by rw [up_ne (by omega), up_eq]; rfl) (by rw [up_eq]; rfl)
          exact xw_go (fun pc => pc == 140) 10 (fun K e => And.intro (fun _ => e _ _ _ _ (kT_sort rfl h14)) (fun c1 => nomatch (show true = false from c1)))
      · refine xw_go nostop 20 (fun K e9 => And.intro (fun c1 => nomatch (show false = true from c1)) (fun _ => e9 _ _ _ _ (kT_end rfl rfl (Or.inr ⟨e, p, X2, got, crs, hh, (vp_updL nms (32 + H.1.2.1.length) (Int64.ofNat (e256 w 0))), ?_, rfl, rfl⟩))))
        unfold sPers
        rw [hB0, e2]
        show sBind (sNum (tk b n m) q2 0 300) _ = _
        rw [e3]
        rfl
    · refine xw_go nostop 20 (fun K e3 => And.intro (fun _ => e3 _ _ _ _ (kT_end rfl rfl (Or.inr ⟨e, p, X1, got, crs, hh, nms, ?_, rfl, rfl⟩))) (fun c1 => nomatch (show true = false from c1)))
      unfold sPers
      rw [hB0, e2]
      rfl
  · obtain ⟨rfl, rfl⟩ := hP
    have hne := Classical.not_not.mp (of_decide_eq_false (hcc.symm.trans c))
    refine xw_go nostop 20 (fun K e => e _ _ _ _ (kT_end rfl rfl (Or.inr ⟨4, _, X, got, crs, hh, nms, ?_, rfl, rfl⟩)))
    unfold sPers
    rw [sBeg_fr, if_pos hne]
    rfl
end RFP
