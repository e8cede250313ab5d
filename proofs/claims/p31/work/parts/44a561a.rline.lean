/-! the reference reads a line -/
theorem rhB_same {H : Hs} {hh h1 : Nat → Int32} {crs : Int32} {S : List (List Nat)} (h : rhB H hh crs) (ha : ∀ i, 4 ≤ i → h1 i = hh i) : rhB ((S, H.1.2), H.2) h1 crs := by
  obtain ⟨a, g2, g3, g4, g5, g6, g7, g8⟩ := h
  refine ⟨a, ?_, ?_, ?_, ?_, g6, ?_, ?_⟩
  · intro i hi
    rw [ha (4 + i) (by omega)]; exact g2 i hi
  · intro i hi
    rw [ha (14 + i) (by omega)]; exact g3 i hi
  · intro i hi
    rw [ha (24 + i) (by omega)]; exact g4 i hi
  · intro i hi
    rw [ha (34 + i) (by omega)]; exact g5 i hi
  · intro i hi
    rw [ha (74 + i) (by omega), ha (44 + i) (by omega), ha (50 + i) (by omega), ha (56 + i) (by omega), ha (62 + i) (by omega), ha (68 + i) (by omega)]; exact g7 i hi
  · intro i hi
    refine ⟨(g8 i hi).1, ?_, fun j hj => ?_⟩
    · rw [ha (80 + i) (by omega)]; exact (g8 i hi).2.1
    · rw [ha (84 + 12 * i + j) (by omega)]; exact (g8 i hi).2.2 j hj
section RFS
variable {L : Nat} {xs : Nat → Int32} {d : Nat} {o : Nat → Value} {thr len sz lim : Int32} {X : Lx} {flt fat got lns crs : Int32} {b hh : Nat → Int32} {nms rsv : Nat → Int64} {n m q : Nat} {H : Hs}
theorem l_step (hn : n ≤ 940) (hm : m ≤ 900) (hby : ∀ i, i < 940 → -128 ≤ (b i).toInt ∧ (b i).toInt ≤ 127) (hrs : rsvOk rsv) (h : rX b n m q X) (hH : rfR H hh nms crs) (h0 : List nC) : kT nj_M nX0 L xs (d + 5) nm_167 (mQ (rfP o thr len (Int32.ofNat n) (Int32.ofNat m) X flt fat got lns crs b hh nms rsv) (pLr o thr len n m flt fat lns b rsv (sStep (tk b n m) q H)) h0) (hk (rfP o thr len (Int32.ofNat n) (Int32.ofNat m) X flt fat got lns crs b hh nms rsv)) h0 10 [(0, .ref 175)] [] (rfP o thr len (Int32.ofNat n) (Int32.ofNat m) X flt fat got lns crs b hh nms rsv) := by
  obtain ⟨n1, n2, n3, n4⟩ := hH
  have hl6 := n1.1
  have hlP := n1.2.1
  have hlE := n1.2.2.1
  have hlD := n1.2.2.2.1
  have hcc := (cmp_nat (i := H.1.1.length) (j := 6) (by omega) (by omega)).2.2.2.2.2
  rw [← n3.1] at hcc
  refine xw_go nostop 20 (fun K e => And.intro rfl (And.intro (fun c => e _ _ _ _ (kT_call rfl rfl rfl rfl (k_next hn hm hby h) ⟨rfl, rfl, rfl, rfl, rfl, trivial⟩ rfl rfl (fun rv l1 hP _ => ?_))) (fun c => e _ _ _ _ (kT_call rfl rfl rfl rfl (k_bad h _) ⟨rfl, rfl, rfl, rfl, rfl, trivial⟩ rfl rfl (fun rv l1 hP _ => ?_)))))
  · obtain ⟨rfl, X1, hX1, rfl⟩ := hP
    have hne := of_decide_eq_true (hcc.symm.trans c)
    have hlt : H.1.1.length < 6 := by omega
    have hB0 : sBeg (tk b n m) H.1.1.length 6 q H = sFr (tk b n m) ((tk b n m) q).2.2.2.2 H := by rw [sBeg_fr, if_neg hne]
    have h26 : Int32.ofNat 26 + hh 0 = Int32.ofNat (26 + H.1.1.length) := by rw [n3.1, Int32.ofNat_add]
    refine xw_go nostop 20 (fun K e => And.intro rfl (e _ _ _ _ (kT_call rfl rfl rfl rfl (k_fresh (t := Int32.ofNat 26 + hh 0) (t0 := 26 + H.1.1.length) hn hm hby hrs hX1 n1 n2 n3 h26 (by omega)) ⟨rfl, rfl, rfl, rfl, rfl, trivial⟩ rfl rfl (fun rv l1 hP _ => ?_))))
    rcases hP with ⟨q2, w, X2, e2, hw, hnew, rfl, hX2, rfl⟩ | ⟨e, p, e2, rfl, rfl⟩
    · have hS : sStep (tk b n m) q H = .inr (q2, ((H.1.1 ++ [w], H.1.2), H.2)) := by
        unfold sStep
        rw [hB0, e2]
        rfl
      refine xw_go nostop 20 (fun K e => And.intro (fun _ => And.intro rfl (And.intro rfl (e _ _ _ _ (kT_end rfl rfl (Or.inl ⟨q2, ((H.1.1 ++ [w], H.1.2), H.2), X2, got, crs, upd hh 0 (hh 0 + Int32.ofInt 1), (vp_updL nms (26 + H.1.1.length) (Int64.ofNat (e256 w 0))), hS, rfl, hX2, ⟨nmOk_1 n1 hw hnew hlt, ⟨nmF_app n2.1, nmF_ne n2.2.1 (Or.inl (by omega)), nmF_ne n2.2.2.1 (Or.inl (by omega)), nmF_ne n2.2.2.2 (Or.inl (by omega))⟩, ⟨?_, ?_, ?_, ?_⟩, rhB_same n4 (fun i hi => up_ne (by omega))⟩, rfl⟩))))) (fun c1 => nomatch (show true = false from c1)))
      · rw [up_eq, n3.1, i32_succ]
        show _ = Int32.ofNat (H.1.1 ++ [w]).length
        rw [List.length_append]; rfl
      · rw [up_ne (by omega)]; exact n3.2.1
      · rw [up_ne (by omega)]; exact n3.2.2.1
      · rw [up_ne (by omega)]; exact n3.2.2.2
    · refine xw_go nostop 20 (fun K e9 => And.intro (fun c1 => nomatch (show false = true from c1)) (fun _ => e9 _ _ _ _ (kT_end rfl rfl (Or.inr ⟨e, p, X1, got, crs, hh, nms, ?_, rfl, rfl⟩))))
      unfold sStep
      rw [hB0, e2]
      rfl
  · obtain ⟨rfl, rfl⟩ := hP
    have hne := Classical.not_not.mp (of_decide_eq_false (hcc.symm.trans c))
    refine xw_go nostop 20 (fun K e => e _ _ _ _ (kT_end rfl rfl (Or.inr ⟨4, _, X, got, crs, hh, nms, ?_, rfl, rfl⟩)))
    unfold sStep
    rw [sBeg_fr, if_pos hne]
    rfl
theorem l_god (hn : n ≤ 940) (hm : m ≤ 900) (hby : ∀ i, i < 940 → -128 ≤ (b i).toInt ∧ (b i).toInt ≤ 127) (hrs : rsvOk rsv) (h : rX b n m q X) (hH : rfR H hh nms crs) (h0 : List nC) : kT nj_M nX0 L xs (d + 5) nm_167 (mQ (rfP o thr len (Int32.ofNat n) (Int32.ofNat m) X flt fat got lns crs b hh nms rsv) (pLr o thr len n m flt fat lns b rsv (sGod (tk b n m) q H)) h0) (hk (rfP o thr len (Int32.ofNat n) (Int32.ofNat m) X flt fat got lns crs b hh nms rsv)) h0 134 [(0, .ref 175), (1, .int (b01 true))] [] (rfP o thr len (Int32.ofNat n) (Int32.ofNat m) X flt fat got lns crs b hh nms rsv) := by
  obtain ⟨n1, n2, n3, n4⟩ := hH
  have hlP := n1.2.1
  have okP : ∀ w ∈ H.1.2.1, wOk w := fun w hw => n1.2.2.2.2.2 w (alln_mem.mpr (Or.inr (Or.inl hw)))
  refine xw_go nostop 20 (fun K e => e _ _ _ _ (kT_call rfl rfl rfl rfl (k_next hn hm hby h) ⟨rfl, rfl, rfl, rfl, rfl, trivial⟩ rfl rfl (fun rv l1 hP _ => ?_)))
  obtain ⟨rfl, X1, hX1, rfl⟩ := hP
  refine xw_go nostop 20 (fun K e => e _ _ _ _ (kT_call rfl rfl rfl rfl (k_pers (ns := H.1.2.1) hn hm hby hrs hX1 (by omega) n2.2.1 okP n3.2.1) ⟨rfl, rfl, rfl, rfl, rfl, trivial⟩ rfl rfl (fun rv l1 hP _ => ?_)))
  rcases hP with ⟨i, e1, hi, rfl, rfl⟩ | ⟨e, p, g, e1, rfl, rfl⟩
  · have i24 := ix_add (k := 24) (c := i) (v := Int32.ofNat i) rfl (by omega)
    have hgo := n4.2.2.2.1 i (by omega)
    have hS : sGod (tk b n m) q H = if (H.2.1.2.2.1.getD i none).isSome = true then .inl (3, ((tk b n m) ((tk b n m) q).2.2.2.2).2.1) else sBind (sKno (tk b n m) ((tk b n m) ((tk b n m) q).2.2.2.2).2.2.2.2 H.1.2.1) (fun p2 j => if j = i then .inl (3, ((tk b n m) p2).2.1) else .inr (((tk b n m) p2).2.2.2.2, (H.1, (H.2.1.1, H.2.1.2.1, H.2.1.2.2.1.set i (some j), H.2.1.2.2.2), H.2.2))) := by
      unfold sGod
      rw [e1]
      rfl
    refine xw_go nostop 30 (fun K e => And.intro (fun _ => And.intro (fun c1 => nomatch (show false = true from c1)) (fun _ => And.intro i24.1 (And.intro (fun c1 => e _ _ _ _ (kT_call rfl rfl rfl rfl (k_next hn hm hby hX1) ⟨rfl, rfl, rfl, rfl, rfl, trivial⟩ rfl rfl (fun rv l1 hP _ => ?_))) (fun c1 => e _ _ _ _ (kT_call rfl rfl rfl rfl (k_bad hX1 _) ⟨rfl, rfl, rfl, rfl, rfl, trivial⟩ rfl rfl (fun rv l1 hP _ => ?_)))))) (fun c1 => nomatch (show true = false from c1)))
    · obtain ⟨rfl, X2, hX2, rfl⟩ := hP
      have c2 : nj_cmp .le (hh (Int32.ofNat 24 + Int32.ofNat i).toNatClampNeg) 0 = true := c1
      rw [i24.2, hgo.1] at c2
      have hg0 : H.2.1.2.2.1.getD i none = none := by
        cases hg : H.2.1.2.2.1.getD i none with
        | none => rfl
        | some j =>
          rw [hg] at c2
          have := hgo.2 j hg
          have := of_decide_eq_true ((cmp_nat (i := j + 1) (j := 0) (by omega) (by omega)).2.2.2.1.symm.trans c2)
          omega
      rw [hg0, if_neg (by decide)] at hS
      refine kT_pic (l2 := (rfP o thr len (Int32.ofNat n) (Int32.ofNat m) X2 flt fat (Int32.ofNat i) lns crs b hh nms rsv)) rfl ?_
      refine xw_go nostop 20 (fun K e => And.intro (fun _ => e _ _ _ _ (kT_call rfl rfl rfl rfl (k_pers (ns := H.1.2.1) hn hm hby hrs hX2 (by omega) n2.2.1 okP n3.2.1) ⟨rfl, rfl, rfl, rfl, rfl, trivial⟩ rfl rfl (fun rv l1 hP _ => ?_))) (fun c1 => nomatch (show true = false from c1)))
      rcases hP with ⟨j, e2, hj, rfl, rfl⟩ | ⟨e, p, g, e2, rfl, rfl⟩
      · rw [e2] at hS
        have hcj := (cmp_nat (i := j) (j := i) (by omega) (by omega)).2.2.2.2.2
        refine xw_go nostop 30 (fun K e => And.intro (fun _ => And.intro (fun c3 => And.intro i24.1 (e _ _ _ _ (kT_call rfl rfl rfl rfl (k_next (hh := upd hh (Int32.ofNat 24 + Int32.ofNat i).toNatClampNeg (Int32.ofNat j + Int32.ofInt 1)) hn hm hby hX2) ⟨rfl, rfl, rfl, rfl, rfl, trivial⟩ rfl rfl (fun rv l1 hP _ => ?_)))) (fun c3 => e _ _ _ _ (kT_call rfl rfl rfl rfl (k_bad hX2 _) ⟨rfl, rfl, rfl, rfl, rfl, trivial⟩ rfl rfl (fun rv l1 hP _ => ?_)))) (fun c1 => nomatch (show true = false from c1)))
        · obtain ⟨rfl, X3, hX3, rfl⟩ := hP
          have hji := of_decide_eq_true (hcj.symm.trans c3)
          refine xw_go nostop 20 (fun K e => e _ _ _ _ (kT_end rfl rfl (Or.inl ⟨_, _, X3, Int32.ofNat j, crs, upd hh (Int32.ofNat 24 + Int32.ofNat i).toNatClampNeg (Int32.ofNat j + Int32.ofInt 1), nms, hS.trans (if_neg hji), rfl, hX3, ⟨n1, n2, ?_, ?_⟩, rfl⟩)))
          · rw [i24.2]
            exact ⟨(up_ne (by omega)).trans n3.1, (up_ne (by omega)).trans n3.2.1, (up_ne (by omega)).trans n3.2.2.1, (up_ne (by omega)).trans n3.2.2.2⟩
          · rw [i24.2, i32_succ]
            have l3 := n1.2.2.1
            have l4 := n1.2.2.2.1
            obtain ⟨⟨a1, a2, a3, a4, a5, a6⟩, g2, g3, g4, g5, g6, g7, g8⟩ := n4
            refine ⟨⟨a1, a2, (List.length_set ..).trans a3, a4, a5, a6⟩, ?_, ?_, ?_, ?_, g6, ?_, ?_⟩
            · intro k hk1
              have hk3 : k < H.1.2.1.length := hk1
              rw [up_ne (by omega)]; exact g2 k hk3
            · intro k hk1
              have hk3 : k < H.1.2.1.length := hk1
              rw [up_ne (by omega)]; exact g3 k hk3
            · intro k hk1
              show upd hh (24 + i) (Int32.ofNat (j + 1)) (24 + k) = oP ((H.2.1.2.2.1.set i (some j)).getD k none) ∧ ∀ x, (H.2.1.2.2.1.set i (some j)).getD k none = some x → x < 10
              rw [gd_set _ _ _ _ (by rw [a3]; exact hi)]
              by_cases ek : k = i
              · rw [if_pos ek, ek, up_eq]
                exact ⟨rfl, fun x hx => by cases hx; omega⟩
              · rw [if_neg ek, up_ne (by omega)]
                exact g4 k hk1
            · intro k hk1
              have hk3 : k < H.1.2.1.length := hk1
              rw [up_ne (by omega)]; exact g5 k hk3
            · intro k hk1
              have hk3 : k < H.1.2.2.1.length := hk1
              rw [up_ne (by omega), up_ne (by omega), up_ne (by omega), up_ne (by omega), up_ne (by omega), up_ne (by omega)]; exact g7 k hk3
            · intro k hk1
              have hk3 : k < H.1.2.2.2.length := hk1
              refine ⟨(g8 k hk3).1, ?_, fun j2 hj2 => ?_⟩
              · rw [up_ne (by omega)]; exact (g8 k hk3).2.1
              · rw [up_ne (by omega)]; exact (g8 k hk3).2.2 j2 hj2
        · obtain ⟨rfl, rfl⟩ := hP
          have hji := Classical.not_not.mp (of_decide_eq_false (hcj.symm.trans c3))
          exact xw_go nostop 20 (fun K e => e _ _ _ _ (kT_end rfl rfl (Or.inr ⟨3, _, X2, _, crs, hh, nms, hS.trans (if_pos hji), rfl, rfl⟩)))
      · rw [e2] at hS
        exact xw_go nostop 20 (fun K e9 => And.intro (fun c4 => nomatch (show false = true from c4)) (fun _ => e9 _ _ _ _ (kT_end rfl rfl (Or.inr ⟨e, p, X2, g, crs, hh, nms, hS, rfl, rfl⟩))))
    · obtain ⟨rfl, rfl⟩ := hP
      have c2 : nj_cmp .le (hh (Int32.ofNat 24 + Int32.ofNat i).toNatClampNeg) 0 = false := c1
      rw [i24.2, hgo.1] at c2
      have hg0 : (H.2.1.2.2.1.getD i none).isSome = true := by
        cases hg : H.2.1.2.2.1.getD i none with
        | none => rw [hg] at c2; exact nomatch (show true = false from c2)
        | some j => rfl
      exact xw_go nostop 20 (fun K e => e _ _ _ _ (kT_end rfl rfl (Or.inr ⟨3, _, X1, _, crs, hh, nms, hS.trans (if_pos hg0), rfl, rfl⟩)))
  · have hS : sGod (tk b n m) q H = .inl (e, p) := by
      unfold sGod
      rw [e1]
      rfl
    exact xw_go nostop 20 (fun K e9 => And.intro (fun c4 => nomatch (show false = true from c4)) (fun _ => e9 _ _ _ _ (kT_end rfl rfl (Or.inr ⟨e, p, X1, g, crs, hh, nms, hS, rfl, rfl⟩))))
theorem l_care (hn : n ≤ 940) (hm : m ≤ 900) (hby : ∀ i, i < 940 → -128 ≤ (b i).toInt ∧ (b i).toInt ≤ 127) (hrs : rsvOk rsv) (h : rX b n m q X) (hH : rfR H hh nms crs) (h0 : List nC) : kT nj_M nX0 L xs (d + 5) nm_167 (mQ (rfP o thr len (Int32.ofNat n) (Int32.ofNat m) X flt fat got lns crs b hh nms rsv) (pLr o thr len n m flt fat lns b rsv (sCare (tk b n m) q H)) h0) (hk (rfP o thr len (Int32.ofNat n) (Int32.ofNat m) X flt fat got lns crs b hh nms rsv)) h0 134 [(0, .ref 175), (1, .int (b01 false))] [] (rfP o thr len (Int32.ofNat n) (Int32.ofNat m) X flt fat got lns crs b hh nms rsv) := by
  obtain ⟨n1, n2, n3, n4⟩ := hH
  have hlP := n1.2.1
  have okP : ∀ w ∈ H.1.2.1, wOk w := fun w hw => n1.2.2.2.2.2 w (alln_mem.mpr (Or.inr (Or.inl hw)))
  refine xw_go nostop 20 (fun K e => e _ _ _ _ (kT_call rfl rfl rfl rfl (k_next hn hm hby h) ⟨rfl, rfl, rfl, rfl, rfl, trivial⟩ rfl rfl (fun rv l1 hP _ => ?_)))
  obtain ⟨rfl, X1, hX1, rfl⟩ := hP
  refine xw_go nostop 20 (fun K e => e _ _ _ _ (kT_call rfl rfl rfl rfl (k_pers (ns := H.1.2.1) hn hm hby hrs hX1 (by omega) n2.2.1 okP n3.2.1) ⟨rfl, rfl, rfl, rfl, rfl, trivial⟩ rfl rfl (fun rv l1 hP _ => ?_)))
  rcases hP with ⟨i, e1, hi, rfl, rfl⟩ | ⟨e, p, g, e1, rfl, rfl⟩
  · have h34 : Int32.ofNat 34 + Int32.ofNat i = Int32.ofNat (34 + i) := (Int32.ofNat_add ..).symm
    have hS : sCare (tk b n m) q H = if (H.2.1.2.2.2.getD i none).isSome = true then .inl (3, ((tk b n m) ((tk b n m) q).2.2.2.2).2.1) else sBind (sNum (tk b n m) ((tk b n m) ((tk b n m) q).2.2.2.2).2.2.2.2 0 9) (fun p2 v => .inr (p2, (H.1, (H.2.1.1, H.2.1.2.1, H.2.1.2.2.1, H.2.1.2.2.2.set i (some v)), H.2.2))) := by
      unfold sCare
      rw [e1]
      rfl
    have hbt := n4.2.2.2.2.2.1 i (by omega)
    refine xw_go nostop 30 (fun K e => And.intro (fun _ => And.intro (fun _ => e _ _ _ _ (kT_call rfl rfl rfl rfl (q_bitOf (i := i) (by omega) _) trivial rfl rfl (fun rv l1 hP _ => ?_))) (fun c1 => nomatch (show true = false from c1))) (fun c1 => nomatch (show true = false from c1)))
    obtain ⟨rfl, rfl⟩ := hP
    rw [hbt]
    cases hg0 : (H.2.1.2.2.2.getD i none).isSome with
    | true =>
      refine xw_go nostop 20 (fun K e => And.intro (fun c1 => nomatch (show false = true from c1)) (fun _ => e _ _ _ _ (kT_call rfl rfl rfl rfl (k_bad hX1 _) ⟨rfl, rfl, rfl, rfl, rfl, trivial⟩ rfl rfl (fun rv l1 hP _ => ?_))))
      obtain ⟨rfl, rfl⟩ := hP
      exact xw_go nostop 20 (fun K e => e _ _ _ _ (kT_end rfl rfl (Or.inr ⟨3, _, X1, _, crs, hh, nms, hS.trans (if_pos hg0), rfl, rfl⟩)))
    | false =>
      rw [if_neg (by rw [hg0]; decide)] at hS
      refine xw_go nostop 20 (fun K e => And.intro (fun _ => e _ _ _ _ (kT_call rfl rfl rfl rfl (k_next hn hm hby hX1) ⟨rfl, rfl, rfl, rfl, rfl, trivial⟩ rfl rfl (fun rv l1 hP _ => ?_))) (fun c1 => nomatch (show true = false from c1)))
      obtain ⟨rfl, X2, hX2, rfl⟩ := hP
      refine kT_pic (l2 := (rfP o thr len (Int32.ofNat n) (Int32.ofNat m) X2 flt fat (Int32.ofNat i) lns crs b hh nms rsv)) rfl ?_
      refine xw_go nostop 30 (fun K e => And.intro (fun c1 => nomatch (show false = true from c1)) (fun _ => And.intro rfl (e _ _ _ _ (kT_call rfl rfl rfl rfl (k_puts (crs := crs ||| (Int32.ofInt 1 <<< (Int32.ofNat i &&& 31))) (lo := 0) (hi := 9) (t := Int32.ofNat 34 + Int32.ofNat i) (t0 := 34 + i) hn hm hby hX2 (by decide) (by decide) h34 (by omega)) ⟨rfl, rfl, rfl, rfl, rfl, trivial⟩ rfl rfl (fun rv l1 hP _ => ?_)))))
      rcases hP with ⟨q3, y, X3, e3, hy, rfl, hX3, rfl⟩ | ⟨e, p, e3, rfl, rfl⟩
      · rw [e3] at hS
        refine xw_go nostop 20 (fun K e => e _ _ _ _ (kT_end rfl rfl (Or.inl ⟨q3, _, X3, Int32.ofNat y, crs ||| (Int32.ofInt 1 <<< (Int32.ofNat i &&& 31)), upd hh (34 + i) (Int32.ofNat y), nms, hS, rfl, hX3, ⟨n1, n2, ?_, ?_⟩, rfl⟩)))
        · exact ⟨(up_ne (by omega)).trans n3.1, (up_ne (by omega)).trans n3.2.1, (up_ne (by omega)).trans n3.2.2.1, (up_ne (by omega)).trans n3.2.2.2⟩
        · have l3 := n1.2.2.1
          have l4 := n1.2.2.2.1
          obtain ⟨⟨a1, a2, a3, a4, a5, a6⟩, g2, g3, g4, g5, g6, g7, g8⟩ := n4
          refine ⟨⟨a1, a2, a3, (List.length_set ..).trans a4, a5, a6⟩, ?_, ?_, ?_, ?_, ?_, ?_, ?_⟩
          · intro k hk1
            have hk3 : k < H.1.2.1.length := hk1
            rw [up_ne (by omega)]; exact g2 k hk3
          · intro k hk1
            have hk3 : k < H.1.2.1.length := hk1
            rw [up_ne (by omega)]; exact g3 k hk3
          · intro k hk1
            rw [up_ne (by omega)]; exact g4 k hk1
          · intro k hk1
            have hk3 : k < H.1.2.1.length := hk1
            show upd hh (34 + i) (Int32.ofNat y) (34 + k) = oC ((H.2.1.2.2.2.set i (some y)).getD k none)
            rw [gd_set _ _ _ _ (by rw [a4]; exact hi)]
            by_cases ek : k = i
            · rw [if_pos ek, ek, up_eq]; rfl
            · rw [if_neg ek, up_ne (by omega)]; exact g5 k hk3
          · intro k hk1
            show bt (crs ||| (Int32.ofInt 1 <<< (Int32.ofNat i &&& 31))) k = ((H.2.1.2.2.2.set i (some y)).getD k none).isSome
            rw [gd_set _ _ _ _ (by rw [a4]; exact hi), bt_or (by omega) (by omega)]
            by_cases ek : k = i
            · rw [if_pos ek, decide_eq_true ek]; rfl
            · rw [if_neg ek, decide_eq_false ek]; exact g6 k hk1
          · intro k hk1
            have hk3 : k < H.1.2.2.1.length := hk1
            rw [up_ne (by omega), up_ne (by omega), up_ne (by omega), up_ne (by omega), up_ne (by omega), up_ne (by omega)]; exact g7 k hk3
          · intro k hk1
            have hk3 : k < H.1.2.2.2.length := hk1
            refine ⟨(g8 k hk3).1, ?_, fun j2 hj2 => ?_⟩
            · rw [up_ne (by omega)]; exact (g8 k hk3).2.1
            · rw [up_ne (by omega)]; exact (g8 k hk3).2.2 j2 hj2
      · rw [e3] at hS
        exact xw_go nostop 20 (fun K e9 => e9 _ _ _ _ (kT_end rfl rfl (Or.inr ⟨e, p, X2, _, _, hh, nms, hS, rfl, rfl⟩)))
  · have hS : sCare (tk b n m) q H = .inl (e, p) := by
      unfold sCare
      rw [e1]
      rfl
    exact xw_go nostop 20 (fun K e9 => And.intro (fun c4 => nomatch (show false = true from c4)) (fun _ => e9 _ _ _ _ (kT_end rfl rfl (Or.inr ⟨e, p, X1, g, crs, hh, nms, hS, rfl, rfl⟩))))
theorem k_line (hn : n ≤ 940) (hm : m ≤ 900) (hby : ∀ i, i < 940 → -128 ≤ (b i).toInt ∧ (b i).toInt ≤ 127) (hrs : rsvOk rsv) (h : rX b n m q X) (hH : rfR H hh nms crs) : mS nj_M nX0 L xs (d + 5) 167 [.ref 175] (rfP o thr len (Int32.ofNat n) (Int32.ofNat m) X flt fat got lns crs b hh nms rsv) (pLr o thr len n m flt fat lns b rsv (sLine (tk b n m) q H)) := by
  have w0 : Int64.ofInt 1937007984 = Int64.ofNat (e256 (keyws.getD 0 []) 0) := by decide
  have w1 : Int64.ofInt 123581014175598 = Int64.ofNat (e256 (keyws.getD 1 []) 0) := by decide
  have w5 : Int64.ofInt 435711799154 = Int64.ofNat (e256 (keyws.getD 5 []) 0) := by decide
  have w6 : Int64.ofInt 1684366692 = Int64.ofNat (e256 (keyws.getD 6 []) 0) := by decide
  have w3 : Int64.ofInt 6778724 = Int64.ofNat (e256 (keyws.getD 3 []) 0) := by decide
  have w4 : Int64.ofInt 1667330661 = Int64.ofNat (e256 (keyws.getD 4 []) 0) := by decide
  refine mS_of rfl (fun h0 => ?_)
  refine xw_go nostop 10 (fun K e => e _ _ _ _ (kT_call rfl rfl rfl rfl (k_isWord h (i := 0) (by decide) w0) ⟨rfl, rfl, rfl, rfl, rfl, trivial⟩ rfl rfl (fun rv l1 hP _ => ?_)))
  obtain ⟨rfl, rfl⟩ := hP
  by_cases k0 : ((tk b n m) q).1 = 100 + 0
  · rw [decide_eq_true k0]
    have hs : sLine (tk b n m) q H = sStep (tk b n m) q H := by
      unfold sLine
      rw [if_pos k0]
    rw [hs]
    exact xw_go (fun pc => pc == 10) 10 (fun K e => And.intro (fun c => nomatch (show false = true from c)) (fun _ => e _ _ _ _ (kT_pic rfl (l_step hn hm hby hrs h hH h0))))
  rw [decide_eq_false k0]
  refine xw_go nostop 10 (fun K e => And.intro (fun _ => e _ _ _ _ (kT_call rfl rfl rfl rfl (k_isWord h (i := 1) (by decide) w1) ⟨rfl, rfl, rfl, rfl, rfl, trivial⟩ rfl rfl (fun rv l1 hP _ => ?_))) (fun c => nomatch (show true = false from c)))
  obtain ⟨rfl, rfl⟩ := hP
  refine kT_pic (l2 := (rfP o thr len (Int32.ofNat n) (Int32.ofNat m) X flt fat got lns crs b hh nms rsv)) rfl ?_
  by_cases k1 : ((tk b n m) q).1 = 100 + 1
  · rw [decide_eq_true k1]
    have hs : sLine (tk b n m) q H = sPers (tk b n m) q H := by
      unfold sLine
      rw [if_neg k0, if_pos k1]
    rw [hs]
    refine xw_go nostop 10 (fun K e => And.intro (fun c => nomatch (show false = true from c)) (fun _ => e _ _ _ _ (kT_call rfl rfl rfl rfl (k_person hn hm hby hrs h hH) ⟨rfl, rfl, rfl, rfl, rfl, trivial⟩ rfl rfl (fun rv l1 hP _ => ?_))))
    rcases hP with ⟨q1, H1, X1, g1, c1, h1, m1, e1, rfl, hX1, hH1, rfl⟩ | ⟨e, p, X1, g1, c1, h1, m1, e1, rfl, rfl⟩
    · exact xw_go nostop 10 (fun K e => e _ _ _ _ (kT_end rfl rfl (Or.inl ⟨q1, H1, X1, g1, c1, h1, m1, e1, rfl, hX1, hH1, rfl⟩)))
    · exact xw_go nostop 10 (fun K e9 => e9 _ _ _ _ (kT_end rfl rfl (Or.inr ⟨e, p, X1, g1, c1, h1, m1, e1, rfl, rfl⟩)))
  rw [decide_eq_false k1]
  refine xw_go nostop 10 (fun K e => And.intro (fun _ => e _ _ _ _ (kT_call rfl rfl rfl rfl (k_isWord h (i := 5) (by decide) w5) ⟨rfl, rfl, rfl, rfl, rfl, trivial⟩ rfl rfl (fun rv l1 hP _ => ?_))) (fun c => nomatch (show true = false from c)))
  obtain ⟨rfl, rfl⟩ := hP
  refine kT_pic (l2 := (rfP o thr len (Int32.ofNat n) (Int32.ofNat m) X flt fat got lns crs b hh nms rsv)) rfl ?_
  by_cases k5 : ((tk b n m) q).1 = 100 + 5
  · rw [decide_eq_true k5]
    have hs : sLine (tk b n m) q H = sErr (tk b n m) q H := by
      unfold sLine
      rw [if_neg k0, if_neg k1, if_neg (by omega), if_neg (by omega), if_pos k5]
    rw [hs]
    refine xw_go nostop 10 (fun K e => And.intro (fun c => nomatch (show false = true from c)) (fun _ => e _ _ _ _ (kT_call rfl rfl rfl rfl (k_error hn hm hby hrs h hH) ⟨rfl, rfl, rfl, rfl, rfl, trivial⟩ rfl rfl (fun rv l1 hP _ => ?_))))
    rcases hP with ⟨q1, H1, X1, g1, c1, h1, m1, e1, rfl, hX1, hH1, rfl⟩ | ⟨e, p, X1, g1, c1, h1, m1, e1, rfl, rfl⟩
    · exact xw_go nostop 10 (fun K e => e _ _ _ _ (kT_end rfl rfl (Or.inl ⟨q1, H1, X1, g1, c1, h1, m1, e1, rfl, hX1, hH1, rfl⟩)))
    · exact xw_go nostop 10 (fun K e9 => e9 _ _ _ _ (kT_end rfl rfl (Or.inr ⟨e, p, X1, g1, c1, h1, m1, e1, rfl, rfl⟩)))
  rw [decide_eq_false k5]
  refine xw_go nostop 10 (fun K e => And.intro (fun _ => e _ _ _ _ (kT_call rfl rfl rfl rfl (k_isWord h (i := 6) (by decide) w6) ⟨rfl, rfl, rfl, rfl, rfl, trivial⟩ rfl rfl (fun rv l1 hP _ => ?_))) (fun c => nomatch (show true = false from c)))
  obtain ⟨rfl, rfl⟩ := hP
  refine kT_pic (l2 := (rfP o thr len (Int32.ofNat n) (Int32.ofNat m) X flt fat got lns crs b hh nms rsv)) rfl ?_
  by_cases k6 : ((tk b n m) q).1 = 100 + 6
  · rw [decide_eq_true k6]
    have hs : sLine (tk b n m) q H = sDeed (tk b n m) q H := by
      unfold sLine
      rw [if_neg k0, if_neg k1, if_neg (by omega), if_neg (by omega), if_neg k5, if_pos k6]
    rw [hs]
    refine xw_go nostop 10 (fun K e => And.intro (fun c => nomatch (show false = true from c)) (fun _ => e _ _ _ _ (kT_call rfl rfl rfl rfl (k_deed hn hm hby hrs h hH) ⟨rfl, rfl, rfl, rfl, rfl, trivial⟩ rfl rfl (fun rv l1 hP _ => ?_))))
    rcases hP with ⟨q1, H1, X1, g1, c1, h1, m1, e1, rfl, hX1, hH1, rfl⟩ | ⟨e, p, X1, g1, c1, h1, m1, e1, rfl, rfl⟩
    · exact xw_go nostop 10 (fun K e => e _ _ _ _ (kT_end rfl rfl (Or.inl ⟨q1, H1, X1, g1, c1, h1, m1, e1, rfl, hX1, hH1, rfl⟩)))
    · exact xw_go nostop 10 (fun K e9 => e9 _ _ _ _ (kT_end rfl rfl (Or.inr ⟨e, p, X1, g1, c1, h1, m1, e1, rfl, rfl⟩)))
  rw [decide_eq_false k6]
  refine xw_go nostop 10 (fun K e => And.intro (fun _ => e _ _ _ _ (kT_call rfl rfl rfl rfl (k_isWord h (i := 3) (by decide) w3) ⟨rfl, rfl, rfl, rfl, rfl, trivial⟩ rfl rfl (fun rv l1 hP _ => ?_))) (fun c => nomatch (show true = false from c)))
  obtain ⟨rfl, rfl⟩ := hP
  refine kT_pic (l2 := (rfP o thr len (Int32.ofNat n) (Int32.ofNat m) X flt fat got lns crs b hh nms rsv)) rfl ?_
  by_cases k3 : ((tk b n m) q).1 = 100 + 3
  · rw [decide_eq_true k3]
    have hs : sLine (tk b n m) q H = sGod (tk b n m) q H := by
      unfold sLine
      rw [if_neg k0, if_neg k1, if_pos k3]
    rw [hs]
    exact xw_go (fun pc => pc == 134) 10 (fun K e => And.intro (fun _ => e _ _ _ _ (kT_sort rfl (l_god hn hm hby hrs h hH h0))) (fun c => nomatch (show true = false from c)))
  rw [decide_eq_false k3]
  refine xw_go nostop 10 (fun K e => And.intro (fun c => nomatch (show false = true from c)) (fun _ => e _ _ _ _ (kT_call rfl rfl rfl rfl (k_isWord h (i := 4) (by decide) w4) ⟨rfl, rfl, rfl, rfl, rfl, trivial⟩ rfl rfl (fun rv l1 hP _ => ?_))))
  obtain ⟨rfl, rfl⟩ := hP
  refine kT_pic (l2 := (rfP o thr len (Int32.ofNat n) (Int32.ofNat m) X flt fat got lns crs b hh nms rsv)) rfl ?_
  by_cases k4 : ((tk b n m) q).1 = 100 + 4
  · rw [decide_eq_true k4]
    have hs : sLine (tk b n m) q H = sCare (tk b n m) q H := by
      unfold sLine
      rw [if_neg k0, if_neg k1, if_neg k3, if_pos k4]
    rw [hs]
    exact xw_go (fun pc => pc == 134) 10 (fun K e => And.intro (fun _ => e _ _ _ _ (kT_sort rfl (l_care hn hm hby hrs h hH h0))) (fun c => nomatch (show true = false from c)))
  rw [decide_eq_false k4]
  have hs : sLine (tk b n m) q H = .inl (1, ((tk b n m) q).2.1) := by
    unfold sLine
    rw [if_neg k0, if_neg k1, if_neg k3, if_neg k4, if_neg k5, if_neg k6]
  refine xw_go nostop 10 (fun K e => And.intro (fun c => nomatch (show false = true from c)) (fun _ => e _ _ _ _ (kT_call rfl rfl rfl rfl (k_bad h _) ⟨rfl, rfl, rfl, rfl, rfl, trivial⟩ rfl rfl (fun rv l1 hP _ => ?_))))
  obtain ⟨rfl, rfl⟩ := hP
  exact xw_go nostop 10 (fun K e => e _ _ _ _ (kT_end rfl rfl (Or.inr ⟨1, _, X, got, crs, hh, nms, hs, rfl, rfl⟩)))
end RFS
