/-! the reference reads a deed -/
theorem rhB_deed {H : Hs} {hh h1 : Nat → Int32} {crs : Int32} {w : List Nat} {acc : List Nat} (h : rhB H hh crs) (n1 : nmOk H.1) (hl : H.1.2.2.2.length < 4) (ha : ∀ i, 4 ≤ i → ¬ i = 80 + H.1.2.2.2.length → (i < 84 + 12 * H.1.2.2.2.length ∨ 84 + 12 * H.1.2.2.2.length + 12 ≤ i) → h1 i = hh i) (hacc : acc.length ≤ 12) (b1 : h1 (80 + H.1.2.2.2.length) = Int32.ofNat acc.length) (b2 : ∀ j, j < acc.length → h1 (84 + 12 * H.1.2.2.2.length + j) = Int32.ofNat (acc.getD j 0)) : rhB ((H.1.1, H.1.2.1, H.1.2.2.1, H.1.2.2.2 ++ [w]), H.2.1, H.2.2.1, H.2.2.2 ++ [acc]) h1 crs := by
  obtain ⟨⟨a1, a2, a3, a4, a5, a6⟩, g2, g3, g4, g5, g6, g7, g8⟩ := h
  have l2 := n1.2.1
  have l3 := n1.2.2.1
  refine ⟨⟨a1, a2, a3, a4, a5, ?_⟩, ?_, ?_, ?_, ?_, g6, ?_, ?_⟩
  · show (H.2.2.2 ++ [_]).length = (H.1.2.2.2 ++ [w]).length
    rw [List.length_append, List.length_append, a6]; rfl
  · intro i hi
    have hi3 : i < H.1.2.1.length := hi
    rw [ha (4 + i) (by omega) (by omega) (by omega)]
    exact g2 i hi3
  · intro i hi
    have hi3 : i < H.1.2.1.length := hi
    rw [ha (14 + i) (by omega) (by omega) (by omega)]
    exact g3 i hi3
  · intro i hi
    rw [ha (24 + i) (by omega) (by omega) (by omega)]
    exact g4 i hi
  · intro i hi
    have hi3 : i < H.1.2.1.length := hi
    rw [ha (34 + i) (by omega) (by omega) (by omega)]
    exact g5 i hi3
  · intro i hi
    have hi3 : i < H.1.2.2.1.length := hi
    rw [ha (74 + i) (by omega) (by omega) (by omega), ha (44 + i) (by omega) (by omega) (by omega), ha (50 + i) (by omega) (by omega) (by omega), ha (56 + i) (by omega) (by omega) (by omega), ha (62 + i) (by omega) (by omega) (by omega), ha (68 + i) (by omega) (by omega) (by omega)]
    exact g7 i hi3
  · intro i hi
    have hi2 : i < H.1.2.2.2.length + 1 := by
      have : i < (H.1.2.2.2 ++ [w]).length := hi
      rw [List.length_append] at this
      exact this
    show ((H.2.2.2 ++ [acc]).getD i []).length ≤ 12 ∧ h1 (80 + i) = Int32.ofNat ((H.2.2.2 ++ [acc]).getD i []).length ∧ ∀ j, j < ((H.2.2.2 ++ [acc]).getD i []).length → h1 (84 + 12 * i + j) = Int32.ofNat (((H.2.2.2 ++ [acc]).getD i []).getD j 0)
    rw [gd_app, a6]
    by_cases e : i = H.1.2.2.2.length
    · rw [if_neg (by omega), if_pos e, e]
      exact ⟨hacc, b1, b2⟩
    · rw [if_pos (by omega)]
      have g := g8 i (by omega)
      have g1 := g.1
      refine ⟨g.1, ?_, fun j hj => ?_⟩
      · rw [ha (80 + i) (by omega) (by omega) (by omega)]
        exact g.2.1
      · rw [ha (84 + 12 * i + j) (by omega) (by omega) (by omega)]
        exact g.2.2 j hj
theorem ix_84 {c i : Nat} {v : Int32} (hv : v = Int32.ofNat c) (hc : c < 4) (hi : i < 12) : nj_ix (Int32.ofNat 84 + Int32.ofNat 12 * v + Int32.ofNat i) 132 = true ∧ (Int32.ofNat 84 + Int32.ofNat 12 * v + Int32.ofNat i).toNatClampNeg = 84 + 12 * c + i := by
  rw [hv, ← Int32.ofNat_mul, ← Int32.ofNat_add, ← Int32.ofNat_add]
  exact ix_nat (by omega) (by decide)
section RFR
variable {L : Nat} {xs : Nat → Int32} {d : Nat} {o : Nat → Value} {thr len sz lim : Int32} {X : Lx} {flt fat got lns crs : Int32} {b hh : Nat → Int32} {nms rsv : Nat → Int64} {n m q : Nat} {H : Hs}
theorem rdeed_loop {l0 : nL} {P : Option Value → nL → Prop} {h0 : List nC} {v1 : Int32} {c : Nat} {R : Rs (List Nat)} {S : List (List Nat)} (hks : hk l0 = hk (rfP o thr len (Int32.ofNat n) (Int32.ofNat m) X flt fat got lns crs b hh nms rsv)) (hn : n ≤ 940) (hm : m ≤ 900) (hby : ∀ i, i < 940 → -128 ≤ (b i).toInt ∧ (b i).toInt ≤ 127) (hrs : rsvOk rsv) (hv1 : v1 = Int32.ofNat c) (hc : c < 4) (hS6 : S.length ≤ 6) (hns : nmF nms 26 S) (hok : ∀ w ∈ S, wOk w) (hcn : hh 0 = Int32.ofNat S.length)
    (hs : ∀ (q1 : Nat) (acc : List Nat) (X1 : Lx) (g1 : Int32) (hx : Nat → Int32), R = .inr (q1, acc) → rX b n m q1 X1 → acc.length ≤ 12 → (∀ j, j < acc.length → hx (84 + 12 * c + j) = Int32.ofNat (acc.getD j 0)) → (∀ k, (k < 84 + 12 * c ∨ 84 + 12 * c + 12 ≤ k) → hx k = hh k) → kT nj_M nX0 L xs (d + 4) nm_181 (mQ l0 P h0) (hk l0) h0 99 [(0, .ref 175), (1, .int v1), (2, .int (Int32.ofNat acc.length))] [] (rfP o thr len (Int32.ofNat n) (Int32.ofNat m) X1 flt fat g1 lns crs b hx nms rsv))
    (hf : ∀ (e p : Nat) (X1 : Lx) (g1 : Int32) (hx : Nat → Int32), R = .inl (e, p) → P (some (.int 0)) (rfP o thr len (Int32.ofNat n) (Int32.ofNat m) X1 (Int32.ofNat e) (Int32.ofNat p) g1 lns crs b hx nms rsv)) : ∀ (r i : Nat) (acc : List Nat) (p : Nat) (X1 : Lx) (g1 : Int32) (hx : Nat → Int32), i + r = 12 → acc.length = i → R = sSts (tk b n m) (r + 2) p acc S → rX b n m p X1 → (∀ j, j < i → hx (84 + 12 * c + j) = Int32.ofNat (acc.getD j 0)) → (∀ k, (k < 84 + 12 * c ∨ 84 + 12 * c + 12 ≤ k) → hx k = hh k) → kT nj_M nX0 L xs (d + 4) nm_181 (mQ l0 P h0) (hk l0) h0 37 [(0, .ref 175), (1, .int v1), (2, .int (Int32.ofNat i))] [] (rfP o thr len (Int32.ofNat n) (Int32.ofNat m) X1 flt fat g1 lns crs b hx nms rsv) := by
  intro r
  induction r with
  | zero =>
    intro i acc p X1 g1 hx hir hacc hR h hst hx0
    have hSS : sSts (tk b n m) (0 + 2) p acc S = if 0 < acc.length ∧ ((tk b n m) p).1 = 59 then .inr (p, acc) else sBind (sKno (tk b n m) p S) (fun p1 s => if acc.length = 12 then .inl (4, ((tk b n m) p1).2.1) else sSts (tk b n m) (0 + 1) ((tk b n m) p1).2.2.2.2 (acc ++ [s]) S) := rfl
    rw [hSS] at hR
    have h50 : ¬ (0 < acc.length ∧ ((tk b n m) p).1 = 59) → kT nj_M nX0 L xs (d + 4) nm_181 (mQ l0 P h0) (hk l0) h0 50 [(0, .ref 175), (1, .int v1), (2, .int (Int32.ofNat i))] [] (rfP o thr len (Int32.ofNat n) (Int32.ofNat m) X1 flt fat g1 lns crs b hx nms rsv) := by
      intro hcnd
      rw [if_neg hcnd] at hR
      refine xw_go nostop 20 (fun K e => e _ _ _ _ (kT_call rfl rfl rfl rfl (k_stp (hh := hx) (ns := S) hn hm hby hrs h (by omega) hns hok (by rw [hx0 0 (by omega)]; exact hcn)) ⟨rfl, rfl, rfl, rfl, rfl, trivial⟩ rfl rfl (fun rv l1 hP _ => ?_)))
      rcases hP with ⟨s, e1, hs1, rfl, rfl⟩ | ⟨e, p2, g, e1, rfl, rfl⟩
      · have hi12 : i = 12 := by omega
        subst hi12
        refine xw_go nostop 20 (fun K e => And.intro (fun _ => And.intro (fun c2 => nomatch (show false = true from c2)) (fun _ => e _ _ _ _ (kT_call rfl rfl rfl rfl (k_bad h _) ⟨rfl, rfl, rfl, rfl, rfl, trivial⟩ rfl rfl (fun rv l1 hP _ => ?_)))) (fun c2 => nomatch (show true = false from c2)))
        obtain ⟨rfl, rfl⟩ := hP
        have hR2 : R = .inl (4, ((tk b n m) p).2.1) := by
          rw [hR, e1]
          show (if acc.length = 12 then _ else _) = _
          rw [if_pos hacc]
        exact xw_go nostop 20 (fun K e => e _ _ _ _ (kT_end rfl rfl (hf 4 _ X1 _ hx hR2)))
      · have hR2 : R = .inl (e, p2) := by
          rw [hR, e1]
          rfl
        exact xw_go nostop 20 (fun K e9 => And.intro (fun c2 => nomatch (show false = true from c2)) (fun _ => e9 _ _ _ _ (kT_end rfl rfl (hf e p2 X1 g hx hR2))))
    have hc0 := (cmp_nat (i := i) (j := 0) (by omega) (by omega)).2.2.2.2.1
    refine xw_go (fun pc => pc == 50) 20 (fun K e => And.intro (fun c1 => e _ _ _ _ (h50 ?_)) (fun c1 => e _ _ _ _ (kT_call rfl rfl rfl rfl (k_isSign (c := 59) (hh := hx) h (by decide)) ⟨rfl, rfl, rfl, rfl, rfl, trivial⟩ rfl rfl (fun rv l1 hP _ => ?_))))
    · have := of_decide_eq_true (hc0.symm.trans c1)
      omega
    · obtain ⟨rfl, rfl⟩ := hP
      have hi0 := of_decide_eq_false (hc0.symm.trans c1)
      by_cases h59 : ((tk b n m) p).1 = 59
      · rw [decide_eq_true h59]
        rw [if_pos ⟨by omega, h59⟩] at hR
        have h9 := hs p acc X1 g1 hx hR h (by omega) (fun j hj => hst j (by omega)) hx0
        rw [hacc] at h9
        exact xw_go (fun pc => pc == 99) 20 (fun K e => And.intro (fun _ => e _ _ _ _ h9) (fun c2 => nomatch (show true = false from c2)))
      · rw [decide_eq_false h59]
        exact xw_go (fun pc => pc == 50) 20 (fun K e => And.intro (fun c2 => nomatch (show false = true from c2)) (fun _ => e _ _ _ _ (h50 (fun z => h59 z.2))))
  | succ r ih =>
    intro i acc p X1 g1 hx hir hacc hR h hst hx0
    have hSS : sSts (tk b n m) (r + 1 + 2) p acc S = if 0 < acc.length ∧ ((tk b n m) p).1 = 59 then .inr (p, acc) else sBind (sKno (tk b n m) p S) (fun p1 s => if acc.length = 12 then .inl (4, ((tk b n m) p1).2.1) else sSts (tk b n m) (r + 2) ((tk b n m) p1).2.2.2.2 (acc ++ [s]) S) := rfl
    rw [hSS] at hR
    have h50 : ¬ (0 < acc.length ∧ ((tk b n m) p).1 = 59) → kT nj_M nX0 L xs (d + 4) nm_181 (mQ l0 P h0) (hk l0) h0 50 [(0, .ref 175), (1, .int v1), (2, .int (Int32.ofNat i))] [] (rfP o thr len (Int32.ofNat n) (Int32.ofNat m) X1 flt fat g1 lns crs b hx nms rsv) := by
      intro hcnd
      rw [if_neg hcnd] at hR
      refine xw_go nostop 20 (fun K e => e _ _ _ _ (kT_call rfl rfl rfl rfl (k_stp (hh := hx) (ns := S) hn hm hby hrs h (by omega) hns hok (by rw [hx0 0 (by omega)]; exact hcn)) ⟨rfl, rfl, rfl, rfl, rfl, trivial⟩ rfl rfl (fun rv l1 hP _ => ?_)))
      rcases hP with ⟨s, e1, hs1, rfl, rfl⟩ | ⟨e, p2, g, e1, rfl, rfl⟩
      · have hR2 : R = sSts (tk b n m) (r + 2) ((tk b n m) p).2.2.2.2 (acc ++ [s]) S := by
          rw [hR, e1]
          show (if acc.length = 12 then _ else _) = _
          rw [if_neg (by omega)]
        have hx84 := ix_84 hv1 hc (i := i) (by omega)
        have hc12 := (cmp_nat (i := i) (j := 12) (by omega) (by omega)).2.2.2.2.2
        refine xw_go nostop 40 (fun K e => And.intro (fun _ => And.intro (fun _ => And.intro hx84.1 (e _ _ _ _ (kT_call rfl rfl rfl rfl (k_next (hh := upd hx (Int32.ofNat 84 + Int32.ofNat 12 * v1 + Int32.ofNat i).toNatClampNeg (Int32.ofNat s)) hn hm hby h) ⟨rfl, rfl, rfl, rfl, rfl, trivial⟩ rfl rfl (fun rv l1 hP _ => ?_)))) (fun c2 => absurd (Classical.not_not.mp (of_decide_eq_false (hc12.symm.trans c2))) (by omega))) (fun c2 => nomatch (show true = false from c2)))
        obtain ⟨rfl, X2, hX2, rfl⟩ := hP
        have ih1 := ih (i + 1) (acc ++ [s]) _ X2 (Int32.ofNat s) (upd hx (84 + 12 * c + i) (Int32.ofNat s)) (by omega) (by rw [List.length_append, hacc]; rfl) hR2 hX2 (fun j hj => ?_) (fun k hk1 => ?_)
        · rw [← i32_succ, ← hx84.2] at ih1
          exact xw_go (fun pc => pc == 37) 20 (fun K e => e _ _ _ _ (kT_sort rfl ih1))
        · rw [gd_app, hacc]
          by_cases ej : j = i
          · rw [if_neg (by omega), if_pos ej, ej]
            exact up_eq
          · rw [if_pos (by omega), up_ne (by omega)]
            exact hst j (by omega)
        · rw [up_ne (by omega)]
          exact hx0 k hk1
      · have hR2 : R = .inl (e, p2) := by
          rw [hR, e1]
          rfl
        exact xw_go nostop 20 (fun K e9 => And.intro (fun c2 => nomatch (show false = true from c2)) (fun _ => e9 _ _ _ _ (kT_end rfl rfl (hf e p2 X1 g hx hR2))))
    have hc0 := (cmp_nat (i := i) (j := 0) (by omega) (by omega)).2.2.2.2.1
    refine xw_go (fun pc => pc == 50) 20 (fun K e => And.intro (fun c1 => e _ _ _ _ (h50 ?_)) (fun c1 => e _ _ _ _ (kT_call rfl rfl rfl rfl (k_isSign (c := 59) (hh := hx) h (by decide)) ⟨rfl, rfl, rfl, rfl, rfl, trivial⟩ rfl rfl (fun rv l1 hP _ => ?_))))
    · have := of_decide_eq_true (hc0.symm.trans c1)
      omega
    · obtain ⟨rfl, rfl⟩ := hP
      have hi0 := of_decide_eq_false (hc0.symm.trans c1)
      by_cases h59 : ((tk b n m) p).1 = 59
      · rw [decide_eq_true h59]
        rw [if_pos ⟨by omega, h59⟩] at hR
        have h9 := hs p acc X1 g1 hx hR h (by omega) (fun j hj => hst j (by omega)) hx0
        rw [hacc] at h9
        exact xw_go (fun pc => pc == 99) 20 (fun K e => And.intro (fun _ => e _ _ _ _ h9) (fun c2 => nomatch (show true = false from c2)))
      · rw [decide_eq_false h59]
        exact xw_go (fun pc => pc == 50) 20 (fun K e => And.intro (fun c2 => nomatch (show false = true from c2)) (fun _ => e _ _ _ _ (h50 (fun z => h59 z.2))))
theorem k_deed (hn : n ≤ 940) (hm : m ≤ 900) (hby : ∀ i, i < 940 → -128 ≤ (b i).toInt ∧ (b i).toInt ≤ 127) (hrs : rsvOk rsv) (h : rX b n m q X) (hH : rfR H hh nms crs) : mS nj_M nX0 L xs (d + 4) 181 [.ref 175] (rfP o thr len (Int32.ofNat n) (Int32.ofNat m) X flt fat got lns crs b hh nms rsv) (pLr o thr len n m flt fat lns b rsv (sDeed (tk b n m) q H)) := by
  obtain ⟨n1, n2, n3, n4⟩ := hH
  have hl10 := n1.2.1
  have hl6 := n1.1
  have hlE := n1.2.2.1
  have hlD := n1.2.2.2.1
  have okS : ∀ w ∈ H.1.1, wOk w := fun w hw => n1.2.2.2.2.2 w (alln_mem.mpr (Or.inl hw))
  have hcc := (cmp_nat (i := H.1.2.2.2.length) (j := 4) (by omega) (by omega)).2.2.2.2.2
  rw [← n3.2.2.2] at hcc
  refine mS_of rfl (fun h0 => ?_)
  refine xw_go nostop 20 (fun K e => And.intro rfl (And.intro (fun c => e _ _ _ _ (kT_call rfl rfl rfl rfl (k_next hn hm hby h) ⟨rfl, rfl, rfl, rfl, rfl, trivial⟩ rfl rfl (fun rv l1 hP _ => ?_))) (fun c => e _ _ _ _ (kT_call rfl rfl rfl rfl (k_bad h _) ⟨rfl, rfl, rfl, rfl, rfl, trivial⟩ rfl rfl (fun rv l1 hP _ => ?_)))))
  · obtain ⟨rfl, X1, hX1, rfl⟩ := hP
    have hne := of_decide_eq_true (hcc.symm.trans c)
    have hlt : H.1.2.2.2.length < 4 := by omega
    have hB0 : sBeg (tk b n m) H.1.2.2.2.length 4 q H = sFr (tk b n m) ((tk b n m) q).2.2.2.2 H := by rw [sBeg_fr, if_neg hne]
    have h48 : Int32.ofNat 48 + hh 3 = Int32.ofNat (48 + H.1.2.2.2.length) := by rw [n3.2.2.2, Int32.ofNat_add]
    have i80 := ix_add (k := 80) n3.2.2.2 (by omega)
    refine xw_go nostop 20 (fun K e => e _ _ _ _ (kT_call rfl rfl rfl rfl (k_fresh (t := Int32.ofNat 48 + hh 3) (t0 := 48 + H.1.2.2.2.length) hn hm hby hrs hX1 n1 n2 n3 h48 (by omega)) ⟨rfl, rfl, rfl, rfl, rfl, trivial⟩ rfl rfl (fun rv l1 hP _ => ?_)))
    rcases hP with ⟨q2, w, X2, e2, hw, hnew, rfl, hX2, rfl⟩ | ⟨e, p, e2, rfl, rfl⟩
    · have hN' := nmOk_4 n1 hw hnew hlt
      have nS : nmF (vp_updL nms (48 + H.1.2.2.2.length) (Int64.ofNat (e256 w 0))) 26 H.1.1 := nmF_ne n2.1 (by omega)
      have hn' : nmQ (vp_updL nms (48 + H.1.2.2.2.length) (Int64.ofNat (e256 w 0))) (H.1.1, H.1.2.1, H.1.2.2.1, H.1.2.2.2 ++ [w]) := ⟨nS, nmF_ne n2.2.1 (Or.inr (by show 32 + H.1.2.1.length ≤ 48 + H.1.2.2.2.length; omega)), nmF_ne n2.2.2.1 (Or.inr (by show 42 + H.1.2.2.1.length ≤ 48 + H.1.2.2.2.length; omega)), nmF_app n2.2.2.2⟩
      have hS : sDeed (tk b n m) q H = sBind (sSts (tk b n m) 14 q2 [] H.1.1) (fun p2 acc => .inr (p2, ((H.1.1, H.1.2.1, H.1.2.2.1, H.1.2.2.2 ++ [w]), H.2.1, H.2.2.1, H.2.2.2 ++ [acc]))) := by
        unfold sDeed
        rw [hB0, e2]
        rfl
      refine xw_go (fun pc => pc == 37) 20 (fun K e => And.intro (fun _ => e _ _ _ _ (kT_sort rfl (rdeed_loop (v1 := hh 3) (hh := hh) (nms := (vp_updL nms (48 + H.1.2.2.2.length) (Int64.ofNat (e256 w 0)))) (X := X) (flt := flt) (fat := fat) (got := got) rfl hn hm hby hrs n3.2.2.2 hlt hl6 nS okS n3.1 (fun q3 acc X3 g3 hx hR hX3 ha hst hx0 => ?_) (fun e3 p3 X3 g3 hx hR => ?_) 12 0 [] q2 X2 got hh rfl rfl rfl hX2 (fun j hj => absurd hj (Nat.not_lt_zero j)) (fun k _ => rfl)))) (fun c1 => nomatch (show true = false from c1)))
      · have hS2 : sDeed (tk b n m) q H = .inr (q3, ((H.1.1, H.1.2.1, H.1.2.2.1, H.1.2.2.2 ++ [w]), H.2.1, H.2.2.1, H.2.2.2 ++ [acc])) := by
          rw [hS, show sSts (tk b n m) 14 q2 [] H.1.1 = .inr (q3, acc) from hR]
          rfl
        have hx3 : hx 3 = hh 3 := hx0 3 (by omega)
        refine xw_go nostop 20 (fun K e => And.intro i80.1 (And.intro rfl (And.intro rfl (e _ _ _ _ (kT_end rfl rfl (Or.inl ⟨q3, ((H.1.1, H.1.2.1, H.1.2.2.1, H.1.2.2.2 ++ [w]), H.2.1, H.2.2.1, H.2.2.2 ++ [acc]), X3, g3, crs, upd (upd hx (Int32.ofNat 80 + hh 3).toNatClampNeg (Int32.ofNat acc.length)) 3 (upd hx (Int32.ofNat 80 + hh 3).toNatClampNeg (Int32.ofNat acc.length) 3 + Int32.ofInt 1), (vp_updL nms (48 + H.1.2.2.2.length) (Int64.ofNat (e256 w 0))), hS2, rfl, hX3, ⟨hN', hn', ⟨?_, ?_, ?_, ?_⟩, rhB_deed n4 n1 hlt ?_ ha ?_ ?_⟩, rfl⟩))))))
        · rw [i80.2, up_ne (by omega), up_ne (by omega), hx0 0 (by omega)]; exact n3.1
        · rw [i80.2, up_ne (by omega), up_ne (by omega), hx0 1 (by omega)]; exact n3.2.1
        · rw [i80.2, up_ne (by omega), up_ne (by omega), hx0 2 (by omega)]; exact n3.2.2.1
        · rw [i80.2, up_eq, up_ne (by omega), hx3, n3.2.2.2, i32_succ]
          show _ = Int32.ofNat (H.1.2.2.2 ++ [w]).length
          rw [List.length_append]; rfl
        · intro i hi z1 z2
          rw [i80.2, up_ne (by omega), up_ne z1]
          exact hx0 i z2
        · rw [i80.2, up_ne (by omega), up_eq]
        · intro j hj
          rw [i80.2, up_ne (by omega), up_ne (by omega)]
          exact hst j hj
      · refine Or.inr ⟨e3, p3, X3, g3, crs, hx, (vp_updL nms (48 + H.1.2.2.2.length) (Int64.ofNat (e256 w 0))), ?_, rfl, rfl⟩
        rw [hS, show sSts (tk b n m) 14 q2 [] H.1.1 = .inl (e3, p3) from hR]
        rfl
    · refine xw_go nostop 20 (fun K e9 => And.intro (fun c1 => nomatch (show false = true from c1)) (fun _ => e9 _ _ _ _ (kT_end rfl rfl (Or.inr ⟨e, p, X1, got, crs, hh, nms, ?_, rfl, rfl⟩))))
      unfold sDeed
      rw [hB0, e2]
      rfl
  · obtain ⟨rfl, rfl⟩ := hP
    have hne := Classical.not_not.mp (of_decide_eq_false (hcc.symm.trans c))
    refine xw_go nostop 20 (fun K e => e _ _ _ _ (kT_end rfl rfl (Or.inr ⟨4, _, X, got, crs, hh, nms, ?_, rfl, rfl⟩)))
    unfold sDeed
    rw [sBeg_fr, if_pos hne]
    rfl
end RFR
