/-! a chronicle's lines, by the class -/
abbrev Sc : Type := (Nat → Int32) × (Nat → Int32) × (Nat → Int32) × Int32 × Int32
abbrev sc59 (Q : Sc) : nL := [(59, .inr (6, [.ref 60, .ref 61, .ref 62, .int Q.2.2.2.1, .int Q.2.2.2.2])), (60, .inl (0, 40, .inl Q.1)), (61, .inl (0, 40, .inl Q.2.1)), (62, .inl (0, 40, .inl Q.2.2.1))]
abbrev sm (b kd pl : Nat → Int32) (vl ky : Nat → Int64) (len tok cur tak tl fk fp : Int32) (z : Ho) (Q : Sc) : nL := th7 b kd pl vl ky len tok cur tak tl fk fp z ++ sc59 Q
def scB (Q : Sc) (k : Nat) : Prop := Q.2.2.2.1 = Int32.ofNat k
abbrev pCl (T : Nat → Tk) (b kd pl : Nat → Int32) (vl ky : Nat → Int64) (len tok tl fk fp : Int32) (z : Ho) (k : Nat) (R : Rs Nat) : Option Value → nL → Prop := fun rv l => (∃ q a Q1 cur1 tak1, R = .inr (q, a) ∧ rv = some (.int 1) ∧ txR T kd pl vl tok cur1 q ∧ scB Q1 (k + 1) ∧ l = sm b kd pl vl ky len tok cur1 tak1 tl fk fp z Q1) ∨ (∃ e q Q1 cur1 tak1, R = .inl (e, q) ∧ rv = some (.int 0) ∧ l = sm b kd pl vl ky len tok cur1 tak1 tl (Int32.ofNat e) (Int32.ofNat q) z Q1)
section CHL
variable {L : Nat} {xs : Nat → Int32} {d : Nat} {b kd pl : Nat → Int32} {vl ky : Nat → Int64} {len tok cur tak tl fk fp : Int32} {T : Nat → Tk} {p k : Nat} {z : Ho} {Q : Sc}
theorem c_add (hk : k < 40) (hQ : scB Q k) (x1 x2 x3 : Int32) : mS nj_M nX0 L xs d 129 [.ref 59, .int x1, .int x2, .int x3] (sc59 Q) (fun rv l => rv = some (.int 1) ∧ ∃ Q1, scB Q1 (k + 1) ∧ l = sc59 Q1) := by
  have hQ2 : Q.2.2.2.1 = Int32.ofNat k := hQ
  have q1 := (cmp_nat (i := k) (j := 40) (by omega) (by omega)).1
  rw [← hQ2, decide_eq_false (by omega)] at q1
  have hx := ix_nat (i := k) (n := 40) hk (by decide)
  rw [← hQ2] at hx
  refine mS_of rfl (fun h0 => ?_)
  refine xw_go nostop 60 (fun K e => And.intro (fun c => nomatch (q1.symm.trans c)) (fun _ => And.intro hx.1 (And.intro hx.1 (And.intro hx.1 (And.intro rfl (e _ _ _ _ (kT_end rfl rfl ⟨rfl, (upd Q.1 Q.2.2.2.1.toNatClampNeg x1, upd Q.2.1 Q.2.2.2.1.toNatClampNeg x2, upd Q.2.2.1 Q.2.2.2.1.toNatClampNeg x3, Q.2.2.2.1 + Int32.ofInt 1, Q.2.2.2.2), ?_, rfl⟩)))))))
  show Q.2.2.2.1 + Int32.ofInt 1 = _
  rw [hQ2, i32_succ]
set_option maxHeartbeats 2000000 in
theorem c_year (hT : tkOk T) (h : txR T kd pl vl tok cur p) (hk : k < 40) (hQ : scB Q k) : mS nj_M nX0 L xs (d + 2) 130 [.ref 59, .ref 1] (sm b kd pl vl ky len tok cur tak tl fk fp z Q) (pCl T b kd pl vl ky len tok tl fk fp z k (cYr T (nx T p))) := by
  refine mS_of rfl (fun h0 => ?_)
  refine xw_go nostop 20 (fun K e => e _ _ _ _ (kT_call rfl rfl rfl rfl (r_adv (L := L) (xs := xs) (b := b) (ky := ky) (len := len) (tl := tl) (fk := fk) (fp := fp) (tak := tak) hT h) ⟨rfl, rfl, rfl, rfl, rfl, rfl, trivial⟩ rfl rfl (fun rv l1 hP1 _ => ?_)))
  obtain ⟨rfl, cur1, h1, rfl⟩ := hP1
  refine kT_pic (l2 := (sm b kd pl vl ky len tok cur1 tak tl fk fp z Q)) rfl ?_
  refine xw_go nostop 20 (fun K e => e _ _ _ _ (kT_call rfl rfl rfl rfl (r_num (L := L) (xs := xs) (b := b) (ky := ky) (len := len) (tl := tl) (fk := fk) (fp := fp) (tak := tak) (d := d) hT h1 (lo := 1) (hi := 99) (by decide) (by decide)) ⟨rfl, rfl, rfl, rfl, rfl, rfl, trivial⟩ rfl rfl (fun rv l1 hP1 _ => ?_)))
  rcases hP1 with ⟨q, y, cur2, e1, hy, rfl, h2, rfl⟩ | ⟨e2, q, tak1, e1, rfl, rfl⟩
  · refine kT_pic (l2 := (sm b kd pl vl ky len tok cur2 (Int32.ofNat y) tl fk fp z Q)) rfl ?_
    refine xw_go nostop 20 (fun K e => And.intro (fun c => nomatch (show false = true from c)) (fun _ => e _ _ _ _ (kT_call rfl rfl rfl rfl (c_add (L := L) (xs := xs) hk hQ _ _ _) ⟨rfl, rfl, rfl, rfl, trivial⟩ rfl rfl (fun rv l1 hP1 _ => ?_))))
    obtain ⟨rfl, Q1, hQ1, rfl⟩ := hP1
    refine kT_pic (l2 := (sm b kd pl vl ky len tok cur2 (Int32.ofNat y) tl fk fp z Q1)) rfl ?_
    exact xw_go nostop 20 (fun K e => And.intro (fun c => nomatch (show false = true from c)) (fun _ => e _ _ _ _ (kT_end rfl rfl (Or.inl ⟨q, 0, Q1, cur2, _, by rw [cYr, nx, e1]; rfl, rfl, h2, hQ1, rfl⟩))))
  · refine kT_pic (l2 := (sm b kd pl vl ky len tok cur1 tak1 tl (Int32.ofNat e2) (Int32.ofNat q) z Q)) rfl ?_
    exact xw_go nostop 20 (fun K e => And.intro (fun _ => e _ _ _ _ (kT_end rfl rfl (Or.inr ⟨e2, q, Q, cur1, tak1, by rw [cYr, nx, e1]; rfl, rfl, rfl⟩))) (fun c => nomatch (show true = false from c)))
set_option maxHeartbeats 4000000 in
theorem c_gift (hT : tkOk T) (h : txR T kd pl vl tok cur p) (hk : k < 40) (hQ : scB Q k) {N : List (List Nat) × List (List Nat) × List (List Nat) × List (List Nat)} (hN : nmOk N) (hn : nmR z.2.1 (nsl N)) : mS nj_M nX0 L xs (d + 2) 128 [.ref 59, .ref 1, .ref 7] (sm b kd pl vl ky len tok cur tak tl fk fp z Q) (pCl T b kd pl vl ky len tok tl fk fp z k (cGv T N (nx T p))) := by
  refine mS_of rfl (fun h0 => ?_)
  refine xw_go nostop 20 (fun K e => e _ _ _ _ (kT_call rfl rfl rfl rfl (r_adv (L := L) (xs := xs) (b := b) (ky := ky) (len := len) (tl := tl) (fk := fk) (fp := fp) (tak := tak) hT h) ⟨rfl, rfl, rfl, rfl, rfl, rfl, trivial⟩ rfl rfl (fun rv l1 hP1 _ => ?_)))
  obtain ⟨rfl, cur1, h1, rfl⟩ := hP1
  refine kT_pic (l2 := (sm b kd pl vl ky len tok cur1 tak tl fk fp z Q)) rfl ?_
  refine xw_go nostop 20 (fun K e => e _ _ _ _ (kT_call rfl rfl rfl rfl (r_errs7 (L := L) (xs := xs) (b := b) (ky := ky) (len := len) (tl := tl) (fk := fk) (fp := fp) (tak := tak) (d := d) hT h1 hN hn) ⟨rfl, rfl, rfl, rfl, rfl, rfl, rfl, rfl, rfl, rfl, rfl, rfl, rfl, rfl, rfl, rfl, rfl, rfl, rfl, rfl, rfl, trivial⟩ rfl rfl (fun rv l1 hP1 _ => ?_)))
  rcases hP1 with ⟨i, e1, hi, rfl, rfl⟩ | ⟨e2, q2, e1, rfl, rfl⟩
  · refine kT_pic (l2 := (sm b kd pl vl ky len tok cur1 tak tl fk fp z Q)) rfl ?_
    have hi10 : i < 1000 := by
      have l3 := hN.2.2.1
      omega
    have q1 : nj_cmp .ne (Int32.ofNat i) (Int32.ofInt (-1)) = true := decide_eq_true (ofN_ne hi10)
    refine xw_go nostop 20 (fun K e => And.intro (fun _ => e _ _ _ _ (kT_call rfl rfl rfl rfl (r_adv (L := L) (xs := xs) (b := b) (ky := ky) (len := len) (tl := tl) (fk := fk) (fp := fp) (tak := tak) hT h1) ⟨rfl, rfl, rfl, rfl, rfl, rfl, trivial⟩ rfl rfl (fun rv l1 hP1 _ => ?_))) (fun c => nomatch (q1.symm.trans c)))
    obtain ⟨rfl, cur2, h2, rfl⟩ := hP1
    refine kT_pic (l2 := (sm b kd pl vl ky len tok cur2 tak tl fk fp z Q)) rfl ?_
    refine xw_go nostop 20 (fun K e => e _ _ _ _ (kT_call rfl rfl rfl rfl (r_pers7 (L := L) (xs := xs) (b := b) (ky := ky) (len := len) (tl := tl) (fk := fk) (fp := fp) (tak := tak) (d := d) hT h2 hN hn) ⟨rfl, rfl, rfl, rfl, rfl, rfl, rfl, rfl, rfl, rfl, rfl, rfl, rfl, rfl, rfl, rfl, rfl, rfl, rfl, rfl, rfl, trivial⟩ rfl rfl (fun rv l1 hP1 _ => ?_)))
    rcases hP1 with ⟨j, e3, hj, rfl, rfl⟩ | ⟨e4, q4, e3, rfl, rfl⟩
    · refine kT_pic (l2 := (sm b kd pl vl ky len tok cur2 tak tl fk fp z Q)) rfl ?_
      have hj10 : j < 1000 := by
        have l2 := hN.2.1
        omega
      have q2 : nj_cmp .ne (Int32.ofNat j) (Int32.ofInt (-1)) = true := decide_eq_true (ofN_ne hj10)
      refine xw_go nostop 20 (fun K e => And.intro (fun _ => e _ _ _ _ (kT_call rfl rfl rfl rfl (r_adv (L := L) (xs := xs) (b := b) (ky := ky) (len := len) (tl := tl) (fk := fk) (fp := fp) (tak := tak) hT h2) ⟨rfl, rfl, rfl, rfl, rfl, rfl, trivial⟩ rfl rfl (fun rv l1 hP1 _ => ?_))) (fun c => nomatch (q2.symm.trans c)))
      obtain ⟨rfl, cur3, h3, rfl⟩ := hP1
      refine kT_pic (l2 := (sm b kd pl vl ky len tok cur3 tak tl fk fp z Q)) rfl ?_
      refine xw_go nostop 20 (fun K e => e _ _ _ _ (kT_call rfl rfl rfl rfl (c_add (L := L) (xs := xs) hk hQ _ _ _) ⟨rfl, rfl, rfl, rfl, trivial⟩ rfl rfl (fun rv l1 hP1 _ => ?_)))
      obtain ⟨rfl, Q1, hQ1, rfl⟩ := hP1
      refine kT_pic (l2 := (sm b kd pl vl ky len tok cur3 tak tl fk fp z Q1)) rfl ?_
      exact xw_go nostop 20 (fun K e => e _ _ _ _ (kT_end rfl rfl (Or.inl ⟨_, 0, Q1, cur3, tak, by rw [cGv, nx, e1]; show sBind (sKno T (T (T p).2.2.2.2).2.2.2.2 _) _ = _; rw [e3]; rfl, rfl, h3, hQ1, rfl⟩)))
    · refine kT_pic (l2 := (sm b kd pl vl ky len tok cur2 tak tl (Int32.ofNat e4) (Int32.ofNat q4) z Q)) rfl ?_
      exact xw_go nostop 20 (fun K e => And.intro (fun c => nomatch (show false = true from c)) (fun _ => e _ _ _ _ (kT_end rfl rfl (Or.inr ⟨e4, q4, Q, cur2, tak, by rw [cGv, nx, e1]; show sBind (sKno T (T (T p).2.2.2.2).2.2.2.2 _) _ = _; rw [e3]; rfl, rfl, rfl⟩))))
  · refine kT_pic (l2 := (sm b kd pl vl ky len tok cur1 tak tl (Int32.ofNat e2) (Int32.ofNat q2) z Q)) rfl ?_
    exact xw_go nostop 20 (fun K e => And.intro (fun c => nomatch (show false = true from c)) (fun _ => e _ _ _ _ (kT_end rfl rfl (Or.inr ⟨e2, q2, Q, cur1, tak, by rw [cGv, nx, e1]; rfl, rfl, rfl⟩))))
set_option maxHeartbeats 4000000 in
theorem c_act (hT : tkOk T) (h : txR T kd pl vl tok cur p) (hk : k < 40) (hQ : scB Q k) {N : List (List Nat) × List (List Nat) × List (List Nat) × List (List Nat)} (hN : nmOk N) (hn : nmR z.2.1 (nsl N)) {i : Nat} (e1 : sKno T p N.2.1 = .inr (p, i)) : mS nj_M nX0 L xs (d + 2) 131 [.ref 59, .ref 1, .ref 7] (sm b kd pl vl ky len tok cur tak tl fk fp z Q) (pCl T b kd pl vl ky len tok tl fk fp z k (cAc T N (nx T p))) := by
  refine mS_of rfl (fun h0 => ?_)
  refine xw_go nostop 20 (fun K e => e _ _ _ _ (kT_call rfl rfl rfl rfl (r_pers7 (L := L) (xs := xs) (b := b) (ky := ky) (len := len) (tl := tl) (fk := fk) (fp := fp) (tak := tak) (d := d) hT h hN hn) ⟨rfl, rfl, rfl, rfl, rfl, rfl, rfl, rfl, rfl, rfl, rfl, rfl, rfl, rfl, rfl, rfl, rfl, rfl, rfl, rfl, rfl, trivial⟩ rfl rfl (fun rv l1 hP1 _ => ?_)))
  rcases hP1 with ⟨i2, e2, hi, rfl, rfl⟩ | ⟨e3, q3, e2, rfl, rfl⟩
  · refine kT_pic (l2 := (sm b kd pl vl ky len tok cur tak tl fk fp z Q)) rfl ?_
    refine xw_go nostop 20 (fun K e => e _ _ _ _ (kT_call rfl rfl rfl rfl (r_adv (L := L) (xs := xs) (b := b) (ky := ky) (len := len) (tl := tl) (fk := fk) (fp := fp) (tak := tak) hT h) ⟨rfl, rfl, rfl, rfl, rfl, rfl, trivial⟩ rfl rfl (fun rv l1 hP1 _ => ?_)))
    obtain ⟨rfl, cur1, h1, rfl⟩ := hP1
    refine kT_pic (l2 := (sm b kd pl vl ky len tok cur1 tak tl fk fp z Q)) rfl ?_
    refine xw_go nostop 20 (fun K e => e _ _ _ _ (kT_call rfl rfl rfl rfl (r_kind (L := L) (xs := xs) (b := b) (ky := ky) (len := len) (tl := tl) (fk := fk) (fp := fp) (tak := tak) hT h1) ⟨rfl, rfl, rfl, rfl, rfl, rfl, trivial⟩ rfl rfl (fun rv l1 hP1 _ => ?_)))
    obtain ⟨rfl, rfl⟩ := hP1
    refine kT_pic (l2 := (sm b kd pl vl ky len tok cur1 tak tl fk fp z Q)) rfl ?_
    generalize hp1 : (T p).2.2.2.2 = p1 at h1 ⊢
    have en : nx T p = p1 := hp1
    rw [en]
    have hb := (hT.2.2.1 p1).1
    have c107 := (cmp_nat (i := (T p1).1) (j := 107) (by omega) (by omega)).2.2.2.2.1
    have c108 := (cmp_nat (i := (T p1).1) (j := 108) (by omega) (by omega)).2.2.2.2.1
    have d108 := (cmp_nat (i := (T p1).1) (j := 108) (by omega) (by omega)).2.2.2.2.2
    by_cases a7 : (T p1).1 = 107
    · rw [decide_eq_true a7] at c107
      rw [decide_eq_true (by omega)] at d108
      refine xw_go nostop 30 (fun K e => And.intro (fun _ => e _ _ _ _ (kT_call rfl rfl rfl rfl (r_adv (L := L) (xs := xs) (b := b) (ky := ky) (len := len) (tl := tl) (fk := fk) (fp := fp) (tak := tak) hT h1) ⟨rfl, rfl, rfl, rfl, rfl, rfl, trivial⟩ rfl rfl (fun rv l1 hP1 _ => ?_))) (fun c => nomatch (c107.symm.trans c)))
      obtain ⟨rfl, cur2, h2, rfl⟩ := hP1
      refine kT_pic (l2 := (sm b kd pl vl ky len tok cur2 tak tl fk fp z Q)) rfl ?_
      refine xw_go nostop 30 (fun K e => And.intro (fun _ => e _ _ _ _ (kT_call rfl rfl rfl rfl (r_deeds7 (L := L) (xs := xs) (b := b) (ky := ky) (len := len) (tl := tl) (fk := fk) (fp := fp) (tak := tak) (d := d) hT h2 hN hn) ⟨rfl, rfl, rfl, rfl, rfl, rfl, rfl, rfl, rfl, rfl, rfl, rfl, rfl, rfl, rfl, rfl, rfl, rfl, rfl, rfl, rfl, trivial⟩ rfl rfl (fun rv l1 hP1 _ => ?_))) (fun c => nomatch (d108.symm.trans c)))
      have eA : cAc T N p1 = sBind (sKno T (T p1).2.2.2.2 N.2.2.2) (fun p1 _ => .inr (nx T p1, 0)) := by
        rw [cAc, if_neg (by omega), if_neg (by omega)]
        rfl
      rcases hP1 with ⟨j, e4, hj, rfl, rfl⟩ | ⟨e5, q5, e4, rfl, rfl⟩
      · refine kT_pic (l2 := (sm b kd pl vl ky len tok cur2 tak tl fk fp z Q)) rfl ?_
        have hj10 : j < 1000 := by
          have l4 := hN.2.2.2.1
          omega
        have q2 : nj_cmp .ne (Int32.ofNat j) (Int32.ofInt (-1)) = true := decide_eq_true (ofN_ne hj10)
        refine xw_go nostop 20 (fun K e => And.intro (fun _ => e _ _ _ _ (kT_call rfl rfl rfl rfl (r_adv (L := L) (xs := xs) (b := b) (ky := ky) (len := len) (tl := tl) (fk := fk) (fp := fp) (tak := tak) hT h2) ⟨rfl, rfl, rfl, rfl, rfl, rfl, trivial⟩ rfl rfl (fun rv l1 hP1 _ => ?_))) (fun c => nomatch (q2.symm.trans c)))
        obtain ⟨rfl, cur3, h3, rfl⟩ := hP1
        refine kT_pic (l2 := (sm b kd pl vl ky len tok cur3 tak tl fk fp z Q)) rfl ?_
        refine xw_go nostop 20 (fun K e => e _ _ _ _ (kT_call rfl rfl rfl rfl (c_add (L := L) (xs := xs) hk hQ _ _ _) ⟨rfl, rfl, rfl, rfl, trivial⟩ rfl rfl (fun rv l1 hP1 _ => ?_)))
        obtain ⟨rfl, Q1, hQ1, rfl⟩ := hP1
        refine kT_pic (l2 := (sm b kd pl vl ky len tok cur3 tak tl fk fp z Q1)) rfl ?_
        exact xw_go nostop 20 (fun K e => e _ _ _ _ (kT_end rfl rfl (Or.inl ⟨_, 0, Q1, cur3, tak, by rw [eA, e4]; rfl, rfl, h3, hQ1, rfl⟩)))
      · refine kT_pic (l2 := (sm b kd pl vl ky len tok cur2 tak tl (Int32.ofNat e5) (Int32.ofNat q5) z Q)) rfl ?_
        exact xw_go nostop 20 (fun K e => And.intro (fun c => nomatch (show false = true from c)) (fun _ => e _ _ _ _ (kT_end rfl rfl (Or.inr ⟨e5, q5, Q, cur2, tak, by rw [eA, e4]; rfl, rfl, rfl⟩))))
    · rw [decide_eq_false a7] at c107
      by_cases a8 : (T p1).1 = 108
      · rw [decide_eq_true a8] at c108
        rw [decide_eq_false (by omega)] at d108
        refine xw_go nostop 30 (fun K e => And.intro (fun c => nomatch (c107.symm.trans c)) (fun _ => And.intro (fun _ => e _ _ _ _ (kT_call rfl rfl rfl rfl (r_adv (L := L) (xs := xs) (b := b) (ky := ky) (len := len) (tl := tl) (fk := fk) (fp := fp) (tak := tak) hT h1) ⟨rfl, rfl, rfl, rfl, rfl, rfl, trivial⟩ rfl rfl (fun rv l1 hP1 _ => ?_))) (fun c => nomatch (c108.symm.trans c))))
        obtain ⟨rfl, cur2, h2, rfl⟩ := hP1
        refine kT_pic (l2 := (sm b kd pl vl ky len tok cur2 tak tl fk fp z Q)) rfl ?_
        refine xw_go nostop 30 (fun K e => And.intro (fun c => nomatch (d108.symm.trans c)) (fun _ => e _ _ _ _ (kT_call rfl rfl rfl rfl (c_add (L := L) (xs := xs) hk hQ _ _ _) ⟨rfl, rfl, rfl, rfl, trivial⟩ rfl rfl (fun rv l1 hP1 _ => ?_))))
        obtain ⟨rfl, Q1, hQ1, rfl⟩ := hP1
        refine kT_pic (l2 := (sm b kd pl vl ky len tok cur2 tak tl fk fp z Q1)) rfl ?_
        exact xw_go nostop 20 (fun K e => e _ _ _ _ (kT_end rfl rfl (Or.inl ⟨_, 0, Q1, cur2, tak, by rw [cAc, if_neg (by omega), if_pos a8]; rfl, rfl, h2, hQ1, rfl⟩)))
      · rw [decide_eq_false a8] at c108
        refine xw_go nostop 30 (fun K e => And.intro (fun c => nomatch (c107.symm.trans c)) (fun _ => And.intro (fun c => nomatch (c108.symm.trans c)) (fun _ => e _ _ _ _ (kT_call rfl rfl rfl rfl (r_fails (L := L) (xs := xs) (b := b) (ky := ky) (len := len) (tl := tl) (fk := fk) (fp := fp) (tak := tak) hT h1 _) ⟨rfl, rfl, rfl, rfl, rfl, rfl, trivial⟩ rfl rfl (fun rv l1 hP1 _ => ?_)))))
        obtain ⟨rfl, rfl⟩ := hP1
        refine kT_pic (l2 := (sm b kd pl vl ky len tok cur1 tak tl (Int32.ofNat 1) (Int32.ofNat (T p1).2.1) z Q)) rfl ?_
        exact xw_go nostop 20 (fun K e => e _ _ _ _ (kT_end rfl rfl (Or.inr ⟨1, (T p1).2.1, Q, cur1, tak, by rw [cAc, if_pos ⟨a7, a8⟩], rfl, rfl⟩)))
  · rw [e1] at e2
    cases e2
set_option maxHeartbeats 4000000 in
theorem c_line (hT : tkOk T) (h : txR T kd pl vl tok cur p) (hk4 : k ≤ 40) (hQ : scB Q k) {N : List (List Nat) × List (List Nat) × List (List Nat) × List (List Nat)} (hN : nmOk N) (hn : nmR z.2.1 (nsl N)) : mS nj_M nX0 L xs (d + 3) 127 [.ref 59, .ref 1, .ref 7] (sm b kd pl vl ky len tok cur tak tl fk fp z Q) (pCl T b kd pl vl ky len tok tl fk fp z k (cLn T N p k)) := by
  have hQ2 : Q.2.2.2.1 = Int32.ofNat k := hQ
  have hb := (hT.2.2.1 p).1
  have c109 := (cmp_nat (i := (T p).1) (j := 109) (by omega) (by omega)).2.2.2.2.1
  have c110 := (cmp_nat (i := (T p).1) (j := 110) (by omega) (by omega)).2.2.2.2.1
  have c40 := (cmp_nat (i := k) (j := 40) (by omega) (by omega)).2.1
  rw [← hQ2] at c40
  refine mS_of rfl (fun h0 => ?_)
  have full : k = 40 → ∀ q, q = p → cLn T N p k = .inl (4, (T q).2.1) → kT nj_M nX0 L xs (d + 3) nm_127 (mQ (sm b kd pl vl ky len tok cur tak tl fk fp z Q) (pCl T b kd pl vl ky len tok tl fk fp z k (cLn T N p k)) h0) (hk (sm b kd pl vl ky len tok cur tak tl fk fp z Q)) h0 29 [(0, .ref 59), (1, .ref 1), (2, .ref 7), (3, .int (Int32.ofNat (T p).1))] [] (sm b kd pl vl ky len tok cur tak tl fk fp z Q) := by
    intro e40 q hq eL
    subst hq
    have q1 := c40
    rw [decide_eq_false (by omega)] at q1
    refine xw_go nostop 30 (fun K e => And.intro (fun c => nomatch (q1.symm.trans c)) (fun _ => e _ _ _ _ (kT_call rfl rfl rfl rfl (r_fails (L := L) (xs := xs) (b := b) (ky := ky) (len := len) (tl := tl) (fk := fk) (fp := fp) (tak := tak) hT h _) ⟨rfl, rfl, rfl, rfl, rfl, rfl, trivial⟩ rfl rfl (fun rv l1 hP1 _ => ?_))))
    obtain ⟨rfl, rfl⟩ := hP1
    refine kT_pic (l2 := (sm b kd pl vl ky len tok cur tak tl (Int32.ofNat 4) (Int32.ofNat (T q).2.1) z Q)) rfl ?_
    exact xw_go nostop 20 (fun K e => e _ _ _ _ (kT_end rfl rfl (Or.inr ⟨4, (T q).2.1, Q, cur, tak, eL, rfl, rfl⟩)))
  refine xw_go nostop 20 (fun K e => e _ _ _ _ (kT_call rfl rfl rfl rfl (r_kind (L := L) (xs := xs) (b := b) (ky := ky) (len := len) (tl := tl) (fk := fk) (fp := fp) (tak := tak) hT h) ⟨rfl, rfl, rfl, rfl, rfl, rfl, trivial⟩ rfl rfl (fun rv l1 hP1 _ => ?_)))
  obtain ⟨rfl, rfl⟩ := hP1
  refine kT_pic (l2 := (sm b kd pl vl ky len tok cur tak tl fk fp z Q)) rfl ?_
  by_cases a9 : (T p).1 = 109
  · have eL : cLn T N p k = (if k = 40 then .inl (4, (T p).2.1) else cGv T N (nx T p)) := by rw [cLn, if_neg (by omega), if_pos a9]
    rw [decide_eq_true a9] at c109
    by_cases e40 : k = 40
    · rw [if_pos e40] at eL
      exact xw_go (fun pc => pc == 29) 20 (fun K e => And.intro (fun _ => e _ _ _ _ (kT_sort rfl (full e40 p rfl eL))) (fun c => nomatch (c109.symm.trans c)))
    · rw [if_neg e40] at eL
      rw [decide_eq_true (by omega)] at c40
      refine xw_go nostop 30 (fun K e => And.intro (fun _ => And.intro (fun _ => e _ _ _ _ ?_) (fun c => nomatch (c40.symm.trans c))) (fun c => nomatch (c109.symm.trans c)))
      refine kT_pure rfl rfl (show nj_pure _ _ _ _ _ = some (72, [(3, .int (Int32.ofNat (T p).1)), (0, .ref 59), (1, .ref 1), (2, .ref 7)], []) from by rw [a9]; rfl) ?_
      refine xw_go nostop 20 (fun K e => e _ _ _ _ (kT_call rfl rfl rfl rfl (c_gift (L := L) (xs := xs) (b := b) (ky := ky) (len := len) (tl := tl) (fk := fk) (fp := fp) (tak := tak) (d := d) hT h (by omega) hQ hN hn) ⟨rfl, rfl, rfl, rfl, rfl, rfl, rfl, rfl, rfl, rfl, rfl, rfl, rfl, rfl, rfl, rfl, rfl, rfl, rfl, rfl, rfl, rfl, rfl, rfl, rfl, trivial⟩ rfl rfl (fun rv l1 hP1 _ => ?_)))
      rw [← eL] at hP1
      rcases hP1 with ⟨q, a, Q1, cur2, tak2, e9, rfl, h2, hQ1, rfl⟩ | ⟨e8, q, Q1, cur2, tak2, e9, rfl, rfl⟩
      · refine kT_pic (l2 := (sm b kd pl vl ky len tok cur2 tak2 tl fk fp z Q1)) rfl ?_
        exact xw_go nostop 20 (fun K e => e _ _ _ _ (kT_end rfl rfl (Or.inl ⟨q, a, Q1, cur2, tak2, e9, rfl, h2, hQ1, rfl⟩)))
      · refine kT_pic (l2 := (sm b kd pl vl ky len tok cur2 tak2 tl (Int32.ofNat e8) (Int32.ofNat q) z Q1)) rfl ?_
        exact xw_go nostop 20 (fun K e => e _ _ _ _ (kT_end rfl rfl (Or.inr ⟨e8, q, Q1, cur2, tak2, e9, rfl, rfl⟩)))
  · rw [decide_eq_false a9] at c109
    by_cases a10 : (T p).1 = 110
    · have eL : cLn T N p k = (if k = 40 then .inl (4, (T p).2.1) else cYr T (nx T p)) := by rw [cLn, if_pos a10]
      rw [decide_eq_true a10] at c110
      by_cases e40 : k = 40
      · rw [if_pos e40] at eL
        exact xw_go (fun pc => pc == 29) 20 (fun K e => And.intro (fun c => nomatch (c109.symm.trans c)) (fun _ => And.intro (fun _ => e _ _ _ _ (kT_sort rfl (full e40 p rfl eL))) (fun c => nomatch (c110.symm.trans c))))
      · rw [if_neg e40] at eL
        rw [decide_eq_true (by omega)] at c40
        refine xw_go nostop 30 (fun K e => And.intro (fun c => nomatch (c109.symm.trans c)) (fun _ => And.intro (fun _ => And.intro (fun _ => e _ _ _ _ ?_) (fun c => nomatch (c40.symm.trans c))) (fun c => nomatch (c110.symm.trans c))))
        refine kT_pure rfl rfl (show nj_pure _ _ _ _ _ = some (79, [(3, .int (Int32.ofNat (T p).1)), (0, .ref 59), (1, .ref 1), (2, .ref 7)], []) from by rw [a10]; rfl) ?_
        refine xw_go nostop 20 (fun K e => e _ _ _ _ (kT_call rfl rfl rfl rfl (c_year (L := L) (xs := xs) (b := b) (ky := ky) (len := len) (tl := tl) (fk := fk) (fp := fp) (tak := tak) (d := d) (z := z) hT h (by omega) hQ) ⟨rfl, rfl, rfl, rfl, rfl, rfl, rfl, rfl, rfl, rfl, rfl, rfl, rfl, rfl, rfl, rfl, rfl, rfl, rfl, rfl, rfl, rfl, rfl, rfl, rfl, trivial⟩ rfl rfl (fun rv l1 hP1 _ => ?_)))
        rw [← eL] at hP1
        rcases hP1 with ⟨q, a, Q1, cur2, tak2, e9, rfl, h2, hQ1, rfl⟩ | ⟨e8, q, Q1, cur2, tak2, e9, rfl, rfl⟩
        · refine kT_pic (l2 := (sm b kd pl vl ky len tok cur2 tak2 tl fk fp z Q1)) rfl ?_
          exact xw_go nostop 20 (fun K e => e _ _ _ _ (kT_end rfl rfl (Or.inl ⟨q, a, Q1, cur2, tak2, e9, rfl, h2, hQ1, rfl⟩)))
        · refine kT_pic (l2 := (sm b kd pl vl ky len tok cur2 tak2 tl (Int32.ofNat e8) (Int32.ofNat q) z Q1)) rfl ?_
          exact xw_go nostop 20 (fun K e => e _ _ _ _ (kT_end rfl rfl (Or.inr ⟨e8, q, Q1, cur2, tak2, e9, rfl, rfl⟩)))
    · rw [decide_eq_false a10] at c110
      have eL : cLn T N p k = sBind (sKno T p N.2.1) (fun p0 _ => if k = 40 then .inl (4, (T p0).2.1) else cAc T N (nx T p0)) := by rw [cLn, if_neg a10, if_neg a9]
      refine xw_go nostop 20 (fun K e => And.intro (fun c => nomatch (c109.symm.trans c)) (fun _ => And.intro (fun c => nomatch (c110.symm.trans c)) (fun _ => e _ _ _ _ (kT_call rfl rfl rfl rfl (r_pers7 (L := L) (xs := xs) (b := b) (ky := ky) (len := len) (tl := tl) (fk := fk) (fp := fp) (tak := tak) (d := d + 1) hT h hN hn) ⟨rfl, rfl, rfl, rfl, rfl, rfl, rfl, rfl, rfl, rfl, rfl, rfl, rfl, rfl, rfl, rfl, rfl, rfl, rfl, rfl, rfl, trivial⟩ rfl rfl (fun rv l1 hP1 _ => ?_)))))
      rcases hP1 with ⟨i, e1, hi, rfl, rfl⟩ | ⟨e2, q2, e1, rfl, rfl⟩
      · refine kT_pic (l2 := (sm b kd pl vl ky len tok cur tak tl fk fp z Q)) rfl ?_
        have hi10 : i < 1000 := by
          have l2 := hN.2.1
          omega
        have q1 : nj_cmp .ne (Int32.ofNat i) (Int32.ofInt (-1)) = true := decide_eq_true (ofN_ne hi10)
        rw [e1] at eL
        have eL2 : cLn T N p k = (if k = 40 then .inl (4, (T p).2.1) else cAc T N (nx T p)) := eL
        by_cases e40 : k = 40
        · rw [if_pos e40] at eL2
          exact xw_go (fun pc => pc == 29) 20 (fun K e => And.intro (fun _ => e _ _ _ _ (kT_sort rfl (full e40 p rfl eL2))) (fun c => nomatch (q1.symm.trans c)))
        · rw [if_neg e40] at eL2
          rw [decide_eq_true (by omega)] at c40
          refine xw_go nostop 30 (fun K e => And.intro (fun _ => And.intro (fun _ => e _ _ _ _ ?_) (fun c => nomatch (c40.symm.trans c))) (fun c => nomatch (q1.symm.trans c)))
          refine kT_pure rfl rfl (show nj_pure _ _ _ _ _ = some (85, [(3, .int (Int32.ofNat (T p).1)), (0, .ref 59), (1, .ref 1), (2, .ref 7)], []) from by rw [sKno_2 e1]; rfl) ?_
          refine xw_go nostop 20 (fun K e => e _ _ _ _ (kT_call rfl rfl rfl rfl (c_act (L := L) (xs := xs) (b := b) (ky := ky) (len := len) (tl := tl) (fk := fk) (fp := fp) (tak := tak) (d := d) hT h (by omega) hQ hN hn e1) ⟨rfl, rfl, rfl, rfl, rfl, rfl, rfl, rfl, rfl, rfl, rfl, rfl, rfl, rfl, rfl, rfl, rfl, rfl, rfl, rfl, rfl, rfl, rfl, rfl, rfl, trivial⟩ rfl rfl (fun rv l1 hP1 _ => ?_)))
          rw [← eL2] at hP1
          rcases hP1 with ⟨q, a, Q1, cur2, tak2, e9, rfl, h2, hQ1, rfl⟩ | ⟨e8, q, Q1, cur2, tak2, e9, rfl, rfl⟩
          · refine kT_pic (l2 := (sm b kd pl vl ky len tok cur2 tak2 tl fk fp z Q1)) rfl ?_
            exact xw_go nostop 20 (fun K e => e _ _ _ _ (kT_end rfl rfl (Or.inl ⟨q, a, Q1, cur2, tak2, e9, rfl, h2, hQ1, rfl⟩)))
          · refine kT_pic (l2 := (sm b kd pl vl ky len tok cur2 tak2 tl (Int32.ofNat e8) (Int32.ofNat q) z Q1)) rfl ?_
            exact xw_go nostop 20 (fun K e => e _ _ _ _ (kT_end rfl rfl (Or.inr ⟨e8, q, Q1, cur2, tak2, e9, rfl, rfl⟩)))
      · refine kT_pic (l2 := (sm b kd pl vl ky len tok cur tak tl (Int32.ofNat e2) (Int32.ofNat q2) z Q)) rfl ?_
        exact xw_go nostop 20 (fun K e => And.intro (fun c => nomatch (show false = true from c)) (fun _ => e _ _ _ _ (kT_end rfl rfl (Or.inr ⟨e2, q2, Q, cur, tak, by rw [eL, e1]; rfl, rfl, rfl⟩))))
abbrev pCr (b : Nat → Int32) (ky : Nat → Int64) (len tl : Int32) (z : Ho) (R : Rs Nat) : Option Value → nL → Prop := fun rv l => ∃ (kd pl : Nat → Int32) (vl : Nat → Int64) (tok cur tak : Int32) (Q : Sc), (∃ q k, R = .inr (q, k) ∧ rv = some (.int 1) ∧ l = (sm b kd pl vl ky len tok cur tak tl 0 0 z Q)) ∨ (∃ e q, R = .inl (e, q) ∧ rv = some (.int 0) ∧ l = (sm b kd pl vl ky len tok cur tak tl (Int32.ofNat e) (Int32.ofNat q) z Q))
set_option maxHeartbeats 4000000 in
theorem rd_loop {l0 : nL} {h0 : List nC} {lng : Bool} {R : Rs Nat} (hT : tkOk T) (htl : tl = b01 lng) {N : List (List Nat) × List (List Nat) × List (List Nat) × List (List Nat)} (hN : nmOk N) (hn : nmR z.2.1 (nsl N)) : ∀ (r k p : Nat) (cur tak : Int32) (Q : Sc), k + r = 40 → R = cCh T N lng (r + 2) p k → txR T kd pl vl tok cur p → scB Q k → kT nj_M nX0 L xs (d + 4) nm_126 (mQ l0 (pCr b ky len tl z R) h0) (hk l0) h0 14 [(0, .ref 59), (1, .ref 1), (2, .ref 7), (3, .int (Int32.ofNat k))] [] (sm b kd pl vl ky len tok cur tak tl 0 0 z Q) := by
  intro r
  induction r with
  | zero =>
    intro k p cur tak Q hk hR h hQ
    have hb := (hT.2.2.1 p).1
    have q0 : nj_cmp .gt (Int32.ofNat k) (Int32.ofNat 40) = false := by
      rw [(cmp_nat (by omega) (by omega)).2.2.1]
      exact decide_eq_false (by omega)
    have qk := (cmp_nat (i := (T p).1) (j := 0) (by omega) (by omega)).2.2.2.2.1
    have hR2 : R = (if (T p).1 = 0 then (if lng = true then .inl (1, (T p).2.1) else .inr (p, k)) else sBind (cLn T N p k) (fun p1 _ => if (T p1).1 = 59 then cCh T N lng (1) (nx T p1) (k + 1) else .inl (1, (T p1).2.1))) := hR
    refine xw_go nostop 30 (fun K e => And.intro (fun c => nomatch (q0.symm.trans c)) (fun _ => e _ _ _ _ (kT_call rfl rfl rfl rfl (r_kind (L := L) (xs := xs) (b := b) (ky := ky) (len := len) (tl := tl) (fk := 0) (fp := 0) (tak := tak) hT h) ⟨rfl, rfl, rfl, rfl, rfl, rfl, trivial⟩ rfl rfl (fun rv l1 hP1 _ => ?_))))
    obtain ⟨rfl, rfl⟩ := hP1
    refine kT_pic (l2 := (sm b kd pl vl ky len tok cur tak tl 0 0 z Q)) rfl ?_
    by_cases a0 : (T p).1 = 0
    · rw [decide_eq_true a0] at qk
      rw [if_pos a0] at hR2
      refine xw_go nostop 30 (fun K e => And.intro (fun _ => e _ _ _ _ (kT_call rfl rfl rfl rfl (r_closes (L := L) (xs := xs) (b := b) (ky := ky) (len := len) (tl := tl) (fk := 0) (fp := 0) (tak := tak) (d := d + 2) hT h lng htl) ⟨rfl, rfl, rfl, rfl, rfl, rfl, trivial⟩ rfl rfl (fun rv l1 hP1 _ => ?_))) (fun c => nomatch (qk.symm.trans c)))
      rcases hP1 with ⟨e3, e4, rfl, rfl⟩ | ⟨e3, rfl, rfl⟩
      · refine kT_pic (l2 := (sm b kd pl vl ky len tok cur tak tl 0 0 z Q)) rfl ?_
        rw [if_neg (by rw [e4]; decide)] at hR2
        exact xw_go nostop 20 (fun K e => e _ _ _ _ (kT_end rfl rfl (show pCr b ky len tl z R _ _ from ⟨kd, pl, vl, tok, cur, tak, Q, Or.inl ⟨p, k, hR2, rfl, rfl⟩⟩)))
      · refine kT_pic (l2 := (sm b kd pl vl ky len tok cur tak tl (Int32.ofNat 1) (Int32.ofNat (T p).2.1) z Q)) rfl ?_
        have eL : lng = true := by
          cases lng with
          | true => rfl
          | false => exact absurd ⟨a0, rfl⟩ e3
        rw [if_pos eL] at hR2
        exact xw_go nostop 20 (fun K e => e _ _ _ _ (kT_end rfl rfl (show pCr b ky len tl z R _ _ from ⟨kd, pl, vl, tok, cur, tak, Q, Or.inr ⟨1, _, hR2, rfl, rfl⟩⟩)))
    · rw [decide_eq_false a0] at qk
      rw [if_neg a0] at hR2
      refine xw_go nostop 30 (fun K e => And.intro (fun c => nomatch (qk.symm.trans c)) (fun _ => e _ _ _ _ (kT_call rfl rfl rfl rfl (c_line (L := L) (xs := xs) (b := b) (ky := ky) (len := len) (tl := tl) (fk := 0) (fp := 0) (tak := tak) (d := d) hT h (by omega) hQ hN hn) ⟨rfl, rfl, rfl, rfl, rfl, rfl, rfl, rfl, rfl, rfl, rfl, rfl, rfl, rfl, rfl, rfl, rfl, rfl, rfl, rfl, rfl, rfl, rfl, rfl, rfl, trivial⟩ rfl rfl (fun rv l1 hP1 _ => ?_))))
      rcases hP1 with ⟨q, a, Q1, cur2, tak2, e9, rfl, h2, hQ1, rfl⟩ | ⟨e8, q, Q1, cur2, tak2, e9, rfl, rfl⟩
      · refine kT_pic (l2 := (sm b kd pl vl ky len tok cur2 tak2 tl 0 0 z Q1)) rfl ?_
        rw [e9] at hR2
        have e40 : k = 40 := by omega
        subst e40
        exact absurd e9 cLn_40
      · refine kT_pic (l2 := (sm b kd pl vl ky len tok cur2 tak2 tl (Int32.ofNat e8) (Int32.ofNat q) z Q1)) rfl ?_
        rw [e9] at hR2
        exact xw_go nostop 20 (fun K e => And.intro (fun _ => e _ _ _ _ (kT_end rfl rfl (show pCr b ky len tl z R _ _ from ⟨kd, pl, vl, tok, cur2, tak2, Q1, Or.inr ⟨e8, q, hR2, rfl, rfl⟩⟩))) (fun c => nomatch (show true = false from c)))
  | succ r ih =>
    intro k p cur tak Q hk hR h hQ
    have hb := (hT.2.2.1 p).1
    have q0 : nj_cmp .gt (Int32.ofNat k) (Int32.ofNat 40) = false := by
      rw [(cmp_nat (by omega) (by omega)).2.2.1]
      exact decide_eq_false (by omega)
    have qk := (cmp_nat (i := (T p).1) (j := 0) (by omega) (by omega)).2.2.2.2.1
    have hR2 : R = (if (T p).1 = 0 then (if lng = true then .inl (1, (T p).2.1) else .inr (p, k)) else sBind (cLn T N p k) (fun p1 _ => if (T p1).1 = 59 then cCh T N lng (r + 2) (nx T p1) (k + 1) else .inl (1, (T p1).2.1))) := hR
    refine xw_go nostop 30 (fun K e => And.intro (fun c => nomatch (q0.symm.trans c)) (fun _ => e _ _ _ _ (kT_call rfl rfl rfl rfl (r_kind (L := L) (xs := xs) (b := b) (ky := ky) (len := len) (tl := tl) (fk := 0) (fp := 0) (tak := tak) hT h) ⟨rfl, rfl, rfl, rfl, rfl, rfl, trivial⟩ rfl rfl (fun rv l1 hP1 _ => ?_))))
    obtain ⟨rfl, rfl⟩ := hP1
    refine kT_pic (l2 := (sm b kd pl vl ky len tok cur tak tl 0 0 z Q)) rfl ?_
    by_cases a0 : (T p).1 = 0
    · rw [decide_eq_true a0] at qk
      rw [if_pos a0] at hR2
      refine xw_go nostop 30 (fun K e => And.intro (fun _ => e _ _ _ _ (kT_call rfl rfl rfl rfl (r_closes (L := L) (xs := xs) (b := b) (ky := ky) (len := len) (tl := tl) (fk := 0) (fp := 0) (tak := tak) (d := d + 2) hT h lng htl) ⟨rfl, rfl, rfl, rfl, rfl, rfl, trivial⟩ rfl rfl (fun rv l1 hP1 _ => ?_))) (fun c => nomatch (qk.symm.trans c)))
      rcases hP1 with ⟨e3, e4, rfl, rfl⟩ | ⟨e3, rfl, rfl⟩
      · refine kT_pic (l2 := (sm b kd pl vl ky len tok cur tak tl 0 0 z Q)) rfl ?_
        rw [if_neg (by rw [e4]; decide)] at hR2
        exact xw_go nostop 20 (fun K e => e _ _ _ _ (kT_end rfl rfl (show pCr b ky len tl z R _ _ from ⟨kd, pl, vl, tok, cur, tak, Q, Or.inl ⟨p, k, hR2, rfl, rfl⟩⟩)))
      · refine kT_pic (l2 := (sm b kd pl vl ky len tok cur tak tl (Int32.ofNat 1) (Int32.ofNat (T p).2.1) z Q)) rfl ?_
        have eL : lng = true := by
          cases lng with
          | true => rfl
          | false => exact absurd ⟨a0, rfl⟩ e3
        rw [if_pos eL] at hR2
        exact xw_go nostop 20 (fun K e => e _ _ _ _ (kT_end rfl rfl (show pCr b ky len tl z R _ _ from ⟨kd, pl, vl, tok, cur, tak, Q, Or.inr ⟨1, _, hR2, rfl, rfl⟩⟩)))
    · rw [decide_eq_false a0] at qk
      rw [if_neg a0] at hR2
      refine xw_go nostop 30 (fun K e => And.intro (fun c => nomatch (qk.symm.trans c)) (fun _ => e _ _ _ _ (kT_call rfl rfl rfl rfl (c_line (L := L) (xs := xs) (b := b) (ky := ky) (len := len) (tl := tl) (fk := 0) (fp := 0) (tak := tak) (d := d) hT h (by omega) hQ hN hn) ⟨rfl, rfl, rfl, rfl, rfl, rfl, rfl, rfl, rfl, rfl, rfl, rfl, rfl, rfl, rfl, rfl, rfl, rfl, rfl, rfl, rfl, rfl, rfl, rfl, rfl, trivial⟩ rfl rfl (fun rv l1 hP1 _ => ?_))))
      rcases hP1 with ⟨q, a, Q1, cur2, tak2, e9, rfl, h2, hQ1, rfl⟩ | ⟨e8, q, Q1, cur2, tak2, e9, rfl, rfl⟩
      · refine kT_pic (l2 := (sm b kd pl vl ky len tok cur2 tak2 tl 0 0 z Q1)) rfl ?_
        rw [e9] at hR2
        have hR3 : R = (if (T q).1 = 59 then cCh T N lng (r + 2) (nx T q) (k + 1) else .inl (1, (T q).2.1)) := hR2
        refine xw_go nostop 30 (fun K e => And.intro (fun c => nomatch (show false = true from c)) (fun _ => e _ _ _ _ (kT_call rfl rfl rfl rfl (r_takes (L := L) (xs := xs) (b := b) (ky := ky) (len := len) (tl := tl) (fk := 0) (fp := 0) (tak := tak2) (d := d + 2) (k := 59) hT h2 (by decide)) ⟨rfl, rfl, rfl, rfl, rfl, rfl, trivial⟩ rfl rfl (fun rv l1 hP1 _ => ?_))))
        rcases hP1 with ⟨e59, rfl, cur3, h3, rfl⟩ | ⟨e59, rfl, rfl⟩
        · rw [if_pos e59] at hR3
          have hn2 := ih (k + 1) (nx T q) cur3 tak2 Q1 (by omega) hR3 h3 hQ1
          rw [← i32_succ] at hn2
          refine kT_pic (l2 := (sm b kd pl vl ky len tok cur3 tak2 tl 0 0 z Q1)) rfl ?_
          exact xw_go (fun pc => pc == 14) 30 (fun K e => And.intro (fun _ => e _ _ _ _ (kT_sort rfl hn2)) (fun c => nomatch (show true = false from c)))
        · rw [if_neg e59] at hR3
          refine kT_pic (l2 := (sm b kd pl vl ky len tok cur2 tak2 tl (Int32.ofNat 1) (Int32.ofNat (T q).2.1) z Q1)) rfl ?_
          exact xw_go nostop 20 (fun K e => And.intro (fun c => nomatch (show false = true from c)) (fun _ => e _ _ _ _ (kT_end rfl rfl (show pCr b ky len tl z R _ _ from ⟨kd, pl, vl, tok, cur2, tak2, Q1, Or.inr ⟨1, _, hR3, rfl, rfl⟩⟩))))
      · refine kT_pic (l2 := (sm b kd pl vl ky len tok cur2 tak2 tl (Int32.ofNat e8) (Int32.ofNat q) z Q1)) rfl ?_
        rw [e9] at hR2
        exact xw_go nostop 20 (fun K e => And.intro (fun _ => e _ _ _ _ (kT_end rfl rfl (show pCr b ky len tl z R _ _ from ⟨kd, pl, vl, tok, cur2, tak2, Q1, Or.inr ⟨e8, q, hR2, rfl, rfl⟩⟩))) (fun c => nomatch (show true = false from c)))
set_option maxHeartbeats 4000000 in
theorem c_rd {n : Nat} (hn0 : n ≤ 940) (hky : keysOk ky) {N : List (List Nat) × List (List Nat) × List (List Nat) × List (List Nat)} (hN : nmOk N) (hn : nmR z.2.1 (nsl N)) : mS nj_M nX0 L xs (d + 4) 126 [.ref 59, .ref 1, .ref 7] (sm b kd pl vl ky (Int32.ofNat n) tok cur tak tl fk fp z Q) (pCr b ky (Int32.ofNat n) (b01 (decide (400 < n))) z (cCh (tk b n 400) N (decide (400 < n)) 42 0 0)) := by
  have hT := tk_ok (b := b) (m := 400) hn0 (by decide)
  refine mS_of rfl (fun h0 => ?_)
  refine xw_go nostop 20 (fun K e => And.intro rfl (e _ _ _ _ (kT_call rfl rfl rfl rfl (s_open (L := L) (xs := xs) (d := d) (b := b) (kd := kd) (pl := pl) (vl := vl) (tok := tok) (cur := cur) (tak := tak) (tl := tl) (fk := fk) (fp := fp) (m := 400) hn0 (by decide) hky) ⟨rfl, rfl, rfl, rfl, rfl, rfl, trivial⟩ rfl rfl (fun rv l1 hP1 _ => ?_))))
  obtain ⟨rfl, kd1, pl1, vl1, k, hk9, ht, hne, hE, rfl⟩ := hP1
  have hx0 : txR (tk b n 400) kd1 pl1 vl1 (Int32.ofNat (k + 1)) 0 0 := ⟨k, 0, rfl, rfl, Nat.zero_le _, hk9, ht, hne, hE, Or.inl rfl⟩
  refine kT_pic (l2 := (sm b kd1 pl1 vl1 ky (Int32.ofNat n) (Int32.ofNat (k + 1)) 0 tak (b01 (decide (400 < n))) 0 0 z (Q.1, Q.2.1, Q.2.2.1, Int32.ofInt 0, Q.2.2.2.2))) rfl ?_
  have hl := rd_loop (L := L) (xs := xs) (d := d) (b := b) (kd := kd1) (pl := pl1) (vl := vl1) (ky := ky) (len := Int32.ofNat n) (tok := Int32.ofNat (k + 1)) (tl := b01 (decide (400 < n))) (z := z) (l0 := (sm b kd pl vl ky (Int32.ofNat n) tok cur tak tl fk fp z Q)) (h0 := h0) (lng := decide (400 < n)) hT rfl hN hn 40 0 0 0 tak (Q.1, Q.2.1, Q.2.2.1, Int32.ofInt 0, Q.2.2.2.2) rfl rfl hx0 rfl
  exact xw_go (fun pc => pc == 14) 20 (fun K e => e _ _ _ _ (kT_sort rfl hl))
end CHL
