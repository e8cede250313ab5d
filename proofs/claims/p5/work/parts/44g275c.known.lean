/-! known names and measures, by the class -/
abbrev sn (b kd pl : Nat → Int32) (vl ky : Nat → Int64) (len tok cur tak tl fk fp : Int32) (z : Ho) (P : Ph) : nL := th7 b kd pl vl ky len tok cur tak tl fk fp z ++ ph54 P
abbrev pSn (T : Nat → Tk) (b kd pl : Nat → Int32) (vl ky : Nat → Int64) (len tok tl fk fp : Int32) (z : Ho) (R : Rs Nat) : Option Value → nL → Prop := fun rv l => (∃ q k1 P1 cur1 tak1, R = .inr (q, k1) ∧ rv = some (.int 1) ∧ txR T kd pl vl tok cur1 q ∧ phB P1 k1 ∧ l = sn b kd pl vl ky len tok cur1 tak1 tl fk fp z P1) ∨ (∃ e q P1 cur1 tak1, R = .inl (e, q) ∧ rv = some (.int 0) ∧ l = sn b kd pl vl ky len tok cur1 tak1 tl (Int32.ofNat e) (Int32.ofNat q) z P1)
section SEN2
variable {L : Nat} {xs : Nat → Int32} {d : Nat} {b kd pl : Nat → Int32} {vl ky : Nat → Int64} {len tok cur tak tl fk fp : Int32} {T : Nat → Tk} {p k : Nat} {z : Ho} {H : Hs} {P : Ph}
set_option maxHeartbeats 2000000 in
theorem rk_pers (hT : tkOk T) (h : txR T kd pl vl tok cur p) {N : List (List Nat) × List (List Nat) × List (List Nat) × List (List Nat)} (hN : nmOk N) (hn : nmR z.2.1 (nsl N)) (hP : phB P k) (x : Int32) : mS nj_M nX0 L xs (d + 2) 142 [.ref 54, .ref 1, .ref 7, .int x, .int (Int32.ofNat 1)] (sn b kd pl vl ky len tok cur tak tl fk fp z P) (pSn T b kd pl vl ky len tok tl fk fp z (pK T p k N.2.1)) := by
  refine mS_of rfl (fun h0 => ?_)
  refine xw_go nostop 20 (fun K e => e _ _ _ _ (kT_call rfl rfl rfl rfl (r_pers7 (L := L) (xs := xs) (d := d) (b := b) (ky := ky) (len := len) (tak := tak) (tl := tl) (fk := fk) (fp := fp) hT h hN hn) ⟨rfl, rfl, rfl, rfl, rfl, rfl, rfl, rfl, rfl, rfl, rfl, rfl, rfl, rfl, rfl, rfl, rfl, rfl, rfl, rfl, rfl, trivial⟩ rfl rfl (fun rv l1 hP1 _ => ?_)))
  rcases hP1 with ⟨i, e1, hi, rfl, rfl⟩ | ⟨e2, q2, e1, rfl, rfl⟩
  · refine kT_pic (l2 := (sn b kd pl vl ky len tok cur tak tl fk fp z P)) rfl ?_
    have hi10 : i < 1000 := by
      have l1 := hN.2.1
      have l2 := hN.2.2.1
      omega
    have q1 : nj_cmp .ne (Int32.ofNat i) (Int32.ofInt (-1)) = true := decide_eq_true (ofN_ne hi10)
    refine xw_go nostop 20 (fun K e => And.intro (fun _ => e _ _ _ _ (kT_call rfl rfl rfl rfl (r_adv (L := L) (xs := xs) (b := b) (ky := ky) (len := len) (tak := tak) (tl := tl) (fk := fk) (fp := fp) hT h) ⟨rfl, rfl, rfl, rfl, rfl, rfl, trivial⟩ rfl rfl (fun rv l1 hP1 _ => ?_))) (fun c => nomatch (q1.symm.trans c)))
    obtain ⟨rfl, cur1, h1, rfl⟩ := hP1
    refine kT_pic (l2 := (sn b kd pl vl ky len tok cur1 tak tl fk fp z P)) rfl ?_
    refine xw_go nostop 20 (fun K e => e _ _ _ _ (kT_call rfl rfl rfl rfl (a_add (L := L) (xs := xs) hP _ _ _) ⟨rfl, rfl, rfl, rfl, rfl, trivial⟩ rfl rfl (fun rv l1 hP1 _ => ?_)))
    obtain ⟨rfl, P1, hP1, rfl⟩ := hP1
    refine kT_pic (l2 := (sn b kd pl vl ky len tok cur1 tak tl fk fp z P1)) rfl ?_
    exact xw_go nostop 20 (fun K e => e _ _ _ _ (kT_end rfl rfl (Or.inl ⟨_, k, P1, cur1, tak, by rw [pK, e1]; rfl, rfl, h1, hP1, rfl⟩)))
  · refine kT_pic (l2 := (sn b kd pl vl ky len tok cur tak tl (Int32.ofNat e2) (Int32.ofNat q2) z P)) rfl ?_
    exact xw_go nostop 20 (fun K e => And.intro (fun c => nomatch (show false = true from c)) (fun _ => e _ _ _ _ (kT_end rfl rfl (Or.inr ⟨e2, q2, P, cur, tak, by rw [pK, e1]; rfl, rfl, rfl⟩))))
set_option maxHeartbeats 2000000 in
theorem rk_errs (hT : tkOk T) (h : txR T kd pl vl tok cur p) {N : List (List Nat) × List (List Nat) × List (List Nat) × List (List Nat)} (hN : nmOk N) (hn : nmR z.2.1 (nsl N)) (hP : phB P k) (x : Int32) : mS nj_M nX0 L xs (d + 2) 142 [.ref 54, .ref 1, .ref 7, .int x, .int (Int32.ofNat 2)] (sn b kd pl vl ky len tok cur tak tl fk fp z P) (pSn T b kd pl vl ky len tok tl fk fp z (pK T p k N.2.2.1)) := by
  refine mS_of rfl (fun h0 => ?_)
  refine xw_go nostop 20 (fun K e => e _ _ _ _ (kT_call rfl rfl rfl rfl (r_errs7 (L := L) (xs := xs) (d := d) (b := b) (ky := ky) (len := len) (tak := tak) (tl := tl) (fk := fk) (fp := fp) hT h hN hn) ⟨rfl, rfl, rfl, rfl, rfl, rfl, rfl, rfl, rfl, rfl, rfl, rfl, rfl, rfl, rfl, rfl, rfl, rfl, rfl, rfl, rfl, trivial⟩ rfl rfl (fun rv l1 hP1 _ => ?_)))
  rcases hP1 with ⟨i, e1, hi, rfl, rfl⟩ | ⟨e2, q2, e1, rfl, rfl⟩
  · refine kT_pic (l2 := (sn b kd pl vl ky len tok cur tak tl fk fp z P)) rfl ?_
    have hi10 : i < 1000 := by
      have l1 := hN.2.1
      have l2 := hN.2.2.1
      omega
    have q1 : nj_cmp .ne (Int32.ofNat i) (Int32.ofInt (-1)) = true := decide_eq_true (ofN_ne hi10)
    refine xw_go nostop 20 (fun K e => And.intro (fun _ => e _ _ _ _ (kT_call rfl rfl rfl rfl (r_adv (L := L) (xs := xs) (b := b) (ky := ky) (len := len) (tak := tak) (tl := tl) (fk := fk) (fp := fp) hT h) ⟨rfl, rfl, rfl, rfl, rfl, rfl, trivial⟩ rfl rfl (fun rv l1 hP1 _ => ?_))) (fun c => nomatch (q1.symm.trans c)))
    obtain ⟨rfl, cur1, h1, rfl⟩ := hP1
    refine kT_pic (l2 := (sn b kd pl vl ky len tok cur1 tak tl fk fp z P)) rfl ?_
    refine xw_go nostop 20 (fun K e => e _ _ _ _ (kT_call rfl rfl rfl rfl (a_add (L := L) (xs := xs) hP _ _ _) ⟨rfl, rfl, rfl, rfl, rfl, trivial⟩ rfl rfl (fun rv l1 hP1 _ => ?_)))
    obtain ⟨rfl, P1, hP1, rfl⟩ := hP1
    refine kT_pic (l2 := (sn b kd pl vl ky len tok cur1 tak tl fk fp z P1)) rfl ?_
    exact xw_go nostop 20 (fun K e => e _ _ _ _ (kT_end rfl rfl (Or.inl ⟨_, k, P1, cur1, tak, by rw [pK, e1]; rfl, rfl, h1, hP1, rfl⟩)))
  · refine kT_pic (l2 := (sn b kd pl vl ky len tok cur tak tl (Int32.ofNat e2) (Int32.ofNat q2) z P)) rfl ?_
    exact xw_go nostop 20 (fun K e => And.intro (fun c => nomatch (show false = true from c)) (fun _ => e _ _ _ _ (kT_end rfl rfl (Or.inr ⟨e2, q2, P, cur, tak, by rw [pK, e1]; rfl, rfl, rfl⟩))))
set_option maxHeartbeats 4000000 in
theorem rk_meas (hT : tkOk T) (h : txR T kd pl vl tok cur p) (hP : phB P k) (x : Int32) : mS nj_M nX0 L xs (d + 2) 143 [.ref 54, .ref 1, .int x] (sn b kd pl vl ky len tok cur tak tl fk fp z P) (pSn T b kd pl vl ky len tok tl fk fp z (pM T p k)) := by
  have hb := (hT.2.2.1 p).1
  have c60 := (cmp_nat (i := (T p).1) (j := 60) (by omega) (by omega)).2.1
  have c62 := (cmp_nat (i := (T p).1) (j := 62) (by omega) (by omega)).2.2.2.1
  refine mS_of rfl (fun h0 => ?_)
  refine xw_go nostop 20 (fun K e => e _ _ _ _ (kT_call rfl rfl rfl rfl (r_kind (L := L) (xs := xs) (b := b) (ky := ky) (len := len) (tak := tak) (tl := tl) (fk := fk) (fp := fp) hT h) ⟨rfl, rfl, rfl, rfl, rfl, rfl, trivial⟩ rfl rfl (fun rv l1 hP1 _ => ?_)))
  obtain ⟨rfl, rfl⟩ := hP1
  refine kT_pic (l2 := (sn b kd pl vl ky len tok cur tak tl fk fp z P)) rfl ?_
  by_cases hs : (T p).1 < 60 ∨ 62 < (T p).1
  · have fin : kT nj_M nX0 L xs (d + 2) nm_143 (mQ (sn b kd pl vl ky len tok cur tak tl fk fp z P) (pSn T b kd pl vl ky len tok tl fk fp z (pM T p k)) h0) (hk (sn b kd pl vl ky len tok cur tak tl fk fp z P)) h0 17 [(0, .ref 54), (1, .ref 1), (2, .int x), (3, .int (Int32.ofNat (T p).1))] [] (sn b kd pl vl ky len tok cur tak tl fk fp z P) := by
      refine xw_go nostop 20 (fun K e => e _ _ _ _ (kT_call rfl rfl rfl rfl (r_fails (L := L) (xs := xs) (b := b) (ky := ky) (len := len) (tak := tak) (tl := tl) (fk := fk) (fp := fp) hT h _) ⟨rfl, rfl, rfl, rfl, rfl, rfl, trivial⟩ rfl rfl (fun rv l1 hP1 _ => ?_)))
      obtain ⟨rfl, rfl⟩ := hP1
      refine kT_pic (l2 := (sn b kd pl vl ky len tok cur tak tl (Int32.ofNat 1) (Int32.ofNat (T p).2.1) z P)) rfl ?_
      exact xw_go nostop 20 (fun K e => e _ _ _ _ (kT_end rfl rfl (Or.inr ⟨1, (T p).2.1, P, cur, tak, by rw [pM, if_pos hs], rfl, rfl⟩)))
    by_cases a : (T p).1 < 60
    · rw [decide_eq_true a] at c60
      exact xw_go (fun pc => pc == 17) 20 (fun K e => And.intro (fun _ => e _ _ _ _ (kT_sort rfl fin)) (fun c => nomatch (c60.symm.trans c)))
    · rw [decide_eq_false a] at c60
      rw [decide_eq_false (by omega)] at c62
      exact xw_go (fun pc => pc == 17) 20 (fun K e => And.intro (fun c => nomatch (c60.symm.trans c)) (fun _ => And.intro (fun c => nomatch (c62.symm.trans c)) (fun _ => e _ _ _ _ (kT_sort rfl fin))))
  · rw [decide_eq_false (by omega)] at c60
    rw [decide_eq_true (by omega)] at c62
    refine xw_go nostop 20 (fun K e => And.intro (fun c => nomatch (c60.symm.trans c)) (fun _ => And.intro (fun _ => e _ _ _ _ (kT_call rfl rfl rfl rfl (r_adv (L := L) (xs := xs) (b := b) (ky := ky) (len := len) (tak := tak) (tl := tl) (fk := fk) (fp := fp) hT h) ⟨rfl, rfl, rfl, rfl, rfl, rfl, trivial⟩ rfl rfl (fun rv l1 hP1 _ => ?_))) (fun c => nomatch (c62.symm.trans c))))
    obtain ⟨rfl, cur1, h1, rfl⟩ := hP1
    refine kT_pic (l2 := (sn b kd pl vl ky len tok cur1 tak tl fk fp z P)) rfl ?_
    refine xw_go nostop 20 (fun K e => e _ _ _ _ (kT_call rfl rfl rfl rfl (r_num (L := L) (xs := xs) (d := d) (b := b) (ky := ky) (len := len) (tak := tak) (tl := tl) (fk := fk) (fp := fp) hT h1 (lo := 0) (hi := 999) (by decide) (by decide)) ⟨rfl, rfl, rfl, rfl, rfl, rfl, trivial⟩ rfl rfl (fun rv l1 hP1 _ => ?_)))
    rcases hP1 with ⟨q, y, cur2, e1, hy, rfl, h2, rfl⟩ | ⟨e2, q, tak1, e1, rfl, rfl⟩
    · refine kT_pic (l2 := (sn b kd pl vl ky len tok cur2 (Int32.ofNat y) tl fk fp z P)) rfl ?_
      refine xw_go nostop 20 (fun K e => And.intro (fun c => nomatch (show false = true from c)) (fun _ => e _ _ _ _ (kT_call rfl rfl rfl rfl (a_add (L := L) (xs := xs) hP _ _ _) ⟨rfl, rfl, rfl, rfl, rfl, trivial⟩ rfl rfl (fun rv l1 hP1 _ => ?_))))
      obtain ⟨rfl, P1, hP1, rfl⟩ := hP1
      refine kT_pic (l2 := (sn b kd pl vl ky len tok cur2 (Int32.ofNat y) tl fk fp z P1)) rfl ?_
      exact xw_go nostop 20 (fun K e => And.intro (fun c => nomatch (show false = true from c)) (fun _ => e _ _ _ _ (kT_end rfl rfl (Or.inl ⟨q, k, P1, cur2, _, by rw [pM, if_neg hs, e1]; rfl, rfl, h2, hP1, rfl⟩))))
    · refine kT_pic (l2 := (sn b kd pl vl ky len tok cur1 tak1 tl (Int32.ofNat e2) (Int32.ofNat q) z P)) rfl ?_
      exact xw_go nostop 20 (fun K e => And.intro (fun _ => e _ _ _ _ (kT_end rfl rfl (Or.inr ⟨e2, q, P, cur1, tak1, by rw [pM, if_neg hs, e1]; rfl, rfl, rfl⟩))) (fun c => nomatch (show true = false from c)))
end SEN2
