/-! the reference's image and restore, and count on both sides -/
section IMS
variable {L : Nat} {xs : Nat → Int32} {d : Nat} {o : Nat → Value} {thr len sz lim : Int32} {X : Lx} {flt fat got lns crs : Int32} {b hh s kp ak : Nat → Int32} {nms rsv nk : Nat → Int64} {k : Nat}
theorem in_loop {Q : Option Value → List nC → Prop} {ks : List Nat} {h0 : List nC} {v : Int32} {kx : Nat → Int32} (hv : v = Int32.ofNat k) (hk2 : k < 2) (hexit : ∀ nx : Nat → Int64, kT nj_M nX0 L xs d nm_262 Q ks h0 80 [(0, .ref 175), (1, .int v), (2, .int (Int32.ofNat 26))] [] (rfS (fun k => if k = 45 then .ref 192 else if k = 46 then .ref 193 else if k = 47 then .ref 194 else o k) thr len sz lim X flt fat got lns crs b hh nms rsv s ++ [(192, .inl (0, 720, .inl kx)), (193, .inl (3, 52, .inr (.inl nx))), (194, .inl (2, 2, .inl ak))])) : ∀ (r i : Nat) (nx : Nat → Int64), i + r = 26 → kT nj_M nX0 L xs d nm_262 Q ks h0 51 [(0, .ref 175), (1, .int v), (2, .int (Int32.ofNat i))] [] (rfS (fun k => if k = 45 then .ref 192 else if k = 46 then .ref 193 else if k = 47 then .ref 194 else o k) thr len sz lim X flt fat got lns crs b hh nms rsv s ++ [(192, .inl (0, 720, .inl kx)), (193, .inl (3, 52, .inr (.inl nx))), (194, .inl (2, 2, .inl ak))]) := by
  intro r
  induction r with
  | zero =>
    intro i nx hi
    have e : i = 26 := by omega
    subst e
    exact xw_go (fun pc => pc == 80) 10 (fun K e => And.intro (fun _ => e _ _ _ _ (hexit nx)) (fun c => nomatch (show true = false from c)))
  | succ r ih =>
    intro i nx hi
    have hx := ix_nat (i := i) (n := 52) (by omega) (by decide)
    have hk := ix_k (m := 26) (lim := 0) (n := 52) (i := i) hv (by omega) (by decide)
    have hb := ih (i + 1) (vp_updL nx (26 * k + i) (nms i)) (by omega)
    rw [← i32_succ, ← hk.2, show nms i = nms (Int32.ofNat i).toNatClampNeg from by rw [hx.2]] at hb
    exact xw_go (fun pc => pc == 51) 30 (fun K e => And.intro (fun c => absurd (of_decide_eq_true ((cmp_nat (i := i) (j := 26) (by omega) (by omega)).1.symm.trans c)) (by omega)) (fun _ => And.intro hx.1 (And.intro hk.1 (e _ _ _ _ (kT_sort rfl hb)))))
theorem rn_loop {Q : Option Value → List nC → Prop} {ks : List Nat} {h0 : List nC} {v : Int32} {kx : Nat → Int32} (hv : v = Int32.ofNat k) (hk2 : k < 2) (hexit : ∀ nx : Nat → Int64, kT nj_M nX0 L xs d nm_263 Q ks h0 89 [(0, .ref 175), (1, .int v), (2, .int (Int32.ofNat 26))] [] (rfS (fun k => if k = 45 then .ref 192 else if k = 46 then .ref 193 else if k = 47 then .ref 194 else o k) thr len sz lim X flt fat got lns crs b hh nx rsv kx ++ [(192, .inl (0, 720, .inl kp)), (193, .inl (3, 52, .inr (.inl nk))), (194, .inl (2, 2, .inl ak))])) : ∀ (r i : Nat) (nx : Nat → Int64), i + r = 26 → kT nj_M nX0 L xs d nm_263 Q ks h0 60 [(0, .ref 175), (1, .int v), (2, .int (Int32.ofNat i))] [] (rfS (fun k => if k = 45 then .ref 192 else if k = 46 then .ref 193 else if k = 47 then .ref 194 else o k) thr len sz lim X flt fat got lns crs b hh nx rsv kx ++ [(192, .inl (0, 720, .inl kp)), (193, .inl (3, 52, .inr (.inl nk))), (194, .inl (2, 2, .inl ak))]) := by
  intro r
  induction r with
  | zero =>
    intro i nx hi
    have e : i = 26 := by omega
    subst e
    exact xw_go (fun pc => pc == 89) 10 (fun K e => And.intro (fun _ => e _ _ _ _ (hexit nx)) (fun c => nomatch (show true = false from c)))
  | succ r ih =>
    intro i nx hi
    have hx := ix_nat (i := i) (n := 52) (by omega) (by decide)
    have hk := ix_k (m := 26) (lim := 0) (n := 52) (i := i) hv (by omega) (by decide)
    have hb := ih (i + 1) (vp_updL nx i (nk (26 * k + i))) (by omega)
    rw [← i32_succ, ← hk.2, show vp_updL nx i = vp_updL nx (Int32.ofNat i).toNatClampNeg from by rw [hx.2]] at hb
    exact xw_go (fun pc => pc == 60) 30 (fun K e => And.intro (fun c => absurd (of_decide_eq_true ((cmp_nat (i := i) (j := 26) (by omega) (by omega)).1.symm.trans c)) (by omega)) (fun _ => And.intro hk.1 (And.intro hx.1 (e _ _ _ _ (kT_sort rfl hb)))))
theorem q_image0 : mS nj_M nX0 L xs (d + 1) 262 [.ref 175, .int (Int32.ofInt 0)] (rfS (fun k => if k = 45 then .ref 192 else if k = 46 then .ref 193 else if k = 47 then .ref 194 else o k) thr len sz lim X flt fat got lns crs b hh nms rsv s ++ [(192, .inl (0, 720, .inl kp)), (193, .inl (3, 52, .inr (.inl nk))), (194, .inl (2, 2, .inl ak))]) (fun rv l => rv = some (.int 1) ∧ ∃ (kx : Nat → Int32) (nx : Nat → Int64), (∀ j, kx j = if 360 * 0 ≤ j ∧ j < 360 * 0 + 360 then s (j - 360 * 0) else kp j) ∧ l = (rfS (fun k => if k = 45 then .ref 192 else if k = 46 then .ref 193 else if k = 47 then .ref 194 else o k) 0 len sz lim X flt fat got lns crs b hh nms rsv s ++ [(192, .inl (0, 720, .inl kx)), (193, .inl (3, 52, .inr (.inl nx))), (194, .inl (2, 2, .inl (upd ak 0 (vp_nar (nj_kt 2) (Int32.ofInt 1)))))])) := by
  refine mS_of rfl (fun h0 => ?_)
  refine xw_go nostop 20 (fun K e => And.intro rfl (e _ _ _ _ (kT_call rfl rfl rfl rfl (q_isIn _ _ _) trivial rfl rfl (fun rv l1 hP _ => ?_))))
  obtain ⟨rfl, rfl⟩ := hP
  refine xw_go (fun pc => pc == 18) 20 (fun K e => And.intro (fun _ => e _ _ _ _ (kT_sort rfl (kT_pic rfl (is_loop (k := 0) (thr := 0) (kp := kp) rfl (by decide) (fun kx h1 => ?_) 360 0 kp rfl (fun j => by rw [if_neg (by omega)]))))) (fun c => nomatch (show true = false from c)))
  refine xw_go (fun pc => pc == 51) 20 (fun K e => e _ _ _ _ (kT_sort rfl (in_loop (k := 0) rfl (by decide) (fun nx => ?_) 26 0 nk rfl)))
  exact xw_go nostop 20 (fun K e => And.intro rfl (e _ _ _ _ (kT_end rfl rfl ⟨rfl, kx, nx, h1, rfl⟩)))
theorem q_restore0 (ha : nj_cmp .ne (ak 0) 0 = true) : mS nj_M nX0 L xs (d + 1) 263 [.ref 175, .int (Int32.ofInt 0)] (rfS (fun k => if k = 45 then .ref 192 else if k = 46 then .ref 193 else if k = 47 then .ref 194 else o k) thr len sz lim X flt fat got lns crs b hh nms rsv s ++ [(192, .inl (0, 720, .inl kp)), (193, .inl (3, 52, .inr (.inl nk))), (194, .inl (2, 2, .inl ak))]) (fun rv l => rv = some (.int 1) ∧ ∃ (o1 : Nat → Value) (kx : Nat → Int32) (nx : Nat → Int64), (∀ j, kx j = if j < 360 then kp (360 * 0 + j) else s j) ∧ l = (rfS o1 0 len sz lim X flt fat got lns crs b hh nx rsv kx ++ [(192, .inl (0, 720, .inl kp)), (193, .inl (3, 52, .inr (.inl nk))), (194, .inl (2, 2, .inl ak))])) := by
  refine mS_of rfl (fun h0 => ?_)
  refine xw_go nostop 20 (fun K e => And.intro rfl (e _ _ _ _ (kT_call rfl rfl rfl rfl (q_isIn _ _ _) trivial rfl rfl (fun rv l1 hP _ => ?_))))
  obtain ⟨rfl, rfl⟩ := hP
  refine xw_go (fun pc => pc == 27) 30 (fun K e => And.intro (fun c => nomatch (show false = true from c)) (fun _ => And.intro rfl (And.intro (fun _ => e _ _ _ _ (kT_sort rfl (kT_pic rfl (rs_loop (k := 0) (thr := 0) (s := s) rfl (by decide) (fun kx h1 => ?_) 360 0 s rfl (fun j => by rw [if_neg (by omega)]))))) (fun c => by have c' : nj_cmp .ne (ak 0) 0 = false := c; rw [ha] at c'; cases c'))))
  refine xw_go (fun pc => pc == 60) 20 (fun K e => e _ _ _ _ (kT_sort rfl (rn_loop (k := 0) rfl (by decide) (fun nx => ?_) 26 0 nms rfl)))
  exact xw_go nostop 20 (fun K e => And.intro rfl (e _ _ _ _ (kT_end rfl rfl ⟨rfl, fun k => if k = 24 then .int (Int32.ofInt 0) else (fun k => if k = 45 then .ref 192 else if k = 46 then .ref 193 else if k = 47 then .ref 194 else o k) k, kx, nx, h1, rfl⟩)))
theorem q_image1 : mS nj_M nX0 L xs (d + 1) 262 [.ref 175, .int (Int32.ofInt 1)] (rfS (fun k => if k = 45 then .ref 192 else if k = 46 then .ref 193 else if k = 47 then .ref 194 else o k) thr len sz lim X flt fat got lns crs b hh nms rsv s ++ [(192, .inl (0, 720, .inl kp)), (193, .inl (3, 52, .inr (.inl nk))), (194, .inl (2, 2, .inl ak))]) (fun rv l => rv = some (.int 1) ∧ ∃ (kx : Nat → Int32) (nx : Nat → Int64), (∀ j, kx j = if 360 * 1 ≤ j ∧ j < 360 * 1 + 360 then s (j - 360 * 1) else kp j) ∧ l = (rfS (fun k => if k = 45 then .ref 192 else if k = 46 then .ref 193 else if k = 47 then .ref 194 else o k) 0 len sz lim X flt fat got lns crs b hh nms rsv s ++ [(192, .inl (0, 720, .inl kx)), (193, .inl (3, 52, .inr (.inl nx))), (194, .inl (2, 2, .inl (upd ak 1 (vp_nar (nj_kt 2) (Int32.ofInt 1)))))])) := by
  refine mS_of rfl (fun h0 => ?_)
  refine xw_go nostop 20 (fun K e => And.intro rfl (e _ _ _ _ (kT_call rfl rfl rfl rfl (q_isIn _ _ _) trivial rfl rfl (fun rv l1 hP _ => ?_))))
  obtain ⟨rfl, rfl⟩ := hP
  refine xw_go (fun pc => pc == 18) 20 (fun K e => And.intro (fun _ => e _ _ _ _ (kT_sort rfl (kT_pic rfl (is_loop (k := 1) (thr := 0) (kp := kp) rfl (by decide) (fun kx h1 => ?_) 360 0 kp rfl (fun j => by rw [if_neg (by omega)]))))) (fun c => nomatch (show true = false from c)))
  refine xw_go (fun pc => pc == 51) 20 (fun K e => e _ _ _ _ (kT_sort rfl (in_loop (k := 1) rfl (by decide) (fun nx => ?_) 26 0 nk rfl)))
  exact xw_go nostop 20 (fun K e => And.intro rfl (e _ _ _ _ (kT_end rfl rfl ⟨rfl, kx, nx, h1, rfl⟩)))
theorem q_restore1 (ha : nj_cmp .ne (ak 1) 0 = true) : mS nj_M nX0 L xs (d + 1) 263 [.ref 175, .int (Int32.ofInt 1)] (rfS (fun k => if k = 45 then .ref 192 else if k = 46 then .ref 193 else if k = 47 then .ref 194 else o k) thr len sz lim X flt fat got lns crs b hh nms rsv s ++ [(192, .inl (0, 720, .inl kp)), (193, .inl (3, 52, .inr (.inl nk))), (194, .inl (2, 2, .inl ak))]) (fun rv l => rv = some (.int 1) ∧ ∃ (o1 : Nat → Value) (kx : Nat → Int32) (nx : Nat → Int64), (∀ j, kx j = if j < 360 then kp (360 * 1 + j) else s j) ∧ l = (rfS o1 0 len sz lim X flt fat got lns crs b hh nx rsv kx ++ [(192, .inl (0, 720, .inl kp)), (193, .inl (3, 52, .inr (.inl nk))), (194, .inl (2, 2, .inl ak))])) := by
  refine mS_of rfl (fun h0 => ?_)
  refine xw_go nostop 20 (fun K e => And.intro rfl (e _ _ _ _ (kT_call rfl rfl rfl rfl (q_isIn _ _ _) trivial rfl rfl (fun rv l1 hP _ => ?_))))
  obtain ⟨rfl, rfl⟩ := hP
  refine xw_go (fun pc => pc == 27) 30 (fun K e => And.intro (fun c => nomatch (show false = true from c)) (fun _ => And.intro rfl (And.intro (fun _ => e _ _ _ _ (kT_sort rfl (kT_pic rfl (rs_loop (k := 1) (thr := 0) (s := s) rfl (by decide) (fun kx h1 => ?_) 360 0 s rfl (fun j => by rw [if_neg (by omega)]))))) (fun c => by have c' : nj_cmp .ne (ak 1) 0 = false := c; rw [ha] at c'; cases c'))))
  refine xw_go (fun pc => pc == 60) 20 (fun K e => e _ _ _ _ (kT_sort rfl (rn_loop (k := 1) rfl (by decide) (fun nx => ?_) 26 0 nms rfl)))
  exact xw_go nostop 20 (fun K e => And.intro rfl (e _ _ _ _ (kT_end rfl rfl ⟨rfl, fun k => if k = 24 then .int (Int32.ofInt 0) else (fun k => if k = 45 then .ref 192 else if k = 46 then .ref 193 else if k = 47 then .ref 194 else o k) k, kx, nx, h1, rfl⟩)))
end IMS
