/-! the class's text, picture by picture: cell 1 and its rows 2 to 6 -/
abbrev txP (b kd pl : Nat → Int32) (vl ky : Nat → Int64) (len tok cur tak tl fk fp : Int32) : nL := [(1, .inr (7, [.ref 2, .ref 3, .ref 4, .ref 5, .ref 6, .int len, .int tok, .int cur, .int tak, .int tl, .int fk, .int fp])), (2, .inl (1, 940, .inl b)), (3, .inl (0, 901, .inl kd)), (4, .inl (0, 901, .inl pl)), (5, .inl (3, 901, .inr (.inl vl))), (6, .inl (3, 22, .inr (.inl ky)))]
def nostop (_ : Nat) : Bool := false
def isL (c : Int32) : Bool := !nj_cmp .lt c 97 && !nj_cmp .gt c 122
def isD (c : Int32) : Bool := !nj_cmp .lt c 48 && !nj_cmp .gt c 57
def b01 (c : Bool) : Int32 := if c = true then 1 else 0
section TXT
variable {L : Nat} {xs : Nat → Int32} {d : Nat} {b kd pl : Nat → Int32} {vl ky : Nat → Int64} {len tok cur tak tl fk fp : Int32}
theorem s_isL (c : Int32) : mS nj_M nX0 L xs d 26 [.int c] [] (fun rv l => rv = some (.int (b01 (isL c))) ∧ l = []) :=
  mS_of rfl (fun h0 => xw_go nostop 12 (fun K e => And.intro
    (fun c1 => e _ _ _ _ (kT_end rfl rfl ⟨by rw [show isL c = false from by unfold isL; rw [show nj_cmp .lt c 97 = true from c1]; rfl]; rfl, rfl⟩))
    (fun c1 => And.intro
      (fun c2 => e _ _ _ _ (kT_end rfl rfl ⟨by rw [show isL c = false from by unfold isL; rw [show nj_cmp .gt c 122 = true from c2, Bool.not_true, Bool.and_false]]; rfl, rfl⟩))
      (fun c2 => e _ _ _ _ (kT_end rfl rfl ⟨by rw [show isL c = true from by unfold isL; rw [show nj_cmp .lt c 97 = false from c1, show nj_cmp .gt c 122 = false from c2]; rfl]; rfl, rfl⟩)))))
theorem s_isD (c : Int32) : mS nj_M nX0 L xs d 27 [.int c] [] (fun rv l => rv = some (.int (b01 (isD c))) ∧ l = []) :=
  mS_of rfl (fun h0 => xw_go nostop 12 (fun K e => And.intro
    (fun c1 => e _ _ _ _ (kT_end rfl rfl ⟨by rw [show isD c = false from by unfold isD; rw [show nj_cmp .lt c 48 = true from c1]; rfl]; rfl, rfl⟩))
    (fun c1 => And.intro
      (fun c2 => e _ _ _ _ (kT_end rfl rfl ⟨by rw [show isD c = false from by unfold isD; rw [show nj_cmp .gt c 57 = true from c2, Bool.not_true, Bool.and_false]]; rfl, rfl⟩))
      (fun c2 => e _ _ _ _ (kT_end rfl rfl ⟨by rw [show isD c = true from by unfold isD; rw [show nj_cmp .lt c 48 = false from c1, show nj_cmp .gt c 57 = false from c2]; rfl]; rfl, rfl⟩)))))
def wLet (w : Int64) (c : Int32) : Int64 := w * Int64.ofInt 32 + c.toInt64 - Int64.ofInt 97 + Int64.ofNat 1
theorem s_wLet (w : Int64) (c : Int32) : mS nj_M nX0 L xs d 9 [.long w, .int c] [] (fun rv l => rv = some (.long (wLet w c)) ∧ l = []) :=
  mS_of rfl (fun h0 => xw_go nostop 12 (fun K e => e _ _ _ _ (kT_end rfl rfl ⟨rfl, rfl⟩)))
theorem s_kind (hc : nj_ix cur 901 = true) : mS nj_M nX0 L xs d 31 [.ref 1] (txP b kd pl vl ky len tok cur tak tl fk fp) (fun rv l => rv = some (.int (kd cur.toNatClampNeg)) ∧ l = txP b kd pl vl ky len tok cur tak tl fk fp) :=
  mS_of rfl (fun h0 => xw_go nostop 10 (fun K e => And.intro hc (e _ _ _ _ (kT_end rfl (ret_i _) ⟨rfl, rfl⟩))))
theorem s_value (hc : nj_ix cur 901 = true) : mS nj_M nX0 L xs d 36 [.ref 1] (txP b kd pl vl ky len tok cur tak tl fk fp) (fun rv l => rv = some (.long (vl cur.toNatClampNeg)) ∧ l = txP b kd pl vl ky len tok cur tak tl fk fp) :=
  mS_of rfl (fun h0 => xw_go nostop 10 (fun K e => And.intro hc (e _ _ _ _ (kT_end rfl rfl ⟨rfl, rfl⟩))))
theorem s_advance : mS nj_M nX0 L xs d 35 [.ref 1] (txP b kd pl vl ky len tok cur tak tl fk fp) (fun rv l => rv = none ∧ l = txP b kd pl vl ky len tok (if nj_cmp .ge (cur + 1) tok = true then cur else cur + 1) tak tl fk fp) :=
  mS_of rfl (fun h0 => xw_go nostop 20 (fun K e => And.intro
    (fun c1 => e _ _ _ _ (kT_end rfl rfl ⟨rfl, by rw [if_pos (show nj_cmp .ge (cur + 1) tok = true from c1)]⟩))
    (fun c1 => And.intro rfl (e _ _ _ _ (kT_end rfl rfl ⟨rfl, by rw [if_neg (show ¬ nj_cmp .ge (cur + 1) tok = true from by rw [show nj_cmp .ge (cur + 1) tok = false from c1]; decide)]; rfl⟩)))))
theorem s_fails (hc : nj_ix cur 901 = true) (k : Int32) : mS nj_M nX0 L xs d 34 [.ref 1, .int k] (txP b kd pl vl ky len tok cur tak tl fk fp) (fun rv l => rv = some (.int 0) ∧ l = txP b kd pl vl ky len tok cur tak tl k (pl cur.toNatClampNeg)) :=
  mS_of rfl (fun h0 => xw_go nostop 20 (fun K e => And.intro rfl (And.intro hc (And.intro rfl (e _ _ _ _ (kT_end rfl rfl ⟨rfl, rfl⟩))))))
theorem s_takes (hc : nj_ix cur 901 = true) (k : Int32) : mS nj_M nX0 L xs (d + 1) 46 [.ref 1, .int k] (txP b kd pl vl ky len tok cur tak tl fk fp) (fun rv l => if nj_cmp .eq (kd cur.toNatClampNeg) k = true then rv = some (.int 1) ∧ l = txP b kd pl vl ky len tok (if nj_cmp .ge (cur + 1) tok = true then cur else cur + 1) tak tl fk fp else rv = some (.int 0) ∧ l = txP b kd pl vl ky len tok cur tak tl 1 (pl cur.toNatClampNeg)) :=
  mS_of rfl (fun h0 => xw_go nostop 20 (fun K e => And.intro hc (And.intro
    (fun c1 => e _ _ _ _ (kT_call rfl rfl rfl rfl s_advance ⟨rfl, rfl, rfl, rfl, rfl, rfl, trivial⟩ rfl rfl (fun rv l1 hP _ => by
      obtain ⟨rfl, rfl⟩ := hP
      exact xw_go nostop 5 (fun K e => e _ _ _ _ (kT_end rfl rfl (by rw [if_pos (show nj_cmp .eq (kd cur.toNatClampNeg) k = true from c1)]; exact ⟨rfl, rfl⟩))))))
    (fun c1 => e _ _ _ _ (kT_call rfl rfl rfl rfl (s_fails hc 1) ⟨rfl, rfl, rfl, rfl, rfl, rfl, trivial⟩ rfl rfl (fun rv l1 hP _ => by
      obtain ⟨rfl, rfl⟩ := hP
      exact xw_go nostop 5 (fun K e => e _ _ _ _ (kT_end rfl rfl (by rw [if_neg (by rw [show nj_cmp .eq (kd cur.toNatClampNeg) k = false from c1]; decide)]; exact ⟨rfl, rfl⟩)))))))))
/-- a number from lo to hi -/
theorem s_takesN (hc : nj_ix cur 901 = true) (lo hi : Int32) : mS nj_M nX0 L xs (d + 1) 39 [.ref 1, .int lo, .int hi] (txP b kd pl vl ky len tok cur tak tl fk fp) (fun rv l =>
    if nj_cmp .eq (kd cur.toNatClampNeg) 3 = true then
      (if nj_cmp .lt (vl cur.toNatClampNeg).toInt32 lo = true ∨ nj_cmp .le (vl cur.toNatClampNeg).toInt32 hi = false then rv = some (.int 0) ∧ l = txP b kd pl vl ky len tok cur (vl cur.toNatClampNeg).toInt32 tl 2 (pl cur.toNatClampNeg)
       else rv = some (.int 1) ∧ l = txP b kd pl vl ky len tok (if nj_cmp .ge (cur + 1) tok = true then cur else cur + 1) (vl cur.toNatClampNeg).toInt32 tl fk fp)
    else rv = some (.int 0) ∧ l = txP b kd pl vl ky len tok cur tak tl 1 (pl cur.toNatClampNeg)) :=
  mS_of rfl (fun h0 => xw_go nostop 40 (fun K e => And.intro hc (And.intro
    (fun c1 => And.intro hc (And.intro rfl (And.intro
      (fun c2 => e _ _ _ _ (kT_call rfl rfl rfl rfl (s_fails hc 2) ⟨rfl, rfl, rfl, rfl, rfl, rfl, trivial⟩ rfl rfl (fun rv l1 hP _ => by
        obtain ⟨rfl, rfl⟩ := hP
        exact xw_go nostop 5 (fun K e => e _ _ _ _ (kT_end rfl rfl (by rw [if_pos (show nj_cmp .eq (kd cur.toNatClampNeg) 3 = true from c1), if_pos (Or.inl c2)]; exact ⟨rfl, rfl⟩))))))
      (fun c2 => And.intro
        (fun c3 => e _ _ _ _ (kT_call rfl rfl rfl rfl s_advance ⟨rfl, rfl, rfl, rfl, rfl, rfl, trivial⟩ rfl rfl (fun rv l1 hP _ => by
          obtain ⟨rfl, rfl⟩ := hP
          exact xw_go nostop 5 (fun K e => e _ _ _ _ (kT_end rfl rfl (by
            rw [if_pos (show nj_cmp .eq (kd cur.toNatClampNeg) 3 = true from c1), if_neg (by rw [show nj_cmp .lt (vl cur.toNatClampNeg).toInt32 lo = false from c2, show nj_cmp .le (vl cur.toNatClampNeg).toInt32 hi = true from c3]; decide)]
            exact ⟨rfl, rfl⟩))))))
        (fun c3 => e _ _ _ _ (kT_call rfl rfl rfl rfl (s_fails hc 2) ⟨rfl, rfl, rfl, rfl, rfl, rfl, trivial⟩ rfl rfl (fun rv l1 hP _ => by
          obtain ⟨rfl, rfl⟩ := hP
          exact xw_go nostop 5 (fun K e => e _ _ _ _ (kT_end rfl rfl (by rw [if_pos (show nj_cmp .eq (kd cur.toNatClampNeg) 3 = true from c1), if_pos (Or.inr c3)]; exact ⟨rfl, rfl⟩))))))))))
    (fun c1 => e _ _ _ _ (kT_call rfl rfl rfl rfl (s_fails hc 1) ⟨rfl, rfl, rfl, rfl, rfl, rfl, trivial⟩ rfl rfl (fun rv l1 hP _ => by
      obtain ⟨rfl, rfl⟩ := hP
      exact xw_go nostop 5 (fun K e => e _ _ _ _ (kT_end rfl rfl (by rw [if_neg (by rw [show nj_cmp .eq (kd cur.toNatClampNeg) 3 = false from c1]; decide)]; exact ⟨rfl, rfl⟩)))))))))
/-- one token more -/
theorem s_add (ht : nj_ix tok 901 = true) (k p : Int32) (v : Int64) : mS nj_M nX0 L xs d 29 [.ref 1, .int k, .int p, .long v] (txP b kd pl vl ky len tok cur tak tl fk fp) (fun rv l => rv = none ∧ l = txP b (upd kd tok.toNatClampNeg k) (upd pl tok.toNatClampNeg p) (vp_updL vl tok.toNatClampNeg v) ky len (tok + 1) cur tak tl fk fp) :=
  mS_of rfl (fun h0 => xw_go nostop 40 (fun K e => And.intro
    (fun c1 => absurd ht (by
      have c2 := of_decide_eq_true (show decide ((901 : Int32) ≤ tok) = true from c1)
      unfold nj_ix
      rw [Bool.and_eq_true, decide_eq_true_eq, decide_eq_true_eq]
      intro z
      have := Int32.le_iff_toInt_le.mp c2
      have e9 : (901 : Int32).toInt = 901 := rfl
      have : tok.toNatClampNeg = tok.toInt.toNat := rfl
      omega))
    (fun c1 => And.intro ht (And.intro ht (And.intro ht (And.intro rfl (e _ _ _ _ (kT_end rfl rfl ⟨rfl, rfl⟩))))))))
end TXT
