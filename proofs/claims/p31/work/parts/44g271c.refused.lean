/-! refused: nothing changes -/
section REF
variable {L : Nat} {xs : Nat → Int32} {d : Nat} {u : Nat → Value} {f : Nat → Option Nat} {o : Nat → Value} {thr len sz lim : Int32} {X : Lx} {flt fat got lns crs : Int32} {b hh s kp ak : Nat → Int32} {nms rsv nk : Nat → Int64}
theorem isIn01 {v : Int32} (h0 : ¬ v = 0) (h1 : ¬ v = 1) : b01 (!nj_cmp .lt v (Int32.ofInt 0) && !nj_cmp .gt v (Int32.ofInt 1)) = 0 := by
  have k : (!nj_cmp .lt v (Int32.ofInt 0) && !nj_cmp .gt v (Int32.ofInt 1)) = false := by
    cases a : nj_cmp .lt v (Int32.ofInt 0) with
    | true => rfl
    | false =>
      cases c : nj_cmp .gt v (Int32.ofInt 1) with
      | true => rfl
      | false =>
        exfalso
        have a2 : ¬ v < Int32.ofInt 0 := of_decide_eq_false a
        have c2 : ¬ Int32.ofInt 1 < v := of_decide_eq_false c
        rw [Int32.lt_iff_toInt_lt] at a2 c2
        have e0 : (Int32.ofInt 0).toInt = 0 := rfl
        have e1 : (Int32.ofInt 1).toInt = 1 := rfl
        rw [e0] at a2
        rw [e1] at c2
        rcases (by omega : v.toInt = 0 ∨ v.toInt = 1) with e | e
        · exact h0 (Int32.toInt_inj.mp (e.trans e0.symm))
        · exact h1 (Int32.toInt_inj.mp (e.trans e1.symm))
  rw [k]
  rfl
theorem c_imgN {v : Int32} (h0 : ¬ v = 0) (h1 : ¬ v = 1) : mS nj_M nX0 L xs d 151 [.ref 0, .int v] [] (fun rv l => rv = some (.int 0) ∧ l = []) :=
  mS_of rfl (fun h00 => xw_go nostop 20 (fun K e => And.intro (fun c => absurd (of_decide_eq_true (show decide (v = 0) = true from c)) h0) (fun _ => And.intro (fun c => absurd (of_decide_eq_true (show decide (v = 1) = true from c)) h1) (fun _ => e _ _ _ _ (kT_end rfl rfl ⟨rfl, rfl⟩)))))
theorem c_resN {v : Int32} (h0 : ¬ v = 0) (h1 : ¬ v = 1) : mS nj_M nX0 L xs d 152 [.ref 0, .int v] [] (fun rv l => rv = some (.int 0) ∧ l = []) :=
  mS_of rfl (fun h00 => xw_go nostop 20 (fun K e => And.intro (fun c => absurd (of_decide_eq_true (show decide (v = 0) = true from c)) h0) (fun _ => And.intro (fun _ => e _ _ _ _ (kT_end rfl rfl ⟨rfl, rfl⟩)) (fun c => absurd (of_decide_eq_false (show decide (¬ v = 1) = false from c)) (fun q => q h1)))))
theorem c_res0X (hf : f 0 = some 114) : mS nj_M nX0 L xs d 152 [.ref 0, .int (Int32.ofInt 0)] (slI u ++ (rwI f ++ im0 0)) (fun rv l => rv = some (.int 0) ∧ l = (slI u ++ (rwI f ++ im0 0))) := by
  refine mS_of rfl (fun h0 => ?_)
  refine xw_go (fun pc => pc == 14) 20 (fun K e => And.intro (fun _ => e _ _ _ _ (kT_aa rfl rfl (Or.inr rfl) rfl hf ?_)) (fun c => nomatch (show true = false from c)))
  exact xw_go nostop 20 (fun K e => And.intro (fun c => nomatch (show false = true from c)) (fun _ => e _ _ _ _ (kT_end rfl rfl ⟨rfl, rfl⟩)))
theorem c_res1X (hf : f 1 = some 141) : mS nj_M nX0 L xs d 152 [.ref 0, .int (Int32.ofInt 1)] (slI u ++ (rwI f ++ im1 0)) (fun rv l => rv = some (.int 0) ∧ l = (slI u ++ (rwI f ++ im1 0))) := by
  refine mS_of rfl (fun h0 => ?_)
  refine xw_go (fun pc => pc == 14) 20 (fun K e => And.intro (fun c => nomatch (show false = true from c)) (fun _ => And.intro (fun c => nomatch (show false = true from c)) (fun _ => e _ _ _ _ (kT_aa rfl rfl (Or.inr rfl) rfl hf ?_))))
  exact xw_go nostop 20 (fun K e => And.intro (fun c => nomatch (show false = true from c)) (fun _ => e _ _ _ _ (kT_end rfl rfl ⟨rfl, rfl⟩)))
theorem q_imgN {v : Int32} (h0 : ¬ v = 0) (h1 : ¬ v = 1) : mS nj_M nX0 L xs (d + 1) 262 [.ref 175, .int v] (rfS (fun k => if k = 45 then .ref 192 else if k = 46 then .ref 193 else if k = 47 then .ref 194 else o k) thr len sz lim X flt fat got lns crs b hh nms rsv s ++ [(192, .inl (0, 720, .inl kp)), (193, .inl (3, 52, .inr (.inl nk))), (194, .inl (2, 2, .inl ak))]) (fun rv l => rv = some (.int 0) ∧ l = (rfS (fun k => if k = 45 then .ref 192 else if k = 46 then .ref 193 else if k = 47 then .ref 194 else o k) 0 len sz lim X flt fat got lns crs b hh nms rsv s ++ [(192, .inl (0, 720, .inl kp)), (193, .inl (3, 52, .inr (.inl nk))), (194, .inl (2, 2, .inl ak))])) := by
  refine mS_of rfl (fun h00 => ?_)
  refine xw_go nostop 20 (fun K e => And.intro rfl (e _ _ _ _ (kT_call rfl rfl rfl rfl (q_isIn _ _ _) trivial rfl rfl (fun rv l1 hP _ => ?_))))
  obtain ⟨rfl, rfl⟩ := hP
  exact xw_go nostop 20 (fun K e => And.intro (fun c => absurd (show nj_cmp .ne (b01 _) 0 = true from c) (by rw [isIn01 h0 h1]; decide)) (fun _ => e _ _ _ _ (kT_end rfl rfl ⟨rfl, rfl⟩)))
theorem q_resN {v : Int32} (h0 : ¬ v = 0) (h1 : ¬ v = 1) : mS nj_M nX0 L xs (d + 1) 263 [.ref 175, .int v] (rfS (fun k => if k = 45 then .ref 192 else if k = 46 then .ref 193 else if k = 47 then .ref 194 else o k) thr len sz lim X flt fat got lns crs b hh nms rsv s ++ [(192, .inl (0, 720, .inl kp)), (193, .inl (3, 52, .inr (.inl nk))), (194, .inl (2, 2, .inl ak))]) (fun rv l => rv = some (.int 0) ∧ l = (rfS (fun k => if k = 45 then .ref 192 else if k = 46 then .ref 193 else if k = 47 then .ref 194 else o k) 0 len sz lim X flt fat got lns crs b hh nms rsv s ++ [(192, .inl (0, 720, .inl kp)), (193, .inl (3, 52, .inr (.inl nk))), (194, .inl (2, 2, .inl ak))])) := by
  refine mS_of rfl (fun h00 => ?_)
  refine xw_go nostop 20 (fun K e => And.intro rfl (e _ _ _ _ (kT_call rfl rfl rfl rfl (q_isIn _ _ _) trivial rfl rfl (fun rv l1 hP _ => ?_))))
  obtain ⟨rfl, rfl⟩ := hP
  exact xw_go nostop 20 (fun K e => And.intro (fun _ => e _ _ _ _ (kT_end rfl rfl ⟨rfl, rfl⟩)) (fun c => absurd (show nj_cmp .eq (b01 _) 0 = false from c) (by rw [isIn01 h0 h1]; decide)))
theorem q_res0X (ha : ak 0 = 0) : mS nj_M nX0 L xs (d + 1) 263 [.ref 175, .int (Int32.ofInt 0)] (rfS (fun k => if k = 45 then .ref 192 else if k = 46 then .ref 193 else if k = 47 then .ref 194 else o k) thr len sz lim X flt fat got lns crs b hh nms rsv s ++ [(192, .inl (0, 720, .inl kp)), (193, .inl (3, 52, .inr (.inl nk))), (194, .inl (2, 2, .inl ak))]) (fun rv l => rv = some (.int 0) ∧ l = (rfS (fun k => if k = 45 then .ref 192 else if k = 46 then .ref 193 else if k = 47 then .ref 194 else o k) 0 len sz lim X flt fat got lns crs b hh nms rsv s ++ [(192, .inl (0, 720, .inl kp)), (193, .inl (3, 52, .inr (.inl nk))), (194, .inl (2, 2, .inl ak))])) := by
  refine mS_of rfl (fun h0 => ?_)
  refine xw_go nostop 20 (fun K e => And.intro rfl (e _ _ _ _ (kT_call rfl rfl rfl rfl (q_isIn _ _ _) trivial rfl rfl (fun rv l1 hP _ => ?_))))
  obtain ⟨rfl, rfl⟩ := hP
  exact xw_go nostop 30 (fun K e => And.intro (fun c => nomatch (show false = true from c)) (fun _ => And.intro rfl (And.intro (fun c => by have c' : nj_cmp .ne (ak 0) 0 = true := c; rw [ha] at c'; cases c') (fun _ => e _ _ _ _ (kT_end rfl rfl ⟨rfl, rfl⟩)))))
theorem q_res1X (ha : ak 1 = 0) : mS nj_M nX0 L xs (d + 1) 263 [.ref 175, .int (Int32.ofInt 1)] (rfS (fun k => if k = 45 then .ref 192 else if k = 46 then .ref 193 else if k = 47 then .ref 194 else o k) thr len sz lim X flt fat got lns crs b hh nms rsv s ++ [(192, .inl (0, 720, .inl kp)), (193, .inl (3, 52, .inr (.inl nk))), (194, .inl (2, 2, .inl ak))]) (fun rv l => rv = some (.int 0) ∧ l = (rfS (fun k => if k = 45 then .ref 192 else if k = 46 then .ref 193 else if k = 47 then .ref 194 else o k) 0 len sz lim X flt fat got lns crs b hh nms rsv s ++ [(192, .inl (0, 720, .inl kp)), (193, .inl (3, 52, .inr (.inl nk))), (194, .inl (2, 2, .inl ak))])) := by
  refine mS_of rfl (fun h0 => ?_)
  refine xw_go nostop 20 (fun K e => And.intro rfl (e _ _ _ _ (kT_call rfl rfl rfl rfl (q_isIn _ _ _) trivial rfl rfl (fun rv l1 hP _ => ?_))))
  obtain ⟨rfl, rfl⟩ := hP
  exact xw_go nostop 30 (fun K e => And.intro (fun c => nomatch (show false = true from c)) (fun _ => And.intro rfl (And.intro (fun c => by have c' : nj_cmp .ne (ak 1) 0 = true := c; rw [ha] at c'; cases c') (fun _ => e _ _ _ _ (kT_end rfl rfl ⟨rfl, rfl⟩)))))
end REF
