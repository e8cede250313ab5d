/-! the class keeps an image and goes back to it -/
abbrev slI (u : Nat → Value) : nL := [(0, .inr (8, [u 0, .ref 7, u 2, .ref 37, u 4, .ref 49, u 6, u 7, .ref 63, .ref 113, u 10, u 11, u 12, u 13, u 14, u 15, u 16]))]
abbrev rwI (f : Nat → Option Nat) : nL := [(113, .inl (5, 2, .inr (.inr f)))]
abbrev im0 (kp : Int32) : nL := [(114, .inr (1, [.ref 115, .ref 130, .ref 136, .int kp]))]
abbrev im1 (kp : Int32) : nL := [(141, .inr (1, [.ref 142, .ref 157, .ref 163, .int kp]))]
section IMC
variable {L : Nat} {xs : Nat → Int32} {d : Nat} {z y : Ho} {x w : Lf} {p r : Ph} {u : Nat → Value} {f : Nat → Option Nat} {kp p3 p4 : Int32}
set_option maxHeartbeats 4000000 in
theorem c_image0 (hf : f 0 = some 114) : mS nj_M nX0 L xs (d + 1) 151 [.ref 0, .int (Int32.ofInt 0)] (slI u ++ (rwI f ++ (im0 kp ++ (ho115 y ++ (lf130 w ++ (ph136 r ++ (hoQ z ++ (lfP x ++ (ph49 p ++ paP u p3 p4))))))))) (fun rv l => rv = some (.int 1) ∧ l = slI u ++ (rwI f ++ (im0 1 ++ (ho115 (cpH z y) ++ (lf130 (cpL x w) ++ (ph136 (cpP p r) ++ (hoQ z ++ (lfP x ++ (ph49 p ++ paP u p3 p4))))))))) := by
  refine mS_of rfl (fun h0 => ?_)
  refine xw_go (fun pc => pc == 16) 20 (fun K e => And.intro (fun _ => e _ _ _ _ (kT_aa rfl rfl (Or.inr rfl) rfl hf ?_)) (fun c => nomatch (show true = false from c)))
  refine xw_go nostop 20 (fun K e => e _ _ _ _ (kT_call rfl rfl rfl rfl (h_copy115_7 (y := y) (z := z)) ⟨rfl, rfl, rfl, rfl, rfl, rfl, rfl, rfl, rfl, rfl, rfl, rfl, rfl, rfl, rfl, rfl, rfl, rfl, rfl, rfl, rfl, rfl, rfl, rfl, rfl, rfl, rfl, rfl, rfl, rfl, trivial⟩ rfl rfl (fun rv l1 hP _ => ?_)))
  obtain ⟨rfl, rfl⟩ := hP
  refine kT_pic (l2 := slI u ++ (rwI f ++ (im0 kp ++ (ho115 (cpH z y) ++ (lf130 w ++ (ph136 r ++ (hoQ z ++ (lfP x ++ (ph49 p ++ paP u p3 p4))))))))) rfl ?_
  refine xw_go nostop 20 (fun K e => e _ _ _ _ (kT_call rfl rfl rfl rfl (l_copy130_37 (w := w) (x := x)) ⟨rfl, rfl, rfl, rfl, rfl, rfl, rfl, rfl, rfl, rfl, rfl, rfl, trivial⟩ rfl rfl (fun rv l1 hP _ => ?_)))
  obtain ⟨rfl, rfl⟩ := hP
  refine kT_pic (l2 := slI u ++ (rwI f ++ (im0 kp ++ (ho115 (cpH z y) ++ (lf130 (cpL x w) ++ (ph136 r ++ (hoQ z ++ (lfP x ++ (ph49 p ++ paP u p3 p4))))))))) rfl ?_
  refine xw_go nostop 20 (fun K e => e _ _ _ _ (kT_call rfl rfl rfl rfl (p_copy136_49 (r := r) (p := p)) ⟨rfl, rfl, rfl, rfl, rfl, rfl, rfl, rfl, rfl, rfl, trivial⟩ rfl rfl (fun rv l1 hP _ => ?_)))
  obtain ⟨rfl, rfl⟩ := hP
  refine kT_pic (l2 := slI u ++ (rwI f ++ (im0 kp ++ (ho115 (cpH z y) ++ (lf130 (cpL x w) ++ (ph136 (cpP p r) ++ (hoQ z ++ (lfP x ++ (ph49 p ++ paP u p3 p4))))))))) rfl ?_
  exact xw_go nostop 20 (fun K e => And.intro rfl (e _ _ _ _ (kT_end rfl rfl ⟨rfl, rfl⟩)))
set_option maxHeartbeats 4000000 in
theorem c_restore0 (hf : f 0 = some 114) : mS nj_M nX0 L xs (d + 1) 152 [.ref 0, .int (Int32.ofInt 0)] (slI u ++ (rwI f ++ (im0 1 ++ (ho115 y ++ (lf130 w ++ (ph136 r ++ (hoQ z ++ (lfP x ++ (ph49 p ++ paP u p3 p4))))))))) (fun rv l => rv = some (.int 1) ∧ l = slI u ++ (rwI f ++ (im0 1 ++ (ho115 y ++ (lf130 w ++ (ph136 r ++ (hoQ (cpH y z) ++ (lfP (cpL w x) ++ (ph49 (cpP r p) ++ paP u 0 p4))))))))) := by
  refine mS_of rfl (fun h0 => ?_)
  refine xw_go (fun pc => pc == 14) 20 (fun K e => And.intro (fun _ => e _ _ _ _ (kT_aa rfl rfl (Or.inr rfl) rfl hf ?_)) (fun c => nomatch (show true = false from c)))
  refine xw_go (fun pc => pc == 28) 20 (fun K e => And.intro (fun _ => e _ _ _ _ (kT_aa rfl rfl (Or.inr rfl) rfl hf ?_)) (fun c => nomatch (show true = false from c)))
  refine xw_go nostop 20 (fun K e => e _ _ _ _ (kT_call rfl rfl rfl rfl (h_copy7_115 (y := z) (z := y)) ⟨rfl, rfl, rfl, rfl, rfl, rfl, rfl, rfl, rfl, rfl, rfl, rfl, rfl, rfl, rfl, rfl, rfl, rfl, rfl, rfl, rfl, rfl, rfl, rfl, rfl, rfl, rfl, rfl, rfl, rfl, trivial⟩ rfl rfl (fun rv l1 hP _ => ?_)))
  obtain ⟨rfl, rfl⟩ := hP
  refine kT_pic (l2 := slI u ++ (rwI f ++ (im0 1 ++ (ho115 y ++ (lf130 w ++ (ph136 r ++ (hoQ (cpH y z) ++ (lfP x ++ (ph49 p ++ paP u p3 p4))))))))) rfl ?_
  refine xw_go nostop 20 (fun K e => e _ _ _ _ (kT_call rfl rfl rfl rfl (l_copy37_130 (w := x) (x := w)) ⟨rfl, rfl, rfl, rfl, rfl, rfl, rfl, rfl, rfl, rfl, rfl, rfl, trivial⟩ rfl rfl (fun rv l1 hP _ => ?_)))
  obtain ⟨rfl, rfl⟩ := hP
  refine kT_pic (l2 := slI u ++ (rwI f ++ (im0 1 ++ (ho115 y ++ (lf130 w ++ (ph136 r ++ (hoQ (cpH y z) ++ (lfP (cpL w x) ++ (ph49 p ++ paP u p3 p4))))))))) rfl ?_
  refine xw_go nostop 20 (fun K e => e _ _ _ _ (kT_call rfl rfl rfl rfl (p_copy49_136 (r := p) (p := r)) ⟨rfl, rfl, rfl, rfl, rfl, rfl, rfl, rfl, rfl, rfl, trivial⟩ rfl rfl (fun rv l1 hP _ => ?_)))
  obtain ⟨rfl, rfl⟩ := hP
  refine kT_pic (l2 := slI u ++ (rwI f ++ (im0 1 ++ (ho115 y ++ (lf130 w ++ (ph136 r ++ (hoQ (cpH y z) ++ (lfP (cpL w x) ++ (ph49 (cpP r p) ++ paP u p3 p4))))))))) rfl ?_
  refine xw_go nostop 20 (fun K e => e _ _ _ _ (kT_call rfl rfl rfl rfl (c_clear2 (u := u) (p3 := p3) (p4 := p4)) ⟨rfl, trivial⟩ rfl rfl (fun rv l1 hP _ => ?_)))
  obtain ⟨rfl, rfl⟩ := hP
  exact xw_go nostop 20 (fun K e => e _ _ _ _ (kT_end rfl rfl ⟨rfl, rfl⟩))
set_option maxHeartbeats 4000000 in
theorem c_image1 (hf : f 1 = some 141) : mS nj_M nX0 L xs (d + 1) 151 [.ref 0, .int (Int32.ofInt 1)] (slI u ++ (rwI f ++ (im1 kp ++ (ho142 y ++ (lf157 w ++ (ph163 r ++ (hoQ z ++ (lfP x ++ (ph49 p ++ paP u p3 p4))))))))) (fun rv l => rv = some (.int 1) ∧ l = slI u ++ (rwI f ++ (im1 1 ++ (ho142 (cpH z y) ++ (lf157 (cpL x w) ++ (ph163 (cpP p r) ++ (hoQ z ++ (lfP x ++ (ph49 p ++ paP u p3 p4))))))))) := by
  refine mS_of rfl (fun h0 => ?_)
  refine xw_go (fun pc => pc == 16) 20 (fun K e => And.intro (fun c => nomatch (show false = true from c)) (fun _ => And.intro (fun _ => e _ _ _ _ (kT_aa rfl rfl (Or.inr rfl) rfl hf ?_)) (fun c => nomatch (show true = false from c))))
  refine xw_go nostop 20 (fun K e => e _ _ _ _ (kT_call rfl rfl rfl rfl (h_copy142_7 (y := y) (z := z)) ⟨rfl, rfl, rfl, rfl, rfl, rfl, rfl, rfl, rfl, rfl, rfl, rfl, rfl, rfl, rfl, rfl, rfl, rfl, rfl, rfl, rfl, rfl, rfl, rfl, rfl, rfl, rfl, rfl, rfl, rfl, trivial⟩ rfl rfl (fun rv l1 hP _ => ?_)))
  obtain ⟨rfl, rfl⟩ := hP
  refine kT_pic (l2 := slI u ++ (rwI f ++ (im1 kp ++ (ho142 (cpH z y) ++ (lf157 w ++ (ph163 r ++ (hoQ z ++ (lfP x ++ (ph49 p ++ paP u p3 p4))))))))) rfl ?_
  refine xw_go nostop 20 (fun K e => e _ _ _ _ (kT_call rfl rfl rfl rfl (l_copy157_37 (w := w) (x := x)) ⟨rfl, rfl, rfl, rfl, rfl, rfl, rfl, rfl, rfl, rfl, rfl, rfl, trivial⟩ rfl rfl (fun rv l1 hP _ => ?_)))
  obtain ⟨rfl, rfl⟩ := hP
  refine kT_pic (l2 := slI u ++ (rwI f ++ (im1 kp ++ (ho142 (cpH z y) ++ (lf157 (cpL x w) ++ (ph163 r ++ (hoQ z ++ (lfP x ++ (ph49 p ++ paP u p3 p4))))))))) rfl ?_
  refine xw_go nostop 20 (fun K e => e _ _ _ _ (kT_call rfl rfl rfl rfl (p_copy163_49 (r := r) (p := p)) ⟨rfl, rfl, rfl, rfl, rfl, rfl, rfl, rfl, rfl, rfl, trivial⟩ rfl rfl (fun rv l1 hP _ => ?_)))
  obtain ⟨rfl, rfl⟩ := hP
  refine kT_pic (l2 := slI u ++ (rwI f ++ (im1 kp ++ (ho142 (cpH z y) ++ (lf157 (cpL x w) ++ (ph163 (cpP p r) ++ (hoQ z ++ (lfP x ++ (ph49 p ++ paP u p3 p4))))))))) rfl ?_
  exact xw_go nostop 20 (fun K e => And.intro rfl (e _ _ _ _ (kT_end rfl rfl ⟨rfl, rfl⟩)))
set_option maxHeartbeats 4000000 in
theorem c_restore1 (hf : f 1 = some 141) : mS nj_M nX0 L xs (d + 1) 152 [.ref 0, .int (Int32.ofInt 1)] (slI u ++ (rwI f ++ (im1 1 ++ (ho142 y ++ (lf157 w ++ (ph163 r ++ (hoQ z ++ (lfP x ++ (ph49 p ++ paP u p3 p4))))))))) (fun rv l => rv = some (.int 1) ∧ l = slI u ++ (rwI f ++ (im1 1 ++ (ho142 y ++ (lf157 w ++ (ph163 r ++ (hoQ (cpH y z) ++ (lfP (cpL w x) ++ (ph49 (cpP r p) ++ paP u 0 p4))))))))) := by
  refine mS_of rfl (fun h0 => ?_)
  refine xw_go (fun pc => pc == 14) 20 (fun K e => And.intro (fun c => nomatch (show false = true from c)) (fun _ => And.intro (fun c => nomatch (show false = true from c)) (fun _ => e _ _ _ _ (kT_aa rfl rfl (Or.inr rfl) rfl hf ?_))))
  refine xw_go (fun pc => pc == 28) 20 (fun K e => And.intro (fun _ => e _ _ _ _ (kT_aa rfl rfl (Or.inr rfl) rfl hf ?_)) (fun c => nomatch (show true = false from c)))
  refine xw_go nostop 20 (fun K e => e _ _ _ _ (kT_call rfl rfl rfl rfl (h_copy7_142 (y := z) (z := y)) ⟨rfl, rfl, rfl, rfl, rfl, rfl, rfl, rfl, rfl, rfl, rfl, rfl, rfl, rfl, rfl, rfl, rfl, rfl, rfl, rfl, rfl, rfl, rfl, rfl, rfl, rfl, rfl, rfl, rfl, rfl, trivial⟩ rfl rfl (fun rv l1 hP _ => ?_)))
  obtain ⟨rfl, rfl⟩ := hP
  refine kT_pic (l2 := slI u ++ (rwI f ++ (im1 1 ++ (ho142 y ++ (lf157 w ++ (ph163 r ++ (hoQ (cpH y z) ++ (lfP x ++ (ph49 p ++ paP u p3 p4))))))))) rfl ?_
  refine xw_go nostop 20 (fun K e => e _ _ _ _ (kT_call rfl rfl rfl rfl (l_copy37_157 (w := x) (x := w)) ⟨rfl, rfl, rfl, rfl, rfl, rfl, rfl, rfl, rfl, rfl, rfl, rfl, trivial⟩ rfl rfl (fun rv l1 hP _ => ?_)))
  obtain ⟨rfl, rfl⟩ := hP
  refine kT_pic (l2 := slI u ++ (rwI f ++ (im1 1 ++ (ho142 y ++ (lf157 w ++ (ph163 r ++ (hoQ (cpH y z) ++ (lfP (cpL w x) ++ (ph49 p ++ paP u p3 p4))))))))) rfl ?_
  refine xw_go nostop 20 (fun K e => e _ _ _ _ (kT_call rfl rfl rfl rfl (p_copy49_163 (r := p) (p := r)) ⟨rfl, rfl, rfl, rfl, rfl, rfl, rfl, rfl, rfl, rfl, trivial⟩ rfl rfl (fun rv l1 hP _ => ?_)))
  obtain ⟨rfl, rfl⟩ := hP
  refine kT_pic (l2 := slI u ++ (rwI f ++ (im1 1 ++ (ho142 y ++ (lf157 w ++ (ph163 r ++ (hoQ (cpH y z) ++ (lfP (cpL w x) ++ (ph49 (cpP r p) ++ paP u p3 p4))))))))) rfl ?_
  refine xw_go nostop 20 (fun K e => e _ _ _ _ (kT_call rfl rfl rfl rfl (c_clear2 (u := u) (p3 := p3) (p4 := p4)) ⟨rfl, trivial⟩ rfl rfl (fun rv l1 hP _ => ?_)))
  obtain ⟨rfl, rfl⟩ := hP
  exact xw_go nostop 20 (fun K e => e _ _ _ _ (kT_end rfl rfl ⟨rfl, rfl⟩))
end IMC
