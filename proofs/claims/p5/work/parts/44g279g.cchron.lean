/-! the chronicle read by the class -/
abbrev nm_g8 : nM := nvV nm_125 48
section CHC
variable {L : Nat} {xs : Nat → Int32} {d n : Nat} {b kd pl : Nat → Int32} {vl ky : Nat → Int64} {tok cur tak tl fk fp lf : Int32} {z : Ho} {Q : Sc} {u9 : Nat → Value}
set_option maxHeartbeats 4000000 in
theorem cch_f (hn0 : n ≤ 940) (hky : keysOk ky) {N : List (List Nat) × List (List Nat) × List (List Nat) × List (List Nat)} (hN : nmOk N) (hn : nmR z.2.1 (nsl N)) {R : Rs Nat} {e0 pl0 : Nat} (hE : R = .inl (e0, pl0)) (hR : R = cCh (tk b n 400) N (decide (400 < n)) 42 0 0) {u : Int32} (hu : u = Int32.ofInt 0 ∨ u = Int32.ofInt 1) (h0 : List nC) : kT nj_M nX0 L xs (d + 5) nm_125 (mQ (slP (fun j9 => if j9 = 7 then .ref 59 else u9 j9) lf ++ (sm b kd pl vl ky (Int32.ofNat n) tok cur tak tl fk fp z Q)) (fun rv l => (∃ y : Int32, rv = some (.int y)) ∧ ∃ (kd1 pl1 : Nat → Int32) (vl1 : Nat → Int64) (tok1 cur1 tak1 tl1 fk1 fp1 : Int32) (Q1 : Sc), l = slP (fun j9 => if j9 = 7 then .ref 59 else u9 j9) (Int32.ofNat e0) ++ (sm b kd1 pl1 vl1 ky 0 tok1 cur1 tak1 tl1 fk1 fp1 z Q1)) h0) (hk (slP (fun j9 => if j9 = 7 then .ref 59 else u9 j9) lf ++ (sm b kd pl vl ky (Int32.ofNat n) tok cur tak tl fk fp z Q))) h0 0 (lv_args 0 [.ref 0, .int u]) [] (slP (fun j9 => if j9 = 7 then .ref 59 else u9 j9) lf ++ (sm b kd pl vl ky (Int32.ofNat n) tok cur tak tl fk fp z Q)) := by
  have rd := c_rd (L := L) (xs := xs) (d := d) (b := b) (kd := kd) (pl := pl) (vl := vl) (ky := ky) (tok := tok) (cur := cur) (tak := tak) (tl := tl) (fk := fk) (fp := fp) (z := z) (Q := Q) hn0 hky hN hn
  rw [← hR] at rd
  have g25 : kT nj_M nX0 L xs (d + 5) nm_125 (mQ (slP (fun j9 => if j9 = 7 then .ref 59 else u9 j9) lf ++ (sm b kd pl vl ky (Int32.ofNat n) tok cur tak tl fk fp z Q)) (fun rv l => (∃ y : Int32, rv = some (.int y)) ∧ ∃ (kd1 pl1 : Nat → Int32) (vl1 : Nat → Int64) (tok1 cur1 tak1 tl1 fk1 fp1 : Int32) (Q1 : Sc), l = slP (fun j9 => if j9 = 7 then .ref 59 else u9 j9) (Int32.ofNat e0) ++ (sm b kd1 pl1 vl1 ky 0 tok1 cur1 tak1 tl1 fk1 fp1 z Q1)) h0) (hk (slP (fun j9 => if j9 = 7 then .ref 59 else u9 j9) lf ++ (sm b kd pl vl ky (Int32.ofNat n) tok cur tak tl fk fp z Q))) h0 25 [(0, .ref 0), (1, .int u)] [.ref 7, .ref 1, .ref 59] (slP (fun j9 => if j9 = 7 then .ref 59 else u9 j9) lf ++ (sm b kd pl vl ky (Int32.ofNat n) tok cur tak tl fk fp z Q)) := by
    refine kT_call rfl rfl rfl rfl rd ⟨rfl, rfl, rfl, rfl, rfl, rfl, rfl, rfl, rfl, rfl, rfl, rfl, rfl, rfl, rfl, rfl, rfl, rfl, rfl, rfl, rfl, rfl, rfl, rfl, rfl, trivial⟩ rfl rfl (fun rv l1 hP1 _ => ?_)
    obtain ⟨kd1, pl1, vl1, tok1, cur1, tak1, Q1, hP2⟩ := hP1
    rcases hP2 with ⟨q, k, e1, rfl, rfl⟩ | ⟨e2, q, e1, rfl, rfl⟩
    · rw [hE] at e1
      cases e1
    · refine kT_pic (l2 := slP (fun j9 => if j9 = 7 then .ref 59 else u9 j9) lf ++ (sm b kd1 pl1 vl1 ky (Int32.ofNat n) tok1 cur1 tak1 (b01 (decide (400 < n))) (Int32.ofNat e2) (Int32.ofNat q) z Q1)) rfl ?_
      rw [hE] at e1
      cases e1
      refine xw_go nostop 20 (fun K e => e _ _ _ _ (kT_call rfl rfl rfl rfl (c_close (L := L) (xs := xs) (u := (fun j9 => if j9 = 7 then .ref 59 else u9 j9)) (lf := lf) (b := b) (kd := kd1) (pl := pl1) (vl := vl1) (ky := ky) (len := Int32.ofNat n) (tok := tok1) (cur := cur1) (tak := tak1) (tl := b01 (decide (400 < n))) (fk := Int32.ofNat e0) (fp := Int32.ofNat pl0)) ⟨rfl, rfl, rfl, rfl, rfl, rfl, rfl, trivial⟩ rfl rfl (fun rv l1 hP1 _ => ?_)))
      obtain ⟨rfl, rfl⟩ := hP1
      refine kT_pic (l2 := slP (fun j9 => if j9 = 7 then .ref 59 else u9 j9) (Int32.ofNat e0) ++ (sm b kd1 pl1 vl1 ky 0 tok1 cur1 tak1 (b01 (decide (400 < n))) (Int32.ofNat e0) (Int32.ofNat pl0) z Q1)) rfl ?_
      exact xw_go nostop 30 (fun K e => And.intro (fun c => nomatch (show false = true from c)) (fun _ => e _ _ _ _ (kT_end rfl (ret_i _) ⟨⟨_, rfl⟩, kd1, pl1, vl1, tok1, cur1, tak1, _, _, _, Q1, rfl⟩)))
  rcases hu with rfl | rfl
  · exact xw_go nostop 30 (fun K e => And.intro (fun _ => e _ _ _ _ (kT_sort rfl g25)) (fun c => nomatch (show true = false from c)))
  · exact xw_go nostop 30 (fun K e => And.intro (fun c => nomatch (show false = true from c)) (fun _ => And.intro (fun _ => e _ _ _ _ (kT_sort rfl g25)) (fun c => nomatch (show true = false from c))))
set_option maxHeartbeats 4000000 in
theorem cch_g (hn0 : n ≤ 940) (hky : keysOk ky) {N : List (List Nat) × List (List Nat) × List (List Nat) × List (List Nat)} (hN : nmOk N) (hn : nmR z.2.1 (nsl N)) {R : Rs Nat} {qe ke : Nat} (hE : R = .inr (qe, ke)) (hR : R = cCh (tk b n 400) N (decide (400 < n)) 42 0 0) {u : Int32} (hu : u = Int32.ofInt 0 ∨ u = Int32.ofInt 1) (h0 : List nC) : kT nj_M nX0 L xs (d + 5) nm_g8 (mQ (slP (fun j9 => if j9 = 7 then .ref 59 else u9 j9) lf ++ (sm b kd pl vl ky (Int32.ofNat n) tok cur tak tl fk fp z Q)) (fun rv l => rv = none ∧ ∃ (kd1 pl1 : Nat → Int32) (vl1 : Nat → Int64) (tok1 cur1 tak1 tl1 fk1 fp1 : Int32) (Q1 : Sc), l = slP (fun j9 => if j9 = 7 then .ref 59 else u9 j9) (Int32.ofNat 0) ++ (sm b kd1 pl1 vl1 ky 0 tok1 cur1 tak1 tl1 fk1 fp1 z Q1)) h0) (hk (slP (fun j9 => if j9 = 7 then .ref 59 else u9 j9) lf ++ (sm b kd pl vl ky (Int32.ofNat n) tok cur tak tl fk fp z Q))) h0 0 (lv_args 0 [.ref 0, .int u]) [] (slP (fun j9 => if j9 = 7 then .ref 59 else u9 j9) lf ++ (sm b kd pl vl ky (Int32.ofNat n) tok cur tak tl fk fp z Q)) := by
  have rd := c_rd (L := L) (xs := xs) (d := d) (b := b) (kd := kd) (pl := pl) (vl := vl) (ky := ky) (tok := tok) (cur := cur) (tak := tak) (tl := tl) (fk := fk) (fp := fp) (z := z) (Q := Q) hn0 hky hN hn
  rw [← hR] at rd
  have g25 : kT nj_M nX0 L xs (d + 5) nm_g8 (mQ (slP (fun j9 => if j9 = 7 then .ref 59 else u9 j9) lf ++ (sm b kd pl vl ky (Int32.ofNat n) tok cur tak tl fk fp z Q)) (fun rv l => rv = none ∧ ∃ (kd1 pl1 : Nat → Int32) (vl1 : Nat → Int64) (tok1 cur1 tak1 tl1 fk1 fp1 : Int32) (Q1 : Sc), l = slP (fun j9 => if j9 = 7 then .ref 59 else u9 j9) (Int32.ofNat 0) ++ (sm b kd1 pl1 vl1 ky 0 tok1 cur1 tak1 tl1 fk1 fp1 z Q1)) h0) (hk (slP (fun j9 => if j9 = 7 then .ref 59 else u9 j9) lf ++ (sm b kd pl vl ky (Int32.ofNat n) tok cur tak tl fk fp z Q))) h0 25 [(0, .ref 0), (1, .int u)] [.ref 7, .ref 1, .ref 59] (slP (fun j9 => if j9 = 7 then .ref 59 else u9 j9) lf ++ (sm b kd pl vl ky (Int32.ofNat n) tok cur tak tl fk fp z Q)) := by
    refine kT_call rfl rfl rfl rfl rd ⟨rfl, rfl, rfl, rfl, rfl, rfl, rfl, rfl, rfl, rfl, rfl, rfl, rfl, rfl, rfl, rfl, rfl, rfl, rfl, rfl, rfl, rfl, rfl, rfl, rfl, trivial⟩ rfl rfl (fun rv l1 hP1 _ => ?_)
    obtain ⟨kd1, pl1, vl1, tok1, cur1, tak1, Q1, hP2⟩ := hP1
    rcases hP2 with ⟨q, k, e1, rfl, rfl⟩ | ⟨e2, q, e1, rfl, rfl⟩
    · refine kT_pic (l2 := slP (fun j9 => if j9 = 7 then .ref 59 else u9 j9) lf ++ (sm b kd1 pl1 vl1 ky (Int32.ofNat n) tok1 cur1 tak1 (b01 (decide (400 < n))) 0 0 z Q1)) rfl ?_
      refine xw_go nostop 20 (fun K e => e _ _ _ _ (kT_call rfl rfl rfl rfl (c_close (L := L) (xs := xs) (u := (fun j9 => if j9 = 7 then .ref 59 else u9 j9)) (lf := lf) (b := b) (kd := kd1) (pl := pl1) (vl := vl1) (ky := ky) (len := Int32.ofNat n) (tok := tok1) (cur := cur1) (tak := tak1) (tl := b01 (decide (400 < n))) (fk := 0) (fp := 0)) ⟨rfl, rfl, rfl, rfl, rfl, rfl, rfl, trivial⟩ rfl rfl (fun rv l1 hP1 _ => ?_)))
      obtain ⟨rfl, rfl⟩ := hP1
      refine kT_pic (l2 := slP (fun j9 => if j9 = 7 then .ref 59 else u9 j9) (Int32.ofNat 0) ++ (sm b kd1 pl1 vl1 ky 0 tok1 cur1 tak1 (b01 (decide (400 < n))) 0 0 z Q1)) rfl ?_
      exact xw_go (fun pc => pc == 48) 30 (fun K e => And.intro (fun _ => e _ _ _ _ (kT_end rfl rfl ⟨rfl, kd1, pl1, vl1, tok1, cur1, tak1, _, _, _, Q1, rfl⟩)) (fun c => nomatch (show true = false from c)))
    · rw [hE] at e1
      cases e1
  rcases hu with rfl | rfl
  · exact xw_go nostop 30 (fun K e => And.intro (fun _ => e _ _ _ _ (kT_sort rfl g25)) (fun c => nomatch (show true = false from c)))
  · exact xw_go nostop 30 (fun K e => And.intro (fun c => nomatch (show false = true from c)) (fun _ => And.intro (fun _ => e _ _ _ _ (kT_sort rfl g25)) (fun c => nomatch (show true = false from c))))
end CHC
