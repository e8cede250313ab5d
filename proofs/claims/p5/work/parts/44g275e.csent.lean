/-! sentence, by the class -/
def sSen (T : Nat → Tk) (H : Hs) (long : Bool) : Rs Nat := sBind (pX T H 66 2 1 0 0) (fun p k => if (T p).1 = 0 ∧ long = false then .inr (p, k) else .inl (1, (T p).2.1))
def sAns (R : Rs Nat) : Int32 := match R with
  | .inl (_, p) => Int32.ofInt (-1) - Int32.ofNat p
  | .inr (_, k) => Int32.ofNat k
section SEN3
variable {L : Nat} {xs : Nat → Int32} {d n : Nat} {b kd pl : Nat → Int32} {vl ky : Nat → Int64} {len tok cur tak tl fk fp lf : Int32} {z : Ho} {H : Hs} {P r : Ph} {u : Nat → Value}
theorem p_copy49_54 : mS nj_M nX0 L xs d 144 [.ref 49, .ref 54] (ph49 r ++ ph54 P) (fun rv l => rv = none ∧ l = ph49 (cpP P r) ++ ph54 P) := by
  refine mS_of rfl (fun h0 => ?_)
  refine xw_go nostop 20 (fun K e => e _ _ _ _ (kT_cpI rfl rfl rfl rfl rfl ?_))
  refine kT_pic (l2 := ph49 (va_cpy P.1 r.1 0 0 40, r.2.1, r.2.2.1, r.2.2.2.1, r.2.2.2.2.1, r.2.2.2.2.2) ++ ph54 P) rfl ?_
  refine xw_go nostop 20 (fun K e => e _ _ _ _ (kT_cpI rfl rfl rfl rfl rfl ?_))
  refine kT_pic (l2 := ph49 (va_cpy P.1 r.1 0 0 40, va_cpy P.2.1 r.2.1 0 0 40, r.2.2.1, r.2.2.2.1, r.2.2.2.2.1, r.2.2.2.2.2) ++ ph54 P) rfl ?_
  refine xw_go nostop 20 (fun K e => e _ _ _ _ (kT_cpI rfl rfl rfl rfl rfl ?_))
  refine kT_pic (l2 := ph49 (va_cpy P.1 r.1 0 0 40, va_cpy P.2.1 r.2.1 0 0 40, va_cpy P.2.2.1 r.2.2.1 0 0 40, r.2.2.2.1, r.2.2.2.2.1, r.2.2.2.2.2) ++ ph54 P) rfl ?_
  exact xw_go nostop 40 (fun K e => And.intro rfl (And.intro rfl (e _ _ _ _ (kT_end rfl rfl ⟨rfl, rfl⟩))))
theorem c_clear54 : mS nj_M nX0 L xs d 51 [.ref 54] (ph54 P) (fun rv l => rv = none ∧ l = ph54 (P.1, P.2.1, P.2.2.1, P.2.2.2.1, Int32.ofInt 0, Int32.ofInt 0)) :=
  mS_of rfl (fun h0 => xw_go nostop 20 (fun K e => And.intro rfl (And.intro rfl (e _ _ _ _ (kT_end rfl rfl ⟨rfl, rfl⟩)))))
abbrev pSr (b : Nat → Int32) (ky : Nat → Int64) (n : Nat) (z : Ho) (R : Rs Nat) : Option Value → nL → Prop := fun rv l => ∃ (kd1 pl1 : Nat → Int32) (vl1 : Nat → Int64) (tok1 cur1 tak1 tl1 : Int32) (P1 : Ph), (∃ q k1, R = .inr (q, k1) ∧ rv = some (.int 1) ∧ phB P1 k1 ∧ l = (sn b kd1 pl1 vl1 ky (Int32.ofNat n) tok1 cur1 tak1 tl1 0 0 z P1)) ∨ (∃ e q, R = .inl (e, q) ∧ rv = some (.int 0) ∧ l = (sn b kd1 pl1 vl1 ky (Int32.ofNat n) tok1 cur1 tak1 tl1 (Int32.ofNat e) (Int32.ofNat q) z P1))
set_option maxHeartbeats 4000000 in
theorem s_phr (hn : n ≤ 940) (hky : keysOk ky) (hN : nmOk H.1) (hnm : nmR z.2.1 (nsl H.1)) : mS nj_M nX0 L xs (d + 28) 137 [.ref 54, .ref 1, .ref 7] (sn b kd pl vl ky (Int32.ofNat n) tok cur tak tl fk fp z P) (pSr b ky n z (sSen (tk b n 200) H (decide (200 < n)))) := by
  have hT := tk_ok (b := b) (m := 200) hn (by decide)
  refine mS_of rfl (fun h0 => ?_)
  refine xw_go nostop 20 (fun K e => e _ _ _ _ (kT_call rfl rfl rfl rfl (c_clear54 (L := L) (xs := xs) (P := P)) ⟨rfl, rfl, rfl, rfl, rfl, trivial⟩ rfl rfl (fun rv l1 hP1 _ => ?_)))
  obtain ⟨rfl, rfl⟩ := hP1
  refine kT_pic (l2 := (sn b kd pl vl ky (Int32.ofNat n) tok cur tak tl fk fp z (P.1, P.2.1, P.2.2.1, P.2.2.2.1, Int32.ofInt 0, Int32.ofInt 0))) rfl ?_
  refine xw_go nostop 20 (fun K e => e _ _ _ _ (kT_call rfl rfl rfl rfl (s_open (L := L) (xs := xs) (d := d + 24) (b := b) (kd := kd) (pl := pl) (vl := vl) (tok := tok) (cur := cur) (tak := tak) (tl := tl) (fk := fk) (fp := fp) (m := 200) hn (by decide) hky) ⟨rfl, rfl, rfl, rfl, rfl, rfl, trivial⟩ rfl rfl (fun rv l1 hP1 _ => ?_)))
  obtain ⟨rfl, kd1, pl1, vl1, k, hk9, ht, hne, hE, rfl⟩ := hP1
  refine kT_pic (l2 := (sn b kd1 pl1 vl1 ky (Int32.ofNat n) (Int32.ofNat (k + 1)) 0 tak (b01 (decide (200 < n))) 0 0 z (P.1, P.2.1, P.2.2.1, P.2.2.2.1, Int32.ofInt 0, Int32.ofInt 0))) rfl ?_
  have hx0 : txR (tk b n 200) kd1 pl1 vl1 (Int32.ofNat (k + 1)) 0 0 := ⟨k, 0, rfl, rfl, Nat.zero_le _, hk9, ht, hne, hE, Or.inl rfl⟩
  have hd := (descent (L := L) (xs := xs) (b := b) (ky := ky) (len := Int32.ofNat n) (tl := b01 (decide (200 < n))) (fk := 0) (fp := 0) (z := z) hT hN hnm 66).2.2.1 1 0 0 (d + 27) 0 tak (P.1, P.2.1, P.2.2.1, P.2.2.2.1, Int32.ofInt 0, Int32.ofInt 0) (by decide) (by decide) (by decide) (by omega) hx0 ⟨⟨0, by decide, rfl⟩, rfl⟩
  have eS : sSen (tk b n 200) H (decide (200 < n)) = sBind (pX (tk b n 200) H 66 2 1 0 0) (fun p k => if (tk b n 200 p).1 = 0 ∧ decide (200 < n) = false then .inr (p, k) else .inl (1, (tk b n 200 p).2.1)) := rfl
  refine xw_go nostop 20 (fun K e => e _ _ _ _ (kT_call rfl rfl rfl rfl hd ⟨rfl, rfl, rfl, rfl, rfl, rfl, rfl, rfl, rfl, rfl, rfl, rfl, rfl, rfl, rfl, rfl, rfl, rfl, rfl, rfl, rfl, rfl, rfl, rfl, rfl, rfl, trivial⟩ rfl rfl (fun rv l1 hP1 _ => ?_)))
  rcases hP1 with ⟨q, k1, P1, cur2, tak2, e1, rfl, h2, hP2, rfl⟩ | ⟨e2, q, P1, cur2, tak2, e1, rfl, rfl⟩
  · refine kT_pic (l2 := (sn b kd1 pl1 vl1 ky (Int32.ofNat n) (Int32.ofNat (k + 1)) cur2 tak2 (b01 (decide (200 < n))) 0 0 z P1)) rfl ?_
    rw [e1] at eS
    have eS2 : sSen (tk b n 200) H (decide (200 < n)) = (if (tk b n 200 q).1 = 0 ∧ decide (200 < n) = false then .inr (q, k1) else .inl (1, (tk b n 200 q).2.1)) := eS
    refine xw_go nostop 20 (fun K e => And.intro (fun c => nomatch (show false = true from c)) (fun _ => e _ _ _ _ (kT_call rfl rfl rfl rfl (r_closes (L := L) (xs := xs) (d := d + 26) (b := b) (ky := ky) (len := Int32.ofNat n) (tak := tak2) (fk := 0) (fp := 0) hT h2 (decide (200 < n)) rfl) ⟨rfl, rfl, rfl, rfl, rfl, rfl, trivial⟩ rfl rfl (fun rv l1 hP1 _ => ?_))))
    rcases hP1 with ⟨e3, e4, rfl, rfl⟩ | ⟨e3, rfl, rfl⟩
    · refine kT_pic (l2 := (sn b kd1 pl1 vl1 ky (Int32.ofNat n) (Int32.ofNat (k + 1)) cur2 tak2 (b01 (decide (200 < n))) 0 0 z P1)) rfl ?_
      exact xw_go nostop 20 (fun K e => And.intro (fun c => nomatch (show false = true from c)) (fun _ => e _ _ _ _ (kT_end rfl rfl ⟨kd1, pl1, vl1, _, cur2, tak2, _, P1, Or.inl ⟨q, k1, by rw [eS2, if_pos ⟨e3, e4⟩], rfl, hP2, rfl⟩⟩)))
    · refine kT_pic (l2 := (sn b kd1 pl1 vl1 ky (Int32.ofNat n) (Int32.ofNat (k + 1)) cur2 tak2 (b01 (decide (200 < n))) (Int32.ofNat 1) (Int32.ofNat (tk b n 200 q).2.1) z P1)) rfl ?_
      exact xw_go nostop 20 (fun K e => And.intro (fun _ => e _ _ _ _ (kT_end rfl rfl ⟨kd1, pl1, vl1, _, cur2, tak2, _, P1, Or.inr ⟨1, _, by rw [eS2, if_neg e3], rfl, rfl⟩⟩)) (fun c => nomatch (show true = false from c)))
  · refine kT_pic (l2 := (sn b kd1 pl1 vl1 ky (Int32.ofNat n) (Int32.ofNat (k + 1)) cur2 tak2 (b01 (decide (200 < n))) (Int32.ofNat e2) (Int32.ofNat q) z P1)) rfl ?_
    exact xw_go nostop 20 (fun K e => And.intro (fun _ => e _ _ _ _ (kT_end rfl rfl ⟨kd1, pl1, vl1, _, cur2, tak2, _, P1, Or.inr ⟨e2, q, by rw [eS, e1]; rfl, rfl, rfl⟩⟩)) (fun c => nomatch (show true = false from c)))
set_option maxHeartbeats 4000000 in
theorem c_sentence (hn : n ≤ 940) (hky : keysOk ky) (hN : nmOk H.1) (hnm : nmR z.2.1 (nsl H.1)) : mS nj_M nX0 L xs (d + 29) 136 [.ref 0] (slP (fun k => if k = 6 then .ref 54 else u k) lf ++ ((sn b kd pl vl ky (Int32.ofNat n) tok cur tak tl fk fp z P) ++ ph49 r)) (fun rv l => rv = some (.int (sAns (sSen (tk b n 200) H (decide (200 < n))))) ∧ ∃ (kd1 pl1 : Nat → Int32) (vl1 : Nat → Int64) (lf1 tok1 cur1 tak1 tl1 fk1 fp1 : Int32) (P1 r1 : Ph), lf1 = Int32.ofNat (rK (sSen (tk b n 200) H (decide (200 < n)))) ∧ l = slP (fun k => if k = 6 then .ref 54 else u k) lf1 ++ ((sn b kd1 pl1 vl1 ky 0 tok1 cur1 tak1 tl1 fk1 fp1 z P1) ++ ph49 r1)) := by
  refine mS_of rfl (fun h0 => ?_)
  refine xw_go nostop 20 (fun K e => e _ _ _ _ (kT_call rfl rfl rfl rfl (s_phr (L := L) (xs := xs) (d := d) (kd := kd) (pl := pl) (vl := vl) (tok := tok) (cur := cur) (tak := tak) (tl := tl) (fk := fk) (fp := fp) (P := P) hn hky hN hnm) ⟨rfl, rfl, rfl, rfl, rfl, rfl, rfl, rfl, rfl, rfl, rfl, rfl, rfl, rfl, rfl, rfl, rfl, rfl, rfl, rfl, rfl, rfl, rfl, rfl, rfl, rfl, trivial⟩ rfl rfl (fun rv l1 hP1 _ => ?_)))
  obtain ⟨kd1, pl1, vl1, tok1, cur1, tak1, tl1, P1, hR⟩ := hP1
  rcases hR with ⟨q, k1, e1, rfl, hP2, rfl⟩ | ⟨e2, q, e1, rfl, rfl⟩
  · refine kT_pic (l2 := slP (fun k => if k = 6 then .ref 54 else u k) lf ++ ((sn b kd1 pl1 vl1 ky (Int32.ofNat n) tok1 cur1 tak1 tl1 0 0 z P1) ++ ph49 r)) rfl ?_
    refine xw_go nostop 20 (fun K e => e _ _ _ _ (kT_call rfl rfl rfl rfl (c_close (L := L) (xs := xs) (u := (fun k => if k = 6 then .ref 54 else u k)) (lf := lf) (b := b) (kd := kd1) (pl := pl1) (vl := vl1) (ky := ky) (len := Int32.ofNat n) (tok := tok1) (cur := cur1) (tak := tak1) (tl := tl1) (fk := 0) (fp := 0)) ⟨rfl, rfl, rfl, rfl, rfl, rfl, rfl, trivial⟩ rfl rfl (fun rv l1 hP1 _ => ?_)))
    obtain ⟨rfl, rfl⟩ := hP1
    refine kT_pic (l2 := slP (fun k => if k = 6 then .ref 54 else u k) 0 ++ ((sn b kd1 pl1 vl1 ky 0 tok1 cur1 tak1 tl1 0 0 z P1) ++ ph49 r)) rfl ?_
    refine xw_go nostop 20 (fun K e => And.intro (fun _ => e _ _ _ _ (kT_call rfl rfl rfl rfl (p_copy49_54 (L := L) (xs := xs) (P := P1) (r := r)) ⟨rfl, rfl, rfl, rfl, rfl, rfl, rfl, rfl, rfl, rfl, trivial⟩ rfl rfl (fun rv l1 hP1 _ => ?_))) (fun c => nomatch (show true = false from c)))
    obtain ⟨rfl, rfl⟩ := hP1
    refine kT_pic (l2 := slP (fun k => if k = 6 then .ref 54 else u k) 0 ++ ((sn b kd1 pl1 vl1 ky 0 tok1 cur1 tak1 tl1 0 0 z P1) ++ ph49 (cpP P1 r))) rfl ?_
    exact xw_go nostop 20 (fun K e => e _ _ _ _ (kT_end rfl (ret_i _) ⟨by rw [e1]; exact congrArg (fun x => some (Value.int x)) hP2.2, kd1, pl1, vl1, 0, tok1, cur1, tak1, tl1, 0, 0, P1, cpP P1 r, by rw [e1]; rfl, rfl⟩))
  · refine kT_pic (l2 := slP (fun k => if k = 6 then .ref 54 else u k) lf ++ ((sn b kd1 pl1 vl1 ky (Int32.ofNat n) tok1 cur1 tak1 tl1 (Int32.ofNat e2) (Int32.ofNat q) z P1) ++ ph49 r)) rfl ?_
    refine xw_go nostop 20 (fun K e => e _ _ _ _ (kT_call rfl rfl rfl rfl (c_close (L := L) (xs := xs) (u := (fun k => if k = 6 then .ref 54 else u k)) (lf := lf) (b := b) (kd := kd1) (pl := pl1) (vl := vl1) (ky := ky) (len := Int32.ofNat n) (tok := tok1) (cur := cur1) (tak := tak1) (tl := tl1) (fk := Int32.ofNat e2) (fp := Int32.ofNat q)) ⟨rfl, rfl, rfl, rfl, rfl, rfl, rfl, trivial⟩ rfl rfl (fun rv l1 hP1 _ => ?_)))
    obtain ⟨rfl, rfl⟩ := hP1
    refine kT_pic (l2 := slP (fun k => if k = 6 then .ref 54 else u k) (Int32.ofNat e2) ++ ((sn b kd1 pl1 vl1 ky 0 tok1 cur1 tak1 tl1 (Int32.ofNat e2) (Int32.ofNat q) z P1) ++ ph49 r)) rfl ?_
    exact xw_go nostop 20 (fun K e => And.intro (fun c => nomatch (show false = true from c)) (fun _ => e _ _ _ _ (kT_end rfl (ret_i _) ⟨by rw [e1]; rfl, kd1, pl1, vl1, _, tok1, cur1, tak1, tl1, _, _, P1, r, by rw [e1]; rfl, rfl⟩)))
end SEN3
