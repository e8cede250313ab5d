/-! sentence, by the reference -/
section RSZ
variable {L : Nat} {xs : Nat → Int32} {d n : Nat} {o : Nat → Value} {thr sz lim : Int32} {X : Lx} {flt fat got lns crs : Int32} {b hh s cd st : Nat → Int32} {nms rsv : Nat → Int64} {c39 c40 c41 c42 c43 : Int32} {H : Hs}
set_option maxHeartbeats 4000000 in
theorem k_sentence (hn : n ≤ 940) (hby : ∀ i, i < 940 → -128 ≤ (b i).toInt ∧ (b i).toInt ≤ 127) (hrs : rsvOk rsv) (hL2 : 16 + H.1.2.2.1.length ≤ 52) (hN2 : nmF nms 16 H.1.2.2.1) (hO2 : ∀ x ∈ H.1.2.2.1, wOk x) (hS2 : s 2 = Int32.ofNat H.1.2.2.1.length) (hL1 : 6 + H.1.2.1.length ≤ 52) (hN1 : nmF nms 6 H.1.2.1) (hO1 : ∀ x ∈ H.1.2.1, wOk x) (hS1 : s 1 = Int32.ofNat H.1.2.1.length) : mS nj_M nX0 L xs (d + 3) 251 [.ref 175] (rS o thr (Int32.ofNat n) sz lim X flt fat got lns crs b hh nms rsv c39 c40 c41 c42 c43 cd st s) (pFin o (Int32.ofInt 0) 0 n 200 lns crs b hh nms rsv s (sSen (tk b n 200) H (decide (200 < n)))) := by
  refine mS_of rfl (fun h0 => ?_)
  refine xw_go nostop 20 (fun K e => And.intro rfl (e _ _ _ _ (kT_call rfl rfl rfl rfl (q_feeds (L := L) (xs := xs) (o := (fun j9 => if j9 = 38 then .ref 190 else if j9 = 39 then .int c39 else if j9 = 40 then .int c40 else if j9 = 41 then .int c41 else if j9 = 42 then .int c42 else if j9 = 43 then .int c43 else o j9)) (thr := Int32.ofInt 0) (len := Int32.ofNat n) (sz := sz) (lim := lim) (X := X) (flt := flt) (fat := fat) (got := got) (lns := lns) (crs := crs) (b := b) (hh := hh) (nms := nms) (rsv := rsv) _) ⟨rfl, rfl, rfl, rfl, rfl, trivial⟩ rfl rfl (fun rv l1 hP1 _ => ?_))))
  obtain ⟨rfl, rfl⟩ := hP1
  refine kT_pic (l2 := (rS o (Int32.ofInt 0) 0 (Int32.ofNat n) (Int32.ofNat 200) (Int32.ofNat 0, X.2) flt fat got lns crs b hh nms rsv c39 c40 c41 c42 c43 cd st s)) rfl ?_
  refine xw_go nostop 60 (fun K e => And.intro rfl (And.intro rfl (And.intro rfl (And.intro rfl (And.intro rfl (And.intro rfl (e _ _ _ _ (kT_call rfl rfl rfl rfl (q_next (L := L) (xs := xs) (d := d + 1) (o := (fun j9 => if j9 = 38 then .ref 190 else if j9 = 39 then .int (Int32.ofInt 0) else if j9 = 40 then .int (Int32.ofInt 0) else if j9 = 41 then .int (Int32.ofInt 0) else if j9 = 42 then .int (Int32.ofInt 1) else if j9 = 43 then .int (Int32.ofInt 0) else o j9)) (thr := Int32.ofInt 0) (len := 0) (flt := Int32.ofInt 0) (fat := fat) (got := got) (lns := lns) (crs := crs) (hh := hh) (nms := nms) (rsv := rsv) (Y := X.2) (m := 200) hn (by decide) hby (Nat.zero_le n)) ⟨rfl, rfl, rfl, rfl, rfl, trivial⟩ rfl rfl (fun rv l1 hP1 _ => ?_)))))))))
  obtain ⟨rfl, X1, hX1, rfl⟩ := hP1
  have hA : aT L xs d o (Int32.ofInt 0) 0 n 200 (Int32.ofInt 0) fat lns crs b hh nms rsv s (rS o thr (Int32.ofNat n) sz lim X flt fat got lns crs b hh nms rsv c39 c40 c41 c42 c43 cd st s) (pFin o (Int32.ofInt 0) 0 n 200 lns crs b hh nms rsv s (sSen (tk b n 200) H (decide (200 < n)))) h0 (Int32.ofInt 0) [] 1 0 0 0 := by
    refine (rs_all (H := H) (R := sSen (tk b n 200) H (decide (200 < n))) hn (by decide) hby hrs rfl hL2 hN2 hO2 hS2 hL1 hN1 hO1 hS1 66).2.2.1 1 0 0 0 [] ⟨fun x hx => (nomatch hx), Or.inl rfl⟩ (by decide) (by decide) (by decide) (by decide) ⟨fun e pl he => ?_, fun q k1 he u j1 y1 hu hy1 => ?_⟩
    · unfold sSen
      rw [he]
      rfl
    · have hk1 : 0 + 1 ≤ k1 ∧ k1 ≤ 20 := pX_k _ 2 _ _ _ _ _ (by decide) he
      have hq := pX_e2 _ _ _ _ _ _ he
      have eS : sSen (tk b n 200) H (decide (200 < n)) = (if (tk b n 200 q).1 = 0 ∧ decide (200 < n) = false then .inr (q, k1) else .inl (1, (tk b n 200 q).2.1)) := by
        unfold sSen
        rw [he]
        rfl
      have hy2 : y1 + 0 + u.length + j1 + 1 ≤ 2 * k1 := hy1
      have hb1 : bs 20 ([] ++ u) := bs_u ⟨fun x hx => (nomatch hx), Or.inl rfl⟩ hu
      by_cases c : (tk b n 200 q).1 = 0 ∧ decide (200 < n) = false
      · exact st_done c (uE2_t hu) hb1 (by omega) rfl (by rw [eS, if_pos c]) rfl
      · exact st_bad (l0 := []) hq (Or.inr rfl) (fun z => c z.1) ⟨fun x hx => (nomatch hx), Or.inl rfl⟩ (uE2_t hu) hb1 (show y1 + 0 + u.length + j1 ≤ 44 by omega) rfl (by rw [eS, if_neg c])
  have hA2 := hA X1 got cd st ⟨hX1, tk_le (Nat.zero_le n)⟩ (fun i hi => absurd hi (Nat.not_lt_zero i))
  refine kT_pic (l2 := (rS o (Int32.ofInt 0) 0 (Int32.ofNat n) (Int32.ofNat 200) X1 (Int32.ofInt 0) fat got lns crs b hh nms rsv (Int32.ofInt 0) (Int32.ofInt 0) (Int32.ofInt 0) (Int32.ofInt 1) (Int32.ofInt 0) cd st s)) rfl ?_
  exact xw_go (fun pc => pc == 48) 20 (fun K e => e _ _ _ _ (kT_sort rfl hA2))
end RSZ
