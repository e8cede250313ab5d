/-! the descent, by the class -/
def sS (L : Nat) (xs : Nat → Int32) (b kd pl : Nat → Int32) (vl ky : Nat → Int64) (len tok tl fk fp : Int32) (T : Nat → Tk) (z : Ho) (H : Hs) (meth mode c f : Nat) : Prop := ∀ (w p k d : Nat) (cur tak : Int32) (P : Ph), w ≤ 9 → k ≤ 20 → 3 * (21 - k) + c ≤ f → 3 * (9 - w) + c ≤ d → txR T kd pl vl tok cur p → phB P k → mS nj_M nX0 L xs d meth [.ref 54, .ref 1, .ref 7, .int (Int32.ofNat w)] (sn b kd pl vl ky len tok cur tak tl fk fp z P) (pSn T b kd pl vl ky len tok tl fk fp z (pX T H f mode w p k))
def sL (L : Nat) (xs : Nat → Int32) (b kd pl : Nat → Int32) (vl ky : Nat → Int64) (len tok tl fk fp : Int32) (T : Nat → Tk) (z : Ho) (H : Hs) (mt : nM) (mode c f : Nat) : Prop := ∀ (w p k d i : Nat) (cur tak cur0 tak0 : Int32) (P P0 : Ph) (R : Rs Nat) (h0 : List nC), w ≤ 9 → k ≤ 20 → i + 1 ≤ k → 3 * (21 - k) + c ≤ f → 3 * (9 - w) + c ≤ d → txR T kd pl vl tok cur p → phB P k → pX T H f mode w p k = R → kT nj_M nX0 L xs d mt (mQ (sn b kd pl vl ky len tok cur0 tak0 tl fk fp z P0) (pSn T b kd pl vl ky len tok tl fk fp z (R)) h0) (hk (sn b kd pl vl ky len tok cur0 tak0 tl fk fp z P0)) h0 15 [(0, .ref 54), (1, .ref 1), (2, .ref 7), (3, .int (Int32.ofNat w)), (4, .int (Int32.ofNat i))] [] (sn b kd pl vl ky len tok cur tak tl fk fp z P)
theorem pX_k {T : Nat → Tk} {H : Hs} : ∀ (f m w p k p1 k1 : Nat), k ≤ 20 → pX T H f m w p k = .inr (p1, k1) → (if m ≤ 2 then k + 1 else k) ≤ k1 ∧ k1 ≤ 20 := by
  intro f
  induction f with
  | zero => intro m w p k p1 k1 _ h; cases h
  | succ f ih =>
    intro m w p k p1 k1 hk h
    have hKM : ∀ {q : Nat} {ns : List (List Nat)}, k < 20 → (pK T q (k + 1) ns = .inr (p1, k1) ∨ pM T q (k + 1) = .inr (p1, k1)) → k + 1 ≤ k1 ∧ k1 ≤ 20 := fun {q ns} hk2 hh => by
      have e : k1 = k + 1 := by
        rcases hh with hh | hh
        · obtain ⟨a, c, -, e⟩ := sBind_r hh
          cases e
          rfl
        · unfold pM at hh
          split at hh
          · cases hh
          · obtain ⟨a, c, -, e⟩ := sBind_r hh
            cases e
            rfl
      omega
    match m with
    | 0 =>
      show k + 1 ≤ k1 ∧ k1 ≤ 20
      replace h : (if ¬ (T p).1 = 40 ∧ ((T p).1 < 113 ∨ 121 < (T p).1) then .inl (1, (T p).2.1) else if 20 ≤ k ∨ 8 < w then .inl (4, (T p).2.1) else if (T p).1 = 40 then sBind (pX T H f 2 (w + 1) (T p).2.2.2.2 (k + 1)) (fun p2 k2 => if (T p2).1 = 41 then .inr ((T p2).2.2.2.2, k2) else .inl (1, (T p2).2.1)) else if (T p).1 = 113 then pX T H f 0 (w + 1) (T p).2.2.2.2 (k + 1) else if (T p).1 = 114 ∨ (T p).1 = 115 then .inr ((T p).2.2.2.2, k + 1) else if (T p).1 = 116 then pK T (T p).2.2.2.2 (k + 1) H.1.2.2.1 else if (T p).1 = 117 then pK T (T p).2.2.2.2 (k + 1) H.1.2.1 else pM T (T p).2.2.2.2 (k + 1)) = .inr (p1, k1) := h
      split at h
      · cases h
      · split at h
        · cases h
        · next hn =>
          have hk2 : k < 20 := by omega
          split at h
          · obtain ⟨a, c, e1, e2⟩ := sBind_r h
            have k2 := ih 2 _ _ _ _ _ (by omega) e1
            have k3 : k + 1 + 1 ≤ c ∧ c ≤ 20 := k2
            split at e2
            · cases e2
              omega
            · cases e2
          · split at h
            · have k2 := ih 0 _ _ _ _ _ (by omega) h
              have k3 : k + 1 + 1 ≤ k1 ∧ k1 ≤ 20 := k2
              omega
            · split at h
              · cases h
                omega
              · split at h
                · exact hKM hk2 (Or.inl h)
                · split at h
                  · exact hKM hk2 (Or.inl h)
                  · exact hKM (ns := []) hk2 (Or.inr h)
    | 1 =>
      obtain ⟨a, c, e1, e2⟩ := sBind_r (show sBind _ _ = _ from h)
      have k2 : k + 1 ≤ c ∧ c ≤ 20 := ih 0 _ _ _ _ _ hk e1
      have k3 : c ≤ k1 ∧ k1 ≤ 20 := ih 3 _ _ _ _ _ k2.2 e2
      show k + 1 ≤ k1 ∧ k1 ≤ 20
      omega
    | 2 =>
      obtain ⟨a, c, e1, e2⟩ := sBind_r (show sBind _ _ = _ from h)
      have k2 : k + 1 ≤ c ∧ c ≤ 20 := ih 1 _ _ _ _ _ hk e1
      have k3 : c ≤ k1 ∧ k1 ≤ 20 := ih 4 _ _ _ _ _ k2.2 e2
      show k + 1 ≤ k1 ∧ k1 ≤ 20
      omega
    | 3 =>
      show k ≤ k1 ∧ k1 ≤ 20
      have h2 : (if (T p).1 = 112 then sBind (pX T H f 0 w (T p).2.2.2.2 k) (fun p1 k1 => pX T H f 3 w p1 k1) else .inr (p, k)) = .inr (p1, k1) := h
      split at h2
      · obtain ⟨a, c, e1, e2⟩ := sBind_r h2
        have k2 : k + 1 ≤ c ∧ c ≤ 20 := ih 0 _ _ _ _ _ hk e1
        have k3 : c ≤ k1 ∧ k1 ≤ 20 := ih 3 _ _ _ _ _ k2.2 e2
        omega
      · cases h2
        omega
    | m + 4 =>
      rw [if_neg (by omega)]
      have h2 : (if (T p).1 = 111 then sBind (pX T H f 1 w (T p).2.2.2.2 k) (fun p1 k1 => pX T H f 4 w p1 k1) else .inr (p, k)) = .inr (p1, k1) := h
      split at h2
      · obtain ⟨a, c, e1, e2⟩ := sBind_r h2
        have k2 : k + 1 ≤ c ∧ c ≤ 20 := ih 1 _ _ _ _ _ hk e1
        have k3 : c ≤ k1 ∧ k1 ≤ 20 := ih 4 _ _ _ _ _ k2.2 e2
        omega
      · cases h2
        omega
section DSC
variable {L : Nat} {xs : Nat → Int32} {b kd pl : Nat → Int32} {vl ky : Nat → Int64} {len tok tl fk fp : Int32} {T : Nat → Tk} {z : Ho} {H : Hs}
set_option maxHeartbeats 4000000 in
theorem all_loop (hT : tkOk T) {f : Nat} (hs : sS L xs b kd pl vl ky len tok tl fk fp T z H 140 0 1 f) (hl : sL L xs b kd pl vl ky len tok tl fk fp T z H nm_139 3 2 f) : sL L xs b kd pl vl ky len tok tl fk fp T z H nm_139 3 2 (f + 1) := by
  intro w p k d i cur tak cur0 tak0 P P0 R h0 hw hk20 hi hf hd h hP hR
  obtain ⟨d1, rfl⟩ : ∃ d1, d = d1 + 1 := ⟨d - 1, by omega⟩
  have hb := (hT.2.2.1 p).1
  have q0 : nj_cmp .ge (Int32.ofNat i) (Int32.ofNat 20) = false := by
    rw [(cmp_nat (by omega) (by omega)).1]
    exact decide_eq_false (by omega)
  have q1 : nj_cmp .ne (Int32.ofNat (T p).1) (Int32.ofNat 112) = !decide ((T p).1 = 112) := ne_of (by omega) (by omega)
  have hR2 : (if (T p).1 = 112 then sBind (pX T H f 0 w (T p).2.2.2.2 k) (fun p1 k1 => pX T H f 3 w p1 k1) else .inr (p, k)) = R := hR
  refine xw_go nostop 20 (fun K e => And.intro (fun c => nomatch (q0.symm.trans c)) (fun _ => e _ _ _ _ (kT_call rfl rfl rfl rfl (r_kind (L := L) (xs := xs) (b := b) (ky := ky) (len := len) (tl := tl) (fk := fk) (fp := fp) (tak := tak) hT h) ⟨rfl, rfl, rfl, rfl, rfl, rfl, trivial⟩ rfl rfl (fun rv l1 hP1 _ => ?_))))
  obtain ⟨rfl, rfl⟩ := hP1
  refine kT_pic (l2 := (sn b kd pl vl ky len tok cur tak tl fk fp z P)) rfl ?_
  by_cases cw : (T p).1 = 112
  · rw [decide_eq_true cw] at q1
    rw [if_pos cw] at hR2
    refine xw_go nostop 20 (fun K e => And.intro (fun c => nomatch (q1.symm.trans c)) (fun _ => e _ _ _ _ (kT_call rfl rfl rfl rfl (r_adv (L := L) (xs := xs) (b := b) (ky := ky) (len := len) (tl := tl) (fk := fk) (fp := fp) (tak := tak) hT h) ⟨rfl, rfl, rfl, rfl, rfl, rfl, trivial⟩ rfl rfl (fun rv l1 hP1 _ => ?_))))
    obtain ⟨rfl, cur1, h1, rfl⟩ := hP1
    refine kT_pic (l2 := (sn b kd pl vl ky len tok cur1 tak tl fk fp z P)) rfl ?_
    have hsub := hs w (T p).2.2.2.2 k d1 cur1 tak P hw hk20 (by omega) (by omega) h1 hP
    refine xw_go nostop 20 (fun K e => e _ _ _ _ (kT_call rfl rfl rfl rfl hsub ⟨rfl, rfl, rfl, rfl, rfl, rfl, rfl, rfl, rfl, rfl, rfl, rfl, rfl, rfl, rfl, rfl, rfl, rfl, rfl, rfl, rfl, rfl, rfl, rfl, rfl, rfl, trivial⟩ rfl rfl (fun rv l1 hP1 _ => ?_)))
    rcases hP1 with ⟨q, k1, P1, cur2, tak2, e1, rfl, h2, hP2, rfl⟩ | ⟨e2, q, P1, cur2, tak2, e1, rfl, rfl⟩
    · refine kT_pic (l2 := (sn b kd pl vl ky len tok cur2 tak2 tl fk fp z P1)) rfl ?_
      have kk : k + 1 ≤ k1 ∧ k1 ≤ 20 := pX_k f 0 w _ k q k1 hk20 e1
      rw [e1] at hR2
      refine xw_go nostop 20 (fun K e => And.intro (fun _ => e _ _ _ _ (kT_call rfl rfl rfl rfl (a_add (L := L) (xs := xs) hP2 _ _ _) ⟨rfl, rfl, rfl, rfl, rfl, trivial⟩ rfl rfl (fun rv l1 hP1 _ => ?_))) (fun c => nomatch (show true = false from c)))
      obtain ⟨rfl, P2, hP3, rfl⟩ := hP1
      refine kT_pic (l2 := (sn b kd pl vl ky len tok cur2 tak2 tl fk fp z P2)) rfl ?_
      have hn := hl w q k1 (d1 + 1) (i + 1) cur2 tak2 cur0 tak0 P2 P0 R h0 hw kk.2 (by omega) (by omega) (by omega) h2 hP3 hR2
      rw [← i32_succ] at hn
      exact xw_go (fun pc => pc == 15) 20 (fun K e => e _ _ _ _ (kT_sort rfl hn))
    · refine kT_pic (l2 := (sn b kd pl vl ky len tok cur2 tak2 tl (Int32.ofNat e2) (Int32.ofNat q) z P1)) rfl ?_
      rw [e1] at hR2
      exact xw_go nostop 20 (fun K e => And.intro (fun c => nomatch (show false = true from c)) (fun _ => e _ _ _ _ (kT_end rfl rfl (Or.inr ⟨e2, q, P1, cur2, tak2, hR2.symm, rfl, rfl⟩))))
  · rw [decide_eq_false cw] at q1
    rw [if_neg cw] at hR2
    exact xw_go nostop 20 (fun K e => And.intro (fun _ => e _ _ _ _ (kT_end rfl rfl (Or.inl ⟨p, k, P, cur, tak, hR2.symm, rfl, h, hP, rfl⟩))) (fun c => nomatch (q1.symm.trans c)))
set_option maxHeartbeats 4000000 in
theorem all_step {f : Nat} (hs : sS L xs b kd pl vl ky len tok tl fk fp T z H 140 0 1 f) (hl : sL L xs b kd pl vl ky len tok tl fk fp T z H nm_139 3 2 f) : sS L xs b kd pl vl ky len tok tl fk fp T z H 139 1 2 (f + 1) := by
  intro w p k d cur tak P hw hk20 hf hd h hP
  obtain ⟨d1, rfl⟩ : ∃ d1, d = d1 + 1 := ⟨d - 1, by omega⟩
  have hsub := hs w p k d1 cur tak P hw hk20 (by omega) (by omega) h hP
  have eR : pX T H (f + 1) 1 w p k = sBind (pX T H f 0 w p k) (fun p1 k1 => pX T H f 3 w p1 k1) := rfl
  refine mS_of rfl (fun h0 => ?_)
  refine xw_go nostop 20 (fun K e => e _ _ _ _ (kT_call rfl rfl rfl rfl hsub ⟨rfl, rfl, rfl, rfl, rfl, rfl, rfl, rfl, rfl, rfl, rfl, rfl, rfl, rfl, rfl, rfl, rfl, rfl, rfl, rfl, rfl, rfl, rfl, rfl, rfl, rfl, trivial⟩ rfl rfl (fun rv l1 hP1 _ => ?_)))
  rcases hP1 with ⟨q, k1, P1, cur2, tak2, e1, rfl, h2, hP2, rfl⟩ | ⟨e2, q, P1, cur2, tak2, e1, rfl, rfl⟩
  · refine kT_pic (l2 := (sn b kd pl vl ky len tok cur2 tak2 tl fk fp z P1)) rfl ?_
    have kk : k + 1 ≤ k1 ∧ k1 ≤ 20 := pX_k f 0 w _ k q k1 hk20 e1
    have hn := hl w q k1 (d1 + 1) 0 cur2 tak2 cur tak P1 P (pX T H (f + 1) 1 w p k) h0 hw kk.2 (by omega) (by omega) (by omega) h2 hP2 (by rw [eR, e1]; rfl)
    exact xw_go (fun pc => pc == 15) 20 (fun K e => And.intro (fun _ => e _ _ _ _ (kT_sort rfl hn)) (fun c => nomatch (show true = false from c)))
  · refine kT_pic (l2 := (sn b kd pl vl ky len tok cur2 tak2 tl (Int32.ofNat e2) (Int32.ofNat q) z P1)) rfl ?_
    exact xw_go nostop 20 (fun K e => And.intro (fun c => nomatch (show false = true from c)) (fun _ => e _ _ _ _ (kT_end rfl rfl (Or.inr ⟨e2, q, P1, cur2, tak2, by rw [eR, e1]; rfl, rfl, rfl⟩))))
set_option maxHeartbeats 4000000 in
theorem cond_loop (hT : tkOk T) {f : Nat} (hs : sS L xs b kd pl vl ky len tok tl fk fp T z H 139 1 2 f) (hl : sL L xs b kd pl vl ky len tok tl fk fp T z H nm_138 4 3 f) : sL L xs b kd pl vl ky len tok tl fk fp T z H nm_138 4 3 (f + 1) := by
  intro w p k d i cur tak cur0 tak0 P P0 R h0 hw hk20 hi hf hd h hP hR
  obtain ⟨d1, rfl⟩ : ∃ d1, d = d1 + 1 := ⟨d - 1, by omega⟩
  have hb := (hT.2.2.1 p).1
  have q0 : nj_cmp .ge (Int32.ofNat i) (Int32.ofNat 20) = false := by
    rw [(cmp_nat (by omega) (by omega)).1]
    exact decide_eq_false (by omega)
  have q1 : nj_cmp .ne (Int32.ofNat (T p).1) (Int32.ofNat 111) = !decide ((T p).1 = 111) := ne_of (by omega) (by omega)
  have hR2 : (if (T p).1 = 111 then sBind (pX T H f 1 w (T p).2.2.2.2 k) (fun p1 k1 => pX T H f 4 w p1 k1) else .inr (p, k)) = R := hR
  refine xw_go nostop 20 (fun K e => And.intro (fun c => nomatch (q0.symm.trans c)) (fun _ => e _ _ _ _ (kT_call rfl rfl rfl rfl (r_kind (L := L) (xs := xs) (b := b) (ky := ky) (len := len) (tl := tl) (fk := fk) (fp := fp) (tak := tak) hT h) ⟨rfl, rfl, rfl, rfl, rfl, rfl, trivial⟩ rfl rfl (fun rv l1 hP1 _ => ?_))))
  obtain ⟨rfl, rfl⟩ := hP1
  refine kT_pic (l2 := (sn b kd pl vl ky len tok cur tak tl fk fp z P)) rfl ?_
  by_cases cw : (T p).1 = 111
  · rw [decide_eq_true cw] at q1
    rw [if_pos cw] at hR2
    refine xw_go nostop 20 (fun K e => And.intro (fun c => nomatch (q1.symm.trans c)) (fun _ => e _ _ _ _ (kT_call rfl rfl rfl rfl (r_adv (L := L) (xs := xs) (b := b) (ky := ky) (len := len) (tl := tl) (fk := fk) (fp := fp) (tak := tak) hT h) ⟨rfl, rfl, rfl, rfl, rfl, rfl, trivial⟩ rfl rfl (fun rv l1 hP1 _ => ?_))))
    obtain ⟨rfl, cur1, h1, rfl⟩ := hP1
    refine kT_pic (l2 := (sn b kd pl vl ky len tok cur1 tak tl fk fp z P)) rfl ?_
    have hsub := hs w (T p).2.2.2.2 k d1 cur1 tak P hw hk20 (by omega) (by omega) h1 hP
    refine xw_go nostop 20 (fun K e => e _ _ _ _ (kT_call rfl rfl rfl rfl hsub ⟨rfl, rfl, rfl, rfl, rfl, rfl, rfl, rfl, rfl, rfl, rfl, rfl, rfl, rfl, rfl, rfl, rfl, rfl, rfl, rfl, rfl, rfl, rfl, rfl, rfl, rfl, trivial⟩ rfl rfl (fun rv l1 hP1 _ => ?_)))
    rcases hP1 with ⟨q, k1, P1, cur2, tak2, e1, rfl, h2, hP2, rfl⟩ | ⟨e2, q, P1, cur2, tak2, e1, rfl, rfl⟩
    · refine kT_pic (l2 := (sn b kd pl vl ky len tok cur2 tak2 tl fk fp z P1)) rfl ?_
      have kk : k + 1 ≤ k1 ∧ k1 ≤ 20 := pX_k f 1 w _ k q k1 hk20 e1
      rw [e1] at hR2
      refine xw_go nostop 20 (fun K e => And.intro (fun _ => e _ _ _ _ (kT_call rfl rfl rfl rfl (a_add (L := L) (xs := xs) hP2 _ _ _) ⟨rfl, rfl, rfl, rfl, rfl, trivial⟩ rfl rfl (fun rv l1 hP1 _ => ?_))) (fun c => nomatch (show true = false from c)))
      obtain ⟨rfl, P2, hP3, rfl⟩ := hP1
      refine kT_pic (l2 := (sn b kd pl vl ky len tok cur2 tak2 tl fk fp z P2)) rfl ?_
      have hn := hl w q k1 (d1 + 1) (i + 1) cur2 tak2 cur0 tak0 P2 P0 R h0 hw kk.2 (by omega) (by omega) (by omega) h2 hP3 hR2
      rw [← i32_succ] at hn
      exact xw_go (fun pc => pc == 15) 20 (fun K e => e _ _ _ _ (kT_sort rfl hn))
    · refine kT_pic (l2 := (sn b kd pl vl ky len tok cur2 tak2 tl (Int32.ofNat e2) (Int32.ofNat q) z P1)) rfl ?_
      rw [e1] at hR2
      exact xw_go nostop 20 (fun K e => And.intro (fun c => nomatch (show false = true from c)) (fun _ => e _ _ _ _ (kT_end rfl rfl (Or.inr ⟨e2, q, P1, cur2, tak2, hR2.symm, rfl, rfl⟩))))
  · rw [decide_eq_false cw] at q1
    rw [if_neg cw] at hR2
    exact xw_go nostop 20 (fun K e => And.intro (fun _ => e _ _ _ _ (kT_end rfl rfl (Or.inl ⟨p, k, P, cur, tak, hR2.symm, rfl, h, hP, rfl⟩))) (fun c => nomatch (q1.symm.trans c)))
set_option maxHeartbeats 4000000 in
theorem cond_step {f : Nat} (hs : sS L xs b kd pl vl ky len tok tl fk fp T z H 139 1 2 f) (hl : sL L xs b kd pl vl ky len tok tl fk fp T z H nm_138 4 3 f) : sS L xs b kd pl vl ky len tok tl fk fp T z H 138 2 3 (f + 1) := by
  intro w p k d cur tak P hw hk20 hf hd h hP
  obtain ⟨d1, rfl⟩ : ∃ d1, d = d1 + 1 := ⟨d - 1, by omega⟩
  have hsub := hs w p k d1 cur tak P hw hk20 (by omega) (by omega) h hP
  have eR : pX T H (f + 1) 2 w p k = sBind (pX T H f 1 w p k) (fun p1 k1 => pX T H f 4 w p1 k1) := rfl
  refine mS_of rfl (fun h0 => ?_)
  refine xw_go nostop 20 (fun K e => e _ _ _ _ (kT_call rfl rfl rfl rfl hsub ⟨rfl, rfl, rfl, rfl, rfl, rfl, rfl, rfl, rfl, rfl, rfl, rfl, rfl, rfl, rfl, rfl, rfl, rfl, rfl, rfl, rfl, rfl, rfl, rfl, rfl, rfl, trivial⟩ rfl rfl (fun rv l1 hP1 _ => ?_)))
  rcases hP1 with ⟨q, k1, P1, cur2, tak2, e1, rfl, h2, hP2, rfl⟩ | ⟨e2, q, P1, cur2, tak2, e1, rfl, rfl⟩
  · refine kT_pic (l2 := (sn b kd pl vl ky len tok cur2 tak2 tl fk fp z P1)) rfl ?_
    have kk : k + 1 ≤ k1 ∧ k1 ≤ 20 := pX_k f 1 w _ k q k1 hk20 e1
    have hn := hl w q k1 (d1 + 1) 0 cur2 tak2 cur tak P1 P (pX T H (f + 1) 2 w p k) h0 hw kk.2 (by omega) (by omega) (by omega) h2 hP2 (by rw [eR, e1]; rfl)
    exact xw_go (fun pc => pc == 15) 20 (fun K e => And.intro (fun _ => e _ _ _ _ (kT_sort rfl hn)) (fun c => nomatch (show true = false from c)))
  · refine kT_pic (l2 := (sn b kd pl vl ky len tok cur2 tak2 tl (Int32.ofNat e2) (Int32.ofNat q) z P1)) rfl ?_
    exact xw_go nostop 20 (fun K e => And.intro (fun c => nomatch (show false = true from c)) (fun _ => e _ _ _ _ (kT_end rfl rfl (Or.inr ⟨e2, q, P1, cur2, tak2, by rw [eR, e1]; rfl, rfl, rfl⟩))))
set_option maxHeartbeats 8000000 in
theorem one_step (hT : tkOk T) (hN : nmOk H.1) (hn : nmR z.2.1 (nsl H.1)) {f : Nat} (hs : sS L xs b kd pl vl ky len tok tl fk fp T z H 140 0 1 f) (hc : sS L xs b kd pl vl ky len tok tl fk fp T z H 138 2 3 f) : sS L xs b kd pl vl ky len tok tl fk fp T z H 140 0 1 (f + 1) := by
  intro w p k d cur tak P hw hk20 hf hd h hP
  obtain ⟨d1, rfl⟩ : ∃ d1, d = d1 + 1 := ⟨d - 1, by omega⟩
  have hb := (hT.2.2.1 p).1
  obtain ⟨hPm, hPk⟩ := id hP
  have eR : pX T H (f + 1) 0 w p k = (if ¬ (T p).1 = 40 ∧ ((T p).1 < 113 ∨ 121 < (T p).1) then .inl (1, (T p).2.1)
      else if 20 ≤ k ∨ 8 < w then .inl (4, (T p).2.1)
      else if (T p).1 = 40 then sBind (pX T H f 2 (w + 1) (T p).2.2.2.2 (k + 1)) (fun p2 k2 => if (T p2).1 = 41 then .inr ((T p2).2.2.2.2, k2) else .inl (1, (T p2).2.1))
      else if (T p).1 = 113 then pX T H f 0 (w + 1) (T p).2.2.2.2 (k + 1)
      else if (T p).1 = 114 ∨ (T p).1 = 115 then .inr ((T p).2.2.2.2, k + 1)
      else if (T p).1 = 116 then pK T (T p).2.2.2.2 (k + 1) H.1.2.2.1
      else if (T p).1 = 117 then pK T (T p).2.2.2.2 (k + 1) H.1.2.1
      else pM T (T p).2.2.2.2 (k + 1)) := rfl
  have q40 : nj_cmp .eq (Int32.ofNat (T p).1) (Int32.ofNat 40) = decide ((T p).1 = 40) := eq_of (by omega) (by omega)
  have q113 := (cmp_nat (i := (T p).1) (j := 113) (by omega) (by omega)).2.1
  have q121 := (cmp_nat (i := (T p).1) (j := 121) (by omega) (by omega)).2.2.2.1
  refine mS_of rfl (fun h0 => ?_)
  refine xw_go nostop 20 (fun K e => e _ _ _ _ (kT_call rfl rfl rfl rfl (r_kind (L := L) (xs := xs) (b := b) (ky := ky) (len := len) (tl := tl) (fk := fk) (fp := fp) (tak := tak) hT h) ⟨rfl, rfl, rfl, rfl, rfl, rfl, trivial⟩ rfl rfl (fun rv l1 hP1 _ => ?_)))
  obtain ⟨rfl, rfl⟩ := hP1
  refine kT_pic (l2 := (sn b kd pl vl ky len tok cur tak tl fk fp z P)) rfl ?_
  by_cases hg : ¬ (T p).1 = 40 ∧ ((T p).1 < 113 ∨ 121 < (T p).1)
  · have fin : kT nj_M nX0 L xs (d1 + 1) nm_140 (mQ (sn b kd pl vl ky len tok cur tak tl fk fp z P) (pSn T b kd pl vl ky len tok tl fk fp z (pX T H (f + 1) 0 w p k)) h0) (hk (sn b kd pl vl ky len tok cur tak tl fk fp z P)) h0 27 [(0, .ref 54), (1, .ref 1), (2, .ref 7), (3, .int (Int32.ofNat w)), (4, .int (Int32.ofNat (T p).1))] [] (sn b kd pl vl ky len tok cur tak tl fk fp z P) := by
      refine xw_go nostop 20 (fun K e => e _ _ _ _ (kT_call rfl rfl rfl rfl (r_fails (L := L) (xs := xs) (b := b) (ky := ky) (len := len) (tl := tl) (fk := fk) (fp := fp) (tak := tak) hT h _) ⟨rfl, rfl, rfl, rfl, rfl, rfl, trivial⟩ rfl rfl (fun rv l1 hP1 _ => ?_)))
      obtain ⟨rfl, rfl⟩ := hP1
      refine kT_pic (l2 := (sn b kd pl vl ky len tok cur tak tl (Int32.ofNat 1) (Int32.ofNat (T p).2.1) z P)) rfl ?_
      exact xw_go nostop 20 (fun K e => e _ _ _ _ (kT_end rfl rfl (Or.inr ⟨1, (T p).2.1, P, cur, tak, by rw [eR, if_pos hg], rfl, rfl⟩)))
    rw [decide_eq_false hg.1] at q40
    by_cases a : (T p).1 < 113
    · rw [decide_eq_true a] at q113
      exact xw_go (fun pc => pc == 27) 20 (fun K e => And.intro (fun c => nomatch (q40.symm.trans c)) (fun _ => And.intro (fun _ => e _ _ _ _ (kT_sort rfl fin)) (fun c => nomatch (q113.symm.trans c))))
    · rw [decide_eq_false a] at q113
      rw [decide_eq_false (by omega)] at q121
      exact xw_go (fun pc => pc == 27) 20 (fun K e => And.intro (fun c => nomatch (q40.symm.trans c)) (fun _ => And.intro (fun c => nomatch (q113.symm.trans c)) (fun _ => And.intro (fun c => nomatch (q121.symm.trans c)) (fun _ => e _ _ _ _ (kT_sort rfl fin)))))
  · rw [if_neg hg] at eR
    suffices fin : kT nj_M nX0 L xs (d1 + 1) nm_140 (mQ (sn b kd pl vl ky len tok cur tak tl fk fp z P) (pSn T b kd pl vl ky len tok tl fk fp z (pX T H (f + 1) 0 w p k)) h0) (hk (sn b kd pl vl ky len tok cur tak tl fk fp z P)) h0 33 [(0, .ref 54), (1, .ref 1), (2, .ref 7), (3, .int (Int32.ofNat w)), (4, .int (Int32.ofNat (T p).1))] [] (sn b kd pl vl ky len tok cur tak tl fk fp z P) by
      by_cases a40 : (T p).1 = 40
      · rw [decide_eq_true a40] at q40
        exact xw_go (fun pc => pc == 33) 20 (fun K e => And.intro (fun _ => e _ _ _ _ (kT_sort rfl fin)) (fun c => nomatch (q40.symm.trans c)))
      · rw [decide_eq_false a40] at q40
        rw [decide_eq_false (by omega)] at q113
        rw [decide_eq_true (by omega)] at q121
        exact xw_go (fun pc => pc == 33) 20 (fun K e => And.intro (fun c => nomatch (q40.symm.trans c)) (fun _ => And.intro (fun c => nomatch (q113.symm.trans c)) (fun _ => And.intro (fun _ => e _ _ _ _ (kT_sort rfl fin)) (fun c => nomatch (q121.symm.trans c)))))
    have q20 := (cmp_nat (i := k) (j := 20) (by omega) (by omega)).1
    rw [← hPk] at q20
    have q8 := (cmp_nat (i := w) (j := 8) (by omega) (by omega)).2.2.2.1
    by_cases ht : 20 ≤ k ∨ 8 < w
    · have fin : kT nj_M nX0 L xs (d1 + 1) nm_140 (mQ (sn b kd pl vl ky len tok cur tak tl fk fp z P) (pSn T b kd pl vl ky len tok tl fk fp z (pX T H (f + 1) 0 w p k)) h0) (hk (sn b kd pl vl ky len tok cur tak tl fk fp z P)) h0 48 [(0, .ref 54), (1, .ref 1), (2, .ref 7), (3, .int (Int32.ofNat w)), (4, .int (Int32.ofNat (T p).1))] [] (sn b kd pl vl ky len tok cur tak tl fk fp z P) := by
        refine xw_go nostop 20 (fun K e => e _ _ _ _ (kT_call rfl rfl rfl rfl (r_fails (L := L) (xs := xs) (b := b) (ky := ky) (len := len) (tl := tl) (fk := fk) (fp := fp) (tak := tak) hT h _) ⟨rfl, rfl, rfl, rfl, rfl, rfl, trivial⟩ rfl rfl (fun rv l1 hP1 _ => ?_)))
        obtain ⟨rfl, rfl⟩ := hP1
        refine kT_pic (l2 := (sn b kd pl vl ky len tok cur tak tl (Int32.ofNat 4) (Int32.ofNat (T p).2.1) z P)) rfl ?_
        exact xw_go nostop 20 (fun K e => e _ _ _ _ (kT_end rfl rfl (Or.inr ⟨4, (T p).2.1, P, cur, tak, by rw [eR, if_pos ht], rfl, rfl⟩)))
      by_cases a : 20 ≤ k
      · rw [decide_eq_true a] at q20
        exact xw_go (fun pc => pc == 48) 20 (fun K e => And.intro (fun _ => e _ _ _ _ (kT_sort rfl fin)) (fun c => nomatch (q20.symm.trans c)))
      · rw [decide_eq_false a] at q20
        rw [decide_eq_false (by omega)] at q8
        exact xw_go (fun pc => pc == 48) 20 (fun K e => And.intro (fun c => nomatch (q20.symm.trans c)) (fun _ => And.intro (fun c => nomatch (q8.symm.trans c)) (fun _ => e _ _ _ _ (kT_sort rfl fin))))
    · rw [if_neg ht] at eR
      rw [decide_eq_false (by omega)] at q20
      rw [decide_eq_true (by omega)] at q8
      have hP2 : phB (P.1, P.2.1, P.2.2.1, P.2.2.2.1, P.2.2.2.2.1, P.2.2.2.2.2 + Int32.ofInt 1) (k + 1) := ⟨hPm, by show P.2.2.2.2.2 + Int32.ofInt 1 = _; rw [hPk, i32_succ]⟩
      refine xw_go nostop 40 (fun K e => And.intro (fun c => nomatch (q20.symm.trans c)) (fun _ => And.intro (fun _ => And.intro rfl (e _ _ _ _ (kT_call rfl rfl rfl rfl (r_adv (L := L) (xs := xs) (b := b) (ky := ky) (len := len) (tl := tl) (fk := fk) (fp := fp) (tak := tak) hT h) ⟨rfl, rfl, rfl, rfl, rfl, rfl, trivial⟩ rfl rfl (fun rv l1 hP1 _ => ?_)))) (fun c => nomatch (q8.symm.trans c))))
      obtain ⟨rfl, cur1, h1, rfl⟩ := hP1
      refine kT_pic (l2 := (sn b kd pl vl ky len tok cur1 tak tl fk fp z (P.1, P.2.1, P.2.2.1, P.2.2.2.1, P.2.2.2.2.1, P.2.2.2.2.2 + Int32.ofInt 1))) rfl ?_
      generalize (P.1, P.2.1, P.2.2.1, P.2.2.2.1, P.2.2.2.2.1, P.2.2.2.2.2 + Int32.ofInt 1) = P2 at hP2 ⊢
      suffices fin : kT nj_M nX0 L xs (d1 + 1) nm_140 (mQ (sn b kd pl vl ky len tok cur tak tl fk fp z P) (pSn T b kd pl vl ky len tok tl fk fp z (pX T H (f + 1) 0 w p k)) h0) (hk (sn b kd pl vl ky len tok cur tak tl fk fp z P)) h0 70 [(0, .ref 54), (1, .ref 1), (2, .ref 7), (3, .int (Int32.ofNat w)), (4, .int (Int32.ofNat (T p).1))] [.int (Int32.ofNat (T p).1)] (sn b kd pl vl ky len tok cur1 tak tl fk fp z P2) from xw_go nostop 20 (fun K e => e _ _ _ _ (kT_sort rfl fin))
      by_cases a40 : (T p).1 = 40
      · refine kT_pure rfl rfl (show nj_pure _ _ _ _ _ = some (128, [(0, .ref 54), (1, .ref 1), (2, .ref 7), (3, .int (Int32.ofNat w)), (4, .int (Int32.ofNat (T p).1))], []) from by rw [a40]; rfl) ?_
        rw [if_pos a40] at eR
        have hsub := hc (w + 1) (T p).2.2.2.2 (k + 1) d1 cur1 tak P2 (by omega) (by omega) (by omega) (by omega) h1 hP2
        rw [← i32_succ w] at hsub
        refine xw_go nostop 20 (fun K e => e _ _ _ _ (kT_call rfl rfl rfl rfl hsub ⟨rfl, rfl, rfl, rfl, rfl, rfl, rfl, rfl, rfl, rfl, rfl, rfl, rfl, rfl, rfl, rfl, rfl, rfl, rfl, rfl, rfl, rfl, rfl, rfl, rfl, rfl, trivial⟩ rfl rfl (fun rv l1 hP1 _ => ?_)))
        rcases hP1 with ⟨q, k1, P1, cur2, tak2, e1, rfl, h2, hP3, rfl⟩ | ⟨e2, q, P1, cur2, tak2, e1, rfl, rfl⟩
        · refine kT_pic (l2 := (sn b kd pl vl ky len tok cur2 tak2 tl fk fp z P1)) rfl ?_
          rw [e1] at eR
          have eR2 : pX T H (f + 1) 0 w p k = (if (T q).1 = 41 then .inr ((T q).2.2.2.2, k1) else .inl (1, (T q).2.1)) := eR
          obtain ⟨d2, rfl⟩ : ∃ d2, d1 = d2 + 1 := ⟨d1 - 1, by omega⟩
          refine xw_go nostop 20 (fun K e => And.intro (fun c => nomatch (show false = true from c)) (fun _ => e _ _ _ _ (kT_call rfl rfl rfl rfl (r_takes (L := L) (xs := xs) (b := b) (ky := ky) (len := len) (tl := tl) (fk := fk) (fp := fp) (d := d2) (tak := tak2) hT h2 (k := 41) (by decide)) ⟨rfl, rfl, rfl, rfl, rfl, rfl, trivial⟩ rfl rfl (fun rv l1 hP1 _ => ?_))))
          rcases hP1 with ⟨e3, rfl, cur3, h3, rfl⟩ | ⟨e3, rfl, rfl⟩
          · refine kT_pic (l2 := (sn b kd pl vl ky len tok cur3 tak2 tl fk fp z P1)) rfl ?_
            exact xw_go nostop 20 (fun K e => And.intro (fun c => nomatch (show false = true from c)) (fun _ => e _ _ _ _ (kT_end rfl rfl (Or.inl ⟨_, k1, P1, cur3, tak2, by rw [eR2, if_pos e3], rfl, h3, hP3, rfl⟩))))
          · refine kT_pic (l2 := (sn b kd pl vl ky len tok cur2 tak2 tl (Int32.ofNat 1) (Int32.ofNat (T q).2.1) z P1)) rfl ?_
            exact xw_go nostop 20 (fun K e => And.intro (fun _ => e _ _ _ _ (kT_end rfl rfl (Or.inr ⟨1, _, P1, cur2, tak2, by rw [eR2, if_neg e3], rfl, rfl⟩))) (fun c => nomatch (show true = false from c)))
        · refine kT_pic (l2 := (sn b kd pl vl ky len tok cur2 tak2 tl (Int32.ofNat e2) (Int32.ofNat q) z P1)) rfl ?_
          exact xw_go nostop 20 (fun K e => And.intro (fun _ => e _ _ _ _ (kT_end rfl rfl (Or.inr ⟨e2, q, P1, cur2, tak2, by rw [eR, e1]; rfl, rfl, rfl⟩))) (fun c => nomatch (show true = false from c)))
      · rw [if_neg a40] at eR
        by_cases a113 : (T p).1 = 113
        · refine kT_pure rfl rfl (show nj_pure _ _ _ _ _ = some (155, [(0, .ref 54), (1, .ref 1), (2, .ref 7), (3, .int (Int32.ofNat w)), (4, .int (Int32.ofNat (T p).1))], []) from by rw [a113]; rfl) ?_
          rw [if_pos a113] at eR
          have hsub := hs (w + 1) (T p).2.2.2.2 (k + 1) d1 cur1 tak P2 (by omega) (by omega) (by omega) (by omega) h1 hP2
          rw [← i32_succ w] at hsub
          refine xw_go nostop 20 (fun K e => e _ _ _ _ (kT_call rfl rfl rfl rfl hsub ⟨rfl, rfl, rfl, rfl, rfl, rfl, rfl, rfl, rfl, rfl, rfl, rfl, rfl, rfl, rfl, rfl, rfl, rfl, rfl, rfl, rfl, rfl, rfl, rfl, rfl, rfl, trivial⟩ rfl rfl (fun rv l1 hP1 _ => ?_)))
          rcases hP1 with ⟨q, k1, P1, cur2, tak2, e1, rfl, h2, hP3, rfl⟩ | ⟨e2, q, P1, cur2, tak2, e1, rfl, rfl⟩
          · refine kT_pic (l2 := (sn b kd pl vl ky len tok cur2 tak2 tl fk fp z P1)) rfl ?_
            refine xw_go nostop 20 (fun K e => And.intro (fun c => nomatch (show false = true from c)) (fun _ => e _ _ _ _ (kT_call rfl rfl rfl rfl (a_add (L := L) (xs := xs) hP3 _ _ _) ⟨rfl, rfl, rfl, rfl, rfl, trivial⟩ rfl rfl (fun rv l1 hP1 _ => ?_))))
            obtain ⟨rfl, P4, hP4, rfl⟩ := hP1
            refine kT_pic (l2 := (sn b kd pl vl ky len tok cur2 tak2 tl fk fp z P4)) rfl ?_
            exact xw_go nostop 20 (fun K e => And.intro (fun c => nomatch (show false = true from c)) (fun _ => e _ _ _ _ (kT_end rfl rfl (Or.inl ⟨q, k1, P4, cur2, tak2, by rw [eR, e1], rfl, h2, hP4, rfl⟩))))
          · refine kT_pic (l2 := (sn b kd pl vl ky len tok cur2 tak2 tl (Int32.ofNat e2) (Int32.ofNat q) z P1)) rfl ?_
            exact xw_go nostop 20 (fun K e => And.intro (fun _ => e _ _ _ _ (kT_end rfl rfl (Or.inr ⟨e2, q, P1, cur2, tak2, by rw [eR, e1], rfl, rfl⟩))) (fun c => nomatch (show true = false from c)))
        · rw [if_neg a113] at eR
          by_cases a14 : (T p).1 = 114 ∨ (T p).1 = 115
          · rw [if_pos a14] at eR
            have fin2 : kT nj_M nX0 L xs (d1 + 1) nm_140 (mQ (sn b kd pl vl ky len tok cur tak tl fk fp z P) (pSn T b kd pl vl ky len tok tl fk fp z (pX T H (f + 1) 0 w p k)) h0) (hk (sn b kd pl vl ky len tok cur tak tl fk fp z P)) h0 184 [(0, .ref 54), (1, .ref 1), (2, .ref 7), (3, .int (Int32.ofNat w)), (4, .int (Int32.ofNat (T p).1))] [] (sn b kd pl vl ky len tok cur1 tak tl fk fp z P2) := by
              refine xw_go nostop 20 (fun K e => e _ _ _ _ (kT_call rfl rfl rfl rfl (a_add (L := L) (xs := xs) hP2 _ _ _) ⟨rfl, rfl, rfl, rfl, rfl, trivial⟩ rfl rfl (fun rv l1 hP1 _ => ?_)))
              obtain ⟨rfl, P4, hP4, rfl⟩ := hP1
              refine kT_pic (l2 := (sn b kd pl vl ky len tok cur1 tak tl fk fp z P4)) rfl ?_
              exact xw_go nostop 20 (fun K e => e _ _ _ _ (kT_end rfl rfl (Or.inl ⟨_, k + 1, P4, cur1, tak, eR, rfl, h1, hP4, rfl⟩)))
            rcases a14 with a14 | a14
            · refine kT_pure rfl rfl (show nj_pure _ _ _ _ _ = some (184, [(0, .ref 54), (1, .ref 1), (2, .ref 7), (3, .int (Int32.ofNat w)), (4, .int (Int32.ofNat (T p).1))], []) from by rw [a14]; rfl) ?_
              exact fin2
            · refine kT_pure rfl rfl (show nj_pure _ _ _ _ _ = some (184, [(0, .ref 54), (1, .ref 1), (2, .ref 7), (3, .int (Int32.ofNat w)), (4, .int (Int32.ofNat (T p).1))], []) from by rw [a14]; rfl) ?_
              exact fin2
          · rw [if_neg a14] at eR
            obtain ⟨d2, rfl⟩ : ∃ d2, d1 = d2 + 2 := ⟨d1 - 2, by omega⟩
            by_cases a16 : (T p).1 = 116
            · refine kT_pure rfl rfl (show nj_pure _ _ _ _ _ = some (193, [(0, .ref 54), (1, .ref 1), (2, .ref 7), (3, .int (Int32.ofNat w)), (4, .int (Int32.ofNat (T p).1))], []) from by rw [a16]; rfl) ?_
              rw [if_pos a16] at eR
              refine xw_go nostop 20 (fun K e => e _ _ _ _ (kT_call rfl rfl rfl rfl (rk_errs (L := L) (xs := xs) (b := b) (ky := ky) (len := len) (tl := tl) (fk := fk) (fp := fp) (d := d2) (tak := tak) hT h1 hN hn hP2 _) ⟨rfl, rfl, rfl, rfl, rfl, rfl, rfl, rfl, rfl, rfl, rfl, rfl, rfl, rfl, rfl, rfl, rfl, rfl, rfl, rfl, rfl, rfl, rfl, rfl, rfl, rfl, trivial⟩ rfl rfl (fun rv l1 hP1 _ => ?_)))
              rw [← eR] at hP1
              rcases hP1 with ⟨q, k1, P1, cur2, tak2, e1, rfl, h2, hP3, rfl⟩ | ⟨e2, q, P1, cur2, tak2, e1, rfl, rfl⟩
              · refine kT_pic (l2 := (sn b kd pl vl ky len tok cur2 tak2 tl fk fp z P1)) rfl ?_
                exact xw_go nostop 20 (fun K e => e _ _ _ _ (kT_end rfl rfl (Or.inl ⟨q, k1, P1, cur2, tak2, e1, rfl, h2, hP3, rfl⟩)))
              · refine kT_pic (l2 := (sn b kd pl vl ky len tok cur2 tak2 tl (Int32.ofNat e2) (Int32.ofNat q) z P1)) rfl ?_
                exact xw_go nostop 20 (fun K e => e _ _ _ _ (kT_end rfl rfl (Or.inr ⟨e2, q, P1, cur2, tak2, e1, rfl, rfl⟩)))
            · rw [if_neg a16] at eR
              by_cases a17 : (T p).1 = 117
              · refine kT_pure rfl rfl (show nj_pure _ _ _ _ _ = some (203, [(0, .ref 54), (1, .ref 1), (2, .ref 7), (3, .int (Int32.ofNat w)), (4, .int (Int32.ofNat (T p).1))], []) from by rw [a17]; rfl) ?_
                rw [if_pos a17] at eR
                refine xw_go nostop 20 (fun K e => e _ _ _ _ (kT_call rfl rfl rfl rfl (rk_pers (L := L) (xs := xs) (b := b) (ky := ky) (len := len) (tl := tl) (fk := fk) (fp := fp) (d := d2) (tak := tak) hT h1 hN hn hP2 _) ⟨rfl, rfl, rfl, rfl, rfl, rfl, rfl, rfl, rfl, rfl, rfl, rfl, rfl, rfl, rfl, rfl, rfl, rfl, rfl, rfl, rfl, rfl, rfl, rfl, rfl, rfl, trivial⟩ rfl rfl (fun rv l1 hP1 _ => ?_)))
                rw [← eR] at hP1
                rcases hP1 with ⟨q, k1, P1, cur2, tak2, e1, rfl, h2, hP3, rfl⟩ | ⟨e2, q, P1, cur2, tak2, e1, rfl, rfl⟩
                · refine kT_pic (l2 := (sn b kd pl vl ky len tok cur2 tak2 tl fk fp z P1)) rfl ?_
                  exact xw_go nostop 20 (fun K e => e _ _ _ _ (kT_end rfl rfl (Or.inl ⟨q, k1, P1, cur2, tak2, e1, rfl, h2, hP3, rfl⟩)))
                · refine kT_pic (l2 := (sn b kd pl vl ky len tok cur2 tak2 tl (Int32.ofNat e2) (Int32.ofNat q) z P1)) rfl ?_
                  exact xw_go nostop 20 (fun K e => e _ _ _ _ (kT_end rfl rfl (Or.inr ⟨e2, q, P1, cur2, tak2, e1, rfl, rfl⟩)))
              · rw [if_neg a17] at eR
                have fin2 : kT nj_M nX0 L xs (d2 + 2 + 1) nm_140 (mQ (sn b kd pl vl ky len tok cur tak tl fk fp z P) (pSn T b kd pl vl ky len tok tl fk fp z (pX T H (f + 1) 0 w p k)) h0) (hk (sn b kd pl vl ky len tok cur tak tl fk fp z P)) h0 213 [(0, .ref 54), (1, .ref 1), (2, .ref 7), (3, .int (Int32.ofNat w)), (4, .int (Int32.ofNat (T p).1))] [] (sn b kd pl vl ky len tok cur1 tak tl fk fp z P2) := by
                  refine xw_go nostop 20 (fun K e => e _ _ _ _ (kT_call rfl rfl rfl rfl (rk_meas (L := L) (xs := xs) (b := b) (ky := ky) (len := len) (tl := tl) (fk := fk) (fp := fp) (d := d2) (tak := tak) (z := z) hT h1 hP2 _) ⟨rfl, rfl, rfl, rfl, rfl, rfl, rfl, rfl, rfl, rfl, rfl, rfl, rfl, rfl, rfl, rfl, rfl, rfl, rfl, rfl, rfl, rfl, rfl, rfl, rfl, rfl, trivial⟩ rfl rfl (fun rv l1 hP1 _ => ?_)))
                  rw [← eR] at hP1
                  rcases hP1 with ⟨q, k1, P1, cur2, tak2, e1, rfl, h2, hP3, rfl⟩ | ⟨e2, q, P1, cur2, tak2, e1, rfl, rfl⟩
                  · refine kT_pic (l2 := (sn b kd pl vl ky len tok cur2 tak2 tl fk fp z P1)) rfl ?_
                    exact xw_go nostop 20 (fun K e => e _ _ _ _ (kT_end rfl rfl (Or.inl ⟨q, k1, P1, cur2, tak2, e1, rfl, h2, hP3, rfl⟩)))
                  · refine kT_pic (l2 := (sn b kd pl vl ky len tok cur2 tak2 tl (Int32.ofNat e2) (Int32.ofNat q) z P1)) rfl ?_
                    exact xw_go nostop 20 (fun K e => e _ _ _ _ (kT_end rfl rfl (Or.inr ⟨e2, q, P1, cur2, tak2, e1, rfl, rfl⟩)))
                rcases (by omega : (T p).1 = 118 ∨ (T p).1 = 119 ∨ (T p).1 = 120 ∨ (T p).1 = 121) with a | a | a | a
                · refine kT_pure rfl rfl (show nj_pure _ _ _ _ _ = some (213, [(0, .ref 54), (1, .ref 1), (2, .ref 7), (3, .int (Int32.ofNat w)), (4, .int (Int32.ofNat (T p).1))], []) from by rw [a]; rfl) ?_
                  exact fin2
                · refine kT_pure rfl rfl (show nj_pure _ _ _ _ _ = some (213, [(0, .ref 54), (1, .ref 1), (2, .ref 7), (3, .int (Int32.ofNat w)), (4, .int (Int32.ofNat (T p).1))], []) from by rw [a]; rfl) ?_
                  exact fin2
                · refine kT_pure rfl rfl (show nj_pure _ _ _ _ _ = some (213, [(0, .ref 54), (1, .ref 1), (2, .ref 7), (3, .int (Int32.ofNat w)), (4, .int (Int32.ofNat (T p).1))], []) from by rw [a]; rfl) ?_
                  exact fin2
                · refine kT_pure rfl rfl (show nj_pure _ _ _ _ _ = some (213, [(0, .ref 54), (1, .ref 1), (2, .ref 7), (3, .int (Int32.ofNat w)), (4, .int (Int32.ofNat (T p).1))], []) from by rw [a]; rfl) ?_
                  exact fin2
theorem descent (hT : tkOk T) (hN : nmOk H.1) (hn : nmR z.2.1 (nsl H.1)) : ∀ f : Nat, sS L xs b kd pl vl ky len tok tl fk fp T z H 140 0 1 f ∧ sS L xs b kd pl vl ky len tok tl fk fp T z H 139 1 2 f ∧ sS L xs b kd pl vl ky len tok tl fk fp T z H 138 2 3 f ∧ sL L xs b kd pl vl ky len tok tl fk fp T z H nm_139 3 2 f ∧ sL L xs b kd pl vl ky len tok tl fk fp T z H nm_138 4 3 f := by
  intro f
  induction f with
  | zero => exact ⟨fun w p k d cur tak P _ _ hf => absurd hf (by omega), fun w p k d cur tak P _ _ hf => absurd hf (by omega), fun w p k d cur tak P _ _ hf => absurd hf (by omega), fun w p k d i cur tak cur0 tak0 P P0 R h0 _ _ _ hf => absurd hf (by omega), fun w p k d i cur tak cur0 tak0 P P0 R h0 _ _ _ hf => absurd hf (by omega)⟩
  | succ f ih =>
    obtain ⟨a, c, e, g, j⟩ := ih
    exact ⟨one_step hT hN hn a e, all_step a g, cond_step c j, all_loop hT a g, cond_loop hT c j⟩
end DSC
