/-! the main loop keeps step with the descent -/
def uE0 (u : List Nat) : Prop := u = []
def uE1 (u : List Nat) : Prop := u = [] ∨ u = [21]
def uE2 (u : List Nat) : Prop := uE1 u ∨ u = [22] ∨ u = [22, 21]
theorem uE1_t {u : List Nat} (h : uE1 u) : tops 21 u := by
  rcases h with rfl | rfl
  · exact Or.inl rfl
  · exact Or.inr (Or.inl ⟨21, rfl, Or.inl rfl⟩)
theorem uE2_t {u : List Nat} (h : uE2 u) : tops 22 u := by
  rcases h with (rfl | rfl) | rfl | rfl
  · exact Or.inl rfl
  · exact Or.inr (Or.inl ⟨21, rfl, Or.inl rfl⟩)
  · exact Or.inr (Or.inl ⟨22, rfl, Or.inr ⟨rfl, rfl⟩⟩)
  · exact Or.inr (Or.inr ⟨22, 21, rfl, Or.inr ⟨rfl, rfl⟩, Or.inl rfl⟩)
theorem uE2_c {u : List Nat} (h : uE1 u) : uE2 ([22] ++ u) := by
  rcases h with rfl | rfl
  · exact Or.inr (Or.inl rfl)
  · exact Or.inr (Or.inr rfl)
theorem bs_u {l u : List Nat} (h : bs 20 l) (hu : uE2 u) : bs 20 (l ++ u) := by
  rcases hu with (rfl | rfl) | rfl | rfl
  · rw [List.append_nil]
    exact h
  · exact bs_app h.1 (by decide) (by decide)
  · exact bs_app h.1 (by decide) (by decide)
  · rw [show l ++ [22, 21] = (l ++ [22]) ++ [21] from by rw [List.append_assoc]; rfl]
    exact bs_app (c := 20) (bs_app (c := 20) h.1 (by decide) (by decide)).1 (by decide) (by decide)
theorem rp_s (j : Nat) : List.replicate j (20 : Nat) ++ [20] = List.replicate (j + 1) 20 := by
  induction j with
  | zero => rfl
  | succ j ih =>
    rw [List.replicate_succ, List.cons_append, ih]
    rfl
theorem ln_1 {l : List Nat} {x : Nat} : (l ++ [x]).length = l.length + 1 := by
  rw [List.length_append]
  rfl
section PXE
variable {T : Nat → Tk} {H : Hs}
theorem pX_e3 : ∀ (f w p k q k1 : Nat), pX T H f 3 w p k = .inr (q, k1) → ¬ (T q).1 = 112 := by
  intro f
  induction f with
  | zero => intro w p k q k1 h; cases h
  | succ f ih =>
    intro w p k q k1 h
    replace h : (if (T p).1 = 112 then sBind (pX T H f 0 w (T p).2.2.2.2 k) (fun p1 k1 => pX T H f 3 w p1 k1) else .inr (p, k)) = .inr (q, k1) := h
    by_cases c : (T p).1 = 112
    · rw [if_pos c] at h
      obtain ⟨a, c2, e1, e2⟩ := sBind_r h
      exact ih _ _ _ _ _ e2
    · rw [if_neg c] at h
      cases h
      exact c
theorem pX_e1 : ∀ (f w p k q k1 : Nat), pX T H f 1 w p k = .inr (q, k1) → ¬ (T q).1 = 112 := by
  intro f w p k q k1 h
  cases f with
  | zero => cases h
  | succ f =>
    obtain ⟨a, c2, e1, e2⟩ := sBind_r (show sBind (pX T H f 0 w p k) (fun p1 k1 => pX T H f 3 w p1 k1) = _ from h)
    exact pX_e3 _ _ _ _ _ _ e2
theorem pX_e4 : ∀ (f w p k q k1 : Nat), pX T H f 4 w p k = .inr (q, k1) → ¬ (T p).1 = 112 → ¬ (T q).1 = 111 ∧ ¬ (T q).1 = 112 := by
  intro f
  induction f with
  | zero => intro w p k q k1 h; cases h
  | succ f ih =>
    intro w p k q k1 h h2
    replace h : (if (T p).1 = 111 then sBind (pX T H f 1 w (T p).2.2.2.2 k) (fun p1 k1 => pX T H f 4 w p1 k1) else .inr (p, k)) = .inr (q, k1) := h
    by_cases c : (T p).1 = 111
    · rw [if_pos c] at h
      obtain ⟨a, c2, e1, e2⟩ := sBind_r h
      exact ih _ _ _ _ _ e2 (pX_e1 _ _ _ _ _ _ e1)
    · rw [if_neg c] at h
      cases h
      exact ⟨c, h2⟩
theorem pX_e2 : ∀ (f w p k q k1 : Nat), pX T H f 2 w p k = .inr (q, k1) → ¬ (T q).1 = 111 ∧ ¬ (T q).1 = 112 := by
  intro f w p k q k1 h
  cases f with
  | zero => cases h
  | succ f =>
    obtain ⟨a, c2, e1, e2⟩ := sBind_r (show sBind (pX T H f 1 w p k) (fun p1 k1 => pX T H f 4 w p1 k1) = _ from h)
    exact pX_e4 _ _ _ _ _ _ e2 (pX_e1 _ _ _ _ _ _ e1)
end PXE
/-- how the descent ends is how the loop goes on -/
def rsN (L : Nat) (xs : Nat → Int32) (d : Nat) (o : Nat → Value) (thr len : Int32) (n m : Nat) (flt fat lns crs : Int32) (b hh : Nat → Int32) (nms rsv : Nat → Int64) (s : Nat → Int32) (l00 : nL) (P : Option Value → nL → Prop) (h0 : List nC) (H : Hs) (R : Rs Nat) (f mo : Nat) (E : List Nat → Prop) (l0 : List Nat) (w dp p k : Nat) : Prop := (∀ e pl, pX (tk b n m) H (f) mo (dp) (p) (k) = .inl (e, pl) → R = .inl (e, pl)) ∧ (∀ q k1, pX (tk b n m) H (f) mo (dp) (p) (k) = .inr (q, k1) → ∀ (u : List Nat) (j1 y1 : Nat), E u → y1 + l0.length + u.length + j1 + 1 ≤ 2 * k1 → aT L xs d o thr len n m flt fat lns crs b hh nms rsv s l00 P h0 (Int32.ofInt 1) ((l0 ++ u) ++ List.replicate j1 20) (w + j1) (y1) (q) (k1))
def rs0 (L : Nat) (xs : Nat → Int32) (d : Nat) (o : Nat → Value) (thr len : Int32) (n m : Nat) (flt fat lns crs : Int32) (b hh : Nat → Int32) (nms rsv : Nat → Int64) (s : Nat → Int32) (l00 : nL) (P : Option Value → nL → Prop) (h0 : List nC) (H : Hs) (R : Rs Nat) (f : Nat) : Prop := ∀ (w j p k y : Nat) (l0 : List Nat), bs 20 l0 → w + j ≤ 9 → k ≤ 20 → 3 * (21 - k) + 1 ≤ f → y + l0.length + j ≤ 2 * k → rsN L xs d o thr len n m flt fat lns crs b hh nms rsv s l00 P h0 H R (f) 0 uE0 l0 w (w + j) (p) (k) → aT L xs d o thr len n m flt fat lns crs b hh nms rsv s l00 P h0 (Int32.ofInt 0) (l0 ++ List.replicate j 20) (w + j) (y) (p) (k)
def rs1 (L : Nat) (xs : Nat → Int32) (d : Nat) (o : Nat → Value) (thr len : Int32) (n m : Nat) (flt fat lns crs : Int32) (b hh : Nat → Int32) (nms rsv : Nat → Int64) (s : Nat → Int32) (l00 : nL) (P : Option Value → nL → Prop) (h0 : List nC) (H : Hs) (R : Rs Nat) (f : Nat) : Prop := ∀ (w p k y : Nat) (l0 : List Nat), bs 21 l0 → w ≤ 9 → k ≤ 20 → 3 * (21 - k) + 2 ≤ f → y + l0.length ≤ 2 * k → rsN L xs d o thr len n m flt fat lns crs b hh nms rsv s l00 P h0 H R (f) 1 uE1 l0 w (w) (p) (k) → aT L xs d o thr len n m flt fat lns crs b hh nms rsv s l00 P h0 (Int32.ofInt 0) (l0) (w) (y) (p) (k)
def rs2 (L : Nat) (xs : Nat → Int32) (d : Nat) (o : Nat → Value) (thr len : Int32) (n m : Nat) (flt fat lns crs : Int32) (b hh : Nat → Int32) (nms rsv : Nat → Int64) (s : Nat → Int32) (l00 : nL) (P : Option Value → nL → Prop) (h0 : List nC) (H : Hs) (R : Rs Nat) (f : Nat) : Prop := ∀ (w p k y : Nat) (l0 : List Nat), bs 22 l0 → w ≤ 9 → k ≤ 20 → 3 * (21 - k) + 3 ≤ f → y + l0.length ≤ 2 * k → rsN L xs d o thr len n m flt fat lns crs b hh nms rsv s l00 P h0 H R (f) 2 uE2 l0 w (w) (p) (k) → aT L xs d o thr len n m flt fat lns crs b hh nms rsv s l00 P h0 (Int32.ofInt 0) (l0) (w) (y) (p) (k)
def rs3 (L : Nat) (xs : Nat → Int32) (d : Nat) (o : Nat → Value) (thr len : Int32) (n m : Nat) (flt fat lns crs : Int32) (b hh : Nat → Int32) (nms rsv : Nat → Int64) (s : Nat → Int32) (l00 : nL) (P : Option Value → nL → Prop) (h0 : List nC) (H : Hs) (R : Rs Nat) (f : Nat) : Prop := ∀ (w p k y : Nat) (l0 u : List Nat) (j : Nat), bs 21 l0 → uE1 u → w ≤ 9 → k ≤ 20 → 3 * (21 - k) + 2 ≤ f → y + l0.length + u.length + j + 1 ≤ 2 * k → rsN L xs d o thr len n m flt fat lns crs b hh nms rsv s l00 P h0 H R (f) 3 uE1 l0 w (w) (p) (k) → aT L xs d o thr len n m flt fat lns crs b hh nms rsv s l00 P h0 (Int32.ofInt 1) ((l0 ++ u) ++ List.replicate j 20) (w + j) (y) (p) (k)
def rs4 (L : Nat) (xs : Nat → Int32) (d : Nat) (o : Nat → Value) (thr len : Int32) (n m : Nat) (flt fat lns crs : Int32) (b hh : Nat → Int32) (nms rsv : Nat → Int64) (s : Nat → Int32) (l00 : nL) (P : Option Value → nL → Prop) (h0 : List nC) (H : Hs) (R : Rs Nat) (f : Nat) : Prop := ∀ (w p k y : Nat) (l0 u : List Nat) (j : Nat), bs 22 l0 → uE2 u → w ≤ 9 → k ≤ 20 → 3 * (21 - k) + 3 ≤ f → y + l0.length + u.length + j + 1 ≤ 2 * k → rsN L xs d o thr len n m flt fat lns crs b hh nms rsv s l00 P h0 H R (f) 4 uE2 l0 w (w) (p) (k) → aT L xs d o thr len n m flt fat lns crs b hh nms rsv s l00 P h0 (Int32.ofInt 1) ((l0 ++ u) ++ List.replicate j 20) (w + j) (y) (p) (k)
section RSD
variable {L : Nat} {xs : Nat → Int32} {d : Nat} {o : Nat → Value} {thr len : Int32} {n m : Nat} {flt fat lns crs : Int32} {b hh : Nat → Int32} {nms rsv : Nat → Int64} {s : Nat → Int32} {l00 : nL} {P : Option Value → nL → Prop} {h0 : List nC} {H : Hs} {R : Rs Nat}
set_option maxHeartbeats 1000000 in
theorem rs3_step (hn : n ≤ 940) (hm : m ≤ 900) (hby : ∀ i, i < 940 → -128 ≤ (b i).toInt ∧ (b i).toInt ≤ 127) {f : Nat} (i0 : rs0 L xs d o thr len n m flt fat lns crs b hh nms rsv s l00 P h0 H R (f)) (i3 : rs3 L xs d o thr len n m flt fat lns crs b hh nms rsv s l00 P h0 H R (f)) : rs3 L xs d o thr len n m flt fat lns crs b hh nms rsv s l00 P h0 H R (f + 1) := by
  intro w p k y l0 u j hb hu hw hk2 hf hy hN
  obtain ⟨hF, hR⟩ := hN
  have eX : pX (tk b n m) H (f + 1) 3 (w) (p) (k) = (if (tk b n m p).1 = 112 then sBind (pX (tk b n m) H (f) 0 (w) ((tk b n m p).2.2.2.2) (k)) (fun p1 k1 => pX (tk b n m) H (f) 3 (w) (p1) (k1)) else .inr (p, k)) := rfl
  rw [eX] at hF hR
  by_cases c : (tk b n m p).1 = 112
  · rw [if_pos c] at hF hR
    refine st_and hn hm hby c hb (uE1_t hu) (bs_u (bs_mono hb (by decide)) (Or.inl hu)) (by omega) ?_
    have h4 := i0 w 0 (tk b n m p).2.2.2.2 k (y + j + u.length) (l0 ++ [21]) (bs_app hb.1 (by decide) (by decide)) (by omega) hk2 (by omega) (by rw [ln_1]; omega) ⟨fun e pl (he : pX (tk b n m) H (f) 0 (w) ((tk b n m p).2.2.2.2) (k) = .inl (e, pl)) => hF e pl (by rw [he]; rfl), fun q k1 (he : pX (tk b n m) H (f) 0 (w) ((tk b n m p).2.2.2.2) (k) = .inr (q, k1)) u1 j1 y1 hu1 hy1 => by
      have hk1 : k + 1 ≤ k1 ∧ k1 ≤ 20 := pX_k _ 0 _ _ _ _ _ hk2 he
      have hu2 : u1 = [] := hu1
      subst hu2
      rw [he] at hF hR
      rw [ln_1, List.length_nil] at hy1
      rw [List.append_nil]
      exact i3 w q k1 y1 l0 [21] j1 hb (Or.inr rfl) hw hk1.2 (by omega) (by rw [show ([21] : List Nat).length = 1 from rfl]; omega) ⟨fun e pl he2 => hF e pl he2, fun q2 k2 he2 => hR q2 k2 he2⟩⟩
    rw [List.replicate_zero, List.append_nil] at h4
    exact h4
  · rw [if_neg c] at hR
    exact hR p k rfl u j y hu hy
set_option maxHeartbeats 1000000 in
theorem rs1_step {f : Nat} (i0 : rs0 L xs d o thr len n m flt fat lns crs b hh nms rsv s l00 P h0 H R (f)) (i3 : rs3 L xs d o thr len n m flt fat lns crs b hh nms rsv s l00 P h0 H R (f)) : rs1 L xs d o thr len n m flt fat lns crs b hh nms rsv s l00 P h0 H R (f + 1) := by
  intro w p k y l0 hb hw hk2 hf hy hN
  obtain ⟨hF, hR⟩ := hN
  have eX : pX (tk b n m) H (f + 1) 1 (w) (p) (k) = sBind (pX (tk b n m) H (f) 0 (w) (p) (k)) (fun p1 k1 => pX (tk b n m) H (f) 3 (w) (p1) (k1)) := rfl
  rw [eX] at hF hR
  have h4 := i0 w 0 p k y l0 (bs_mono hb (by decide)) (by omega) hk2 (by omega) (by omega) ⟨fun e pl (he : pX (tk b n m) H (f) 0 (w) (p) (k) = .inl (e, pl)) => hF e pl (by rw [he]; rfl), fun q k1 (he : pX (tk b n m) H (f) 0 (w) (p) (k) = .inr (q, k1)) u1 j1 y1 hu1 hy1 => by
    have hk1 : k + 1 ≤ k1 ∧ k1 ≤ 20 := pX_k _ 0 _ _ _ _ _ hk2 he
    have hu2 : u1 = [] := hu1
    subst hu2
    rw [he] at hF hR
    exact i3 w q k1 y1 l0 [] j1 hb (Or.inl rfl) hw hk1.2 (by omega) hy1 ⟨fun e pl he2 => hF e pl he2, fun q2 k2 he2 => hR q2 k2 he2⟩⟩
  rw [List.replicate_zero, List.append_nil] at h4
  exact h4
set_option maxHeartbeats 1000000 in
theorem rs2_step {f : Nat} (i1 : rs1 L xs d o thr len n m flt fat lns crs b hh nms rsv s l00 P h0 H R (f)) (i4 : rs4 L xs d o thr len n m flt fat lns crs b hh nms rsv s l00 P h0 H R (f)) : rs2 L xs d o thr len n m flt fat lns crs b hh nms rsv s l00 P h0 H R (f + 1) := by
  intro w p k y l0 hb hw hk2 hf hy hN
  obtain ⟨hF, hR⟩ := hN
  have eX : pX (tk b n m) H (f + 1) 2 (w) (p) (k) = sBind (pX (tk b n m) H (f) 1 (w) (p) (k)) (fun p1 k1 => pX (tk b n m) H (f) 4 (w) (p1) (k1)) := rfl
  rw [eX] at hF hR
  exact i1 w p k y l0 (bs_mono hb (by decide)) hw hk2 (by omega) hy ⟨fun e pl he => hF e pl (by rw [he]; rfl), fun q k1 he u1 j1 y1 hu1 hy1 => by
    have hk1 : k + 1 ≤ k1 ∧ k1 ≤ 20 := pX_k _ 1 _ _ _ _ _ hk2 he
    rw [he] at hF hR
    exact i4 w q k1 y1 l0 u1 j1 hb (Or.inl hu1) hw hk1.2 (by omega) hy1 ⟨fun e pl he2 => hF e pl he2, fun q2 k2 he2 => hR q2 k2 he2⟩⟩
set_option maxHeartbeats 1000000 in
theorem rs4_step (hn : n ≤ 940) (hm : m ≤ 900) (hby : ∀ i, i < 940 → -128 ≤ (b i).toInt ∧ (b i).toInt ≤ 127) {f : Nat} (i1 : rs1 L xs d o thr len n m flt fat lns crs b hh nms rsv s l00 P h0 H R (f)) (i4 : rs4 L xs d o thr len n m flt fat lns crs b hh nms rsv s l00 P h0 H R (f)) : rs4 L xs d o thr len n m flt fat lns crs b hh nms rsv s l00 P h0 H R (f + 1) := by
  intro w p k y l0 u j hb hu hw hk2 hf hy hN
  obtain ⟨hF, hR⟩ := hN
  have eX : pX (tk b n m) H (f + 1) 4 (w) (p) (k) = (if (tk b n m p).1 = 111 then sBind (pX (tk b n m) H (f) 1 (w) ((tk b n m p).2.2.2.2) (k)) (fun p1 k1 => pX (tk b n m) H (f) 4 (w) (p1) (k1)) else .inr (p, k)) := rfl
  rw [eX] at hF hR
  by_cases c : (tk b n m p).1 = 111
  · rw [if_pos c] at hF hR
    refine st_or hn hm hby c hb (uE2_t hu) (bs_u (bs_mono hb (by decide)) hu) (by omega) ?_
    exact i1 w (tk b n m p).2.2.2.2 k (y + j + u.length) (l0 ++ [22]) (bs_app hb.1 (by decide) (by decide)) hw hk2 (by omega) (by rw [ln_1]; omega) ⟨fun e pl he => hF e pl (by rw [he]; rfl), fun q k1 he u1 j1 y1 hu1 hy1 => by
      have hk1 : k + 1 ≤ k1 ∧ k1 ≤ 20 := pX_k _ 1 _ _ _ _ _ hk2 he
      rw [he] at hF hR
      rw [ln_1] at hy1
      have el : ([22] ++ u1).length = u1.length + 1 := rfl
      rw [show (l0 ++ [22]) ++ u1 = l0 ++ ([22] ++ u1) from List.append_assoc _ _ _]
      exact i4 w q k1 y1 l0 ([22] ++ u1) j1 hb (uE2_c hu1) hw hk1.2 (by omega) (by rw [el]; omega) ⟨fun e pl he2 => hF e pl he2, fun q2 k2 he2 => hR q2 k2 he2⟩⟩
  · rw [if_neg c] at hR
    exact hR p k rfl u j y hu hy
set_option maxHeartbeats 2000000 in
theorem rs0_step (hn : n ≤ 940) (hm : m ≤ 900) (hby : ∀ i, i < 940 → -128 ≤ (b i).toInt ∧ (b i).toInt ≤ 127) (hrs : rsvOk rsv) (hP : P = pFin o thr len n m lns crs b hh nms rsv s R) (hL2 : 16 + H.1.2.2.1.length ≤ 52) (hN2 : nmF nms 16 H.1.2.2.1) (hO2 : ∀ x ∈ H.1.2.2.1, wOk x) (hS2 : s 2 = Int32.ofNat H.1.2.2.1.length) (hL1 : 6 + H.1.2.1.length ≤ 52) (hN1 : nmF nms 6 H.1.2.1) (hO1 : ∀ x ∈ H.1.2.1, wOk x) (hS1 : s 1 = Int32.ofNat H.1.2.1.length) {f : Nat} (i0 : rs0 L xs d o thr len n m flt fat lns crs b hh nms rsv s l00 P h0 H R (f)) (i2 : rs2 L xs d o thr len n m flt fat lns crs b hh nms rsv s l00 P h0 H R (f)) : rs0 L xs d o thr len n m flt fat lns crs b hh nms rsv s l00 P h0 H R (f + 1) := by
  intro w j p k y l0 hb hw hk2 hf hy hN
  obtain ⟨hF, hR⟩ := hN
  have eX : pX (tk b n m) H (f + 1) 0 (w + j) (p) (k) = (if ¬ (tk b n m p).1 = 40 ∧ ((tk b n m p).1 < 113 ∨ 121 < (tk b n m p).1) then .inl (1, (tk b n m p).2.1) else if 20 ≤ k ∨ 8 < w + j then .inl (4, (tk b n m p).2.1) else if (tk b n m p).1 = 40 then sBind (pX (tk b n m) H (f) 2 (w + j + 1) ((tk b n m p).2.2.2.2) (k + 1)) (fun p2 k2 => if (tk b n m p2).1 = 41 then .inr ((tk b n m p2).2.2.2.2, k2) else .inl (1, (tk b n m p2).2.1)) else if (tk b n m p).1 = 113 then pX (tk b n m) H (f) 0 (w + j + 1) ((tk b n m p).2.2.2.2) (k + 1) else if (tk b n m p).1 = 114 ∨ (tk b n m p).1 = 115 then .inr ((tk b n m p).2.2.2.2, k + 1) else if (tk b n m p).1 = 116 then pK (tk b n m) (tk b n m p).2.2.2.2 (k + 1) H.1.2.2.1 else if (tk b n m p).1 = 117 then pK (tk b n m) (tk b n m p).2.2.2.2 (k + 1) H.1.2.1 else pM (tk b n m) (tk b n m p).2.2.2.2 (k + 1)) := rfl
  rw [eX] at hF hR
  by_cases hg : ¬ (tk b n m p).1 = 40 ∧ ((tk b n m p).1 < 113 ∨ 121 < (tk b n m p).1)
  · exact st_none hg hP (hF _ _ (if_pos hg))
  rw [if_neg hg] at hF hR
  by_cases ht : 20 ≤ k ∨ 8 < w + j
  · exact st_many hk2 hw hg ht hP (hF _ _ (if_pos ht))
  rw [if_neg ht] at hF hR
  have hk3 : k < 20 := by omega
  have hw3 : w + j ≤ 8 := by omega
  have hlen : (l0 ++ List.replicate j 20).length = l0.length + j := by rw [List.length_append, List.length_replicate]
  have hE : ∀ p1, (∀ (u : List Nat) (j1 y1 : Nat), uE0 u → y1 + l0.length + u.length + j1 + 1 ≤ 2 * (k + 1) → aT L xs d o thr len n m flt fat lns crs b hh nms rsv s l00 P h0 (Int32.ofInt 1) ((l0 ++ u) ++ List.replicate j1 20) (w + j1) (y1) (p1) (k + 1)) → aT L xs d o thr len n m flt fat lns crs b hh nms rsv s l00 P h0 (Int32.ofInt 1) (l0 ++ List.replicate j 20) (w + j) (y + 1) (p1) (k + 1) := fun p1 hh => by
    have h3 := hh [] j (y + 1) rfl (by rw [List.length_nil]; omega)
    rw [List.append_nil] at h3
    exact h3
  by_cases c40 : (tk b n m p).1 = 40
  · rw [if_pos c40] at hF hR
    have hl1 : ∀ x ∈ l0 ++ List.replicate j 20, x < 1000 := fun x hx => by
      rcases List.mem_append.mp hx with hx | hx
      · exact hb.1 x hx
      · rw [(List.mem_replicate.mp hx).2]
        decide
    have hlen2 : ((l0 ++ List.replicate j 20) ++ [23]).length = l0.length + j + 1 := by rw [ln_1, hlen]
    have hb2 : bs 22 ((l0 ++ List.replicate j 20) ++ [23]) := bs_app hl1 (by decide) (by decide)
    refine st_par hn hm hby c40 hk3 hw3 (by omega) ?_
    refine i2 (w + j + 1) (tk b n m p).2.2.2.2 (k + 1) y ((l0 ++ List.replicate j 20) ++ [23]) hb2 (by omega) (by omega) (by omega) (by omega) ⟨fun e pl he => hF e pl (by rw [he]; rfl), fun q k1 he u j1 y1 hu hy1 => ?_⟩
    have hk1 : k + 1 + 1 ≤ k1 ∧ k1 ≤ 20 := pX_k _ 2 _ _ _ _ _ (by omega) he
    have hq := pX_e2 _ _ _ _ _ _ he
    rw [he] at hF hR
    replace hF : ∀ e pl, (if (tk b n m q).1 = 41 then .inr ((tk b n m q).2.2.2.2, k1) else .inl (1, (tk b n m q).2.1) : Rs Nat) = .inl (e, pl) → R = .inl (e, pl) := hF
    rw [hlen2] at hy1
    by_cases c41 : (tk b n m q).1 = 41
    · have h3 := hR (tk b n m q).2.2.2.2 k1 (show (if (tk b n m q).1 = 41 then .inr ((tk b n m q).2.2.2.2, k1) else .inl (1, (tk b n m q).2.1) : Rs Nat) = .inr ((tk b n m q).2.2.2.2, k1) from if_pos c41) [] j (y1 + j1 + u.length) rfl (by rw [List.length_nil]; omega)
      rw [List.append_nil] at h3
      exact st_close hn hm hby c41 hb2 (uE2_t hu) (bs_u (bs_mono hb2 (by decide)) hu) (by omega) h3
    · exact st_bad hq (Or.inl c41) (fun z => nomatch (List.append_eq_nil_iff.mp z.2).2) hb2 (uE2_t hu) (bs_u (bs_mono hb2 (by decide)) hu) (by omega) hP (hF _ _ (if_neg c41))
  rw [if_neg c40] at hF hR
  by_cases c113 : (tk b n m p).1 = 113
  · rw [if_pos c113] at hF hR
    refine st_not hn hm hby c113 hk3 hw3 (by omega) ?_
    rw [List.append_assoc, rp_s]
    exact i0 w (j + 1) (tk b n m p).2.2.2.2 (k + 1) y l0 hb (by omega) (by omega) (by omega) (by omega) ⟨fun e pl he => hF e pl he, fun q k1 he => hR q k1 he⟩
  rw [if_neg c113] at hF hR
  by_cases c1145 : (tk b n m p).1 = 114 ∨ (tk b n m p).1 = 115
  · rw [if_pos c1145] at hF hR
    have h3 := hE _ (hR _ _ rfl)
    rcases c1145 with c | c
    · exact st_114 hn hm hby c hk3 hw3 (by omega) h3
    · exact st_115 hn hm hby c hk3 hw3 (by omega) h3
  rw [if_neg c1145] at hF hR
  by_cases c116 : (tk b n m p).1 = 116
  · rw [if_pos c116] at hF hR
    exact st_116 hn hm hby hrs c116 hL2 hN2 hO2 hS2 hk3 hw3 (by omega) hP hF (fun p1 e1 => hE p1 (hR p1 (k + 1) e1))
  rw [if_neg c116] at hF hR
  by_cases c117 : (tk b n m p).1 = 117
  · rw [if_pos c117] at hF hR
    exact st_117 hn hm hby hrs c117 hL1 hN1 hO1 hS1 hk3 hw3 (by omega) hP hF (fun p1 e1 => hE p1 (hR p1 (k + 1) e1))
  rw [if_neg c117] at hF hR
  have h4 : (tk b n m p).1 = 118 ∨ (tk b n m p).1 = 119 ∨ (tk b n m p).1 = 120 ∨ (tk b n m p).1 = 121 := by omega
  rcases h4 with c | c | c | c
  · exact st_118 hn hm hby c hk3 hw3 (by omega) hP hF (fun p1 e1 => hE p1 (hR p1 (k + 1) e1))
  · exact st_119 hn hm hby c hk3 hw3 (by omega) hP hF (fun p1 e1 => hE p1 (hR p1 (k + 1) e1))
  · exact st_120 hn hm hby c hk3 hw3 (by omega) hP hF (fun p1 e1 => hE p1 (hR p1 (k + 1) e1))
  · exact st_121 hn hm hby c hk3 hw3 (by omega) hP hF (fun p1 e1 => hE p1 (hR p1 (k + 1) e1))
theorem rs_all (hn : n ≤ 940) (hm : m ≤ 900) (hby : ∀ i, i < 940 → -128 ≤ (b i).toInt ∧ (b i).toInt ≤ 127) (hrs : rsvOk rsv) (hP : P = pFin o thr len n m lns crs b hh nms rsv s R) (hL2 : 16 + H.1.2.2.1.length ≤ 52) (hN2 : nmF nms 16 H.1.2.2.1) (hO2 : ∀ x ∈ H.1.2.2.1, wOk x) (hS2 : s 2 = Int32.ofNat H.1.2.2.1.length) (hL1 : 6 + H.1.2.1.length ≤ 52) (hN1 : nmF nms 6 H.1.2.1) (hO1 : ∀ x ∈ H.1.2.1, wOk x) (hS1 : s 1 = Int32.ofNat H.1.2.1.length) : ∀ f : Nat, rs0 L xs d o thr len n m flt fat lns crs b hh nms rsv s l00 P h0 H R (f) ∧ rs1 L xs d o thr len n m flt fat lns crs b hh nms rsv s l00 P h0 H R (f) ∧ rs2 L xs d o thr len n m flt fat lns crs b hh nms rsv s l00 P h0 H R (f) ∧ rs3 L xs d o thr len n m flt fat lns crs b hh nms rsv s l00 P h0 H R (f) ∧ rs4 L xs d o thr len n m flt fat lns crs b hh nms rsv s l00 P h0 H R (f) := by
  intro f
  induction f with
  | zero => exact ⟨fun w j p k y l0 _ _ _ hf => absurd hf (by omega), fun w p k y l0 _ _ _ hf => absurd hf (by omega), fun w p k y l0 _ _ _ hf => absurd hf (by omega), fun w p k y l0 u j _ _ _ _ hf => absurd hf (by omega), fun w p k y l0 u j _ _ _ _ hf => absurd hf (by omega)⟩
  | succ f ih =>
    obtain ⟨a0, a1, a2, a3, a4⟩ := ih
    exact ⟨rs0_step hn hm hby hrs hP hL2 hN2 hO2 hS2 hL1 hN1 hO1 hS1 a0 a2, rs1_step a0 a3, rs2_step a1 a4, rs3_step hn hm hby a0 a3, rs4_step hn hm hby a1 a4⟩
end RSD
