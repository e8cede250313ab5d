/-! the class's text at a place of the tape: where `current` stands -/
def tkOk (T : Nat → Tk) : Prop := (∀ p q, (T p).1 = 0 → (T q).1 = 0 → (T p).2.1 = (T q).2.1 ∧ tv (T p) = tv (T q)) ∧ (∀ p, (T p).1 = 0 → (T (T p).2.2.2.2).1 = 0) ∧ (∀ p, (T p).1 < 128 ∧ (T p).2.1 ≤ 940 ∧ (T p).2.2.2.1 < 1000) ∧ (∀ p, (T p).1 = 2 → (∀ c ∈ (T p).2.2.1, let26 c) ∧ (T p).2.2.1.length ≤ 7 ∧ ¬ (T p).2.2.1 = []) ∧ (∀ p, ¬ (T p).1 = 0 → p < (T p).2.2.2.2 ∧ p < 900) ∧ (∀ p, p ≤ (T p).2.2.2.2)
def txR (T : Nat → Tk) (kd pl : Nat → Int32) (vl : Nat → Int64) (tok cur : Int32) (p : Nat) : Prop := ∃ k c : Nat, tok = Int32.ofNat (k + 1) ∧ cur = Int32.ofNat c ∧ c ≤ k ∧ k ≤ 900 ∧ tbl T (k + 1) kd pl vl ∧ (∀ i, i < k → ¬ (T (ps T i)).1 = 0) ∧ (T (ps T k)).1 = 0 ∧ (p = ps T c ∨ ((T p).1 = 0 ∧ c = k))
section TXR
variable {L : Nat} {xs : Nat → Int32} {d : Nat} {b kd pl : Nat → Int32} {vl ky : Nat → Int64} {len tok cur tak tl fk fp : Int32} {T : Nat → Tk} {p : Nat}
theorem txR_get (hT : tkOk T) (h : txR T kd pl vl tok cur p) : nj_ix cur 901 = true ∧ kd cur.toNatClampNeg = Int32.ofNat (T p).1 ∧ pl cur.toNatClampNeg = Int32.ofNat (T p).2.1 ∧ vl cur.toNatClampNeg = Int64.ofNat (tv (T p)) := by
  obtain ⟨k, c, e1, e2, h1, h2, h3, h4, h5, h6⟩ := h
  have hx := ix_nat (i := c) (n := 901) (by omega) (by decide)
  subst e2
  rw [hx.2]
  obtain ⟨t1, t2, t3⟩ := h3 c (by omega)
  refine ⟨hx.1, ?_⟩
  rcases h6 with h6 | ⟨h6, h7⟩
  · rw [h6]; exact ⟨t1, t2, t3⟩
  · rw [h7] at t1 t2 t3 ⊢
    obtain ⟨z1, z2⟩ := hT.1 p (ps T k) h6 h5
    rw [h6, z1, z2]
    exact ⟨h5 ▸ t1, t2, t3⟩
theorem txR_adv (hT : tkOk T) (h : txR T kd pl vl tok cur p) : txR T kd pl vl tok (if nj_cmp .ge (cur + 1) tok = true then cur else cur + 1) (T p).2.2.2.2 := by
  obtain ⟨k, c, e1, e2, h1, h2, h3, h4, h5, h6⟩ := h
  have hs : cur + 1 = Int32.ofNat (c + 1) := by rw [e2]; exact i32_succ c
  have hc : nj_cmp .ge (cur + 1) tok = decide (k + 1 ≤ c + 1) := by
    rw [hs, e1]
    exact (cmp_nat (by omega) (by omega)).1
  rw [hc]
  by_cases e : c = k
  · rw [decide_eq_true (by omega), if_pos rfl]
    have hE : (T p).1 = 0 := by
      rcases h6 with h6 | h6
      · rw [h6, e]; exact h5
      · exact h6.1
    exact ⟨k, c, e1, e2, h1, h2, h3, h4, h5, Or.inr ⟨hT.2.1 p hE, e⟩⟩
  · rw [decide_eq_false (by omega), if_neg (by decide)]
    rcases h6 with h6 | h6
    · exact ⟨k, c + 1, e1, hs, by omega, h2, h3, h4, h5, Or.inl (by rw [h6]; rfl)⟩
    · exact absurd h6.2 e
theorem r_kind (hT : tkOk T) (h : txR T kd pl vl tok cur p) : mS nj_M nX0 L xs d 31 [.ref 1] (txP b kd pl vl ky len tok cur tak tl fk fp) (fun rv l => rv = some (.int (Int32.ofNat (T p).1)) ∧ l = txP b kd pl vl ky len tok cur tak tl fk fp) := by
  have g := txR_get hT h
  have s := s_kind (L := L) (xs := xs) (d := d) (b := b) (kd := kd) (pl := pl) (vl := vl) (ky := ky) (len := len) (tok := tok) (tak := tak) (tl := tl) (fk := fk) (fp := fp) g.1
  rw [g.2.1] at s
  exact s
theorem r_value (hT : tkOk T) (h : txR T kd pl vl tok cur p) : mS nj_M nX0 L xs d 36 [.ref 1] (txP b kd pl vl ky len tok cur tak tl fk fp) (fun rv l => rv = some (.long (Int64.ofNat (tv (T p)))) ∧ l = txP b kd pl vl ky len tok cur tak tl fk fp) := by
  have g := txR_get hT h
  have s := s_value (L := L) (xs := xs) (d := d) (b := b) (kd := kd) (pl := pl) (vl := vl) (ky := ky) (len := len) (tok := tok) (tak := tak) (tl := tl) (fk := fk) (fp := fp) g.1
  rw [g.2.2.2] at s
  exact s
theorem mS_mono {M : Nat → Option nM} {X : nX} {a : Nat} {args : List Value} {l : nL} {P P2 : Option Value → nL → Prop} (h : mS M X L xs d a args l P) (hP : ∀ rv l, P rv l → P2 rv l) : mS M X L xs d a args l P2 := by
  obtain ⟨mz, hM, k⟩ := h
  exact ⟨mz, hM, fun h0 hh => (k h0 hh).mono (fun rv h1 ⟨l1, z1, z2⟩ => ⟨l1, hP _ _ z1, z2⟩)⟩
theorem r_adv (hT : tkOk T) (h : txR T kd pl vl tok cur p) : mS nj_M nX0 L xs d 35 [.ref 1] (txP b kd pl vl ky len tok cur tak tl fk fp) (fun rv l => rv = none ∧ ∃ cur1, txR T kd pl vl tok cur1 (T p).2.2.2.2 ∧ l = txP b kd pl vl ky len tok cur1 tak tl fk fp) :=
  mS_mono s_advance (fun rv l z => ⟨z.1, _, txR_adv hT h, z.2⟩)
theorem r_fails (hT : tkOk T) (h : txR T kd pl vl tok cur p) (k : Int32) : mS nj_M nX0 L xs d 34 [.ref 1, .int k] (txP b kd pl vl ky len tok cur tak tl fk fp) (fun rv l => rv = some (.int 0) ∧ l = txP b kd pl vl ky len tok cur tak tl k (Int32.ofNat (T p).2.1)) := by
  have g := txR_get hT h
  have s := s_fails (L := L) (xs := xs) (d := d) (b := b) (kd := kd) (pl := pl) (vl := vl) (ky := ky) (len := len) (tok := tok) (tak := tak) (tl := tl) (fk := fk) (fp := fp) g.1 k
  rw [g.2.2.1] at s
  exact s
theorem r_takes (hT : tkOk T) (h : txR T kd pl vl tok cur p) {k : Nat} (hk7 : k < 128) : mS nj_M nX0 L xs (d + 1) 46 [.ref 1, .int (Int32.ofNat k)] (txP b kd pl vl ky len tok cur tak tl fk fp) (fun rv l => ((T p).1 = k ∧ rv = some (.int 1) ∧ ∃ cur1, txR T kd pl vl tok cur1 (T p).2.2.2.2 ∧ l = txP b kd pl vl ky len tok cur1 tak tl fk fp) ∨ (¬ (T p).1 = k ∧ rv = some (.int 0) ∧ l = txP b kd pl vl ky len tok cur tak tl 1 (Int32.ofNat (T p).2.1))) := by
  have g := txR_get hT h
  have s := s_takes (L := L) (xs := xs) (d := d) (b := b) (kd := kd) (pl := pl) (vl := vl) (ky := ky) (len := len) (tok := tok) (tak := tak) (tl := tl) (fk := fk) (fp := fp) g.1 (Int32.ofNat k)
  rw [g.2.1, g.2.2.1] at s
  have hc := (cmp_nat (i := (T p).1) (j := k) (by have := (hT.2.2.1 p).1; omega) (by omega)).2.2.2.2.1
  rw [hc] at s
  refine mS_mono s (fun rv l z => ?_)
  by_cases e : (T p).1 = k
  · rw [if_pos (decide_eq_true e)] at z
    exact Or.inl ⟨e, z.1, _, txR_adv hT h, z.2⟩
  · rw [if_neg (by rw [decide_eq_false e]; decide)] at z
    exact Or.inr ⟨e, z⟩
theorem i64_32 {x : Nat} (hx : x < 2147483648) : (Int64.ofNat x).toInt32 = Int32.ofNat x := by
  apply Int32.toInt_inj.mp
  rw [Int64.toInt_toInt32, Int64.toInt_ofNat_of_lt (by omega), i32_small hx]
  exact Int.bmod_eq_of_le (by omega) (by omega)
theorem r_num (hT : tkOk T) (h : txR T kd pl vl tok cur p) {lo hi : Nat} (hlo : lo < 1000) (hhi : hi < 1000) : mS nj_M nX0 L xs (d + 1) 39 [.ref 1, .int (Int32.ofNat lo), .int (Int32.ofNat hi)] (txP b kd pl vl ky len tok cur tak tl fk fp) (fun rv l => (∃ q y cur1, sNum T p lo hi = .inr (q, y) ∧ y ≤ hi ∧ rv = some (.int 1) ∧ txR T kd pl vl tok cur1 q ∧ l = txP b kd pl vl ky len tok cur1 (Int32.ofNat y) tl fk fp) ∨ (∃ k q tak1, sNum T p lo hi = .inl (k, q) ∧ rv = some (.int 0) ∧ l = txP b kd pl vl ky len tok cur tak1 tl (Int32.ofNat k) (Int32.ofNat q))) := by
  have g := txR_get hT h
  have s := s_takesN (L := L) (xs := xs) (d := d) (b := b) (kd := kd) (pl := pl) (vl := vl) (ky := ky) (len := len) (tok := tok) (tak := tak) (tl := tl) (fk := fk) (fp := fp) g.1 (Int32.ofNat lo) (Int32.ofNat hi)
  rw [g.2.1, g.2.2.1, g.2.2.2] at s
  have b3 := hT.2.2.1 p
  have hc : nj_cmp .eq (Int32.ofNat (T p).1) 3 = decide ((T p).1 = 3) := (cmp_nat (i := (T p).1) (j := 3) (by omega) (by omega)).2.2.2.2.1
  rw [hc] at s
  refine mS_mono s (fun rv l z => ?_)
  by_cases e : (T p).1 = 3
  · rw [if_pos (decide_eq_true e)] at z
    have etv : tv (T p) = (T p).2.2.2.1 := by unfold tv; rw [if_pos e]
    rw [etv, i64_32 (by omega)] at z
    have c1 := (cmp_nat (i := (T p).2.2.2.1) (j := lo) (by omega) (by omega)).2.1
    have c2 := (cmp_nat (i := (T p).2.2.2.1) (j := hi) (by omega) (by omega)).2.2.2.1
    rw [c1, c2] at z
    by_cases e2 : (T p).2.2.2.1 < lo ∨ hi < (T p).2.2.2.1
    · have e3 : decide ((T p).2.2.2.1 < lo) = true ∨ decide ((T p).2.2.2.1 ≤ hi) = false := by
        rcases e2 with e2 | e2
        · exact Or.inl (decide_eq_true e2)
        · exact Or.inr (decide_eq_false (by omega))
      rw [if_pos e3] at z
      refine Or.inr ⟨2, (T p).2.1, _, ?_, z.1, z.2⟩
      unfold sNum
      rw [if_neg (fun w => w e), if_pos e2]
    · have e3 : ¬ (decide ((T p).2.2.2.1 < lo) = true ∨ decide ((T p).2.2.2.1 ≤ hi) = false) := by
        intro w
        rcases w with w | w
        · exact e2 (Or.inl (of_decide_eq_true w))
        · exact e2 (Or.inr (by have := of_decide_eq_false w; omega))
      rw [if_neg e3] at z
      refine Or.inl ⟨(T p).2.2.2.2, (T p).2.2.2.1, _, ?_, by omega, z.1, txR_adv hT h, z.2⟩
      unfold sNum
      rw [if_neg (fun w => w e), if_neg e2]
  · rw [if_neg (by rw [decide_eq_false e]; decide)] at z
    refine Or.inr ⟨1, (T p).2.1, tak, ?_, z.1, z.2⟩
    unfold sNum
    rw [if_pos e]
theorem r_closes (hT : tkOk T) (h : txR T kd pl vl tok cur p) (lng : Bool) (htl : tl = b01 lng) : mS nj_M nX0 L xs (d + 1) 47 [.ref 1] (txP b kd pl vl ky len tok cur tak tl fk fp) (fun rv l => ((T p).1 = 0 ∧ lng = false ∧ rv = some (.int 1) ∧ l = txP b kd pl vl ky len tok cur tak tl fk fp) ∨ (¬ ((T p).1 = 0 ∧ lng = false) ∧ rv = some (.int 0) ∧ l = txP b kd pl vl ky len tok cur tak tl 1 (Int32.ofNat (T p).2.1))) := by
  have g := txR_get hT h
  have b3 := hT.2.2.1 p
  have hc : nj_cmp .ne (Int32.ofNat (T p).1) 0 = decide (¬ (T p).1 = 0) := (cmp_nat (i := (T p).1) (j := 0) (by omega) (by omega)).2.2.2.2.2
  refine mS_of rfl (fun h0 => ?_)
  have h19 : ¬ ((T p).1 = 0 ∧ lng = false) → kT nj_M nX0 L xs (d + 1) nm_47 (mQ (txP b kd pl vl ky len tok cur tak tl fk fp) (fun rv l => ((T p).1 = 0 ∧ lng = false ∧ rv = some (.int 1) ∧ l = txP b kd pl vl ky len tok cur tak tl fk fp) ∨ (¬ ((T p).1 = 0 ∧ lng = false) ∧ rv = some (.int 0) ∧ l = txP b kd pl vl ky len tok cur tak tl 1 (Int32.ofNat (T p).2.1))) h0) (hk (txP b kd pl vl ky len tok cur tak tl fk fp)) h0 19 [(0, .ref 1)] [] (txP b kd pl vl ky len tok cur tak tl fk fp) := by
    intro z
    refine xw_go nostop 10 (fun K e => e _ _ _ _ (kT_call rfl rfl rfl rfl (r_fails hT h _) ⟨rfl, rfl, rfl, rfl, rfl, rfl, trivial⟩ rfl rfl (fun rv l1 hP _ => ?_)))
    obtain ⟨rfl, rfl⟩ := hP
    exact xw_go nostop 10 (fun K e => And.intro (fun _ => e _ _ _ _ (kT_end rfl rfl (Or.inr ⟨z, rfl, rfl⟩))) (fun c => nomatch (show true = false from c)))
  refine xw_go (fun pc => pc == 19) 20 (fun K e => And.intro g.1 (And.intro (fun c => e _ _ _ _ (h19 ?_)) (fun c => And.intro (fun c2 => e _ _ _ _ (kT_end rfl rfl (Or.inl ⟨?_, ?_, rfl, rfl⟩))) (fun c2 => e _ _ _ _ (h19 ?_)))))
  · have c' : nj_cmp .ne (kd cur.toNatClampNeg) 0 = true := c
    rw [g.2.1, hc] at c'
    exact fun w => of_decide_eq_true c' w.1
  · have c' : nj_cmp .ne (kd cur.toNatClampNeg) 0 = false := c
    rw [g.2.1, hc] at c'
    exact Classical.not_not.mp (of_decide_eq_false c')
  · have c' : nj_cmp .eq tl 0 = true := c2
    rw [htl, cmp_eq01] at c'
    simpa using c'
  · have c' : nj_cmp .eq tl 0 = false := c2
    rw [htl, cmp_eq01] at c'
    intro w
    rw [w.2] at c'
    cases c'
end TXR
/-- the tokens of a tape -/
theorem sk_fix {b : Nat → Int32} {n : Nat} (hn : n ≤ 940) : ∀ (r p : Nat), n ≤ p + r → ¬ (sk b n 941 p < n ∧ isB (b (sk b n 941 p)) = true) := by
  intro r
  induction r with
  | zero => intro p h; rw [sk_no (by omega)]; omega
  | succ r ih =>
    intro p h
    by_cases hc : p < n ∧ isB (b p) = true
    · rw [sk_st hn hc.1 hc.2]; exact ih (p + 1) (by omega)
    · rw [sk_no hc]; exact hc
theorem tk_ok {b : Nat → Int32} {n m : Nat} (hn : n ≤ 940) (hm : m ≤ 900) : tkOk (tk b n m) := by
  have h0 : ∀ p, (tk b n m p).1 = 0 → min n m ≤ sk b n 941 p := by
    intro p h
    by_cases hc : min n m ≤ sk b n 941 p
    · exact hc
    · rw [tk_tq (by omega)] at h
      exact absurd h tq_ne0
  refine ⟨?_, ?_, ?_, ?_, ?_, ?_⟩
  · intro p q h1 h2
    rw [tk_end (h0 p h1), tk_end (h0 q h2)]
    exact ⟨rfl, rfl⟩
  · intro p h
    have h1 := h0 p h
    rw [tk_end h1]
    show (tk b n m (sk b n 941 p)).1 = 0
    rw [tk_end (by rw [sk_no (sk_fix hn n p (by omega))]; exact h1)]
  · intro p
    by_cases hc : min n m ≤ sk b n 941 p
    · rw [tk_end hc]
      exact ⟨(by decide : (0 : Nat) < 128), (show min n m ≤ 940 by omega), (by decide : (0 : Nat) < 1000)⟩
    · rw [tk_tq (by omega)]
      refine ⟨?_, ?_, ?_⟩
      · unfold tq
        split
        · split
          · exact (by decide : (3 : Nat) < 128)
          · split
            · have := (kOf_ge (byl b (sk b n 941 p) (ru b n 941 (sk b n 941 p) - sk b n 941 p))).2.2
              exact Nat.lt_trans this (by decide)
            · exact (by decide : (1 : Nat) < 128)
        · split
          · next h => have := isS_i h; show (b (sk b n 941 p)).toInt.toNat < 128; omega
          · exact (by decide : (1 : Nat) < 128)
      · rw [tq_pl]; omega
      · unfold tq
        split
        · split
          · next h =>
            have h1 := dec_lt _ h.1
            have h2 : 10 ^ (ru b n 941 (sk b n 941 p) - sk b n 941 p) ≤ 10 ^ 3 := Nat.pow_le_pow_right (by decide) h.2
            exact Nat.lt_of_lt_of_le h1 h2
          · split
            · exact (by decide : (0 : Nat) < 1000)
            · exact (by decide : (0 : Nat) < 1000)
        · split
          · exact (by decide : (0 : Nat) < 1000)
          · exact (by decide : (0 : Nat) < 1000)
  · intro p h
    by_cases hc : min n m ≤ sk b n 941 p
    · rw [tk_end hc] at h
      cases h
    · rw [tk_tq (by omega)] at h ⊢
      have hlt : sk b n 941 p < n := by omega
      revert h
      unfold tq
      split
      · next hA =>
        split
        · intro h; cases h
        · split
          · next hL =>
            intro _
            refine ⟨byl_L _ hL.1, ?_, ?_⟩
            · show (byl b _ _).length ≤ 7
              rw [byl_len]; exact hL.2
            · intro z
              have z2 : (byl b (sk b n 941 p) (ru b n 941 (sk b n 941 p) - sk b n 941 p)).length = 0 := congrArg List.length z
              rw [byl_len] at z2
              have : sk b n 941 p + 1 ≤ ru b n 941 (sk b n 941 p) := ru_one (b := b) hlt hA 940
              omega
          · intro h; cases h
      · split
        · next hS =>
          intro h
          have h2 : (b (sk b n 941 p)).toInt.toNat = 2 := h
          have := isS_i hS
          omega
        · intro h; cases h
  · intro p h
    by_cases hc : min n m ≤ sk b n 941 p
    · rw [tk_end hc] at h
      exact absurd rfl h
    · rw [tk_tq (by omega)]
      have h1 := sk_ge (b := b) (n := n) 941 p
      have h2 := tq_end (b := b) (n := n) (q := sk b n 941 p) (by omega)
      omega
  · intro p
    have h1 := sk_ge (b := b) (n := n) 941 p
    by_cases hc : min n m ≤ sk b n 941 p
    · rw [tk_end hc]
      exact h1
    · rw [tk_tq (by omega)]
      have h2 := tq_end (b := b) (n := n) (q := sk b n 941 p) (by omega)
      omega
