/-! the class's rows say a house -/
theorem gd_app {α : Type} (l : List α) (x y : α) (i : Nat) : (l ++ [x]).getD i y = if i < l.length then l.getD i y else if i = l.length then x else y := by
  rw [List.getD_eq_getElem?_getD, List.getD_eq_getElem?_getD]
  by_cases h : i < l.length
  · rw [if_pos h, List.getElem?_append_left h]
  · rw [if_neg h, List.getElem?_append_right (by omega)]
    by_cases e : i = l.length
    · rw [if_pos e, e, Nat.sub_self]; rfl
    · rw [if_neg e, List.getElem?_eq_none (by simp; omega)]; rfl
theorem gd_set {α : Type} (l : List α) {k : Nat} (x y : α) (i : Nat) (hk : k < l.length) : (l.set k x).getD i y = if i = k then x else l.getD i y := by
  rw [List.getD_eq_getElem?_getD, List.getD_eq_getElem?_getD]
  by_cases e : i = k
  · rw [if_pos e, e, List.getElem?_set_self hk]; rfl
  · rw [if_neg e, List.getElem?_set_ne (fun z => e z.symm)]
theorem gd_out {α : Type} {l : List α} {i : Nat} (h : l.length ≤ i) (y : α) : l.getD i y = y := by
  rw [List.getD_eq_getElem?_getD, List.getElem?_eq_none h]; rfl
def oC (o : Option Nat) : Int32 := match o with
  | some k => Int32.ofNat k
  | none => 1
def bt (x : Int32) (i : Nat) : Bool := x.toBitVec.getLsbD i
theorem bt_c {x : Int32} {i : Nat} (hi : i < 31) : nj_cmp .ne ((x >>> (Int32.ofNat i &&& 31)) &&& Int32.ofInt 1) (Int32.ofInt 1) = !bt x i := by
  have h1 : (x >>> (Int32.ofNat i &&& 31)).toBitVec.getLsbD 0 = x.toBitVec.getLsbD i := zB_shr hi
  have h2 : ∀ y : Int32, (y &&& Int32.ofInt 1 = Int32.ofInt 1) ↔ y.toBitVec.getLsbD 0 = true := by
    intro y
    have hm : ∀ j, j < 32 → (Int32.ofInt 1).toBitVec.getLsbD j = decide (j = 0) := by
      intro j hj
      show (BitVec.ofInt 32 1).getLsbD j = _
      rw [show BitVec.ofInt 32 1 = BitVec.ofNat 32 (2 ^ 1 - 1) from rfl, BitVec.getLsbD_ofNat, Nat.testBit_two_pow_sub_one]
      simp [hj]
    constructor
    · intro h
      have h3 := congrArg (fun z : Int32 => z.toBitVec.getLsbD 0) h
      simp only [Int32.toBitVec_and, BitVec.getLsbD_and, hm 0 (by decide), decide_true, Bool.and_true] at h3
      exact h3
    · intro h
      apply Int32.toBitVec_inj.mp
      apply BitVec.eq_of_getLsbD_eq
      intro j hj
      simp only [Int32.toBitVec_and, BitVec.getLsbD_and, hm j hj]
      by_cases e : j = 0
      · rw [e, h]; rfl
      · simp [e]
  unfold nj_cmp bt
  rw [← h1]
  cases hz : (x >>> (Int32.ofNat i &&& 31)).toBitVec.getLsbD 0 with
  | true => exact decide_eq_false (fun z => z ((h2 _).mpr hz))
  | false => exact decide_eq_true (fun z => by have := (h2 _).mp z; rw [hz] at this; cases this)
theorem bt_or {x : Int32} {i j : Nat} (hi : i < 31) (hj : j < 31) : bt (x ||| (Int32.ofInt 1 <<< (Int32.ofNat i &&& 31))) j = (decide (j = i) || bt x j) := by
  have hs : ((Int32.ofInt 1 : Int32) <<< (Int32.ofNat i &&& 31)).toBitVec.getLsbD j = decide (j = i) := by
    have e1 : ((Int32.ofNat i &&& 31).toBitVec.smod 32).toNat = i := zB_sm i (by omega)
    rw [Int32.toBitVec_shiftLeft, BitVec.shiftLeft_eq', e1, BitVec.getLsbD_shiftLeft]
    show (decide (j < 32) && !decide (j < i) && (BitVec.ofInt 32 1).getLsbD (j - i)) = _
    rw [show BitVec.ofInt 32 1 = BitVec.ofNat 32 (2 ^ 1 - 1) from rfl, BitVec.getLsbD_ofNat, Nat.testBit_two_pow_sub_one, decide_eq_true (show j < 32 by omega)]
    by_cases h1 : j < i
    · rw [decide_eq_true h1, decide_eq_false (show ¬ j = i by omega)]; rfl
    · rw [decide_eq_false h1, decide_eq_true (show j - i < 32 by omega)]
      by_cases h2 : j = i
      · rw [decide_eq_true h2, decide_eq_true (show j - i < 1 by omega)]; rfl
      · rw [decide_eq_false h2, decide_eq_false (show ¬ j - i < 1 by omega)]; rfl
  unfold bt
  rw [Int32.toBitVec_or, BitVec.getLsbD_or, hs, Bool.or_comm]
abbrev e6 : Nat × Nat × Nat × Nat × Nat × Nat := (0, 0, 0, 0, 0, 0)
def hoB (H : Hs) (z : Ho) : Prop :=
  (H.2.1.1.length = H.1.2.1.length ∧ H.2.1.2.1.length = H.1.2.1.length ∧ H.2.1.2.2.1.length = H.1.2.1.length ∧ H.2.1.2.2.2.length = H.1.2.1.length ∧ H.2.2.1.length = H.1.2.2.1.length ∧ H.2.2.2.length = H.1.2.2.2.length) ∧
  (∀ i, i < H.1.2.1.length → z.2.2.1 i = Int32.ofNat (H.2.1.1.getD i 0) ∧ H.2.1.1.getD i 0 ≤ 300) ∧
  (∀ i, i < 10 → z.2.2.2.1 i = oI (H.2.1.2.1.getD i none)) ∧
  (∀ i, i < 10 → z.2.2.2.2.1 i = oI (H.2.1.2.2.1.getD i none) ∧ ∀ j, H.2.1.2.2.1.getD i none = some j → j < 10) ∧
  (∀ i, i < 10 → z.2.2.2.2.2.1 i = oC (H.2.1.2.2.2.getD i none) ∧ bt z.2.2.2.2.2.2.2.2.2.2.2.2.2.2.1 i = (H.2.1.2.2.2.getD i none).isSome) ∧
  (∀ i, i < H.1.2.2.1.length → z.2.2.2.2.2.2.1 i = Int32.ofNat (H.2.2.1.getD i e6).1 ∧ z.2.2.2.2.2.2.2.1 i = Int32.ofNat (H.2.2.1.getD i e6).2.1 ∧ z.2.2.2.2.2.2.2.2.1 i = Int32.ofNat (H.2.2.1.getD i e6).2.2.1 ∧ z.2.2.2.2.2.2.2.2.2.1 i = Int32.ofNat (H.2.2.1.getD i e6).2.2.2.1 ∧ z.2.2.2.2.2.2.2.2.2.2.1 i = Int32.ofNat (H.2.2.1.getD i e6).2.2.2.2.1 ∧ z.2.2.2.2.2.2.2.2.2.2.2.1 i = Int32.ofNat (H.2.2.1.getD i e6).2.2.2.2.2) ∧
  (∀ i, i < H.1.2.2.2.length → (H.2.2.2.getD i []).length ≤ 12 ∧ z.2.2.2.2.2.2.2.2.2.2.2.2.1 i = Int32.ofNat (H.2.2.2.getD i []).length ∧ ∀ j, j < (H.2.2.2.getD i []).length → z.2.2.2.2.2.2.2.2.2.2.2.2.2.1 (12 * i + j) = Int32.ofNat ((H.2.2.2.getD i []).getD j 0))
def hoR (H : Hs) (z : Ho) : Prop := nmOk H.1 ∧ nmR z.2.1 (nsl H.1) ∧ (z.1 0 = Int32.ofNat H.1.1.length ∧ z.1 1 = Int32.ofNat H.1.2.1.length ∧ z.1 2 = Int32.ofNat H.1.2.2.1.length ∧ z.1 3 = Int32.ofNat H.1.2.2.2.length) ∧ hoB H z
abbrev hLi (z : Ho) : Int32 := z.2.2.2.2.2.2.2.2.2.2.2.2.2.2.2
/-- what a reader of a line leaves -/
abbrev pLn (T : Nat → Tk) (b kd pl : Nat → Int32) (vl ky : Nat → Int64) (len tok tl fk fp : Int32) (z : Ho) (R : Rs Hs) : Option Value → nL → Prop := fun rv l => (∃ q H1 z1 cur1 tak1, R = .inr (q, H1) ∧ rv = some (.int 1) ∧ txR T kd pl vl tok cur1 q ∧ hoR H1 z1 ∧ hLi z1 = hLi z ∧ l = th b kd pl vl ky len tok cur1 tak1 tl fk fp z1) ∨ (∃ e q z1 cur1 tak1, R = .inl (e, q) ∧ rv = some (.int 0) ∧ l = th b kd pl vl ky len tok cur1 tak1 tl (Int32.ofNat e) (Int32.ofNat q) z1)
theorem ofN_cl {c : Nat} (hc : c < 1000) : (Int32.ofNat c).toNatClampNeg = c := (ix_nat (i := c) (n := 1000) hc (by decide)).2
theorem ofN_ne {c : Nat} (hc : c < 1000) : ¬ Int32.ofNat c = Int32.ofInt (-1) := by
  intro h
  have h1 := congrArg Int32.toInt h
  rw [i32_small (by omega)] at h1
  have : (Int32.ofInt (-1)).toInt = -1 := rfl
  omega
section RLN
variable {L : Nat} {xs : Nat → Int32} {d : Nat} {b kd pl : Nat → Int32} {vl ky : Nat → Int64} {len tok cur tak tl fk fp : Int32} {T : Nat → Tk} {p : Nat} {z : Ho} {H : Hs}
/-- a step's line -/
theorem r_step (hT : tkOk T) (h : txR T kd pl vl tok cur p) (hH : hoR H z) : mS nj_M nX0 L xs (d + 1) 33 [.ref 22, .ref 1, .int (Int32.ofNat 0)] (th b kd pl vl ky len tok cur tak tl fk fp z) (pLn T b kd pl vl ky len tok tl fk fp z (sStep T p H)) := by
  obtain ⟨n1, n2, n3, n4⟩ := hH
  have hb := sBe_ok (p := p) hT n1 H.1.1.length 6
  refine mS_mono (r_begins (c := H.1.1.length) (s := 0) (lo := 0) (hi := 6) hT h n2 (by decide) rfl rfl (by decide) (by have := n1.1; omega) n3.1) ?_
  rintro rv l (⟨q, w, cur1, e1, hlt, w1, w2, w3, rfl, h1, rfl⟩ | ⟨e, q, cur1, e1, rfl, rfl⟩)
  · have hnew := hb.2 q w e1
    have e2 := hb.1.symm.trans e1
    have hlen : H.1.1.length < 6 := by omega
    refine Or.inl ⟨q, ((H.1.1 ++ [w], H.1.2), H.2), (upd z.1 0 (Int32.ofNat (H.1.1.length + 1)), vp_updL z.2.1 (0 + H.1.1.length) (Int64.ofNat (e32 w 0)), z.2.2), cur1, tak, ?_, rfl, h1, ⟨nmOk_1 n1 ⟨w1, w2, w3⟩ hnew hlen, ?_, ⟨?_, n3.2.1, n3.2.2.1, n3.2.2.2⟩, n4⟩, rfl, rfl⟩
    · unfold sStep
      rw [e2]
      rfl
    · have := nmR_set n2 (k := H.1.1.length) (by omega) (w := w) ⟨w1, w2, w3⟩
      rw [nsl_1 hlen] at this
      rw [show 0 + H.1.1.length = H.1.1.length from Nat.zero_add _]
      exact this
    · show Int32.ofNat (H.1.1.length + 1) = Int32.ofNat (H.1.1 ++ [w]).length
      rw [List.length_append]
      rfl
  · refine Or.inr ⟨e, q, z, cur1, tak, ?_, rfl, rfl⟩
    unfold sStep
    rw [hb.1.symm.trans e1]
    rfl
theorem sKno_ok (ns : List (List Nat)) : sKno T p ns = knR p (kn3 T p ns) := by
  unfold sKno kn3
  by_cases e : (T p).1 = 2
  · rw [if_neg (fun y => y e), if_neg (fun y => y e)]
    show (match fi ns (T p).2.2.1 with | some i => _ | none => _) = _
    cases fi ns (T p).2.2.1 <;> rfl
  · rw [if_pos e, if_pos e]
    rfl
theorem kn3_lt {ns : List (List Nat)} {k : Nat} (h : kn3 T p ns = .inr k) : k < ns.length := by
  unfold kn3 at h
  split at h
  · cases h
  · cases hf : fi ns (T p).2.2.1 with
    | none => rw [hf] at h; cases h
    | some i =>
      rw [hf] at h
      cases h
      exact (fi_some hf).1
/-- a person that is told -/
theorem r_pers (hT : tkOk T) (h : txR T kd pl vl tok cur p) {N : List (List Nat) × List (List Nat) × List (List Nat) × List (List Nat)} (hN : nmOk N) (hn : nmR z.2.1 (nsl N)) : mS nj_M nX0 L xs (d + 1) 40 [.ref 22, .ref 1, .int (Int32.ofNat 1)] (th b kd pl vl ky len tok cur tak tl fk fp z) (fun rv l => (∃ k, sKno T p N.2.1 = .inr (p, k) ∧ k < N.2.1.length ∧ rv = some (.int (Int32.ofNat k)) ∧ l = th b kd pl vl ky len tok cur tak tl fk fp z) ∨ (∃ e q, sKno T p N.2.1 = .inl (e, q) ∧ rv = some (.int (Int32.ofInt (-1))) ∧ l = th b kd pl vl ky len tok cur tak tl (Int32.ofNat e) (Int32.ofNat q) z)) := by
  refine mS_mono (r_known (s := 1) (lo := 6) (hi := 16) hT h hn (by decide) rfl rfl (by decide) (by decide)) ?_
  have e1 := sKn_2 (p := p) hT hN
  have e2 := sKno_ok (T := T) (p := p) N.2.1
  rw [← e1] at e2
  rintro rv l (⟨k, e3, hk, rfl, rfl⟩ | ⟨e, q, e3, rfl, rfl⟩)
  · exact Or.inl ⟨k, by rw [e2, e3]; rfl, kn3_lt (e1.symm.trans e3), rfl, rfl⟩
  · exact Or.inr ⟨e, q, by rw [e2, e3]; rfl, rfl, rfl⟩
theorem r_stp (hT : tkOk T) (h : txR T kd pl vl tok cur p) {N : List (List Nat) × List (List Nat) × List (List Nat) × List (List Nat)} (hN : nmOk N) (hn : nmR z.2.1 (nsl N)) : mS nj_M nX0 L xs (d + 1) 40 [.ref 22, .ref 1, .int (Int32.ofNat 0)] (th b kd pl vl ky len tok cur tak tl fk fp z) (fun rv l => (∃ k, sKno T p N.1 = .inr (p, k) ∧ k < N.1.length ∧ rv = some (.int (Int32.ofNat k)) ∧ l = th b kd pl vl ky len tok cur tak tl fk fp z) ∨ (∃ e q, sKno T p N.1 = .inl (e, q) ∧ rv = some (.int (Int32.ofInt (-1))) ∧ l = th b kd pl vl ky len tok cur tak tl (Int32.ofNat e) (Int32.ofNat q) z)) := by
  refine mS_mono (r_known (s := 0) (lo := 0) (hi := 6) hT h hn (by decide) rfl rfl (by decide) (by decide)) ?_
  have e1 := sKn_1 (p := p) hT hN
  have e2 := sKno_ok (T := T) (p := p) N.1
  rw [← e1] at e2
  rintro rv l (⟨k, e3, hk, rfl, rfl⟩ | ⟨e, q, e3, rfl, rfl⟩)
  · exact Or.inl ⟨k, by rw [e2, e3]; rfl, kn3_lt (e1.symm.trans e3), rfl, rfl⟩
  · exact Or.inr ⟨e, q, by rw [e2, e3]; rfl, rfl, rfl⟩
end RLN
