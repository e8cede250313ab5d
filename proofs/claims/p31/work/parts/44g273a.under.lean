/-! who is under whom -/
def par (H : Hs) (j : Nat) : Option Nat := H.2.1.2.1.getD j none
def parOk (H : Hs) : Prop := ∀ i, i < H.1.2.1.length → ∀ q, par H i = some q → q < i
def dnF (H : Hs) (p : Nat) : Nat → Nat → Bool
  | 0, _ => false
  | f + 1, j => match par H j with
    | none => false
    | some q => decide (q = p) || dnF H p f q
def dn (H : Hs) (p j : Nat) : Bool := dnF H p (j + 1) j
theorem dnF_eq {H : Hs} (hp : parOk H) (p : Nat) : ∀ (f g j : Nat), j < f → j < g → j < H.1.2.1.length → dnF H p f j = dnF H p g j := by
  intro f
  induction f with
  | zero => intro g j h; exact absurd h (Nat.not_lt_zero _)
  | succ f ih =>
    intro g j hf hg hn
    cases g with
    | zero => exact absurd hg (Nat.not_lt_zero _)
    | succ g =>
      unfold dnF
      cases e : par H j with
      | none => rfl
      | some q =>
        have hq := hp j hn q e
        dsimp only
        rw [ih g q (by omega) (by omega) (by omega)]
theorem dn_none {H : Hs} {p j : Nat} (e : par H j = none) : dn H p j = false := by
  unfold dn dnF
  rw [e]
theorem dn_some {H : Hs} (hp : parOk H) {p j q : Nat} (hj : j < H.1.2.1.length) (e : par H j = some q) : dn H p j = (decide (q = p) || dn H p q) := by
  have hq := hp j hj q e
  unfold dn
  rw [show dnF H p (j + 1) j = (decide (q = p) || dnF H p j q) from by rw [dnF, e], dnF_eq hp p j (q + 1) q hq (by omega) (by omega)]
theorem dn_gt {H : Hs} (hp : parOk H) {p : Nat} : ∀ (m j : Nat), j < m → j < H.1.2.1.length → dn H p j = true → p < j := by
  intro m
  induction m with
  | zero => intro j h; exact absurd h (Nat.not_lt_zero _)
  | succ m ih =>
    intro j hm hj hd
    cases e : par H j with
    | none => rw [dn_none e] at hd; cases hd
    | some q =>
      have hq := hp j hj q e
      rw [dn_some hp hj e, Bool.or_eq_true] at hd
      rcases hd with hd | hd
      · have := of_decide_eq_true hd; omega
      · have := ih q (by omega) (by omega) hd; omega
theorem bt_or2 {x : Int32} {i j : Nat} (hi : i < 31) (hj : j < 32) : bt (x ||| (Int32.ofInt 1 <<< (Int32.ofNat i &&& 31))) j = (decide (j = i) || bt x j) := by
  have hs : ((Int32.ofInt 1 : Int32) <<< (Int32.ofNat i &&& 31)).toBitVec.getLsbD j = decide (j = i) := by
    have e1 : ((Int32.ofNat i &&& 31).toBitVec.smod 32).toNat = i := zB_sm i (by omega)
    rw [Int32.toBitVec_shiftLeft, BitVec.shiftLeft_eq', e1, BitVec.getLsbD_shiftLeft]
    show (decide (j < 32) && !decide (j < i) && (BitVec.ofInt 32 1).getLsbD (j - i)) = _
    rw [show BitVec.ofInt 32 1 = BitVec.ofNat 32 (2 ^ 1 - 1) from rfl, BitVec.getLsbD_ofNat, Nat.testBit_two_pow_sub_one, decide_eq_true hj]
    by_cases h1 : j < i
    · rw [decide_eq_true h1, decide_eq_false (show ¬ j = i by omega)]; rfl
    · rw [decide_eq_false h1, decide_eq_true (show j - i < 32 by omega)]
      by_cases h2 : j = i
      · rw [decide_eq_true h2, decide_eq_true (show j - i < 1 by omega)]; rfl
      · rw [decide_eq_false h2, decide_eq_false (show ¬ j - i < 1 by omega)]; rfl
  unfold bt
  rw [Int32.toBitVec_or, BitVec.getLsbD_or, hs, Bool.or_comm]
theorem bt_oo {x y : Int32} {j : Nat} : bt (x ||| y) j = (bt x j || bt y j) := by
  unfold bt
  rw [Int32.toBitVec_or, BitVec.getLsbD_or]
theorem bt_0 {j : Nat} : bt (Int32.ofInt 0) j = false := by
  show (BitVec.ofInt 32 0).getLsbD j = false
  rw [show BitVec.ofInt 32 0 = BitVec.ofNat 32 0 from rfl]
  simp
theorem bt_ext {x y : Int32} (h : ∀ j, j < 32 → bt x j = bt y j) : x = y := by
  apply Int32.toBitVec_inj.mp
  apply BitVec.eq_of_getLsbD_eq
  intro j hj
  exact h j hj
/-- the number whose bits are these -/
def mkB (f : Nat → Bool) : Nat → Int32
  | 0 => Int32.ofInt 0
  | n + 1 => if f n = true then mkB f n ||| (Int32.ofInt 1 <<< (Int32.ofNat n &&& 31)) else mkB f n
theorem mkB_bt (f : Nat → Bool) : ∀ (n j : Nat), n < 32 → j < 32 → bt (mkB f n) j = (decide (j < n) && f j) := by
  intro n
  induction n with
  | zero => intro j _ _; rw [mkB, bt_0]; simp
  | succ n ih =>
    intro j hn hj
    rw [mkB]
    split
    · next c =>
      rw [bt_or2 (by omega) hj, ih j (by omega) hj]
      by_cases e : j = n
      · subst e
        rw [c]
        simp
      · rw [decide_eq_false e, Bool.false_or]
        by_cases h : j < n
        · rw [decide_eq_true h, decide_eq_true (show j < n + 1 by omega)]
        · rw [decide_eq_false h, decide_eq_false (show ¬ j < n + 1 by omega)]
    · next c =>
      rw [ih j (by omega) hj]
      by_cases e : j = n
      · subst e
        rw [show f j = false from by simpa using c]
        simp
      · by_cases h : j < n
        · rw [decide_eq_true h, decide_eq_true (show j < n + 1 by omega)]
        · rw [decide_eq_false h, decide_eq_false (show ¬ j < n + 1 by omega)]
/-- those under p, as bits -/
def unB (H : Hs) (p : Nat) : Int32 := mkB (dn H p) H.1.2.1.length
def unS (H : Hs) (v : Int32) : Int32 := if inN v H.1.2.1.length then unB H v.toInt.toNat else Int32.ofInt (-1)
theorem unB_of {H : Hs} (hn : H.1.2.1.length ≤ 10) {p : Nat} {x : Int32} (h : ∀ j, j < 32 → bt x j = (decide (j < H.1.2.1.length) && dn H p j)) : x = unB H p := bt_ext (fun j hj => by
  rw [h j hj]
  unfold unB
  rw [mkB_bt _ _ _ (by omega) hj])
theorem unB_bt {H : Hs} (hn : H.1.2.1.length ≤ 10) {p j : Nat} (hj : j < 32) : bt (unB H p) j = (decide (j < H.1.2.1.length) && dn H p j) := by
  unfold unB
  rw [mkB_bt _ _ _ (by omega) hj]
