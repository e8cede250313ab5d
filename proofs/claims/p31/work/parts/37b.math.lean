/-! what is told of rows: pure facts -/
theorem gH_congr {f g : Nat → Int32} {b : Nat} : ∀ {i : Nat}, (∀ j, b ≤ j → j < b + 3 * i → f j = g j) → gH f b i = gH g b i
  | 0, _ => rfl
  | i + 1, h => by
    have ih := gH_congr (i := i) (fun j h1 h2 => h j h1 (by omega))
    have e1 := h (b + 3 * i) (by omega) (by omega)
    have e2 := h (b + 3 * i + 2) (by omega) (by omega)
    simp only [gH, ih, e1, e2]
theorem gH_shift {f g : Nat → Int32} {a b : Nat} : ∀ {i : Nat}, (∀ j, j < 3 * i → f (a + j) = g (b + j)) → gH f a i = gH g b i
  | 0, _ => rfl
  | i + 1, h => by
    have ih := gH_shift (i := i) (fun j h1 => h j (by omega))
    have e1 := h (3 * i) (by omega)
    have e2 := h (3 * i + 2) (by omega)
    rw [← Nat.add_assoc, ← Nat.add_assoc] at e2
    simp only [gH, ih, e1, e2]
theorem gH_none {f : Nat → Int32} {b i : Nat} (h : gH f b i = none) : ∀ j, i ≤ j → gH f b j = none := by
  intro j hj
  induction j with
  | zero => rw [Nat.le_zero.mp hj] at h; exact h
  | succ j ih =>
    by_cases e : i = j + 1
    · rw [← e]; exact h
    · simp only [gH, ih (by omega)]
theorem gH_some {f : Nat → Int32} {b i j : Nat} (h : (gH f b j).isSome = true) (hi : i ≤ j) : ∃ n, gH f b i = some n := by
  cases e : gH f b i with
  | some n => exact ⟨n, rfl⟩
  | none => rw [gH_none e j hi] at h; cases h
theorem gH_le {f : Nat → Int32} {b : Nat} : ∀ {i n : Nat}, gH f b i = some n → n ≤ i
  | 0, n, h => by cases h; exact Nat.le_refl _
  | i + 1, n, h => by
    simp only [gH] at h
    split at h
    · cases h
    · next m hm =>
      have := gH_le hm
      split at h
      · split at h
        · cases h; omega
        · cases h
      · split at h
        · split at h
          · cases h; omega
          · cases h
        · split at h
          · cases h; omega
          · cases h
theorem gB_congr {f g : Nat → Int32} : ∀ {i : Nat}, (∀ j, j < i → f j = g j) → gB f i = gB g i
  | 0, _ => rfl
  | i + 1, h => by
    have ih := gB_congr (i := i) (fun j h1 => h j (by omega))
    simp only [gB, ih, h i (by omega)]
theorem gB_le (f : Nat → Int32) : ∀ i : Nat, gB f i ≤ i
  | 0 => Nat.le_refl _
  | i + 1 => by
    have := gB_le f i
    simp only [gB]
    split <;> omega
theorem gE_iff {f g : Nat → Int32} : ∀ {n m : Nat}, m ≤ gE f g n ↔ m ≤ n ∧ ∀ j, j < m → f j = g j
  | 0, m => by
    simp only [gE, Nat.le_zero]
    constructor
    · intro h; subst h; exact ⟨rfl, fun j hj => absurd hj (by omega)⟩
    · intro h; exact h.1
  | n + 1, m => by
    have ih := @gE_iff f g n
    simp only [gE]
    split
    · next e =>
      constructor
      · intro h
        refine ⟨h, fun j hj => ?_⟩
        by_cases hjn : j = n
        · rw [hjn]; exact e.2
        · exact ((ih (m := n)).mp (by rw [e.1]; exact Nat.le_refl _)).2 j (by omega)
      · intro h; exact h.1
    · next e =>
      rw [ih]
      constructor
      · intro h; exact ⟨by omega, h.2⟩
      · intro h
        refine ⟨?_, h.2⟩
        by_cases hm : m = n + 1
        · subst hm
          exfalso
          refine e ⟨?_, h.2 n (by omega)⟩
          have h1 := (ih (m := n)).mpr ⟨Nat.le_refl _, fun j hj => h.2 j (by omega)⟩
          have h2 := ((ih (m := gE f g n)).mp (Nat.le_refl _)).1
          omega
        · omega
theorem gE_le (f g : Nat → Int32) (n : Nat) : gE f g n ≤ n := ((gE_iff (m := gE f g n)).mp (Nat.le_refl _)).1
theorem gE_congr {f g f2 g2 : Nat → Int32} {n : Nat} (h : ∀ j, j < n → f j = f2 j ∧ g j = g2 j) : gE f g n = gE f2 g2 n := by
  apply Nat.le_antisymm
  · refine gE_iff.mpr ⟨gE_le _ _ _, fun j hj => ?_⟩
    have hn := gE_le f g n
    obtain ⟨h1, h2⟩ := h j (by omega)
    rw [← h1, ← h2]
    exact (gE_iff.mp (Nat.le_refl (gE f g n))).2 j hj
  · refine gE_iff.mpr ⟨gE_le _ _ _, fun j hj => ?_⟩
    have hn := gE_le f2 g2 n
    obtain ⟨h1, h2⟩ := h j (by omega)
    rw [h1, h2]
    exact (gE_iff.mp (Nat.le_refl (gE f2 g2 n))).2 j hj
theorem gAll_one {p : Nat → Bool} {n : Int} : gAll p n = 1 ↔ ∀ i, i < n.toNat → p i = true := by
  unfold gAll
  split
  · next h =>
    constructor
    · intro _ i hi; exact List.all_eq_true.mp h i (List.mem_range.mpr hi)
    · intro _; rfl
  · next h =>
    constructor
    · intro h0; exact absurd h0 (by decide)
    · intro h0; exact absurd (List.all_eq_true.mpr (fun i hi => h0 i (List.mem_range.mp hi))) h
theorem gAll_congr {p q : Nat → Bool} {n : Int} (h : ∀ i, i < n.toNat → p i = q i) : gAll p n = gAll q n := by
  have e : (List.range n.toNat).all p = (List.range n.toNat).all q := by
    rw [Bool.eq_iff_iff, List.all_eq_true, List.all_eq_true]
    constructor
    · intro h0 i hi; rw [← h i (List.mem_range.mp hi)]; exact h0 i hi
    · intro h0 i hi; rw [h i (List.mem_range.mp hi)]; exact h0 i hi
  unfold gAll
  rw [e]
theorem gV_one {f : Nat → Int32} {b : Nat} : gV f b = 1 ↔ 0 ≤ (f b).toInt ∧ (f b).toInt ≤ 44 ∧ (gH f (b + 1) (f b).toInt.toNat).isSome = true := by
  unfold gV
  split
  · next h => exact ⟨fun _ => h, fun _ => rfl⟩
  · next h => exact ⟨fun h0 => absurd h0 (by decide), fun h0 => absurd h0 h⟩
theorem i32n {n : Nat} (h : n ≤ 2147483647) : (Int32.ofNat n).toInt = (n : Int) := by
  have : Int32.ofNat n = Int32.ofInt (n : Int) := by rw [Int32.ofInt_eq_ofNat]
  rw [this, a32 (by omega) (by omega)]
theorem l0 {α : Type} {l : List α} (h : 0 = l.length) : l = [] := List.eq_nil_of_length_eq_zero h.symm
theorem lc {α : Type} {l : List α} {n : Nat} (h : n + 1 = l.length) : ∃ x r, l = x :: r ∧ n = r.length := by
  cases l with
  | nil => cases h
  | cons x r => exact ⟨x, r, rfl, by simpa using h⟩
theorem aRs {nu : List Int} {mu : List Nat} {i : Nat} {c z : Int} {v : Value} (h : aR nu mu (.inr (.inl (i, c))) v) (hz : nu[i]? = some z) : v = .int (Int32.ofInt (z + c)) := by
  obtain ⟨y, h1, h2⟩ := h
  cases h1.symm.trans hz
  exact h2
theorem aRr {nu : List Int} {mu : List Nat} {j q : Nat} {v : Value} (h : aR nu mu (.inr (.inr (.inl j))) v) (hq : mu[j]? = some q) : v = .ref q := by
  obtain ⟨y, h1, h2⟩ := h
  cases h1.symm.trans hq
  exact h2
/-- a stretch of whole numbers cut into ranges -/
def cov : List (Int × Int) → Int → Int → Bool
  | [], lo, hi => decide (hi < lo)
  | r :: rs, lo, hi => decide (r.1 ≤ lo) && cov rs (r.2 + 1) hi
theorem cov_ok : ∀ {rs : List (Int × Int)} {lo hi z : Int}, cov rs lo hi = true → lo ≤ z → z ≤ hi → ∃ r ∈ rs, r.1 ≤ z ∧ z ≤ r.2
  | [], lo, hi, z, h, h1, h2 => by
    have := of_decide_eq_true h
    omega
  | r :: rs, lo, hi, z, h, h1, h2 => by
    simp only [cov, Bool.and_eq_true, decide_eq_true_eq] at h
    by_cases hz : z ≤ r.2
    · exact ⟨r, List.mem_cons_self, by omega, hz⟩
    · obtain ⟨r2, a, b⟩ := cov_ok h.2 (by omega) h2
      exact ⟨r2, List.mem_cons_of_mem _ a, b⟩
section GCV
variable {FT : Nat → Nat → Option fTy} {AT : Nat → Option aTy} {S : List Nat} {J : List nC → Prop} {c : nGt}
theorem gh_cov (i0 : Nat) (rs : List (Int × Int)) (lo hi : Int) (h1 : c.2.2.2.1.1[i0]? = some (lo, hi)) (h2 : cov rs lo hi = true) (h3 : c.2.2.2.2.2 = rs.map (fun r => (c.2.2.2.1.1.set i0 r, c.2.2.2.1.2.1, [], [], []))) : nGv FT AT S J c := by
  intro h nu mu vs _ _ k _
  obtain ⟨hl, hb⟩ := id k.1
  have hlt : i0 < nu.length := by rw [← hl]; exact (List.getElem?_eq_some_iff.mp h1).1
  have hz := List.getElem?_eq_getElem hlt
  have hr := hb i0 _ _ hz h1
  obtain ⟨r, hr1, hr2⟩ := cov_ok h2 hr.1 hr.2
  refine ⟨(c.2.2.2.1.1.set i0 r, c.2.2.2.1.2.1, [], [], []), by rw [h3]; exact List.mem_map.mpr ⟨r, hr1, rfl⟩, nu, mu, aX.rf, aE_set k.1 hz hr2, k.2.1, (fun e he => nomatch he), (fun e he => nomatch he), (fun e he => nomatch he)⟩
theorem gh_cov2 (rs : List (Int × Int)) (lo hi u0 : Int) (n : Nat) (h1 : c.2.2.2.1.1 = [(lo, hi), (u0, u0 + n)]) (h2 : cov rs lo hi = true) (h3 : c.2.2.2.2.2 = (List.range (n + 1)).flatMap (fun (j : Nat) => rs.map (fun r => ([r, (u0 + (j : Int), u0 + (j : Int))], c.2.2.2.1.2.1, [], [], [])))) : nGv FT AT S J c := by
  intro h nu mu vs _ _ k _
  have k1 := k.1
  rw [h1] at k1
  obtain ⟨z, r1, rfl, e1⟩ := lc k1.1
  obtain ⟨u, r2, rfl, e2⟩ := lc e1
  cases l0 e2
  have b0 := k1.2 0 z _ rfl rfl
  have b1 := k1.2 1 u _ rfl rfl
  simp only at b0 b1
  obtain ⟨r, hr1, hr2⟩ := cov_ok h2 b0.1 b0.2
  have hm : ([r, (u0 + (((u - u0).toNat : Nat) : Int), u0 + (((u - u0).toNat : Nat) : Int))], c.2.2.2.1.2.1, [], [], []) ∈ c.2.2.2.2.2 := by
    rw [h3]
    exact List.mem_flatMap.mpr ⟨_, List.mem_range.mpr (by omega), List.mem_map.mpr ⟨r, hr1, rfl⟩⟩
  have eu : u0 + (((u - u0).toNat : Nat) : Int) = u := by omega
  rw [eu] at hm
  refine ⟨_, hm, [z, u], mu, aX.rf, ⟨rfl, fun i y q h1 h2 => ?_⟩, k.2.1, (fun e he => nomatch he), (fun e he => nomatch he), (fun e he => nomatch he)⟩
  match i, h1, h2 with
  | 0, h1, h2 => cases h1; cases h2; exact hr2
  | 1, h1, h2 => cases h1; cases h2; exact ⟨Int.le_refl _, Int.le_refl _⟩
end GCV
/-- what a field, or a number told of the cell, is -/
theorem fc_at {S : List Nat} {h : List nC} {nu : List Int} {mu : List Nat} {s : aS} (k : aOk S h nu mu s) {j f q ci : Nat} {a : aV} {fs : List Value} (he : (j, f, a) ∈ s.2.2.1) (hj : mu[j]? = some q) (hq : h[q]? = some (.inr (ci, fs))) : ∃ v, nFd h ci fs f = some v ∧ aR nu mu a v := by
  obtain ⟨q2, c2, f2, v, g1, g2, g3, g4⟩ := k.2.2.1 _ he
  cases hj.symm.trans g1
  cases hq.symm.trans g2
  exact ⟨v, g3, g4⟩
theorem ac_at {S : List Nat} {h : List nC} {nu : List Int} {mu : List Nat} {s : aS} (k : aOk S h nu mu s) {j q kd n : Nat} {ix a : aV} {f : Nat → Int32} (he : (j, ix, a) ∈ s.2.2.2.1) (hj : mu[j]? = some q) (hq : h[q]? = some (.inl (kd, n, .inl f))) : ∃ i : Int32, aR nu mu ix (.int i) ∧ aR nu mu a (.int (f i.toNatClampNeg)) := by
  obtain ⟨q2, c2, n2, f2, i, g1, g2, g3, g4⟩ := k.2.2.2.1 _ he
  cases hj.symm.trans g1
  cases hq.symm.trans g2
  exact ⟨i, g3, g4⟩
theorem gA_at {h : List nC} {fs : List Value} {k q kd n : Nat} {f : Nat → Int32} (hk : fs[k]? = some (.ref q)) (hq : h[q]? = some (.inl (kd, n, .inl f))) : gA h fs k = f := by
  unfold gA
  rw [hk]
  simp only [hq]
theorem gI_at {fs : List Value} {k : Nat} {x : Int32} (hk : fs[k]? = some (.int x)) : gI fs k = x.toInt := by
  unfold gI
  rw [hk]
