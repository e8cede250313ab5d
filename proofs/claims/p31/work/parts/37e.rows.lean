/-! rows written at one place -/
theorem nj_ix_of {z : Int} {n : Nat} (h1 : 0 ≤ z) (h2 : z < n) (h3 : n ≤ 2147483647) : nj_ix (Int32.ofInt z) n = true ∧ (Int32.ofInt z).toNatClampNeg = z.toNat := by
  have e : (Int32.ofInt z).toInt = z := a32 (by omega) (by omega)
  have e2 : (Int32.ofInt z).toNatClampNeg = z.toNat := by
    show (Int32.ofInt z).toInt.toNat = _
    rw [e]
  refine ⟨?_, e2⟩
  simp only [nj_ix, Bool.and_eq_true, decide_eq_true_eq, e2]
  refine ⟨?_, by omega⟩
  rw [Int32.not_lt, Int32.le_iff_toInt_le, e]
  exact h1
theorem sFull {x : Int32} {r : Int × Int × Bool} (h : r = (-2147483648, 2147483647, true)) : r.1 ≤ x.toInt ∧ x.toInt ≤ r.2.1 := by
  subst h
  have h1 := Int32.le_toInt x
  have h2 := Int32.toInt_lt x
  simp only
  omega
theorem sFull1 {n j : Nat} {x : Int32} : ∀ r, sAt [(n, -2147483648, 2147483647, true)] j = some r → r.1 ≤ x.toInt ∧ x.toInt ≤ r.2.1 := by
  intro r h
  refine sFull ?_
  unfold sAt at h
  simp only [List.find?_cons, List.find?_nil] at h
  split at h
  · simp at h; exact h.symm
  · simp at h
def segS : List nSeg := (nAT 50).elim [] (fun x => match x.2.2 with | .inl s => s | _ => [])
def segK : List nSeg := (nAT 65).elim [] (fun x => match x.2.2 with | .inl s => s | _ => [])
theorem segS_ok : nAT 50 = some (0, 360, .inl segS) := rfl
theorem segK_ok : nAT 65 = some (0, 720, .inl segK) := rfl
theorem sFullS {j : Nat} {x : Int32} (h1 : 179 ≤ j) (h2 : j < 360) : ∀ r, sAt segS j = some r → r.1 ≤ x.toInt ∧ x.toInt ≤ r.2.1 := by
  have hall : ∀ j, j < 360 → 179 ≤ j → sAt segS j = some (-2147483648, 2147483647, true) := by decide +kernel
  intro r h
  rw [hall j h2 h1] at h
  exact sFull (Option.some.inj h).symm
theorem sFullK {j : Nat} {x : Int32} (h1 : (179 ≤ j ∧ j < 360) ∨ (539 ≤ j ∧ j < 720)) : ∀ r, sAt segK j = some r → r.1 ≤ x.toInt ∧ x.toInt ≤ r.2.1 := by
  have hall : ∀ j, j < 720 → ((179 ≤ j ∧ j < 360) ∨ (539 ≤ j ∧ j < 720)) → sAt segK j = some (-2147483648, 2147483647, true) := by decide +kernel
  intro r h
  rw [hall j (by omega) h1] at h
  exact sFull (Option.some.inj h).symm
theorem upd_ne {f : Nat → Int32} {i j : Nat} {x : Int32} (h : ¬ j = i) : upd f i x j = f j := by
  unfold upd
  rw [if_neg h]
theorem upd_eq {f : Nat → Int32} {i : Nat} {x : Int32} : upd f i x i = x := by
  unfold upd
  rw [if_pos rfl]
theorem gV_congr {f g : Nat → Int32} {b : Nat} (h : ∀ j, b ≤ j → j < b + 133 → f j = g j) : gV f b = gV g b := by
  have e := h b (by omega) (by omega)
  unfold gV
  rw [e]
  split
  · next hc =>
    rw [gH_congr (f := f) (g := g) (fun j h1 h2 => h j (by omega) (by omega))] at hc
    rw [if_pos hc]
  · next hc =>
    rw [if_neg]
    intro hd
    refine hc ⟨hd.1, hd.2.1, ?_⟩
    rw [gH_congr (f := f) (g := g) (fun j h1 h2 => h j (by omega) (by omega))]
    exact hd.2.2
theorem gCutT {f : Nat → Int32} {j : Nat} (h : 179 ≤ j) : gCut true f j = f j := by
  simp only [gCut, if_true, if_pos h]
theorem gCutF {f : Nat → Int32} {j : Nat} (h : (179 ≤ j ∧ j < 360) ∨ 539 ≤ j) : gCut false f j = f j := by
  simp only [gCut, Bool.false_eq_true, if_false, if_pos h]
theorem gC_congr {f g : Nat → Int32} {i : Nat} (h0 : f (3 * i) = g (3 * i)) (h1 : f (3 * i + 1) = g (3 * i + 1)) (h2 : f (3 * i + 2) = g (3 * i + 2)) : gC f i = gC g i := by
  unfold gC
  rw [h0, h1, h2]
theorem nG9_sk {k : Nat} {s kp rd sk sk2 : Nat → Int32} {c tp td : Int} (h : ∀ j, j < tp.toNat → sk2 j = sk j) : nG9 k s kp rd sk2 c tp td = nG9 k s kp rd sk c tp td := by
  by_cases e : k = 1000
  · subst e
    rw [nG9_0, nG9_0, gB_congr h]
  · simp only [nG9, if_neg e]
/-- the row of codes, written behind what a chronicle told -/
theorem nG9_rdT {k j i : Nat} {s kp rd rd2 sk : Nat → Int32} {c tp td : Int} (hi : i = 3 * td.toNat + j) (h : ∀ n, ¬ n = i → rd2 n = rd n) (h0 : ¬ k = 1000) (h7 : ¬ k = 1007) (h8 : ¬ k = 1008) (h9 : ¬ k = 1009) (hj : ¬ k = 1010 + j) : nG9 k s kp rd2 sk c tp td = nG9 k s kp rd sk c tp td := by
  by_cases e1 : k = 1001
  · subst e1
    rw [nG9_1, nG9_1]
    exact gAll_congr (fun n hn => gC_congr (h _ (by omega)) (h _ (by omega)) (h _ (by omega)))
  · by_cases e2 : k = 1010
    · subst e2
      rw [nG9_a, nG9_a, h _ (by omega)]
    · by_cases e3 : k = 1011
      · subst e3
        rw [nG9_b, nG9_b, h _ (by omega)]
      · by_cases e4 : k = 1012
        · subst e4
          rw [nG9_c, nG9_c, h _ (by omega)]
        · exact nG9_rd h0 e1 h7 h8 h9 e2 e3 e4
/-- the row of codes, written behind the codes -/
theorem nG9_rdC {k j i : Nat} {s kp rd rd2 sk : Nat → Int32} {c tp td : Int} (hi : i = 3 * c.toNat + j) (h : ∀ n, ¬ n = i → rd2 n = rd n) (h1 : ¬ k = 1001) (h7 : ¬ k = 1007) (ha : ¬ k = 1010) (hb : ¬ k = 1011) (hc : ¬ k = 1012) (h8 : k = 1008 → ¬ j = 0) (h9 : k = 1009 → ¬ j = 2) : nG9 k s kp rd2 sk c tp td = nG9 k s kp rd sk c tp td := by
  by_cases e1 : k = 1000
  · subst e1
    rw [nG9_0, nG9_0, gH_congr (f := rd2) (g := rd) (fun n _ hn => h n (by omega))]
  · by_cases e2 : k = 1008
    · have := h8 e2
      subst e2
      rw [nG9_8, nG9_8, h _ (by omega)]
    · by_cases e3 : k = 1009
      · have := h9 e3
        subst e3
        rw [nG9_9, nG9_9, h _ (by omega)]
      · exact nG9_rd e1 h1 h7 e2 e3 ha hb hc
theorem nG9_s179 {k : Nat} {s s2 kp rd sk : Nat → Int32} {c tp td : Int} (h2 : ¬ k = 1002) (h5 : ¬ k = 1005) (h6 : ¬ k = 1006) (h : ∀ n, 180 ≤ n → s2 n = s n) : nG9 k s2 kp rd sk c tp td = nG9 k s kp rd sk c tp td := by
  by_cases e7 : k = 1007
  · subst e7
    rw [nG9_7, nG9_7, gE_congr (f2 := fun j => s (180 + j)) (g2 := rd) (fun j _ => ⟨h _ (by omega), rfl⟩)]
  · by_cases e8 : 1020 ≤ k ∧ k < 1066
    · obtain ⟨i, rfl⟩ := Nat.le.dest e8.1
      rw [nG9_h (by omega), nG9_h (by omega), gH_congr (f := s2) (g := s) (fun j h1 _ => h j h1)]
    · exact nG9_s h2 h5 h6 e7 e8
theorem nG9_kp {k : Nat} {s kp kp2 rd sk : Nat → Int32} {c tp td : Int} (h3 : ¬ k = 1003) (h4 : ¬ k = 1004) (h5 : ¬ k = 1005) (h6 : ¬ k = 1006) : nG9 k s kp2 rd sk c tp td = nG9 k s kp rd sk c tp td := by
  simp only [nG9, if_neg h3, if_neg h4, if_neg h5, if_neg h6]
theorem nG9_kp0 {k : Nat} {s kp kp2 rd sk : Nat → Int32} {c tp td : Int} (h3 : ¬ k = 1003) (h5 : ¬ k = 1005) (h : ∀ n, 360 ≤ n → kp2 n = kp n) : nG9 k s kp2 rd sk c tp td = nG9 k s kp rd sk c tp td := by
  by_cases e4 : k = 1004
  · subst e4
    rw [nG9_4, nG9_4, gV_congr (f := kp2) (g := kp) (fun j h1 _ => h j (by omega))]
  · by_cases e6 : k = 1006
    · subst e6
      rw [nG9_6, nG9_6, gE_congr (f2 := fun j => s (179 + j)) (g2 := fun j => kp (539 + j)) (fun j _ => ⟨rfl, h _ (by omega)⟩)]
    · exact nG9_kp h3 e4 h5 e6
theorem nG9_kp1 {k : Nat} {s kp kp2 rd sk : Nat → Int32} {c tp td : Int} (h4 : ¬ k = 1004) (h6 : ¬ k = 1006) (h : ∀ n, n < 539 → kp2 n = kp n) : nG9 k s kp2 rd sk c tp td = nG9 k s kp rd sk c tp td := by
  by_cases e3 : k = 1003
  · subst e3
    rw [nG9_3, nG9_3, gV_congr (f := kp2) (g := kp) (fun j _ h1 => h j (by omega))]
  · by_cases e5 : k = 1005
    · subst e5
      rw [nG9_5, nG9_5, gE_congr (f2 := fun j => s (179 + j)) (g2 := fun j => kp (179 + j)) (fun j hj => ⟨rfl, h _ (by omega)⟩)]
    · exact nG9_kp e3 h4 e5 h6
