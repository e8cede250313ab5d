/-! words: lists of letters, as numbers of the class (5 bits a letter) and of the reference (8 bits) -/
def e32 : List Nat → Nat → Nat
  | [], w => w
  | c :: r, w => e32 r (w * 32 + (c - 96))
def e256 : List Nat → Nat → Nat
  | [], w => w
  | c :: r, w => e256 r (w * 256 + c)
def let26 (c : Nat) : Prop := 97 ≤ c ∧ c ≤ 122
theorem e32_app (a b : List Nat) (w : Nat) : e32 (a ++ b) w = e32 b (e32 a w) := by
  induction a generalizing w with
  | nil => rfl
  | cons c a ih => exact ih _
theorem e256_app (a b : List Nat) (w : Nat) : e256 (a ++ b) w = e256 b (e256 a w) := by
  induction a generalizing w with
  | nil => rfl
  | cons c a ih => exact ih _
/-- a list from its end -/
theorem snoc_or (a : List Nat) : a = [] ∨ ∃ r c, a = r ++ [c] := by
  induction a with
  | nil => exact Or.inl rfl
  | cons x a ih =>
    rcases ih with rfl | ⟨r, c, rfl⟩
    · exact Or.inr ⟨[], x, rfl⟩
    · exact Or.inr ⟨x :: r, c, rfl⟩
theorem e_inj (f : List Nat → Nat) (B : Nat) (g : Nat → Nat) (h0 : f [] = 0) (hs : ∀ r c, f (r ++ [c]) = f r * B + g c) (hg : ∀ c, let26 c → 1 ≤ g c ∧ g c < B) (hi : ∀ c1 c2, let26 c1 → let26 c2 → g c1 = g c2 → c1 = c2) : ∀ (n : Nat) (a b : List Nat), a.length ≤ n → (∀ c ∈ a, let26 c) → (∀ c ∈ b, let26 c) → f a = f b → a = b := by
  intro n
  induction n with
  | zero =>
    intro a b hn ha hb h
    have : a = [] := List.length_eq_zero_iff.mp (by omega)
    subst this
    rcases snoc_or b with rfl | ⟨r, c, rfl⟩
    · rfl
    · rw [h0, hs] at h
      have := hg c (hb c (by simp))
      omega
  | succ n ih =>
    intro a b hn ha hb h
    rcases snoc_or a with rfl | ⟨r, c, rfl⟩
    · rcases snoc_or b with rfl | ⟨r2, c2, rfl⟩
      · rfl
      · rw [h0, hs] at h
        have := hg c2 (hb c2 (by simp))
        omega
    · rcases snoc_or b with rfl | ⟨r2, c2, rfl⟩
      · rw [h0, hs] at h
        have := hg c (ha c (by simp))
        omega
      · rw [hs, hs] at h
        have g1 := hg c (ha c (by simp))
        have g2 := hg c2 (hb c2 (by simp))
        have e1 : g c = g c2 := by
          have := congrArg (· % B) h
          simpa [Nat.mul_comm, Nat.mod_eq_of_lt g1.2, Nat.mod_eq_of_lt g2.2, Nat.mul_add_mod] using this
        have e2 : f r = f r2 := by
          rw [e1] at h
          have h3 : f r * B = f r2 * B := Nat.add_right_cancel h
          exact Nat.eq_of_mul_eq_mul_right (by omega) h3
        have e3 := ih r r2 (by simp at hn; omega) (fun x hx => ha x (by simp [hx])) (fun x hx => hb x (by simp [hx])) e2
        rw [e3, hi c c2 (ha c (by simp)) (hb c2 (by simp)) e1]
theorem e32_inj {a b : List Nat} (ha : ∀ c ∈ a, let26 c) (hb : ∀ c ∈ b, let26 c) (h : e32 a 0 = e32 b 0) : a = b :=
  e_inj (fun a => e32 a 0) 32 (fun c => c - 96) rfl (fun r c => e32_app r [c] 0) (fun c hc => by unfold let26 at hc; omega) (fun c1 c2 h1 h2 e => by unfold let26 at h1 h2; omega) a.length a b (Nat.le_refl _) ha hb h
theorem e256_inj {a b : List Nat} (ha : ∀ c ∈ a, let26 c) (hb : ∀ c ∈ b, let26 c) (h : e256 a 0 = e256 b 0) : a = b :=
  e_inj (fun a => e256 a 0) 256 (fun c => c) rfl (fun r c => e256_app r [c] 0) (fun c hc => by unfold let26 at hc; omega) (fun c1 c2 h1 h2 e => e) a.length a b (Nat.le_refl _) ha hb h
theorem e32_lt {a : List Nat} (ha : ∀ c ∈ a, let26 c) : ∀ w k, w < 32 ^ k → e32 a w < 32 ^ (k + a.length) := by
  induction a with
  | nil => intro w k h; exact h
  | cons c a ih =>
    intro w k h
    have hc : let26 c := ha c (by simp)
    unfold let26 at hc
    have := ih (fun x hx => ha x (by simp [hx])) (w * 32 + (c - 96)) (k + 1) (by rw [Nat.pow_succ]; omega)
    rw [show k + (c :: a).length = k + 1 + a.length from by simp; omega]
    exact this
theorem e256_lt {a : List Nat} (ha : ∀ c ∈ a, let26 c) : ∀ w k, w < 256 ^ k → e256 a w < 256 ^ (k + a.length) := by
  induction a with
  | nil => intro w k h; exact h
  | cons c a ih =>
    intro w k h
    have hc : let26 c := ha c (by simp)
    unfold let26 at hc
    have := ih (fun x hx => ha x (by simp [hx])) (w * 256 + c) (k + 1) (by rw [Nat.pow_succ]; omega)
    rw [show k + (c :: a).length = k + 1 + a.length from by simp; omega]
    exact this
