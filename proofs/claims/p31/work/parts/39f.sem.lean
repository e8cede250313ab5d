/-! places: what is known beside the walk -/
theorem gV_shift {f g : Nat → Int32} {a b : Nat} (h : ∀ j, j < 181 → f (a + j) = g (b + j)) (hg : gV g b = 1) : gV f a = 1 := by
  obtain ⟨h1, h2, h3⟩ := gV_one.mp hg
  have e := h 0 (by omega)
  simp only [Nat.add_zero] at e
  refine gV_one.mpr ⟨by rw [e]; exact h1, by rw [e]; exact h2, ?_⟩
  rw [e, gH_shift (g := g) (b := b + 1) (fun j hj => by
    have := h (1 + j) (by omega)
    rw [← Nat.add_assoc, ← Nat.add_assoc] at this
    exact this)]
  exact h3
theorem gH_step {f : Nat → Int32} {b i n n1 : Nat} (h0 : gH f b i = some n) (h1 : gH f b (i + 1) = some n1) : ((f (b + 3 * i)).toInt = 20 ∧ 1 ≤ n ∧ n1 = n) ∨ (((f (b + 3 * i)).toInt = 21 ∨ (f (b + 3 * i)).toInt = 22) ∧ 2 ≤ n ∧ n1 = n - 1) ∨ (0 ≤ (f (b + 3 * i)).toInt ∧ (f (b + 3 * i)).toInt < 20 ∧ n1 = n + 1 ∧ ((f (b + 3 * i)).toInt = 2 → 0 ≤ (f (b + 3 * i + 2)).toInt ∧ (f (b + 3 * i + 2)).toInt ≤ 5) ∧ ((f (b + 3 * i)).toInt = 3 → 0 ≤ (f (b + 3 * i + 2)).toInt ∧ (f (b + 3 * i + 2)).toInt ≤ 9)) := by
  simp only [gH, h0] at h1
  split at h1
  · next e =>
    split at h1
    · cases h1; exact .inl ⟨e, by omega, rfl⟩
    · cases h1
  · split at h1
    · next e =>
      split at h1
      · cases h1; exact .inr (.inl ⟨e, by omega, rfl⟩)
      · cases h1
    · split at h1
      · next e =>
        cases h1
        exact .inr (.inr ⟨e.1, e.2.1, rfl, e.2.2.1, e.2.2.2⟩)
      · cases h1
def ghI_0 (c : Nat) : aS := ([(1, (c : Int)), ((c : Int) + 1, 2147483647)], [9, 50], [(0, 1021 + c, .inr (.inl (0, 0)))], [(1, .inl (180 + 3 * (c : Int)), .inl 20)], [])
def ghI_1 (c : Nat) : aS := ([(2, (c : Int)), ((c : Int) + 1, 2147483647), (21, 22)], [9, 50], [(0, 1021 + c, .inr (.inl (0, -1)))], [(1, .inl (180 + 3 * (c : Int)), .inr (.inl (2, 0)))], [])
def ghI_2 (c : Nat) : aS := ([(0, (c : Int)), ((c : Int) + 1, 2147483647), (0, 1)], [9, 50], [(0, 1021 + c, .inr (.inl (0, 1)))], [(1, .inl (180 + 3 * (c : Int)), .inr (.inl (2, 0)))], [])
def ghI_3 (c : Nat) : aS := ([(0, (c : Int)), ((c : Int) + 1, 2147483647), (2, 2), (0, 5)], [9, 50], [(0, 1021 + c, .inr (.inl (0, 1)))], [(1, .inl (180 + 3 * (c : Int)), .inr (.inl (2, 0))), (1, .inl (180 + 3 * (c : Int) + 2), .inr (.inl (3, 0)))], [])
def ghI_4 (c : Nat) : aS := ([(0, (c : Int)), ((c : Int) + 1, 2147483647), (3, 3), (0, 9)], [9, 50], [(0, 1021 + c, .inr (.inl (0, 1)))], [(1, .inl (180 + 3 * (c : Int)), .inr (.inl (2, 0))), (1, .inl (180 + 3 * (c : Int) + 2), .inr (.inl (3, 0)))], [])
def ghI_5 (c : Nat) : aS := ([(0, (c : Int)), ((c : Int) + 1, 2147483647), (4, 19)], [9, 50], [(0, 1021 + c, .inr (.inl (0, 1)))], [(1, .inl (180 + 3 * (c : Int)), .inr (.inl (2, 0)))], [])
def ghI (c : Nat) : nGt := (259, 25, [0, 3, 2], ([(0, (c : Int)), ((c : Int) + 1, 2147483647)], [9, 50], [(0, 6, .inr (.inr (.inl 1))), (0, 1020 + c, .inr (.inl (0, 0))), (0, 1002, .inl 1)], [(1, .inl 179, .inr (.inl (1, 0)))], []), [.inr (.inr (.inl 0)), .inl (c : Int), .inr (.inl (0, 0))], [ghI_0 c, ghI_1 c, ghI_2 c, ghI_3 c, ghI_4 c, ghI_5 c])
theorem aRi {nu : List Int} {mu : List Nat} {i : Nat} {c z : Int} {x : Int32} (hz : nu[i]? = some z) (hx : x.toInt = z + c) : aR nu mu (.inr (.inl (i, c))) (.int x) := ⟨z, hz, by rw [← hx, Int32.ofInt_toInt]⟩
theorem aRc {nu : List Int} {mu : List Nat} {c : Int} {x : Int32} (hx : x.toInt = c) : aR nu mu (.inl c) (.int x) := by
  show Value.int x = .int (Int32.ofInt c)
  rw [← hx, Int32.ofInt_toInt]
theorem aE2 {z0 z1 : Int} {r0 r1 : Int × Int} (h0 : r0.1 ≤ z0 ∧ z0 ≤ r0.2) (h1 : r1.1 ≤ z1 ∧ z1 ≤ r1.2) : aE [r0, r1] [z0, z1] := aE_push (aE_push (rho := []) (nu := []) ⟨rfl, fun i z r h => by simp at h⟩ h0) h1
theorem aE3 {z0 z1 z2 : Int} {r0 r1 r2 : Int × Int} (h0 : r0.1 ≤ z0 ∧ z0 ≤ r0.2) (h1 : r1.1 ≤ z1 ∧ z1 ≤ r1.2) (h2 : r2.1 ≤ z2 ∧ z2 ≤ r2.2) : aE [r0, r1, r2] [z0, z1, z2] := aE_push (aE2 h0 h1) h2
theorem aE4 {z0 z1 z2 z3 : Int} {r0 r1 r2 r3 : Int × Int} (h0 : r0.1 ≤ z0 ∧ z0 ≤ r0.2) (h1 : r1.1 ≤ z1 ∧ z1 ≤ r1.2) (h2 : r2.1 ≤ z2 ∧ z2 ≤ r2.2) (h3 : r3.1 ≤ z3 ∧ z3 ≤ r3.2) : aE [r0, r1, r2, r3] [z0, z1, z2, z3] := aE_push (aE3 h0 h1 h2) h3
theorem aE5 {z0 z1 z2 z3 z4 : Int} {r0 r1 r2 r3 r4 : Int × Int} (h0 : r0.1 ≤ z0 ∧ z0 ≤ r0.2) (h1 : r1.1 ≤ z1 ∧ z1 ≤ r1.2) (h2 : r2.1 ≤ z2 ∧ z2 ≤ r2.2) (h3 : r3.1 ≤ z3 ∧ z3 ≤ r3.2) (h4 : r4.1 ≤ z4 ∧ z4 ≤ r4.2) : aE [r0, r1, r2, r3, r4] [z0, z1, z2, z3, z4] := aE_push (aE4 h0 h1 h2 h3) h4
theorem aE1 {z0 : Int} {r0 : Int × Int} (h0 : r0.1 ≤ z0 ∧ z0 ≤ r0.2) : aE [r0] [z0] := aE_push (rho := []) (nu := []) ⟨rfl, fun i z r h => by simp at h⟩ h0
/-- a place of a row by its number -/
theorem acC {nu : List Int} {mu : List Nat} {h : List nC} {j q n i : Nat} {c : Int} {a : aV} {f : Nat → Int32} (hj : mu[j]? = some q) (hq : h[q]? = some (.inl (0, n, .inl f))) (hc : c = (i : Int)) (hi : i ≤ 2147483647) (ha : aR nu mu a (.int (f i))) : acOk nu mu h (j, .inl c, a) := by
  subst hc
  refine ⟨q, 0, n, f, Int32.ofInt (i : Int), hj, hq, rfl, ?_⟩
  have e : (Int32.ofInt (i : Int)).toNatClampNeg = i := by
    show (Int32.ofInt (i : Int)).toInt.toNat = i
    rw [a32 (by omega) (by omega)]
    omega
  rw [e]
  exact ha
theorem ghI_ok (S : List Nat) (c : Nat) (hc : c < 44) : nGv nFT nAT S (nJJ S) (ghI c) := by
  intro h nu mu vs hJ hT k hv
  obtain ⟨z0, zr0, rfl, ze0⟩ := lc (show 2 = nu.length from k.1.1)
  obtain ⟨z1, zr1, rfl, ze1⟩ := lc ze0
  cases l0 ze1
  obtain ⟨q0, qr0, rfl, qe0⟩ := lc (show 2 = mu.length from k.2.1.1)
  obtain ⟨q1, qr1, rfl, qe1⟩ := lc qe0
  cases l0 qe1
  have b0 : 0 ≤ z0 ∧ z0 ≤ (c : Int) := k.1.2 0 z0 _ rfl rfl
  have b1 : (c : Int) + 1 ≤ z1 ∧ z1 ≤ 2147483647 := k.1.2 1 z1 _ rfl rfl
  have t0 : S[q0]? = some 9 := k.2.1.2 0 q0 _ rfl rfl
  have t1 : S[q1]? = some 50 := k.2.1.2 1 q1 _ rfl rfl
  obtain ⟨fs, hq, hfs⟩ := hT.obj t0 (show oT 9 = some 9 from rfl)
  obtain ⟨u6, f6, a6⟩ := fc_at k (show (0, 6, .inr (.inr (.inl 1))) ∈ (ghI c).2.2.2.1.2.2.1 by simp [ghI]) rfl hq
  rw [nFd_lo (by decide)] at f6
  have y6 := aRr a6 (show _ = some q1 from rfl)
  subst y6
  obtain ⟨un, fn, an⟩ := fc_at k (show (0, 1020 + c, .inr (.inl (0, 0))) ∈ (ghI c).2.2.2.1.2.2.1 by simp [ghI]) rfl hq
  rw [nFd_hi (by omega)] at fn
  have yn := aRs an (show _ = some z0 from rfl)
  subst yn
  have gn := Value.int.inj (Option.some.inj fn)
  obtain ⟨u2, f2, a2⟩ := fc_at k (show (0, 1002, .inl 1) ∈ (ghI c).2.2.2.1.2.2.1 by simp [ghI]) rfl hq
  rw [nFd_hi (by decide)] at f2
  have y2 : u2 = .int (Int32.ofInt 1) := a2
  subst y2
  have g2 := Value.int.inj (Option.some.inj f2)
  obtain ⟨r1, f, i1, i2, hr, hg1, -⟩ := row_at hT hfs (show nFT 9 6 = some (.inr (.inl 50)) from rfl) (show nAT 50 = some (0, 360, .inl segS) from segS_ok) rfl
  cases Option.some.inj (f6.symm.trans i1)
  obtain ⟨i9, i8, i7⟩ := ac_at k (show (1, .inl 179, .inr (.inl (1, 0))) ∈ (ghI c).2.2.2.1.2.2.2.1 by simp [ghI]) rfl hr
  have i6 : i9 = Int32.ofInt 179 := Value.int.inj i8
  subst i6
  have i5 : (Int32.ofInt 179).toNatClampNeg = 179 := by decide
  rw [i5] at i7
  have i4 := Value.int.inj (aRs i7 (show _ = some z1 from rfl))
  rw [nGh9, nG9_2, hg1] at g2
  obtain ⟨v1, v2, v3⟩ := gV_one.mp g2
  rw [gCutT (by decide), i4, a32 (by omega) (by omega)] at v1 v2 v3
  rw [nGh9, nG9_h (by omega), hg1] at gn
  obtain ⟨n, hn⟩ := gH_some v3 (show c ≤ _ by omega)
  obtain ⟨n1, hn1⟩ := gH_some v3 (show c + 1 ≤ _ by omega)
  have hn' : gH (gCut true f) 180 c = some n := hn
  have hn1' : gH (gCut true f) 180 (c + 1) = some n1 := hn1
  rw [hn'] at gn
  have nle := gH_le hn'
  have n1le := gH_le hn1'
  have en := congrArg Int32.toInt gn
  rw [i32n (by omega), a32 (by omega) (by omega)] at en
  have step := gH_step hn' hn1'
  have ec : gCut true f (180 + 3 * c) = f (180 + 3 * c) := gCutT (by omega)
  have ec2 : gCut true f (180 + 3 * c + 2) = f (180 + 3 * c + 2) := gCutT (by omega)
  rw [ec, ec2] at step
  have e21 : 1021 + c = 1020 + (c + 1) := by omega
  have ghost : nFd h 9 fs (1021 + c) = some (.int (Int32.ofNat n1)) := by
    rw [nFd_hi (by omega), e21, nGh9, nG9_h (by omega), hg1, hn1']
  have k21 := k.2.1
  rcases step with ⟨s1, s2, s3⟩ | ⟨s1, s2, s3⟩ | ⟨s1, s2, s3, s4, s5⟩
  · refine ⟨ghI_0 c, by simp only [ghI]; exact List.mem_cons_self, [z0, z1], [q0, q1], aX.rf, aE2 ⟨by omega, by omega⟩ b1, k21, fun e he => ?_, fun e he => ?_, (fun e he => nomatch he)⟩
    · simp only [ghI_0, List.mem_cons, List.not_mem_nil, or_false] at he
      subst he
      exact ⟨q0, 9, fs, _, rfl, hq, ghost, aRi rfl (by rw [i32n (by omega)]; omega)⟩
    · simp only [ghI_0, List.mem_cons, List.not_mem_nil, or_false] at he
      subst he
      exact acC (i := 180 + 3 * c) rfl hr (by omega) (by omega) (aRc s1)
  · refine ⟨ghI_1 c, by simp only [ghI]; exact List.mem_cons_of_mem _ List.mem_cons_self, [z0, z1, (f (180 + 3 * c)).toInt], [q0, q1], ⟨[_], [], rfl, rfl⟩, aE3 ⟨by omega, by omega⟩ b1 ⟨by omega, by omega⟩, k21, fun e he => ?_, fun e he => ?_, (fun e he => nomatch he)⟩
    · simp only [ghI_1, List.mem_cons, List.not_mem_nil, or_false] at he
      subst he
      exact ⟨q0, 9, fs, _, rfl, hq, ghost, aRi rfl (by rw [i32n (by omega)]; omega)⟩
    · simp only [ghI_1, List.mem_cons, List.not_mem_nil, or_false] at he
      subst he
      exact acC (i := 180 + 3 * c) rfl hr (by omega) (by omega) (aRi rfl (by omega))
  · by_cases w1 : (f (180 + 3 * c)).toInt = 2
    · have w2 := s4 w1
      refine ⟨ghI_3 c, by simp only [ghI]; exact List.mem_cons_of_mem _ (List.mem_cons_of_mem _ (List.mem_cons_of_mem _ List.mem_cons_self)), [z0, z1, (f (180 + 3 * c)).toInt, (f (180 + 3 * c + 2)).toInt], [q0, q1], ⟨[_, _], [], rfl, rfl⟩, aE4 ⟨by omega, by omega⟩ b1 ⟨by omega, by omega⟩ w2, k21, fun e he => ?_, fun e he => ?_, (fun e he => nomatch he)⟩
      · simp only [ghI_3, List.mem_cons, List.not_mem_nil, or_false] at he
        subst he
        exact ⟨q0, 9, fs, _, rfl, hq, ghost, aRi rfl (by rw [i32n (by omega)]; omega)⟩
      · simp only [ghI_3, List.mem_cons, List.not_mem_nil, or_false] at he
        rcases he with rfl | rfl
        · exact acC (i := 180 + 3 * c) rfl hr (by omega) (by omega) (aRi rfl (by omega))
        · exact acC (i := 180 + 3 * c + 2) rfl hr (by omega) (by omega) (aRi rfl (by omega))
    · by_cases w3 : (f (180 + 3 * c)).toInt = 3
      · have w2 := s5 w3
        refine ⟨ghI_4 c, by simp only [ghI]; exact List.mem_cons_of_mem _ (List.mem_cons_of_mem _ (List.mem_cons_of_mem _ (List.mem_cons_of_mem _ List.mem_cons_self))), [z0, z1, (f (180 + 3 * c)).toInt, (f (180 + 3 * c + 2)).toInt], [q0, q1], ⟨[_, _], [], rfl, rfl⟩, aE4 ⟨by omega, by omega⟩ b1 ⟨by omega, by omega⟩ w2, k21, fun e he => ?_, fun e he => ?_, (fun e he => nomatch he)⟩
        · simp only [ghI_4, List.mem_cons, List.not_mem_nil, or_false] at he
          subst he
          exact ⟨q0, 9, fs, _, rfl, hq, ghost, aRi rfl (by rw [i32n (by omega)]; omega)⟩
        · simp only [ghI_4, List.mem_cons, List.not_mem_nil, or_false] at he
          rcases he with rfl | rfl
          · exact acC (i := 180 + 3 * c) rfl hr (by omega) (by omega) (aRi rfl (by omega))
          · exact acC (i := 180 + 3 * c + 2) rfl hr (by omega) (by omega) (aRi rfl (by omega))
      · by_cases w4 : (f (180 + 3 * c)).toInt ≤ 1
        · refine ⟨ghI_2 c, by simp only [ghI]; exact List.mem_cons_of_mem _ (List.mem_cons_of_mem _ List.mem_cons_self), [z0, z1, (f (180 + 3 * c)).toInt], [q0, q1], ⟨[_], [], rfl, rfl⟩, aE3 ⟨by omega, by omega⟩ b1 ⟨by omega, by omega⟩, k21, fun e he => ?_, fun e he => ?_, (fun e he => nomatch he)⟩
          · simp only [ghI_2, List.mem_cons, List.not_mem_nil, or_false] at he
            subst he
            exact ⟨q0, 9, fs, _, rfl, hq, ghost, aRi rfl (by rw [i32n (by omega)]; omega)⟩
          · simp only [ghI_2, List.mem_cons, List.not_mem_nil, or_false] at he
            subst he
            exact acC (i := 180 + 3 * c) rfl hr (by omega) (by omega) (aRi rfl (by omega))
        · refine ⟨ghI_5 c, by simp only [ghI]; exact List.mem_cons_of_mem _ (List.mem_cons_of_mem _ (List.mem_cons_of_mem _ (List.mem_cons_of_mem _ (List.mem_cons_of_mem _ List.mem_cons_self)))), [z0, z1, (f (180 + 3 * c)).toInt], [q0, q1], ⟨[_], [], rfl, rfl⟩, aE3 ⟨by omega, by omega⟩ b1 ⟨by omega, by omega⟩, k21, fun e he => ?_, fun e he => ?_, (fun e he => nomatch he)⟩
          · simp only [ghI_5, List.mem_cons, List.not_mem_nil, or_false] at he
            subst he
            exact ⟨q0, 9, fs, _, rfl, hq, ghost, aRi rfl (by rw [i32n (by omega)]; omega)⟩
          · simp only [ghI_5, List.mem_cons, List.not_mem_nil, or_false] at he
            subst he
            exact acC (i := 180 + 3 * c) rfl hr (by omega) (by omega) (aRi rfl (by omega))
def ghL_0 (c : Nat) : aS := ([((c : Int) + 1, 40), (0, 9), (0, 3)], [9, 52], [(0, 8, .inr (.inr (.inl 1)))], [(1, .inl (3 * (c : Int)), .inl 0), (1, .inl (3 * (c : Int) + 1), .inr (.inl (1, 0))), (1, .inl (3 * (c : Int) + 2), .inr (.inl (2, 0)))], [])
def ghL_1 (c : Nat) : aS := ([((c : Int) + 1, 40), (0, 9)], [9, 52], [(0, 8, .inr (.inr (.inl 1)))], [(1, .inl (3 * (c : Int)), .inl 1), (1, .inl (3 * (c : Int) + 1), .inr (.inl (1, 0)))], [])
def ghL_2 (c : Nat) : aS := ([((c : Int) + 1, 40), (0, 5), (0, 9)], [9, 52], [(0, 8, .inr (.inr (.inl 1)))], [(1, .inl (3 * (c : Int)), .inl 2), (1, .inl (3 * (c : Int) + 1), .inr (.inl (1, 0))), (1, .inl (3 * (c : Int) + 2), .inr (.inl (2, 0)))], [])
def ghL_3 (c : Nat) : aS := ([((c : Int) + 1, 40)], [9, 52], [(0, 8, .inr (.inr (.inl 1)))], [(1, .inl (3 * (c : Int)), .inl 3)], [])
def ghL (c : Nat) : nGt := (247, 134, [0, 4], ([((c : Int) + 1, 40)], [9], [(0, 35, .inr (.inl (0, 0))), (0, 1001, .inl 1)], [], []), [.inr (.inr (.inl 0)), .inl (c : Int)], [ghL_0 c, ghL_1 c, ghL_2 c, ghL_3 c])
theorem tau2 {S : List Nat} {q0 q1 t0 t1 : Nat} (h0 : S[q0]? = some t0) (h1 : S[q1]? = some t1) : [t0, t1].length = [q0, q1].length ∧ ∀ (j q t : Nat), [q0, q1][j]? = some q → [t0, t1][j]? = some t → S[q]? = some t := by
  refine ⟨rfl, fun j q t a b => ?_⟩
  match j, a, b with
  | 0, a, b => cases a; cases b; exact h0
  | 1, a, b => cases a; cases b; exact h1
theorem tau3 {S : List Nat} {q0 q1 q2 t0 t1 t2 : Nat} (h0 : S[q0]? = some t0) (h1 : S[q1]? = some t1) (h2 : S[q2]? = some t2) : [t0, t1, t2].length = [q0, q1, q2].length ∧ ∀ (j q t : Nat), [q0, q1, q2][j]? = some q → [t0, t1, t2][j]? = some t → S[q]? = some t := by
  refine ⟨rfl, fun j q t a b => ?_⟩
  match j, a, b with
  | 0, a, b => cases a; cases b; exact h0
  | 1, a, b => cases a; cases b; exact h1
  | 2, a, b => cases a; cases b; exact h2
theorem tau4 {S : List Nat} {q0 q1 q2 q3 t0 t1 t2 t3 : Nat} (h0 : S[q0]? = some t0) (h1 : S[q1]? = some t1) (h2 : S[q2]? = some t2) (h3 : S[q3]? = some t3) : [t0, t1, t2, t3].length = [q0, q1, q2, q3].length ∧ ∀ (j q t : Nat), [q0, q1, q2, q3][j]? = some q → [t0, t1, t2, t3][j]? = some t → S[q]? = some t := by
  refine ⟨rfl, fun j q t a b => ?_⟩
  match j, a, b with
  | 0, a, b => cases a; cases b; exact h0
  | 1, a, b => cases a; cases b; exact h1
  | 2, a, b => cases a; cases b; exact h2
  | 3, a, b => cases a; cases b; exact h3
theorem ghL_ok (S : List Nat) (c : Nat) (hc : c < 40) : nGv nFT nAT S (nJJ S) (ghL c) := by
  intro h nu mu vs hJ hT k hv
  obtain ⟨z0, zr0, rfl, ze0⟩ := lc (show 1 = nu.length from k.1.1)
  cases l0 ze0
  obtain ⟨q0, qr0, rfl, qe0⟩ := lc (show 1 = mu.length from k.2.1.1)
  cases l0 qe0
  have b0 : (c : Int) + 1 ≤ z0 ∧ z0 ≤ 40 := k.1.2 0 z0 _ rfl rfl
  have t0 : S[q0]? = some 9 := k.2.1.2 0 q0 _ rfl rfl
  obtain ⟨fs, hq, hfs⟩ := hT.obj t0 (show oT 9 = some 9 from rfl)
  obtain ⟨u35, f35, a35⟩ := fc_at k (show (0, 35, .inr (.inl (0, 0))) ∈ (ghL c).2.2.2.1.2.2.1 by simp [ghL]) rfl hq
  rw [nFd_lo (by decide)] at f35
  have y35 := aRs a35 (show _ = some z0 from rfl)
  subst y35
  obtain ⟨u1, f1, a1⟩ := fc_at k (show (0, 1001, .inl 1) ∈ (ghL c).2.2.2.1.2.2.1 by simp [ghL]) rfl hq
  rw [nFd_hi (by decide)] at f1
  have y1 : u1 = .int (Int32.ofInt 1) := a1
  subst y1
  have g1 := Value.int.inj (Option.some.inj f1)
  obtain ⟨r1, f, i1, i2, hr, hg1, -⟩ := row_at hT hfs (show nFT 9 8 = some (.inr (.inl 52)) from rfl) (show nAT 52 = some (0, 135, .inl [(135, (-2147483648), 2147483647, true)]) from rfl) rfl
  rw [nGh9, nG9_1, hg1, gI_at f35, a32 (by omega) (by omega)] at g1
  have gc := gAll_one.mp (show gAll _ _ = 1 from g1) c (by omega)
  unfold gC at gc
  rw [decide_eq_true_eq] at gc
  obtain ⟨c1, c2, c3, c4, c5⟩ := gc
  have fcv : fcOk (z0 :: ([] : List Int)) [q0, r1] h (0, 8, .inr (.inr (.inl 1))) := ⟨q0, 9, fs, _, rfl, hq, (nFd_lo (by decide)).trans i1, ⟨r1, rfl, rfl⟩⟩
  have hX : ∀ l : List Int, aX [z0] [q0] ([z0] ++ l) [q0, r1] := fun l => ⟨l, [r1], rfl, rfl⟩
  by_cases w0 : (f (3 * c)).toInt = 0
  · have w := c3 w0
    refine ⟨ghL_0 c, by simp only [ghL]; exact List.mem_cons_self, _, _, hX [(f (3 * c + 1)).toInt, (f (3 * c + 2)).toInt], aE3 b0 ⟨w.1, w.2.1⟩ ⟨w.2.2.1, w.2.2.2⟩, tau2 t0 i2, fun e he => ?_, fun e he => ?_, (fun e he => nomatch he)⟩
    · simp only [ghL_0, List.mem_cons, List.not_mem_nil, or_false] at he
      subst he
      exact fcv.x ⟨_, [], rfl, rfl⟩
    · simp only [ghL_0, List.mem_cons, List.not_mem_nil, or_false] at he
      rcases he with rfl | rfl | rfl
      · exact acC (i := 3 * c) rfl hr (by omega) (by omega) (aRc w0)
      · exact acC (i := 3 * c + 1) rfl hr (by omega) (by omega) (aRi rfl (by omega))
      · exact acC (i := 3 * c + 2) rfl hr (by omega) (by omega) (aRi rfl (by omega))
  · by_cases w1 : (f (3 * c)).toInt = 1
    · have w := c4 w1
      refine ⟨ghL_1 c, by simp only [ghL]; exact List.mem_cons_of_mem _ List.mem_cons_self, _, _, hX [(f (3 * c + 1)).toInt], aE2 b0 w, tau2 t0 i2, fun e he => ?_, fun e he => ?_, (fun e he => nomatch he)⟩
      · simp only [ghL_1, List.mem_cons, List.not_mem_nil, or_false] at he
        subst he
        exact fcv.x ⟨_, [], rfl, rfl⟩
      · simp only [ghL_1, List.mem_cons, List.not_mem_nil, or_false] at he
        rcases he with rfl | rfl
        · exact acC (i := 3 * c) rfl hr (by omega) (by omega) (aRc w1)
        · exact acC (i := 3 * c + 1) rfl hr (by omega) (by omega) (aRi rfl (by omega))
    · by_cases w2 : (f (3 * c)).toInt = 2
      · have w := c5 w2
        refine ⟨ghL_2 c, by simp only [ghL]; exact List.mem_cons_of_mem _ (List.mem_cons_of_mem _ List.mem_cons_self), _, _, hX [(f (3 * c + 1)).toInt, (f (3 * c + 2)).toInt], aE3 b0 ⟨w.1, w.2.1⟩ ⟨w.2.2.1, w.2.2.2⟩, tau2 t0 i2, fun e he => ?_, fun e he => ?_, (fun e he => nomatch he)⟩
        · simp only [ghL_2, List.mem_cons, List.not_mem_nil, or_false] at he
          subst he
          exact fcv.x ⟨_, [], rfl, rfl⟩
        · simp only [ghL_2, List.mem_cons, List.not_mem_nil, or_false] at he
          rcases he with rfl | rfl | rfl
          · exact acC (i := 3 * c) rfl hr (by omega) (by omega) (aRc w2)
          · exact acC (i := 3 * c + 1) rfl hr (by omega) (by omega) (aRi rfl (by omega))
          · exact acC (i := 3 * c + 2) rfl hr (by omega) (by omega) (aRi rfl (by omega))
      · refine ⟨ghL_3 c, by simp only [ghL]; exact List.mem_cons_of_mem _ (List.mem_cons_of_mem _ (List.mem_cons_of_mem _ List.mem_cons_self)), _, _, hX [], aE1 b0, tau2 t0 i2, fun e he => ?_, fun e he => ?_, (fun e he => nomatch he)⟩
        · simp only [ghL_3, List.mem_cons, List.not_mem_nil, or_false] at he
          subst he
          exact fcv.x ⟨_, [], rfl, rfl⟩
        · simp only [ghL_3, List.mem_cons, List.not_mem_nil, or_false] at he
          subst he
          exact acC (i := 3 * c) rfl hr (by omega) (by omega) (aRc (by omega))
