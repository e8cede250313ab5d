/-! nothing changed: the cells are the same -/
theorem heap_eq {S : List Nat} {h h1 : List nC} {mf : List (Nat × Nat)} (hJ : nJJ S h) (hJ1 : nJJ S h1) (hT : tOk nFT nAT S h) (hF : nFr mf [] S h h1) (hx : ∀ (q t ci : Nat) (fs fs1 : List Value), S[q]? = some t → h[q]? = some (.inr (ci, fs)) → h1[q]? = some (.inr (ci, fs1)) → ∀ k, (t, k) ∈ mf → fs1[k]? = fs[k]?) : h1 = h := by
  apply List.ext_getElem?
  intro q
  by_cases hq : q < S.length
  · have hS := List.getElem?_eq_getElem hq
    obtain ⟨c, hc1, hc2⟩ := hT q _ hS
    cases c with
    | inl x =>
      obtain ⟨kd, n, ct⟩ := x
      exact (hF q _ hS).2 hc2.1 (fun z => nomatch z)
    | inr x =>
      obtain ⟨ci, fs⟩ := x
      obtain ⟨fs1, g1, g2⟩ := (hF q _ hS).1 ⟨ci, hc2.1⟩ ci fs hc1
      have e : fs1 = fs := by
        apply List.ext_getElem?
        intro k
        by_cases hk : k < 1000
        · by_cases hm : (S[q], k) ∈ mf
          · exact hx q _ ci fs fs1 hS hc1 g1 k hm
          · have := g2 k hm
            rw [nFd_lo hk, nFd_lo hk] at this
            exact this
        · have l0 := hJ.2.2.1.2 _ _ _ hc1
          have l1 := hJ1.2.2.1.2 _ _ _ g1
          rw [List.getElem?_eq_none (by omega), List.getElem?_eq_none (by omega)]
      rw [g1, hc1, e]
  · rw [List.getElem?_eq_none (by rw [hJ1.2.2.1.1]; omega), List.getElem?_eq_none (by rw [hJ.2.2.1.1]; omega)]
theorem nj_run_det {M : Nat → Option nM} {X : nX} {L : Nat} {xs : Nat → Int32} {n n2 d : Nat} {mt : nM} {pc : Nat} {lv : nLv} {st : List Value} {h : List nC} {g : Nat} {r r2 : nRes} (h1 : nj_run M X L xs n d mt pc lv st h g = some r) (h2 : nj_run M X L xs n2 d mt pc lv st h g = some r2) : r = r2 := by
  have e1 := nj_run_mono (Nat.le_max_left n n2) h1
  have e2 := nj_run_mono (Nat.le_max_right n n2) h2
  exact Option.some.inj (e1.symm.trans e2)
