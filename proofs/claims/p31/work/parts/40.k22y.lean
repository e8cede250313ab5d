/-! more depth changes nothing -/
section NDM
variable {M : Nat → Option nM} {X : nX} {L : Nat} {xs : Nat → Int32}
theorem nj_step_dmono {run : Nat → nM → nLv → List nC → Nat → Option nRes} (hle : ∀ d1 d2 mz lv0 h0 g0 r, d1 ≤ d2 → run d1 mz lv0 h0 g0 = some r → run d2 mz lv0 h0 g0 = some r) {d d2 : Nat} (hd : d ≤ d2) {mt : nM} {i : Instr} {a b : Nat} {v : Int} {pc : Nat} {lv : nLv} {st : List Value} {h : List nC} {g : Nat} {r : nS1} (hs : nj_step M X L xs run d mt i a b v pc lv st h g = some r) : nj_step M X L xs run d2 mt i a b v pc lv st h g = some r := by
  unfold nj_step at hs ⊢
  split at hs
  · next hp => (try rw [hp]); exact hs
  · next hp =>
    (try rw [hp])
    split at hs
    · next hm => (try rw [hm]); exact hs
    · next hm =>
      (try rw [hm])
      split at hs
      · next hn => (try rw [hn]); exact hs
      · next hn =>
        (try rw [hn])
        unfold nj_calls at hs ⊢
        split at hs
        · cases hs
        · next hi =>
          (try rw [if_neg hi])
          split at hs
          · next h4 => (try rw [if_pos h4]); exact hs
          · next h4 =>
            (try rw [if_neg h4])
            split at hs
            · next h5 => (try rw [if_pos h5]); exact hs
            · next h5 =>
              (try rw [if_neg h5])
              split at hs
              · next h6 => (try rw [if_pos h6]); exact hs
              · next h6 =>
                (try rw [if_neg h6])
                split at hs
                · next h7 => (try rw [if_pos h7]); exact hs
                · next h7 =>
                  (try rw [if_neg h7])
                  unfold nj_inv at hs ⊢
                  split at hs
                  · next d1 mz hMa =>
                    obtain ⟨d3, rfl⟩ : ∃ d3, d2 = d3 + 1 := ⟨d2 - 1, by omega⟩
                    split at hs
                    · next hp =>
                      split at hs
                      · next hr =>
                        (try rw [hMa])
                        simp only [hp, if_true, hle _ d3 _ _ _ _ _ (by omega) hr]
                        exact hs
                      · cases hs
                    · cases hs
                  · cases hs
theorem nj_run_dmono : ∀ (n d d2 : Nat) (mt : nM) (pc : Nat) (lv : nLv) (st : List Value) (h : List nC) (g : Nat) (r : nRes), d ≤ d2 → nj_run M X L xs n d mt pc lv st h g = some r → nj_run M X L xs n d2 mt pc lv st h g = some r := by
  intro n
  induction n with
  | zero => intro d d2 mt pc lv st h g r _ hr; cases hr
  | succ n ih =>
    intro d d2 mt pc lv st h g r hd hr
    unfold nj_run at hr ⊢
    split at hr
    · cases hr
    · next q i a b v pos hf =>
      (try rw [hf])
      split at hr
      · next hret => (try simp only [hret]); exact hr
      · next hret =>
        (try simp only [hret])
        split at hr
        · cases hr
        · next pc1 lv1 st1 h1 g1 mc1 ms1 hs =>
          rw [nj_step_dmono (fun d1 d2 mz lv0 h0 g0 r hd hr => ih d1 d2 mz 0 lv0 [] h0 g0 r hd hr) hd hs]
          split at hr
          · cases hr
          · next rv h2 g2 mc2 ms2 hr2 =>
            simp only [ih _ _ _ _ _ _ _ _ _ hd hr2]
            exact hr
end NDM
theorem recv_at {h : List nC} {mz : nM} {q ci : Nat} {fs as : List Value} (hq : h[q]? = some (.inr (ci, fs))) (hc : (nj_cl[ci]?).map (fun z => z.1) = some mz.1.cls) : nj_recv mz (.ref q :: as) h = true := by
  unfold nj_recv
  simp only [hq]
  exact decide_eq_true hc
theorem pass_v {mz : nM} {idx b : Nat} {st : List Value} {h : List nC} (h1 : nj_recv mz (st.take b).reverse h = true) (h2 : b ≤ st.length) (h3 : nj_sum (st.drop b) ≤ 8) (h4 : (lg_sl (st.take b).reverse).length ≤ mz.2.2.1) : nj_pass mz (.invokevirtual idx) b st h = true := by
  unfold nj_pass
  rw [Bool.and_eq_true, Bool.and_eq_true, Bool.and_eq_true]
  exact ⟨decide_eq_true h2, decide_eq_true h3, decide_eq_true h4, h1⟩
