/-! joins as a call; what lies below -/
def bs (c : Nat) (l : List Nat) : Prop := (∀ x ∈ l, x < 1000) ∧ (l = [] ∨ ∃ l1 x, l = l1 ++ [x] ∧ c < x)
theorem bs_mono {c e : Nat} {l : List Nat} (h : bs c l) (he : e ≤ c) : bs e l := by
  refine ⟨h.1, ?_⟩
  rcases h.2 with h2 | ⟨l1, x, h2, h3⟩
  · exact Or.inl h2
  · exact Or.inr ⟨l1, x, h2, by omega⟩
theorem bs_app {c x : Nat} {l : List Nat} (h : ∀ x ∈ l, x < 1000) (hx : x < 1000) (hc : c < x) : bs c (l ++ [x]) := by
  refine ⟨fun z hz => ?_, Or.inr ⟨l, x, rfl, hc⟩⟩
  rcases List.mem_append.mp hz with hz | hz
  · exact h z hz
  · rw [List.mem_singleton.mp hz]
    exact hx
theorem bs_last {l : List Nat} (h : bs 20 l) : ∀ x, l.getLast? = some x → ¬ x = 20 := by
  intro x hx
  rcases h.2 with h2 | ⟨l1, y, h2, h3⟩
  · rw [h2] at hx
    cases hx
  · have e : (l1 ++ [y]).getLast? = some y := by simp
    rw [h2, e] at hx
    cases hx
    omega
theorem bs_stop {l : List Nat} {a : Nat} (h : bs a l) (ha : a = 21 ∨ a = 22) : l = [] ∨ ∃ l1 x, l = l1 ++ [x] ∧ x < 1000 ∧ ¬ x = 21 ∧ (¬ x = 22 ∨ a = 21) := by
  rcases h.2 with h2 | ⟨l1, x, h2, h3⟩
  · exact Or.inl h2
  · refine Or.inr ⟨l1, x, h2, h.1 x ?_, by omega, by omega⟩
    rw [h2]
    exact List.mem_append.mpr (Or.inr (List.mem_singleton.mpr rfl))
def pp (a x : Nat) : Prop := x = 21 ∨ (x = 22 ∧ a = 22)
/-- what joins takes off -/
def tops (a : Nat) (u : List Nat) : Prop := u = [] ∨ (∃ x, u = [x] ∧ pp a x) ∨ ∃ x1 x, u = [x1, x] ∧ pp a x1 ∧ pp a x
section RSJ2
variable {L : Nat} {xs : Nat → Int32} {d : Nat} {o : Nat → Value} {thr len sz lim : Int32} {X : Lx} {flt fat got lns crs : Int32} {b hh s cd st : Nat → Int32} {nms rsv : Nat → Int64} {c39 c40 c41 c42 c43 : Int32}
set_option maxHeartbeats 4000000 in
theorem q_joins {l0 u : List Nat} {a y Y : Nat} (ha : a = 21 ∨ a = 22) (hb : bs a l0) (hu : tops a u) (hY : y + u.length = Y) (hY2 : Y ≤ 44) (hl : l0.length + u.length ≤ 44) (hs : stk st (l0 ++ u)) : mS nj_M nX0 L xs (d + 1) 254 [.ref 175, .int (Int32.ofNat a)] (rS o thr len sz lim X flt fat got lns crs b hh nms rsv (Int32.ofNat y) c40 (Int32.ofNat (l0 ++ u).length) c42 c43 cd st s) (fun rv l => rv = none ∧ ∃ cd1, l = (rS o thr len sz lim X flt fat got lns crs b hh nms rsv (Int32.ofNat Y) c40 (Int32.ofNat l0.length) c42 c43 cd1 st s)) := by
  have hst := bs_stop hb ha
  rcases hu with rfl | ⟨x, rfl, hx⟩ | ⟨x1, x, rfl, hx1, hx⟩
  · have e : y = Y := hY
    subst e
    rw [List.append_nil] at hs ⊢
    exact mS_of rfl (fun h0 => joins_stop ha (by omega) hs hst)
  · have e : y + 1 = Y := hY
    have hl2 : l0.length + 1 ≤ 44 := hl
    subst e
    exact mS_of rfl (fun h0 => joins_pop hx (by omega) (by omega) hs (fun cd1 => joins_stop ha (by omega) (stk_l hs) hst))
  · have e : y + 2 = Y := hY
    have hl2 : l0.length + 2 ≤ 44 := hl
    subst e
    have el : l0 ++ [x1, x] = (l0 ++ [x1]) ++ [x] := by rw [List.append_assoc]; rfl
    have el2 : (l0 ++ [x1]).length = l0.length + 1 := by rw [List.length_append]; rfl
    rw [el] at hs ⊢
    exact mS_of rfl (fun h0 => joins_pop hx (by omega) (by omega) hs (fun cd1 => joins_pop hx1 (by omega) (by omega) (stk_l hs) (fun cd2 => joins_stop ha (by omega) (stk_l (stk_l hs)) hst)))
end RSJ2
