/-! the small machine's cells as a world of the kit -/
def nj_kt (k : Nat) : FieldType := match k with
  | 0 => .int
  | 1 => .byte
  | 2 => .boolean
  | 3 => .long
  | 4 => .object RX2
  | _ => .object RX1
def nj_tys (cA : Nat → ClassId) : List (ClassId × FieldType) := (List.range 6).map (fun k => (cA k, nj_kt k))
theorem nj_tys_at (cA : Nat → ClassId) {k : Nat} (h : k < 6) : (nj_tys cA)[k]? = some (cA k, nj_kt k) := by
  simp [nj_tys, List.getElem?_map, List.getElem?_range h]
def nj_rc (base : Nat) (ext : Nat → Option Nat) (cA : Nat → ClassId) : nC → va_E
  | .inl (k, n, .inl f) => .inl (cA k, n, .inl f)
  | .inl (k, n, .inr (.inl f)) => .inl (cA k, n, .inr (.inl f))
  | .inl (k, n, .inr (.inr f)) => .inl (cA k, n, .inr (.inr (.inr (.inr (fun j => (f j).map (fun x => base + x))))))
  | .inr (c, fs) => .inr (c, fs.map (nj_rl base ext))
def nj_ws (base : Nat) (ext : Nat → Option Nat) (cA : Nat → ClassId) (h : List nC) : va_W := h.mapIdx (fun i c => (base + i, nj_rc base ext cA c))
theorem nj_ws_get {base : Nat} {ext : Nat → Option Nat} {cA : Nat → ClassId} {h : List nC} {q : Nat} {c : nC} (hq : h[q]? = some c) : (nj_ws base ext cA h)[q]? = some (base + q, nj_rc base ext cA c) := by
  simp [nj_ws, List.getElem?_mapIdx, hq]
theorem nj_ws_inv {base : Nat} {ext : Nat → Option Nat} {cA : Nat → ClassId} {h : List nC} {q : Nat} {x : Nat × va_E} (hq : (nj_ws base ext cA h)[q]? = some x) : q < h.length ∧ x.1 = base + q := by
  simp only [nj_ws, List.getElem?_mapIdx, Option.map_eq_some_iff] at hq
  obtain ⟨c, h1, h2⟩ := hq
  exact ⟨(List.getElem?_eq_some_iff.mp h1).1, by rw [← h2]⟩
theorem nj_ws_set (base : Nat) (ext : Nat → Option Nat) (cA : Nat → ClassId) (h : List nC) (q : Nat) (c : nC) : (nj_ws base ext cA h).set q (base + q, nj_rc base ext cA c) = nj_ws base ext cA (h.set q c) := by
  simp [nj_ws, List.mapIdx_set]
theorem nj_ws_push (base : Nat) (ext : Nat → Option Nat) (cA : Nat → ClassId) (h : List nC) (c : nC) : nj_ws base ext cA h ++ [(base + h.length, nj_rc base ext cA c)] = nj_ws base ext cA (h ++ [c]) := by
  simp [nj_ws, List.mapIdx_append]
theorem nj_ws_len (base : Nat) (ext : Nat → Option Nat) (cA : Nat → ClassId) (h : List nC) : (nj_ws base ext cA h).length = h.length := by simp [nj_ws]
abbrev nj_A (base : Nat) : Nat → Prop := fun q => base ≤ q
theorem nj_ws_D (base : Nat) (ext : Nat → Option Nat) (cA : Nat → ClassId) (h : List nC) : va_D (nj_A base) (nj_ws base ext cA h) := by
  refine ⟨fun i j x y hi hj hxy => ?_, fun k q hk => ?_⟩
  · have h1 := (nj_ws_inv hi).2
    have h2 := (nj_ws_inv hj).2
    omega
  · have h1 := (nj_ws_inv hk).2
    show base ≤ q.1
    omega
/-- no cell but the world's stands behind base -/
theorem nj_fresh {base : Nat} {ext : Nat → Option Nat} {cA : Nat → ClassId} {h : List nC} {q : Nat} {x : va_E} (hD : va_D (nj_A base) (nj_ws base ext cA h ++ [(q, x)])) : base + h.length ≤ q := by
  have hl : (nj_ws base ext cA h ++ [(q, x)])[h.length]? = some (q, x) := by
    rw [List.getElem?_append_right (by rw [nj_ws_len]; exact Nat.le_refl _), nj_ws_len]
    simp
  have h1 : base ≤ q := hD.2 _ _ hl
  apply Nat.not_lt.mp
  intro hlt
  have hlt2 : q - base < h.length := by omega
  obtain ⟨c, hc⟩ : ∃ c, h[q - base]? = some c := ⟨_, List.getElem?_eq_getElem hlt2⟩
  have hg := nj_ws_get (base := base) (ext := ext) (cA := cA) hc
  have hg2 : (nj_ws base ext cA h ++ [(q, x)])[q - base]? = some (base + (q - base), nj_rc base ext cA c) := by
    rw [List.getElem?_append_left (by rw [nj_ws_len]; exact hlt2)]
    exact hg
  have := hD.1 _ _ _ _ hg2 hl (by show base + (q - base) = q; omega)
  omega
theorem nj_S_rf {A : Nat → Prop} {H0 H : Heap} {locs : List Loc} (h : va_S A H0 H locs) : va_S A H H locs := ⟨Nat.le_refl _, fun _ _ _ => rfl, h.2.2⟩
theorem nj_S_tr {A : Nat → Prop} {H0 H H1 : Heap} {locs locs1 : List Loc} (h : va_S A H0 H locs) (h1 : va_S A H H1 locs1) : va_S A H0 H1 locs1 := ⟨Nat.le_trans h.1 h1.1, fun q a b => (h1.2.1 q (Nat.lt_of_lt_of_le a h.1) b).trans (h.2.1 q a b), h1.2.2⟩
section NSZ
variable {p : Program} {l : Launch} {e : Env} {R : Room} {s : State} {m : MethodId} {args : Array Value} {below : List Frame} {meth : Method} {c : Code} {H : Heap} {locs : List Loc} {cells slots : Nat} {Q : State → Prop} {g : JFrame}
/-- the heap is never larger than the frame's count of cells says -/
theorem nj_size (k : H.size ≤ s.heap.size + cells → W p l e R s m args below meth c H locs cells slots Q g) : W p l e R s m args below meth c H locs cells slots Q g := by
  intro T hT X
  have h := X.heapSize
  rw [hT] at h
  exact k h T hT X
end NSZ
/-- the state of the walk: the world, behind it g cells that nobody looks at, the frame of old cells, the counts -/
def nj_St (base : Nat) (ext : Nat → Option Nat) (cA : Nat → ClassId) (D : va_G) (s : State) (h : List nC) (g : Nat) (H : Heap) (locs : List Loc) (cells : Nat) : Prop :=
  va_P D nj_cl (nj_ws base ext cA h) H ∧ va_S (nj_A base) s.heap H locs ∧ H.size = base + h.length + g ∧ base + h.length + g = s.heap.size + cells
section NST
variable {p : Program} {l : Launch} {e : Env} {R : Room} {s : State} {m : MethodId} {args : Array Value} {below : List Frame} {meth : Method} {c : Code} {H : Heap} {locs : List Loc} {cells slots : Nat} {Q : State → Prop} {g : JFrame} {base : Nat} {ext : Nat → Option Nat} {cA : Nat → ClassId} {D : va_G} {h h1 : List nC} {gg : Nat}
/-- behind a row that writes a cell -/
theorem nj_wr (hst : nj_St base ext cA D s h gg H locs cells) (hlen : h1.length = h.length) (kk : ∀ (H1 : Heap) (locs1 : List Loc), nj_St base ext cA D s h1 gg H1 locs1 cells → W p l e R s m args below meth c H1 locs1 cells slots Q g) :
    ∀ (H1 : Heap) (locs1 : List Loc), va_P D nj_cl (nj_ws base ext cA h1) H1 → va_D (nj_A base) (nj_ws base ext cA h1) → va_S (nj_A base) H H1 locs1 → W p l e R s m args below meth c H1 locs1 cells slots Q g := by
  intro H1 locs1 hP _ hS
  refine nj_size fun hz => ?_
  obtain ⟨-, g2, g3, g4⟩ := hst
  have := hS.1
  exact kk H1 locs1 ⟨hP, nj_S_tr g2 hS, by omega, by omega⟩
/-- behind a row that makes a cell -/
theorem nj_mk {x : nC} {slots1 : Nat} {g : Nat → JFrame} (hst : nj_St base ext cA D s h 0 H locs cells) (kk : ∀ (H1 : Heap) (locs1 : List Loc), nj_St base ext cA D s (h ++ [x]) 0 H1 locs1 (cells + 1) → W p l e R s m args below meth c H1 locs1 (cells + 1) slots1 Q (g (base + h.length))) :
    ∀ (q : Nat) (H1 : Heap) (locs1 : List Loc), va_P D nj_cl (nj_ws base ext cA h ++ [(q, nj_rc base ext cA x)]) H1 → va_D (nj_A base) (nj_ws base ext cA h ++ [(q, nj_rc base ext cA x)]) → va_S (nj_A base) H H1 locs1 → W p l e R s m args below meth c H1 locs1 (cells + 1) slots1 Q (g q) := by
  intro q H1 locs1 hP hD hS
  refine nj_size fun hz => ?_
  obtain ⟨-, g2, g3, g4⟩ := hst
  have h1 := hS.1
  have h2 := nj_fresh hD
  have h3 : (nj_ws base ext cA h ++ [(q, nj_rc base ext cA x)])[h.length]? = some (q, nj_rc base ext cA x) := by
    rw [List.getElem?_append_right (by rw [nj_ws_len]; exact Nat.le_refl _), nj_ws_len]
    simp
  have h4 : q < H1.size := (hP _ _ h3).lt
  have h5 : q = base + h.length := by omega
  subst h5
  rw [nj_ws_push] at hP
  exact kk H1 locs1 ⟨hP, nj_S_tr g2 hS, by simp; omega, by simp; omega⟩
end NST
