def nj_kws : String := "step person of god care error deed does dies gives year or and not alive clean has under errors born made number "
def nj_kw : List Int32 := [115, 116, 101, 112, 32, 112, 101, 114, 115, 111, 110, 32, 111, 102, 32, 103, 111, 100, 32, 99, 97, 114, 101, 32, 101, 114, 114, 111, 114, 32, 100, 101, 101, 100, 32, 100, 111, 101, 115, 32, 100, 105, 101, 115, 32, 103, 105, 118, 101, 115, 32, 121, 101, 97, 114, 32, 111, 114, 32, 97, 110, 100, 32, 110, 111, 116, 32, 97, 108, 105, 118, 101, 32, 99, 108, 101, 97, 110, 32, 104, 97, 115, 32, 117, 110, 100, 101, 114, 32, 101, 114, 114, 111, 114, 115, 32, 98, 111, 114, 110, 32, 109, 97, 100, 101, 32, 110, 117, 109, 98, 101, 114, 32]
def nj_fs : List Int32 := [0, 6, 16, 22, 26]
def nj_nw : List Cond := [.methodLinkNest "SlipHeirs" 18 ⟨"SlipHeirs$Family", "<init>", "()V"⟩ "SlipHeirs",
  .methodLinkNest "SlipHeirs" 28 ⟨"SlipHeirs$Life", "<init>", "()V"⟩ "SlipHeirs",
  .methodLinkNest "SlipHeirs" 38 ⟨"SlipHeirs$Phrase", "<init>", "()V"⟩ "SlipHeirs",
  .methodLinkNest "SlipHeirs" 48 ⟨"SlipHeirs$Script", "<init>", "()V"⟩ "SlipHeirs",
  .methodLinkNest "SlipHeirs$Past" 24 ⟨"SlipHeirs$Life", "<init>", "()V"⟩ "SlipHeirs",
  .methodLinkNest "SlipHeirs" 62 ⟨"SlipHeirs$Image", "<init>", "()V"⟩ "SlipHeirs",
  .methodLinkNest "SlipHeirs$Image" 9 ⟨"SlipHeirs$Family", "<init>", "()V"⟩ "SlipHeirs",
  .methodLinkNest "SlipHeirs$Image" 18 ⟨"SlipHeirs$Life", "<init>", "()V"⟩ "SlipHeirs",
  .methodLinkNest "SlipHeirs$Image" 25 ⟨"SlipHeirs$Phrase", "<init>", "()V"⟩ "SlipHeirs",
  .methodLinkNest "SlipHeirs" 69 ⟨"SlipHeirs$Planner", "<init>", "()V"⟩ "SlipHeirs",
  .fieldLinkNest "SlipHeirs$Family" 121 "SlipHeirs" "FIRST_SLOT" "[I" "SlipHeirs"]
/-- the tables' words that are kept -/
def nj_T : List Cond := lw_tbl.filter goodWord
def nj_lk (pos : Nat) (w : Cond) : Bool := bif Nat.blt pos 109 then decide ((k2_sels lw_privs)[pos]? = some w) else tb_lk (pos - 109) w
theorem nj_lk_mem {pos : Nat} {w : Cond} (h : nj_lk pos w = true) : w ∈ lw_tbl := by
  unfold nj_lk at h
  refine List.mem_append.mpr ?_
  cases hb : Nat.blt pos 109 with
  | true =>
    rw [hb] at h
    exact Or.inl (List.mem_of_getElem? (of_decide_eq_true h))
  | false =>
    rw [hb] at h
    exact Or.inr (tb_mem h)
def nj_w (pos : Nat) (w : Cond) : Bool := nj_lk pos w && goodWord w
theorem nj_w_mem {pos : Nat} {w : Cond} (h : nj_w pos w = true) : w ∈ nj_T := by
  simp only [nj_w, Bool.and_eq_true] at h
  exact List.mem_filter.mpr ⟨nj_lk_mem h.1, h.2⟩
theorem nj_T_good {ws : List Cond} (h : ∀ w ∈ ws, w ∈ nj_T) : GoodIn nj_T ws := fun w hw => ⟨h w hw, good_of_word (List.mem_filter.mp (h w hw)).2⟩
/-- what stands outside the world and is never written -/
def nj_Env (base : Nat) (ext : Nat → Option Nat) (L : Nat) (xs : Nat → Int32) (s : State) : Prop :=
  (∀ w ∈ nj_nw, va_Nw w s) ∧
  (∃ x0, ext 0 = some x0 ∧ va_X x0 L xs s s.heap ∧ x0 < base ∧ base ≤ s.heap.size) ∧
  (∃ x1, ext 1 = some x1 ∧ va_Z RX8 "FIRST_SLOT" "[I" (.ref x1) (nj_A base) s s.heap ∧ va_T .int x1 5 (fun j => .int (nj_fs.getD j 0)) (nj_A base) s s.heap) ∧
  (∃ x2 x3, ext 2 = some x2 ∧ ext 3 = some x3 ∧ vk_R RX7 52 nj_kws x2 s ∧ va_O "java/lang/String" x2 (nj_A base) s s.heap ∧ va_OF "java/lang/String" "coder" "B" (.int 0) x2 (nj_A base) s s.heap ∧ va_OF "java/lang/String" "value" "[B" (.ref x3) x2 (nj_A base) s s.heap ∧ va_T .byte x3 113 (fun j => .int (nj_kw.getD j 0)) (nj_A base) s s.heap) ∧
  va_Z "java/lang/String" "COMPACT_STRINGS" "Z" (.int 1) (nj_A base) s s.heap ∧
  va_Z "jdk/internal/util/Preconditions" "SIOOBE_FORMATTER" "Ljava/util/function/BiFunction;" (va_rf (ext 4)) (nj_A base) s s.heap ∧
  va_AO RX2 s ∧ va_AO RX1 s
theorem nj_nw_warm {s U : State} (hW : s.WarmedH U.vm) (h : ∀ w ∈ nj_nw, va_Nw w s) : ∀ w ∈ nj_nw, va_Nw w U := by
  intro w hw
  simp only [nj_nw, List.mem_cons, List.not_mem_nil, or_false] at hw
  rcases hw with rfl | rfl | rfl | rfl | rfl | rfl | rfl | rfl | rfl | rfl | rfl
  · exact va_Nw.warmM hW (h _ (by simp [nj_nw]))
  · exact va_Nw.warmM hW (h _ (by simp [nj_nw]))
  · exact va_Nw.warmM hW (h _ (by simp [nj_nw]))
  · exact va_Nw.warmM hW (h _ (by simp [nj_nw]))
  · exact va_Nw.warmM hW (h _ (by simp [nj_nw]))
  · exact va_Nw.warmM hW (h _ (by simp [nj_nw]))
  · exact va_Nw.warmM hW (h _ (by simp [nj_nw]))
  · exact va_Nw.warmM hW (h _ (by simp [nj_nw]))
  · exact va_Nw.warmM hW (h _ (by simp [nj_nw]))
  · exact va_Nw.warmM hW (h _ (by simp [nj_nw]))
  · exact va_Nw.warmF hW (h _ (by simp [nj_nw]))
theorem nj_Env.warm {base : Nat} {ext : Nat → Option Nat} {L : Nat} {xs : Nat → Int32} {s U : State} (hW : s.WarmedH U.vm) (hz : s.heap.size ≤ U.heap.size) (hq : ∀ q : Nat, q < s.heap.size → ¬ nj_A base q → U.heap[q]? = s.heap[q]?) (h : nj_Env base ext L xs s) : nj_Env base ext L xs U := by
  obtain ⟨h1, ⟨x0, a1, a2, a3, a4⟩, ⟨x1, b1, b2, b3⟩, ⟨x2, x3, c1, c2, c3, c4, c5, c6, c7⟩, h5, h6, h7, h8⟩ := h
  have hvm := hW.alike
  refine ⟨nj_nw_warm hW h1, ⟨x0, a1, (a2.moved hvm).kept (hq x0 (by omega) (Nat.not_le.mpr a3)), a3, by omega⟩, ⟨x1, b1, (b2.moved hvm).kept hq, (b3.moved hvm).kept hq⟩, ⟨x2, x3, c1, c2, c3.warm hW, (c4.moved hvm).kept hq, (c5.moved hvm).kept hq, (c6.moved hvm).kept hq, (c7.moved hvm).kept hq⟩, (h5.moved hvm).kept hq, (h6.moved hvm).kept hq, h7.moved hvm, h8.moved hvm⟩
theorem nj_Env.same {base : Nat} {ext : Nat → Option Nat} {L : Nat} {xs : Nat → Int32} {s U : State} (hv : U.vm = s.vm) (hh : U.heap = s.heap) (h : nj_Env base ext L xs s) : nj_Env base ext L xs U := by
  obtain ⟨h1, ⟨x0, a1, a2, a3, a4⟩, ⟨x1, b1, b2, b3⟩, ⟨x2, x3, c1, c2, c3, c4, c5, c6, c7⟩, h5, h6, h7, h8⟩ := h
  have hvm : s.vm.Alike U.vm := by rw [hv]; exact Vm.Alike.refl _
  have hnw : ∀ w ∈ nj_nw, va_Nw w U := fun w hw => va_Nw.same (by
    simp only [nj_nw, List.mem_cons, List.not_mem_nil, or_false] at hw
    rcases hw with rfl | rfl | rfl | rfl | rfl | rfl | rfl | rfl | rfl | rfl | rfl <;> rfl) hv.symm (h1 w hw)
  rw [nj_Env, hh]
  exact ⟨hnw, ⟨x0, a1, a2.moved hvm, a3, a4⟩, ⟨x1, b1, b2.moved hvm, b3.moved hvm⟩, ⟨x2, x3, c1, c2, c3.same hv, c4.moved hvm, c5.moved hvm, c6.moved hvm, c7.moved hvm⟩, h5.moved hvm, h6.moved hvm, h7.moved hvm, h8.moved hvm⟩
