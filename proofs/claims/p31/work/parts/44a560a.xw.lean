/-! EXACT RUNS over a picture of some cells: what a stretch of code without a call does, as a statement that computes -/
abbrev nL : Type := List (Nat × nC)
def lg (l : nL) (q : Nat) : Option nC := (l.find? (fun e => e.1 == q)).map (fun e => e.2)
def lst (l : nL) (q : Nat) (c : nC) : nL := l.map (fun e => (e.1, if e.1 == q then c else e.2))
def hk (l : nL) : List Nat := l.map (fun e => e.1)
def hv (l : nL) (h : List nC) : Prop := ∀ e ∈ l, h[e.1]? = some e.2
/-- all cells but these are as they were -/
def fr (ks : List Nat) (h h1 : List nC) : Prop := ∀ q, q ∉ ks → h1[q]? = h[q]?
theorem fr.rf {ks : List Nat} {h : List nC} : fr ks h h := fun _ _ => rfl
theorem fr.tr {ks : List Nat} {h h1 h2 : List nC} (a : fr ks h h1) (b : fr ks h1 h2) : fr ks h h2 := fun q hq => (b q hq).trans (a q hq)
theorem lg_mem {l : nL} {q : Nat} {c : nC} (h : lg l q = some c) : (q, c) ∈ l := by
  unfold lg at h
  cases hf : l.find? (fun e => e.1 == q) with
  | none => rw [hf] at h; cases h
  | some e =>
    rw [hf] at h
    have h1 := List.mem_of_find?_eq_some hf
    have h2 := List.find?_some hf
    have h3 : e.2 = c := Option.some.inj h
    have h4 : e.1 = q := by simpa using h2
    rw [← h3, ← h4]
    exact h1
theorem lg_hv {l : nL} {q : Nat} {c : nC} {h : List nC} (hh : hv l h) (e : lg l q = some c) : h[q]? = some c := hh _ (lg_mem e)
theorem hk_lst (l : nL) (q : Nat) (c : nC) : hk (lst l q c) = hk l := by
  unfold hk lst
  rw [List.map_map]
  rfl
theorem lg_hk {l : nL} {q : Nat} {c : nC} (e : lg l q = some c) : q ∈ hk l := List.mem_map.mpr ⟨_, lg_mem e, rfl⟩
theorem hv_lst {l : nL} {q : Nat} {c c0 : nC} {h : List nC} (hh : hv l h) (e : lg l q = some c0) : hv (lst l q c) (h.set q c) := by
  intro e1 he1
  obtain ⟨e2, he2, rfl⟩ := List.mem_map.mp he1
  have hq := lg_hv hh e
  have hlt : q < h.length := (List.getElem?_eq_some_iff.mp hq).1
  show (h.set q c)[e2.1]? = some (if e2.1 == q then c else e2.2)
  by_cases hc : e2.1 = q
  · have : (e2.1 == q) = true := by simpa using hc
    rw [this, if_pos rfl, hc, List.getElem?_set_self hlt]
  · have : (e2.1 == q) = false := by simpa using hc
    rw [this, if_neg (by decide), List.getElem?_set_ne (fun z => hc z.symm)]
    exact hh e2 he2
theorem fr_set {ks : List Nat} {q : Nat} {c : nC} {h : List nC} (hq : q ∈ ks) : fr ks h (h.set q c) := fun q2 h2 => List.getElem?_set_ne (fun (z : q = q2) => h2 (z ▸ hq))
/-- what reads and writes cells -/
def xm (L : Nat) (xs : Nat → Int32) (ini : Bool) (pc a b : Nat) (v : Int) (st : List Value) (l : nL) (i : Instr) (K : Nat → List Value → nL → Prop) : Prop := match i with
  | .getfield _ => match st with
    | .ref q :: r => match lg l q with
      | some (.inr (ci, fs)) => if ci = a then (match fs[b]? with | some x => K (pc + 3) (x :: r) l | none => False) else False
      | _ => False
    | _ => False
  | .putfield _ => match st with
    | x :: .ref q :: r => match lg l q with
      | some (.inr (ci, fs)) => if ci = a ∧ b < fs.length ∧ (v = 0 ∨ ini = true) then nj_fit (nj_ty a b) x = true ∧ K (pc + 3) r (lst l q (.inr (ci, fs.set b x))) else False
      | _ => False
    | _ => False
  | .iaload => match st with
    | .int i :: .ref q :: r => match lg l q with
      | some (.inl (k, n, .inl f)) => if k = 0 then nj_ix i n = true ∧ K (pc + 1) (.int (f i.toNatClampNeg) :: r) l else False
      | _ => False
    | .int i :: .retAddr j :: r => match nj_xr L xs j with
      | some (n, f) => nj_ix i n = true ∧ K (pc + 1) (.int (f i.toNatClampNeg) :: r) l
      | none => False
    | _ => False
  | .baload => match st with
    | .int i :: .ref q :: r => match lg l q with
      | some (.inl (k, n, .inl f)) => if k = 1 ∨ k = 2 then nj_ix i n = true ∧ K (pc + 1) (.int (f i.toNatClampNeg) :: r) l else False
      | _ => False
    | _ => False
  | .laload => match st with
    | .int i :: .ref q :: r => match lg l q with
      | some (.inl (k, n, .inr (.inl f))) => if k = 3 then nj_ix i n = true ∧ K (pc + 1) (.long (f i.toNatClampNeg) :: r) l else False
      | _ => False
    | _ => False
  | .iastore => match st with
    | .int x :: .int i :: .ref q :: r => match lg l q with
      | some (.inl (k, n, .inl f)) => if k = 0 then nj_ix i n = true ∧ K (pc + 1) r (lst l q (.inl (k, n, .inl (upd f i.toNatClampNeg x)))) else False
      | _ => False
    | _ => False
  | .bastore => match st with
    | .int x :: .int i :: .ref q :: r => match lg l q with
      | some (.inl (k, n, .inl f)) => if k = 1 ∨ k = 2 then nj_ix i n = true ∧ K (pc + 1) r (lst l q (.inl (k, n, .inl (upd f i.toNatClampNeg (vp_nar (nj_kt k) x))))) else False
      | _ => False
    | _ => False
  | .lastore => match st with
    | .long x :: .int i :: .ref q :: r => match lg l q with
      | some (.inl (k, n, .inr (.inl f))) => if k = 3 then nj_ix i n = true ∧ K (pc + 1) r (lst l q (.inl (k, n, .inr (.inl (vp_updL f i.toNatClampNeg x))))) else False
      | _ => False
    | _ => False
  | .arraylength => match st with
    | .ref q :: r => match lg l q with
      | some (.inl (k, n, _)) => if k < 6 then K (pc + 1) (.int (Int32.ofNat n) :: r) l else False
      | _ => False
    | _ => False
  | .ldc _ => if b = 1 then False else K (pc + 2) (.int (Int32.ofInt v) :: st) l
  | .ldc_w _ => K (pc + 3) (.int (Int32.ofInt v) :: st) l
  | .ldc2_w _ => K (pc + 3) (.long (Int64.ofInt v) :: st) l
  | .getstatic _ => if a = 0 then K (pc + 3) (.retAddr 1 :: st) l else False
  | _ => False
theorem xm_ok {L : Nat} {xs : Nat → Int32} {ini : Bool} {pc a b : Nat} {v : Int} {st : List Value} {l : nL} {i : Instr} {K : Nat → List Value → nL → Prop} {h : List nC} (hx : xm L xs ini pc a b v st l i K) (hh : hv l h) : ∃ pc1 st1 h1 l1, nj_mem L xs ini pc a b v st h i = some (pc1, st1, h1) ∧ K pc1 st1 l1 ∧ hv l1 h1 ∧ hk l1 = hk l ∧ fr (hk l) h h1 := by
  unfold xm at hx
  split at hx
  · -- getfield
    split at hx
    · next q r =>
      split at hx
      · next ci fs e =>
        split at hx
        · next hc =>
          split at hx
          · next x ex => exact ⟨_, _, _, l, (by simp only [nj_mem, nj_getf, lg_hv hh e, hc, if_true, ex]), hx, hh, rfl, fr.rf⟩
          · exact hx.elim
        · exact hx.elim
      · exact hx.elim
    · exact hx.elim
  · -- putfield
    split at hx
    · next x q r =>
      split at hx
      · next ci fs e =>
        split at hx
        · next hc =>
          obtain ⟨c1, c2, c3⟩ := hc
          exact ⟨_, _, _, _, (by simp only [nj_mem, nj_putf, lg_hv hh e]; rw [if_pos ⟨c1, c2, hx.1, c3⟩]), hx.2, hv_lst hh e, hk_lst _ _ _, fr_set (lg_hk e)⟩
        · exact hx.elim
      · exact hx.elim
    · exact hx.elim
  · -- iaload
    split at hx
    · next i q r =>
      split at hx
      · next k n f e =>
        split at hx
        · next hc => exact ⟨_, _, _, l, (by simp only [nj_mem, nj_iald, lg_hv hh e]; rw [if_pos ⟨hc, hx.1⟩]), hx.2, hh, rfl, fr.rf⟩
        · exact hx.elim
      · exact hx.elim
    · next i j r =>
      split at hx
      · next n f e => exact ⟨_, _, _, l, (by simp only [nj_mem, nj_iald, e]; rw [if_pos hx.1]), hx.2, hh, rfl, fr.rf⟩
      · exact hx.elim
    · exact hx.elim
  · -- baload
    split at hx
    · next i q r =>
      split at hx
      · next k n f e =>
        split at hx
        · next hc => exact ⟨_, _, _, l, (by simp only [nj_mem, nj_bald, lg_hv hh e]; rw [if_pos ⟨hc, hx.1⟩]), hx.2, hh, rfl, fr.rf⟩
        · exact hx.elim
      · exact hx.elim
    · exact hx.elim
  · -- laload
    split at hx
    · next i q r =>
      split at hx
      · next k n f e =>
        split at hx
        · next hc => exact ⟨_, _, _, l, (by simp only [nj_mem, nj_lald, lg_hv hh e]; rw [if_pos ⟨hc, hx.1⟩]), hx.2, hh, rfl, fr.rf⟩
        · exact hx.elim
      · exact hx.elim
    · exact hx.elim
  · -- iastore
    split at hx
    · next x i q r =>
      split at hx
      · next k n f e =>
        split at hx
        · next hc => exact ⟨_, _, _, _, (by simp only [nj_mem, nj_iast, lg_hv hh e]; rw [if_pos ⟨hc, hx.1⟩]), hx.2, hv_lst hh e, hk_lst _ _ _, fr_set (lg_hk e)⟩
        · exact hx.elim
      · exact hx.elim
    · exact hx.elim
  · -- bastore
    split at hx
    · next x i q r =>
      split at hx
      · next k n f e =>
        split at hx
        · next hc => exact ⟨_, _, _, _, (by simp only [nj_mem, nj_bast, lg_hv hh e]; rw [if_pos ⟨hc, hx.1⟩]), hx.2, hv_lst hh e, hk_lst _ _ _, fr_set (lg_hk e)⟩
        · exact hx.elim
      · exact hx.elim
    · exact hx.elim
  · -- lastore
    split at hx
    · next x i q r =>
      split at hx
      · next k n f e =>
        split at hx
        · next hc => exact ⟨_, _, _, _, (by simp only [nj_mem, nj_last, lg_hv hh e]; rw [if_pos ⟨hc, hx.1⟩]), hx.2, hv_lst hh e, hk_lst _ _ _, fr_set (lg_hk e)⟩
        · exact hx.elim
      · exact hx.elim
    · exact hx.elim
  · -- arraylength
    split at hx
    · next q r =>
      split at hx
      · next k n f e =>
        split at hx
        · next hc => exact ⟨_, _, _, l, (by simp only [nj_mem, nj_alen, lg_hv hh e]; rw [if_pos hc]), hx, hh, rfl, fr.rf⟩
        · exact hx.elim
      · exact hx.elim
    · exact hx.elim
  · -- ldc
    split at hx
    · exact hx.elim
    · next hc => exact ⟨_, _, _, l, (by simp only [nj_mem]; rw [if_neg hc]), hx, hh, rfl, fr.rf⟩
  · exact ⟨_, _, _, l, rfl, hx, hh, rfl, fr.rf⟩
  · exact ⟨_, _, _, l, rfl, hx, hh, rfl, fr.rf⟩
  · -- getstatic
    split at hx
    · next hc => exact ⟨_, _, _, l, (by simp only [nj_mem]; rw [if_pos hc]), hx, hh, rfl, fr.rf⟩
    · exact hx.elim
  · exact hx.elim
def xIsM (i : Instr) : Bool := match i with
  | .getfield _ | .putfield _ | .iaload | .baload | .laload | .iastore | .bastore | .lastore | .arraylength | .ldc _ | .ldc_w _ | .ldc2_w _ | .getstatic _ => true
  | _ => false
/-- where a stretch ends: calls, returns, switches -/
def xEnd (i : Instr) : Bool := match i with
  | .invokevirtual _ | .invokespecial _ | .invokestatic _ | .ireturn | .lreturn | .return_ | .tableswitch _ _ _ _ | .lookupswitch _ _ => true
  | _ => false
abbrev nKt : Type := Nat → nLv → List Value → nL → Prop
def xw (L : Nat) (xs : Nat → Int32) (mt : nM) (stop : Nat → Bool) : Nat → Nat → nLv → List Value → nL → nKt → Prop
  | 0, pc, lv, st, l, K => K pc lv st l
  | n + 1, pc, lv, st, l, K => match mt.2.2.2.2.2.find? (fun q => q.1 == pc) with
    | none => False
    | some (_, i, a, b, v, _) => if xEnd i = true then K pc lv st l else match i with
      | .ifCond c off => match st with
        | .int x :: r => if 0 ≤ (pc : Int) + off then (nj_cmp c x 0 = true → if stop ((pc : Int) + off).toNat = true then K ((pc : Int) + off).toNat lv r l else xw L xs mt stop n ((pc : Int) + off).toNat lv r l K) ∧ (nj_cmp c x 0 = false → if stop (pc + 3) = true then K (pc + 3) lv r l else xw L xs mt stop n (pc + 3) lv r l K) else False
        | _ => False
      | .if_icmp c off => match st with
        | .int y :: .int x :: r => if 0 ≤ (pc : Int) + off then (nj_cmp c x y = true → if stop ((pc : Int) + off).toNat = true then K ((pc : Int) + off).toNat lv r l else xw L xs mt stop n ((pc : Int) + off).toNat lv r l K) ∧ (nj_cmp c x y = false → if stop (pc + 3) = true then K (pc + 3) lv r l else xw L xs mt stop n (pc + 3) lv r l K) else False
        | _ => False
      | i => if xIsM i = true then xm L xs (mt.1.name == "<init>") pc a b v st l i (fun pc1 st1 l1 => if stop pc1 = true then K pc1 lv st1 l1 else xw L xs mt stop n pc1 lv st1 l1 K) else match nj_pure lv mt.2.2.1 pc st i with
        | some (pc1, lv1, st1) => if stop pc1 = true then K pc1 lv1 st1 l else xw L xs mt stop n pc1 lv1 st1 l K
        | none => False
/-- the method ends from here on, over every heap of this picture -/
def kT (M : Nat → Option nM) (X : nX) (L : Nat) (xs : Nat → Int32) (d : Nat) (mt : nM) (Q : Option Value → List nC → Prop) (ks : List Nat) (h0 : List nC) : nKt := fun pc lv st l => hk l = ks → ∀ h, hv l h → fr ks h0 h → nT M X L xs 0 d mt Q pc lv st h
theorem xIsM_ret {ty : Option FieldType} {i : Instr} {st : List Value} (h : xEnd i = false) : nj_ret ty i st = none := by
  cases i <;> first | rfl | cases h
theorem xIsM_pure {lv : nLv} {mL pc : Nat} {i : Instr} {st : List Value} (h : xIsM i = true) : nj_pure lv mL pc st i = none := by
  cases i <;> first | rfl | cases h
theorem xw_ok {M : Nat → Option nM} {X : nX} {L : Nat} {xs : Nat → Int32} {d : Nat} {mt : nM} {Q : Option Value → List nC → Prop} {ks : List Nat} {h0 : List nC} {stop : Nat → Bool} : ∀ (n pc : Nat) (lv : nLv) (st : List Value) (l : nL), xw L xs mt stop n pc lv st l (kT M X L xs d mt Q ks h0) → kT M X L xs d mt Q ks h0 pc lv st l := by
  intro n
  induction n with
  | zero => intro pc lv st l hx; exact hx
  | succ n ih =>
    intro pc lv st l hx
    have ih2 : ∀ pc lv st l, (if stop pc = true then kT M X L xs d mt Q ks h0 pc lv st l else xw L xs mt stop n pc lv st l (kT M X L xs d mt Q ks h0)) → kT M X L xs d mt Q ks h0 pc lv st l := by
      intro pc lv st l hz
      split at hz
      · exact hz
      · exact ih pc lv st l hz
    unfold xw at hx
    split at hx
    · exact hx.elim
    · next q i a b v pos hf =>
      split at hx
      · exact hx
      · next he =>
        have he2 : xEnd i = false := by simpa using he
        have hret : ∀ st, nj_ret mt.2.2.2.1 i st = none := fun st => xIsM_ret he2
        split at hx
        · next c off =>
          split at hx
          · next x r =>
            split at hx
            · next hp =>
              intro hks h hh hfr
              cases hc : nj_cmp c x 0 with
              | true => exact nT_pure hf (hret _) (by simp only [nj_pure, nj_br, hp, hc, if_true]) (ih2 _ _ _ _ (hx.1 hc) hks h hh hfr)
              | false => exact nT_pure hf (hret _) (by simp only [nj_pure, nj_br, hp, hc, if_true, Bool.false_eq_true, if_false]) (ih2 _ _ _ _ (hx.2 hc) hks h hh hfr)
            · exact hx.elim
          · exact hx.elim
        · next c off =>
          split at hx
          · next y x r =>
            split at hx
            · next hp =>
              intro hks h hh hfr
              cases hc : nj_cmp c x y with
              | true => exact nT_pure hf (hret _) (by simp only [nj_pure, nj_br, hp, hc, if_true]) (ih2 _ _ _ _ (hx.1 hc) hks h hh hfr)
              | false => exact nT_pure hf (hret _) (by simp only [nj_pure, nj_br, hp, hc, if_true, Bool.false_eq_true, if_false]) (ih2 _ _ _ _ (hx.2 hc) hks h hh hfr)
            · exact hx.elim
          · exact hx.elim
        · split at hx
          · next hm =>
            intro hks h hh hfr
            obtain ⟨pc1, st1, h1, l1, e1, k1, hh1, hk1, fr1⟩ := xm_ok hx hh
            exact nT_mem hf (hret _) (xIsM_pure hm) e1 (ih2 _ _ _ _ k1 (hk1.trans hks) h1 hh1 (hfr.tr (hks ▸ fr1)))
          · split at hx
            · next pc1 lv1 st1 hp =>
              intro hks h hh hfr
              exact nT_pure hf (hret _) hp (ih2 _ _ _ _ hx hks h hh hfr)
            · exact hx.elim
/-- the end of a method -/
theorem kT_ret {M : Nat → Option nM} {X : nX} {L : Nat} {xs : Nat → Int32} {d : Nat} {mt : nM} {Q : Option Value → List nC → Prop} {ks : List Nat} {h0 : List nC} {pc : Nat} {lv : nLv} {st : List Value} {l : nL} {q : Nat} {i : Instr} {a b : Nat} {v : Int} {pos : Nat} {rv : Option Value} (hf : mt.2.2.2.2.2.find? (fun q => q.1 == pc) = some (q, i, a, b, v, pos)) (hr : nj_ret mt.2.2.2.1 i st = some rv) (hQ : hk l = ks → ∀ h, hv l h → fr ks h0 h → Q rv h) : kT M X L xs d mt Q ks h0 pc lv st l := fun hks h hh hfr => nT_ret hf hr (hQ hks h hh hfr)
/-- what a method does to a picture -/
def mQ (l : nL) (P : Option Value → nL → Prop) (h0 : List nC) (rv : Option Value) (h1 : List nC) : Prop := ∃ l1, P rv l1 ∧ hk l1 = hk l ∧ hv l1 h1 ∧ fr (hk l) h0 h1
def mS (M : Nat → Option nM) (X : nX) (L : Nat) (xs : Nat → Int32) (d a : Nat) (args : List Value) (l : nL) (P : Option Value → nL → Prop) : Prop := ∃ mz, M a = some mz ∧ ∀ h0, hv l h0 → nT M X L xs 0 d mz (mQ l P h0) 0 (lv_args 0 args) [] h0
theorem mS_of {M : Nat → Option nM} {X : nX} {L : Nat} {xs : Nat → Int32} {d a : Nat} {args : List Value} {l : nL} {P : Option Value → nL → Prop} {mz : nM} (hM : M a = some mz) (k : ∀ h0, kT M X L xs d mz (mQ l P h0) (hk l) h0 0 (lv_args 0 args) [] l) : mS M X L xs d a args l P := ⟨mz, hM, fun h0 hh => k h0 rfl h0 hh fr.rf⟩
theorem kT_end {M : Nat → Option nM} {X : nX} {L : Nat} {xs : Nat → Int32} {d : Nat} {mt : nM} {P : Option Value → nL → Prop} {l0 : nL} {h0 : List nC} {pc : Nat} {lv : nLv} {st : List Value} {l : nL} {q : Nat} {i : Instr} {a b : Nat} {v : Int} {pos : Nat} {rv : Option Value} (hf : mt.2.2.2.2.2.find? (fun q => q.1 == pc) = some (q, i, a, b, v, pos)) (hr : nj_ret mt.2.2.2.1 i st = some rv) (hP : P rv l) : kT M X L xs d mt (mQ l0 P h0) (hk l0) h0 pc lv st l := kT_ret hf hr (fun hks h hh hfr => ⟨l, hP, hks, hh, hfr⟩)
/-- a picture with another's cells laid over it -/
def lu (l l1 : nL) : nL := l.map (fun e => (e.1, (lg l1 e.1).getD e.2))
theorem hk_lu (l l1 : nL) : hk (lu l l1) = hk l := by
  unfold hk lu
  rw [List.map_map]
  rfl
theorem lg_none {l : nL} {q : Nat} (h : lg l q = none) : q ∉ hk l := by
  intro hm
  obtain ⟨e, he, rfl⟩ := List.mem_map.mp hm
  unfold lg at h
  rw [Option.map_eq_none_iff, List.find?_eq_none] at h
  exact h e he (by simp)
theorem hv_lu {l l1 : nL} {ls0 : List Nat} {h h1 : List nC} (hh : hv l h) (hh1 : hv l1 h1) (hf : fr (hk l1) h h1) : hv (lu l l1) h1 := by
  intro e1 he1
  obtain ⟨e2, he2, rfl⟩ := List.mem_map.mp he1
  show h1[e2.1]? = some ((lg l1 e2.1).getD e2.2)
  cases hg : lg l1 e2.1 with
  | some c => exact lg_hv hh1 hg
  | none =>
    show h1[e2.1]? = some e2.2
    rw [hf _ (lg_none hg)]
    exact hh e2 he2
/-- one picture is a part of another -/
def subl (l : nL) : nL → Prop
  | [] => True
  | e :: r => lg l e.1 = some e.2 ∧ subl l r
theorem subl_ok {l : nL} : ∀ {l0 : nL}, subl l l0 → ∀ e ∈ l0, lg l e.1 = some e.2 := by
  intro l0
  induction l0 with
  | nil => intro _ e he; cases he
  | cons x r ih =>
    intro h e he
    rcases List.mem_cons.mp he with rfl | he
    · exact h.1
    · exact ih h.2 e he
theorem ret_i (x : Int32) : nj_ret (some .int) .ireturn [.int x] = some (some (.int x)) := by
  simp [nj_ret, narrow]
theorem ret_b {x : Int32} (h : x = 0 ∨ x = 1) : nj_ret (some .boolean) .ireturn [.int x] = some (some (.int x)) := by
  rcases h with rfl | rfl <;> rfl
/-- may it be called, by the picture -/
def xrc (mz : nM) (as : List Value) (l : nL) : Bool := match as with
  | .ref q :: _ => match lg l q with
    | some (.inr (ci, _)) => decide ((nj_cl[ci]?).map (fun z => z.1) = some mz.1.cls)
    | _ => false
  | _ => false
def xp (mz : nM) (i : Instr) (b : Nat) (st : List Value) (l : nL) : Bool := decide (b ≤ st.length) && (decide (nj_sum (st.drop b) ≤ 8) && (decide ((lg_sl (st.take b).reverse).length ≤ mz.2.2.1) && (match i with
  | .invokevirtual _ => xrc mz (st.take b).reverse l
  | .invokespecial _ => nj_isref (st.take b).reverse
  | .invokestatic _ => true
  | _ => false)))
theorem xrc_ok {mz : nM} {as : List Value} {l : nL} {h : List nC} (e : xrc mz as l = true) (hh : hv l h) : nj_recv mz as h = true := by
  unfold xrc at e
  split at e
  · split at e
    · next hq =>
      simp only [nj_recv, lg_hv hh hq]
      exact e
    · cases e
  · cases e
theorem xp_ok {mz : nM} {i : Instr} {b : Nat} {st : List Value} {l : nL} {h : List nC} (e : xp mz i b st l = true) (hh : hv l h) : nj_pass mz i b st h = true := by
  unfold xp at e
  unfold nj_pass
  simp only [Bool.and_eq_true] at e ⊢
  obtain ⟨e1, e2, e3, e4⟩ := e
  refine ⟨e1, e2, e3, ?_⟩
  split at e4
  · exact xrc_ok e4 hh
  · exact e4
  · rfl
  · cases e4
theorem kT_call {M : Nat → Option nM} {X : nX} {L : Nat} {xs : Nat → Int32} {d d1 : Nat} {mt : nM} {Q : Option Value → List nC → Prop} {ks : List Nat} {h0 : List nC} {pc : Nat} {lv : nLv} {st : List Value} {l l0 : nL} {q : Nat} {i : Instr} {a b : Nat} {v : Int} {pos : Nat} {P : Option Value → nL → Prop} {mz : nM} (hf : mt.2.2.2.2.2.find? (fun q => q.1 == pc) = some (q, i, a, b, v, pos)) (hi : nj_isinv i = true) (hv4 : (decide (v = 4) || (decide (v = 5) || (decide (v = 6) || decide (v = 7)))) = false) (hd : d = d1 + 1) (sp : mS M X L xs d1 a (st.take b).reverse l0 P) (hsub : subl l l0) (hM : M a = some mz) (hp : xp mz i b st l = true) (k : ∀ rv l1, P rv l1 → hk l1 = hk l0 → kT M X L xs d mt Q ks h0 (pc + 3) lv (rv.toList ++ st.drop b) (lu l l1)) : kT M X L xs d mt Q ks h0 pc lv st l := by
  subst hd
  simp only [Bool.or_eq_false_iff, decide_eq_false_iff_not] at hv4
  intro hks h hh hfr
  obtain ⟨mz2, hM2, sp⟩ := sp
  cases hM.symm.trans hM2
  refine nT_call hf hi hv4.1 hv4.2.1 hv4.2.2.1 hv4.2.2.2 hM (xp_ok hp hh) (nT.mono ?_ (sp h (fun e he => lg_hv hh (subl_ok hsub e he))))
  rintro rv h1 ⟨l1, hP, hk1, hv1, fr1⟩
  have hsubk : ∀ q, q ∉ ks → q ∉ hk l0 := fun q hq hq0 => by
    obtain ⟨e, he, rfl⟩ := List.mem_map.mp hq0
    exact hq (hks ▸ lg_hk (subl_ok hsub e he))
  exact k rv l1 hP hk1 ((hk_lu l l1).trans hks) h1 (hv_lu (ls0 := []) hh hv1 (hk1 ▸ fr1)) (fun q hq => (fr1 q (hsubk q hq)).trans (hfr q hq))
/-- two things that a run leaves -/
theorem nT_and {M : Nat → Option nM} {X : nX} {L : Nat} {xs : Nat → Int32} {g d : Nat} {mt : nM} {Q1 Q2 : Option Value → List nC → Prop} {pc : Nat} {lv : nLv} {st : List Value} {h : List nC} (a : nT M X L xs g d mt Q1 pc lv st h) (b : nT M X L xs g d mt Q2 pc lv st h) : nT M X L xs g d mt (fun rv h1 => Q1 rv h1 ∧ Q2 rv h1) pc lv st h := by
  obtain ⟨n, rv, h1, e1, q1⟩ := a
  obtain ⟨m, rv2, h2, e2, q2⟩ := b
  have k1 := nj_run_mono (Nat.le_max_left n m) e1
  have k2 := nj_run_mono (Nat.le_max_right n m) e2
  rw [k1] at k2
  cases k2
  exact ⟨n, rv, h1, e1, q1, q2⟩
theorem xw_go {M : Nat → Option nM} {X : nX} {L : Nat} {xs : Nat → Int32} {d : Nat} {mt : nM} {Q : Option Value → List nC → Prop} {ks : List Nat} {h0 : List nC} (stop : Nat → Bool) (n : Nat) {pc : Nat} {lv : nLv} {st : List Value} {l : nL} (k : ∀ K : nKt, (∀ pc lv st l, kT M X L xs d mt Q ks h0 pc lv st l → K pc lv st l) → xw L xs mt stop n pc lv st l K) : kT M X L xs d mt Q ks h0 pc lv st l := xw_ok n pc lv st l (k _ (fun _ _ _ _ z => z))
