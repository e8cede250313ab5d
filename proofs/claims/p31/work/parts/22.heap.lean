/-! kinds of cells: what fields and rows may hold -/
abbrev fTy : Type := (Int × Int) ⊕ (Nat ⊕ Unit)
abbrev nSeg : Type := Nat × Int × Int × Bool
abbrev aTy : Type := Nat × Nat × (List nSeg ⊕ (Nat ⊕ Unit))
def sAt (segs : List nSeg) (j : Nat) : Option (Int × Int × Bool) := (segs.find? (fun q => decide (j < q.1))).map (fun q => q.2)
/-- the stretches that places from lo to hi can lie in -/
def sHit : List nSeg → Nat → Nat → Nat → List (Int × Int × Bool)
  | [], _, _, _ => []
  | q :: r, s0, lo, hi => if lo < q.1 ∧ s0 ≤ hi ∧ s0 < q.1 then q.2 :: sHit r (max s0 q.1) lo hi else sHit r (max s0 q.1) lo hi
theorem sHit_ok : ∀ (segs : List nSeg) (s0 lo hi j : Nat) (r : Int × Int × Bool), s0 ≤ j → lo ≤ j → j ≤ hi → sAt segs j = some r → r ∈ sHit segs s0 lo hi := by
  intro segs
  induction segs with
  | nil => intro s0 lo hi j r h0 h1 h2 h; simp [sAt] at h
  | cons q segs ih =>
    intro s0 lo hi j r h0 h1 h2 h
    unfold sHit
    by_cases hj : j < q.1
    · have e : q.2 = r := by
        simp only [sAt, List.find?_cons, hj, decide_true, Option.map_some] at h
        exact Option.some.inj h
      rw [if_pos ⟨by omega, by omega, by omega⟩, e]
      exact List.mem_cons_self
    · have e : sAt segs j = some r := by
        simp only [sAt, List.find?_cons, hj, decide_false] at h
        exact h
      have := ih (max s0 q.1) lo hi j r (by omega) h1 h2 e
      split
      · exact List.mem_cons_of_mem _ this
      · exact this
def sJoin : List (Int × Int × Bool) → Int × Int
  | [] => aFull
  | [q] => (q.1, q.2.1)
  | q :: r => (min q.1 (sJoin r).1, max q.2.1 (sJoin r).2)
theorem sJoin_ok : ∀ (l : List (Int × Int × Bool)) (q : Int × Int × Bool), q ∈ l → (sJoin l).1 ≤ q.1 ∧ q.2.1 ≤ (sJoin l).2 := by
  intro l
  induction l with
  | nil => intro q h; cases h
  | cons x l ih =>
    intro q h
    cases l with
    | nil =>
      have : q = x := by simpa using h
      subst this
      exact ⟨Int.le_refl _, Int.le_refl _⟩
    | cons y l =>
      show min x.1 (sJoin (y :: l)).1 ≤ q.1 ∧ q.2.1 ≤ max x.2.1 (sJoin (y :: l)).2
      rcases List.mem_cons.mp h with rfl | h
      · exact ⟨Int.min_le_left _ _, Int.le_max_left _ _⟩
      · have := ih q h
        exact ⟨Int.le_trans (Int.min_le_right _ _) this.1, Int.le_trans this.2 (Int.le_max_right _ _)⟩
/-- kinds of objects by number: the classes' own, and 1002 for the life that is only tried -/
def oT (t : Nat) : Option Nat := if t < 10 then some t else if t = 1002 then some 2 else none
def vOk (S : List Nat) (ty : fTy) (v : Value) : Prop := match ty with
  | .inl r => ∃ x : Int32, v = .int x ∧ r.1 ≤ x.toInt ∧ x.toInt ≤ r.2
  | .inr (.inl tg) => ∃ q : Nat, v = .ref q ∧ S[q]? = some tg
  | .inr (.inr _) => ∃ x, v = .long x
def eOk (S : List Nat) (et : List nSeg ⊕ (Nat ⊕ Unit)) (n : Nat) (ct : (Nat → Int32) ⊕ (Nat → Int64) ⊕ (Nat → Option Nat)) : Prop := match et, ct with
  | .inl segs, .inl f => ∀ j, j < n → ∃ r, sAt segs j = some r ∧ r.1 ≤ (f j).toInt ∧ (f j).toInt ≤ r.2.1
  | .inr (.inl tg), .inr (.inr f) => ∀ j, j < n → ∃ q : Nat, f j = some q ∧ S[q]? = some tg
  | .inr (.inr _), .inr (.inl _) => True
  | _, _ => False
def cOk (FT : Nat → Nat → Option fTy) (AT : Nat → Option aTy) (S : List Nat) (t : Nat) (c : nC) : Prop := match c with
  | .inr (ci, fs) => oT t = some ci ∧ ∀ (k : Nat) (ty : fTy), FT t k = some ty → ∃ v : Value, fs[k]? = some v ∧ vOk S ty v
  | .inl (kd, n, ct) => oT t = none ∧ ∃ et, AT t = some (kd, n, et) ∧ eOk S et n ct
def tOk (FT : Nat → Nat → Option fTy) (AT : Nat → Option aTy) (S : List Nat) (h : List nC) : Prop := ∀ (q t : Nat), S[q]? = some t → ∃ c : nC, h[q]? = some c ∧ cOk FT AT S t c
theorem tOk_set {FT : Nat → Nat → Option fTy} {AT : Nat → Option aTy} {S : List Nat} {h : List nC} {q t : Nat} {c : nC} (hh : tOk FT AT S h) (ht : S[q]? = some t) (hc : cOk FT AT S t c) : tOk FT AT S (h.set q c) := by
  intro q2 t2 h2
  by_cases e : q = q2
  · subst e
    cases ht.symm.trans h2
    obtain ⟨c0, h0, -⟩ := hh q t ht
    exact ⟨c, List.getElem?_set_self (List.getElem?_eq_some_iff.mp h0).1, hc⟩
  · obtain ⟨c0, h0, h1⟩ := hh q2 t2 h2
    exact ⟨c0, by rw [List.getElem?_set_ne e]; exact h0, h1⟩
/-- what may change: fields by kind and place, rows by kind -/
def nFr (mf : List (Nat × Nat)) (ma : List Nat) (S : List Nat) (h h1 : List nC) : Prop := ∀ (q t : Nat), S[q]? = some t → ((∃ c, oT t = some c) → ∀ (ci : Nat) (fs : List Value), h[q]? = some (.inr (ci, fs)) → ∃ fs1 : List Value, h1[q]? = some (.inr (ci, fs1)) ∧ ∀ k : Nat, (t, k) ∉ mf → nFd h1 ci fs1 k = nFd h ci fs k) ∧ (oT t = none → t ∉ ma → h1[q]? = h[q]?)
theorem nFr.rf {mf : List (Nat × Nat)} {ma S : List Nat} {h : List nC} : nFr mf ma S h h := fun _ _ _ => ⟨fun _ _ fs hq => ⟨fs, hq, fun _ _ => rfl⟩, fun _ _ => rfl⟩
theorem nFr.tr {mf : List (Nat × Nat)} {ma S : List Nat} {h h1 h2 : List nC} (a : nFr mf ma S h h1) (b : nFr mf ma S h1 h2) : nFr mf ma S h h2 := by
  intro q t hq
  refine ⟨fun ht ci fs hc => ?_, fun ht hm => ?_⟩
  · obtain ⟨fs1, e1, e2⟩ := (a q t hq).1 ht ci fs hc
    obtain ⟨fs2, e3, e4⟩ := (b q t hq).1 ht ci fs1 e1
    exact ⟨fs2, e3, fun k hk => (e4 k hk).trans (e2 k hk)⟩
  · exact ((b q t hq).2 ht hm).trans ((a q t hq).2 ht hm)
theorem nFr.wk {mf mf2 : List (Nat × Nat)} {ma ma2 S : List Nat} {h h1 : List nC} (a : nFr mf ma S h h1) (hf : ∀ x ∈ mf, x ∈ mf2) (hm : ∀ x ∈ ma, x ∈ ma2) : nFr mf2 ma2 S h h1 := by
  intro q t hq
  refine ⟨fun ht ci fs hc => ?_, fun ht hn => (a q t hq).2 ht (fun z => hn (hm _ z))⟩
  obtain ⟨fs1, e1, e2⟩ := (a q t hq).1 ht ci fs hc
  exact ⟨fs1, e1, fun k hk => e2 k (fun z => hk (hf _ z))⟩
theorem nFr.setf {mf : List (Nat × Nat)} {ma S : List Nat} {h : List nC} {q t ci k : Nat} {fs : List Value} {x : Value} (ht : S[q]? = some t) (hq : h[q]? = some (.inr (ci, fs))) (h10 : oT t = some ci) (hm : (t, k) ∈ mf) (hG : nGp S h (h.set q (.inr (ci, fs.set k x)))) : nFr mf ma S h (h.set q (.inr (ci, fs.set k x))) := by
  have hl := (List.getElem?_eq_some_iff.mp hq).1
  intro q2 t2 h2
  by_cases e : q = q2
  · subst e
    cases ht.symm.trans h2
    refine ⟨fun _ ci2 fs2 hc => ?_, fun h10' => by rw [h10] at h10'; cases h10'⟩
    cases hq.symm.trans hc
    refine ⟨_, List.getElem?_set_self hl, fun k2 hk => ?_⟩
    exact nFd_gp hG h2 hc (List.getElem?_set_self hl) (fun _ => List.getElem?_set_ne (fun z : k = k2 => hk (by rw [← z]; exact hm)))
  · refine ⟨fun _ ci2 fs2 hc => ?_, fun _ _ => List.getElem?_set_ne e⟩
    have hc2 : (h.set q (.inr (ci, fs.set k x)))[q2]? = some (.inr (ci2, fs2)) := by rw [List.getElem?_set_ne e]; exact hc
    exact ⟨fs2, hc2, fun k2 _ => nFd_gp hG h2 hc hc2 (fun _ => rfl)⟩
theorem nFr.seta {mf : List (Nat × Nat)} {ma S : List Nat} {h : List nC} {q t : Nat} {c : nC} (ht : S[q]? = some t) (h10 : oT t = none) (hm : t ∈ ma) (hG : nGp S h (h.set q c)) : nFr mf ma S h (h.set q c) := by
  intro q2 t2 h2
  by_cases e : q = q2
  · subst e
    cases ht.symm.trans h2
    exact ⟨fun ⟨c, z⟩ => by (rw [h10] at z; cases z), fun _ hn => absurd hm hn⟩
  · refine ⟨fun _ ci2 fs2 hc => ?_, fun _ _ => List.getElem?_set_ne e⟩
    have hc2 : (h.set q c)[q2]? = some (.inr (ci2, fs2)) := by rw [List.getElem?_set_ne e]; exact hc
    exact ⟨fs2, hc2, fun k2 _ => nFd_gp hG h2 hc hc2 (fun _ => rfl)⟩
/-! the state by what is known of it: ranges, kinds of named cells, known fields, known places of rows, differences -/
abbrev aLin : Type := List (Int × Nat) × Int
/-- what is known of numbers beside their ranges: a sum that is at most 0, a number whose low bits are 0 -/
abbrev aDf : Type := aLin ⊕ (Nat × Nat)
def lS (nu : List Int) (l : List (Int × Nat)) : Int := (l.map (fun t => t.1 * nu.getD t.2 0)).sum
abbrev aS : Type := aRho × List Nat × List (Nat × Nat × aV) × List (Nat × aV × aV) × List aDf
def fcOk (nu : List Int) (mu : List Nat) (h : List nC) (e : Nat × Nat × aV) : Prop := ∃ (q ci : Nat) (fs : List Value) (v : Value), mu[e.1]? = some q ∧ h[q]? = some (.inr (ci, fs)) ∧ nFd h ci fs e.2.1 = some v ∧ aR nu mu e.2.2 v
def acOk (nu : List Int) (mu : List Nat) (h : List nC) (e : Nat × aV × aV) : Prop := ∃ (q kd n : Nat) (f : Nat → Int32) (i : Int32), mu[e.1]? = some q ∧ h[q]? = some (.inl (kd, n, .inl f)) ∧ aR nu mu e.2.1 (.int i) ∧ aR nu mu e.2.2 (.int (f i.toNatClampNeg))
def dfOk (nu : List Int) (e : aDf) : Prop := match e with
  | .inl l => (∀ t ∈ l.1, t.2 < nu.length) ∧ lS nu l.1 + l.2 ≤ 0
  | .inr (i, m) => ∃ x : Int, nu[i]? = some x ∧ Int32.ofInt x &&& Int32.ofNat (2 ^ m - 1) = 0
def aOk (S : List Nat) (h : List nC) (nu : List Int) (mu : List Nat) (s : aS) : Prop :=
  aE s.1 nu ∧ (s.2.1.length = mu.length ∧ ∀ (j q t : Nat), mu[j]? = some q → s.2.1[j]? = some t → S[q]? = some t) ∧ (∀ e ∈ s.2.2.1, fcOk nu mu h e) ∧ (∀ e ∈ s.2.2.2.1, acOk nu mu h e) ∧ (∀ e ∈ s.2.2.2.2, dfOk nu e)
/-- more names -/
def aX (nu : List Int) (mu : List Nat) (nu1 : List Int) (mu1 : List Nat) : Prop := ∃ l r, nu1 = nu ++ l ∧ mu1 = mu ++ r
theorem aX.rf {nu : List Int} {mu : List Nat} : aX nu mu nu mu := ⟨[], [], by simp, by simp⟩
theorem aX.tr {nu nu1 nu2 : List Int} {mu mu1 mu2 : List Nat} (a : aX nu mu nu1 mu1) (b : aX nu1 mu1 nu2 mu2) : aX nu mu nu2 mu2 := by
  obtain ⟨l, r, rfl, rfl⟩ := a
  obtain ⟨l2, r2, rfl, rfl⟩ := b
  exact ⟨l ++ l2, r ++ r2, by simp, by simp⟩
theorem aX.nu {nu nu1 : List Int} {mu mu1 : List Nat} (a : aX nu mu nu1 mu1) {i : Nat} {z : Int} (h : nu[i]? = some z) : nu1[i]? = some z := by
  obtain ⟨l, r, rfl, rfl⟩ := a
  rw [List.getElem?_append_left (List.getElem?_eq_some_iff.mp h).1]
  exact h
theorem aX.mu {nu nu1 : List Int} {mu mu1 : List Nat} (a : aX nu mu nu1 mu1) {i : Nat} {z : Nat} (h : mu[i]? = some z) : mu1[i]? = some z := by
  obtain ⟨l, r, rfl, rfl⟩ := a
  rw [List.getElem?_append_left (List.getElem?_eq_some_iff.mp h).1]
  exact h
theorem aR.x {nu nu1 : List Int} {mu mu1 : List Nat} (e : aX nu mu nu1 mu1) {a : aV} {v : Value} (h : aR nu mu a v) : aR nu1 mu1 a v := by
  unfold aR at h ⊢
  split at h
  · exact h
  · obtain ⟨y, h1, h2⟩ := h
    exact ⟨y, e.nu h1, h2⟩
  · obtain ⟨y, h1, h2⟩ := h
    exact ⟨y, e.mu h1, h2⟩
  · exact h
  · exact h
theorem fcOk.x {nu nu1 : List Int} {mu mu1 : List Nat} {h : List nC} {e : Nat × Nat × aV} (x : aX nu mu nu1 mu1) (k : fcOk nu mu h e) : fcOk nu1 mu1 h e := by
  obtain ⟨q, ci, fs, v, h1, h2, h3, h4⟩ := k
  exact ⟨q, ci, fs, v, x.mu h1, h2, h3, h4.x x⟩
theorem acOk.x {nu nu1 : List Int} {mu mu1 : List Nat} {h : List nC} {e : Nat × aV × aV} (x : aX nu mu nu1 mu1) (k : acOk nu mu h e) : acOk nu1 mu1 h e := by
  obtain ⟨q, kd, n, f, i, h1, h2, h3, h4⟩ := k
  exact ⟨q, kd, n, f, i, x.mu h1, h2, h3.x x, h4.x x⟩
theorem lS_x {nu nu1 : List Int} {mu mu1 : List Nat} (X : aX nu mu nu1 mu1) (l : List (Int × Nat)) (hl : ∀ t ∈ l, t.2 < nu.length) : lS nu1 l = lS nu l := by
  unfold lS
  congr 1
  apply List.map_congr_left
  intro t ht
  have := X.nu (List.getElem?_eq_getElem (hl t ht))
  rw [List.getD_eq_getElem?_getD, List.getD_eq_getElem?_getD, this, List.getElem?_eq_getElem (hl t ht)]
theorem dfOk.x {nu nu1 : List Int} {mu mu1 : List Nat} {e : aDf} (x : aX nu mu nu1 mu1) (k : dfOk nu e) : dfOk nu1 e := by
  cases e with
  | inl l =>
    obtain ⟨h1, h2⟩ := k
    refine ⟨fun t ht => ?_, by rw [lS_x x l.1 h1]; exact h2⟩
    obtain ⟨l2, r2, e, -⟩ := x
    rw [e, List.length_append]
    have := h1 t ht
    omega
  | inr q =>
    obtain ⟨y, h1, h2⟩ := k
    exact ⟨y, x.nu h1, h2⟩
/-- a stack by what is known of it -/
def aSt (nu : List Int) (mu : List Nat) : List aV → List Value → Prop
  | [], [] => True
  | a :: as, v :: vs => aR nu mu a v ∧ aSt nu mu as vs
  | _, _ => False
theorem aSt.x {nu nu1 : List Int} {mu mu1 : List Nat} (e : aX nu mu nu1 mu1) : ∀ {as : List aV} {vs : List Value}, aSt nu mu as vs → aSt nu1 mu1 as vs
  | [], [], _ => trivial
  | [], _ :: _, h => h
  | _ :: _, [], h => h
  | _ :: _, _ :: _, h => ⟨h.1.x e, aSt.x e h.2⟩
theorem aSt.cons {nu : List Int} {mu : List Nat} {a : aV} {as : List aV} {vs : List Value} (h : aSt nu mu (a :: as) vs) : ∃ v r, vs = v :: r ∧ aR nu mu a v ∧ aSt nu mu as r := by
  cases vs with
  | nil => exact h.elim
  | cons v r => exact ⟨v, r, rfl, h.1, h.2⟩
/-- what is known of the frame's places -/
def aLv (nu : List Int) (mu : List Nat) (al : List (Nat × aV)) (lv : nLv) : Prop := ∀ e ∈ al, ∃ v, nj_get lv e.1 = some v ∧ aR nu mu e.2 v
theorem aLv.x {nu nu1 : List Int} {mu mu1 : List Nat} (e : aX nu mu nu1 mu1) {al : List (Nat × aV)} {lv : nLv} (h : aLv nu mu al lv) : aLv nu1 mu1 al lv := fun q hq => by
  obtain ⟨v, h1, h2⟩ := h q hq
  exact ⟨v, h1, h2.x e⟩
/-- a new name for a number, for a cell -/
theorem aOk.pushI {S : List Nat} {h : List nC} {nu : List Int} {mu : List Nat} {s : aS} (k : aOk S h nu mu s) {z : Int} {r : Int × Int} (hz : r.1 ≤ z ∧ z ≤ r.2) : aOk S h (nu ++ [z]) mu (s.1 ++ [r], s.2.1, s.2.2.1, s.2.2.2.1, s.2.2.2.2) := by
  have x : aX nu mu (nu ++ [z]) mu := ⟨[z], [], rfl, by simp⟩
  exact ⟨aE_push k.1 hz, k.2.1, fun e he => (k.2.2.1 e he).x x, fun e he => (k.2.2.2.1 e he).x x, fun e he => (k.2.2.2.2 e he).x x⟩
theorem aOk.pushR {S : List Nat} {h : List nC} {nu : List Int} {mu : List Nat} {s : aS} (k : aOk S h nu mu s) {q t : Nat} (hq : S[q]? = some t) : aOk S h nu (mu ++ [q]) (s.1, s.2.1 ++ [t], s.2.2.1, s.2.2.2.1, s.2.2.2.2) := by
  have x : aX nu mu nu (mu ++ [q]) := ⟨[], [q], by simp, rfl⟩
  refine ⟨k.1, ⟨by simp [k.2.1.1], fun j q2 t2 h1 h2 => ?_⟩, fun e he => (k.2.2.1 e he).x x, fun e he => (k.2.2.2.1 e he).x x, fun e he => (k.2.2.2.2 e he).x x⟩
  by_cases hj : j < mu.length
  · rw [List.getElem?_append_left hj] at h1
    rw [List.getElem?_append_left (by rw [k.2.1.1]; exact hj)] at h2
    exact k.2.1.2 j q2 t2 h1 h2
  · have hl := k.2.1.1
    rw [List.getElem?_append_right (by omega)] at h1 h2
    have hz1 : j - mu.length < 1 := (List.getElem?_eq_some_iff.mp h1).1
    have e0 : j - mu.length = 0 := by omega
    have e1 : j - s.2.1.length = 0 := by omega
    rw [e0] at h1
    rw [e1] at h2
    cases h1
    cases h2
    exact hq
/-- the invariant beside the kinds: kept by writes to places that it doesn't speak of -/
def nJ (FT : Nat → Nat → Option fTy) (AT : Nat → Option aTy) (S : List Nat) (J : List nC → Prop) : Prop :=
  (∀ (h : List nC) (q t c b : Nat) (fs : List Value) (x : Value), J h → tOk FT AT S h → S[q]? = some t → oT t = some c → nSp t b = false → h[q]? = some (.inr (c, fs)) → J (h.set q (.inr (c, fs.set b x))) ∧ nGp S h (h.set q (.inr (c, fs.set b x)))) ∧
  (∀ (h : List nC) (q t kd n : Nat) (segs : List nSeg) (f : Nat → Int32) (j : Nat) (x : Int32), J h → tOk FT AT S h → S[q]? = some t → AT t = some (kd, n, .inl segs) → h[q]? = some (.inl (kd, n, .inl f)) → j < n → (∀ r, sAt segs j = some r → r.2.2 = false) → J (h.set q (.inl (kd, n, .inl (upd f j x)))) ∧ nGp S h (h.set q (.inl (kd, n, .inl (upd f j x))))) ∧
  (∀ (h : List nC) (q t kd n : Nat) (f f2 : Nat → Int64), J h → tOk FT AT S h → S[q]? = some t → h[q]? = some (.inl (kd, n, .inr (.inl f))) → J (h.set q (.inl (kd, n, .inr (.inl f2)))) ∧ nGp S h (h.set q (.inl (kd, n, .inr (.inl f2))))) ∧
  (∀ (h : List nC) (q t kd n : Nat) (segs : List nSeg) (f f2 : Nat → Int32), J h → tOk FT AT S h → S[q]? = some t → AT t = some (kd, n, .inl segs) → h[q]? = some (.inl (kd, n, .inl f)) → (∀ r ∈ segs, r.2.2.2 = false) → J (h.set q (.inl (kd, n, .inl f2))) ∧ nGp S h (h.set q (.inl (kd, n, .inl f2))))
