/-! the calls, with the two houses -/
def zB (mf : List (Nat × Nat)) (ma : List Nat) : Bool := !(mf.elem (9, 1002)) && (!(mf.elem (9, 1003)) && (!(mf.elem (9, 1004)) && (!(mf.elem (8, 3)) && (!(mf.elem (2, 0)) && (!(mf.elem (8, 0)) && (!(mf.elem (7, 5)) && (!(mf.elem (9, 2)) && (fxC mf && (!(ma.elem 45) && (!(ma.elem 54) && (!(ma.elem 41) && !(ma.elem 49))))))))))))
theorem el_p {l : List (Nat × Nat)} {x : Nat × Nat} (h : (!(l.elem x)) = true) : x ∉ l := fun hm => by
  rw [List.elem_eq_true_of_mem hm] at h
  cases h
theorem el_a {l : List Nat} {x : Nat} (h : (!(l.elem x)) = true) : x ∉ l := fun hm => by
  rw [List.elem_eq_true_of_mem hm] at h
  cases h
def imY (u i : Int32) (z y : Ho) : Ho := if u = i then cpH z y else y
def imK (u i k : Int32) : Int32 := if u = i then 1 else k
def imP (u : Int32) (s kp ak kp2 ak2 : Nat → Int32) : Prop := (u = 0 → (∀ j, j < 132 → kp2 j = s j) ∧ (∀ j, 360 ≤ j → kp2 j = kp j) ∧ ak2 0 = 1 ∧ ak2 1 = ak 1) ∧ (u = 1 → (∀ j, j < 132 → kp2 (360 + j) = s j) ∧ (∀ j, j < 360 → kp2 j = kp j) ∧ ak2 0 = ak 0 ∧ ak2 1 = 1) ∧ (¬ u = 0 → ¬ u = 1 → kp2 = kp ∧ ak2 = ak)
def rsZ (u k0 k1 : Int32) (z y0 y1 : Ho) : Ho := if u = 0 ∧ k0 = 1 then cpH y0 z else if u = 1 ∧ k1 = 1 then cpH y1 z else z
def rsP (u : Int32) (s kp ak s2 : Nat → Int32) : Prop := (u = 0 → ak 0 = 1 → ∀ i, i < 132 → s2 i = kp i) ∧ (u = 1 → ak 1 = 1 → ∀ i, i < 132 → s2 i = kp (360 + i)) ∧ (¬ (u = 0 ∧ ak 0 = 1) → ¬ (u = 1 ∧ ak 1 = 1) → s2 = s)
section HRR
variable {z y0 y1 z2 : Ho} {k0 k1 u : Int32} {s kp ak s2 kp2 ak2 : Nat → Int32}
theorem kB2_to {k a a2 : Int32} {p q : Prop} (h : kB2 k a p) (e : a2 = a) (f : p → q) : kB2 k a2 q := by
  rcases h with ⟨c, d⟩ | ⟨c, d, r⟩
  · exact Or.inl ⟨c, e.trans d⟩
  · exact Or.inr ⟨c, e.trans d, f r⟩
theorem hR_img (R : hR z y0 y1 k0 k1 s kp ak) (P : imP u s kp ak kp2 ak2) : hR z (imY u 0 z y0) (imY u 1 z y1) (imK u 0 k0) (imK u 1 k1) s kp2 ak2 := by
  obtain ⟨p0, p1, p2⟩ := P
  by_cases c0 : u = 0
  · subst c0
    obtain ⟨a1, a2, a3, a4⟩ := p0 rfl
    have n01 : ¬ (0 : Int32) = 1 := by decide
    unfold imY imK
    rw [if_pos rfl, if_pos rfl, if_neg n01, if_neg n01]
    exact ⟨R.1, Or.inr ⟨rfl, a3, hQ_cg R.1 (cpH_eq z y0) a1⟩, kB2_to R.2.2 a4 (fun e => hQ_cg e (hEq_rf _) (fun i hi => a2 (360 + i) (by omega)))⟩
  · by_cases c1 : u = 1
    · subst c1
      obtain ⟨a1, a2, a3, a4⟩ := p1 rfl
      unfold imY imK
      rw [if_neg c0, if_neg c0, if_pos rfl, if_pos rfl]
      exact ⟨R.1, kB2_to R.2.1 a3 (fun e => hQ_cg e (hEq_rf _) (fun i hi => a2 i (by omega))), Or.inr ⟨rfl, a4, hQ_cg R.1 (cpH_eq z y1) a1⟩⟩
    · obtain ⟨rfl, rfl⟩ := p2 c0 c1
      unfold imY imK
      rw [if_neg c0, if_neg c0, if_neg c1, if_neg c1]
      exact R
theorem hR_res (R : hR z y0 y1 k0 k1 s kp ak) (P : rsP u s kp ak s2) : hR (rsZ u k0 k1 z y0 y1) y0 y1 k0 k1 s2 kp ak := by
  obtain ⟨p0, p1, p2⟩ := P
  have e0 : k0 = 1 ↔ ak 0 = 1 := by
    rcases R.2.1 with ⟨c, d⟩ | ⟨c, d, -⟩
    · rw [c, d]
    · rw [c, d]
  have e1 : k1 = 1 ↔ ak 1 = 1 := by
    rcases R.2.2 with ⟨c, d⟩ | ⟨c, d, -⟩
    · rw [c, d]
    · rw [c, d]
  have n0 : ¬ (0 : Int32) = 1 := by decide
  refine ⟨?_, R.2⟩
  unfold rsZ
  by_cases c0 : u = 0 ∧ k0 = 1
  · rw [if_pos c0]
    have q : hQ y0 kp := by
      rcases R.2.1 with ⟨c, d⟩ | ⟨c, d, r⟩
      · exact absurd (c.symm.trans c0.2) n0
      · exact r
    exact hQ_cg q (cpH_eq y0 z) (p0 c0.1 (e0.mp c0.2))
  · rw [if_neg c0]
    by_cases c1 : u = 1 ∧ k1 = 1
    · rw [if_pos c1]
      have q : hQ y1 (fun i => kp (360 + i)) := by
        rcases R.2.2 with ⟨c, d⟩ | ⟨c, d, r⟩
        · exact absurd (c.symm.trans c1.2) n0
        · exact r
      exact hQ_cg q (cpH_eq y1 z) (p1 c1.1 (e1.mp c1.2))
    · rw [if_neg c1]
      rw [p2 (fun h => c0 ⟨h.1, e0.mpr h.2⟩) (fun h => c1 ⟨h.1, e1.mpr h.2⟩)]
      exact R.1
theorem hR_fam {r : (Nat × Nat) ⊕ (Hs × Nat)} (hx : ∀ H ln, r = .inr (H, ln) → hX H) (R : hR z y0 y1 k0 k1 s kp ak) (P1 : (∃ e, r = .inl e) ∧ z2 = z ∨ ∃ H ln, r = .inr (H, ln) ∧ hoR H z2) (P2 : (∃ e, r = .inl e) ∧ s2 = s ∨ ∃ H ln, r = .inr (H, ln) ∧ rsR H s2) : hR z2 y0 y1 k0 k1 s2 kp ak := by
  rcases P1 with ⟨⟨e, a⟩, rfl⟩ | ⟨H, ln, a, b⟩
  · rcases P2 with ⟨-, rfl⟩ | ⟨H, ln, c, -⟩
    · exact R
    · rw [a] at c; cases c
  · rcases P2 with ⟨⟨e, c⟩, -⟩ | ⟨H2, ln2, c, d⟩
    · rw [a] at c; cases c
    · rw [a] at c
      cases c
      exact ⟨Or.inr ⟨H, b, d, hx H ln a⟩, R.2⟩
end HRR
section LWY
variable {X : nX} {L : Nat} {xs : Nat → Int32} {g d n nc nm nc2 nm2 : Nat} {b bc bm bc2 bm2 : Nat → Int32} {h h1 : List nC} {z y0 y1 : Ho} {k0 k1 : Int32} {s kp ak : Nat → Int32} {mf : List (Nat × Nat)} {ma : List Nat}
theorem lwY_keep (I : lwY nc nm bc bm z y0 y1 k0 k1 s kp ak h) (J1 : nJC fS (some s) h1) (T1 : tOk nFT nAT fS h1) (F : nFr mf ma fS h h1) (hz : zB mf ma = true) (hc : hcB mf ma = true) (hy : fyC mf = true) : lwY nc nm bc bm z y0 y1 k0 k1 s kp ak h1 := by
  unfold zB at hz
  simp only [Bool.and_eq_true] at hz
  obtain ⟨a1, a2, a3, a4, a5, a6, a7, a8, a9, a10, a11, a12, a13⟩ := hz
  exact lwY_fr I J1 T1 F (lwZ_P I.1 (lwP_fr I.1.1 (show fS[0]? = some 8 by decide) (show fS[175]? = some 9 by decide) (show fS[37]? = some 2 by decide) (show fS[1]? = some 7 by decide) J1.1 T1 F (el_p a1) (el_p a2) (el_p a3) (el_p a4) (el_p a5) (el_p a6) (el_p a7) (el_p a8)) F a9 (el_a a10) (el_a a11) (el_a a12) (el_a a13)) hc hy
theorem lwZ_keep (I : lwZ nc nm bc bm h) (J1 : nJJ fS h1) (T1 : tOk nFT nAT fS h1) (F : nFr mf ma fS h h1) (hz : zB mf ma = true) : lwZ nc nm bc bm h1 := by
  unfold zB at hz
  simp only [Bool.and_eq_true] at hz
  obtain ⟨a1, a2, a3, a4, a5, a6, a7, a8, a9, a10, a11, a12, a13⟩ := hz
  exact lwZ_P I (lwP_fr I.1 (show fS[0]? = some 8 by decide) (show fS[175]? = some 9 by decide) (show fS[37]? = some 2 by decide) (show fS[1]? = some 7 by decide) J1 T1 F (el_p a1) (el_p a2) (el_p a3) (el_p a4) (el_p a5) (el_p a6) (el_p a7) (el_p a8)) F a9 (el_a a10) (el_a a11) (el_a a12) (el_a a13)
/-- .. where the ghosts are told by the promise -/
def zB2 (mf : List (Nat × Nat)) (ma : List Nat) : Bool := !(mf.elem (8, 3)) && (!(mf.elem (2, 0)) && (!(mf.elem (8, 0)) && (!(mf.elem (7, 5)) && (!(mf.elem (9, 2)) && (fxC mf && (!(ma.elem 45) && (!(ma.elem 54) && (!(ma.elem 41) && !(ma.elem 49)))))))))
theorem lwZ_keep2 (I : lwZ nc nm bc bm h) (J1 : nJJ fS h1) (T1 : tOk nFT nAT fS h1) (F : nFr mf ma fS h h1) (hg : ∃ fm, h1[175]? = some (.inr (9, fm)) ∧ nGh 1002 h1 9 fm = 1 ∧ nGh 1003 h1 9 fm = 1 ∧ nGh 1004 h1 9 fm = 1) (hz : zB2 mf ma = true) : lwZ nc nm bc bm h1 := by
  unfold zB2 at hz
  simp only [Bool.and_eq_true] at hz
  obtain ⟨a4, a5, a6, a7, a8, a9, a10, a11, a12, a13⟩ := hz
  obtain ⟨I0, ⟨fx, hx, b0⟩, -, -⟩ := id I.1
  obtain ⟨fx1, hx1, ex⟩ := (F 0 8 (by decide)).1 ⟨8, rfl⟩ 8 fx hx
  exact lwZ_P I ⟨lwI_fr2 I0 (show fS[0]? = some 8 by decide) (show fS[37]? = some 2 by decide) J1 T1 F hg (el_p a4) (el_p a5), ⟨fx1, hx1, (nFd_lo (by decide)).symm.trans ((ex 0 (el_p a6)).trans ((nFd_lo (by decide)).trans b0))⟩, lwP_txt I.1 (show fS[1]? = some 7 by decide) F (el_p a7), lwP_mod I.1 (show fS[175]? = some 9 by decide) F (el_p a8)⟩ F a9 (el_a a10) (el_a a11) (el_a a12) (el_a a13)
theorem i3_of5 {nu nu1 : List Int} {mu1 : List Nat} {s : aS} (T1 : tOk nFT nAT fS h1) (X1 : aX nu [175] nu1 mu1) (ok1 : aOk fS h1 nu1 mu1 s) (hs : s.2.2.1 = [(0, 1002, (.inl 1 : aV)), (0, 1003, .inl 1), (0, 1004, .inl 1)]) : ∃ fm, h1[175]? = some (.inr (9, fm)) ∧ nGh 1002 h1 9 fm = 1 ∧ nGh 1003 h1 9 fm = 1 ∧ nGh 1004 h1 9 fm = 1 := by
  obtain ⟨fm1, hm1, -⟩ := T1.obj (show fS[175]? = some 9 by decide) (show oT 9 = some 9 from rfl)
  have look : ∀ k, ¬ k < 1000 → (0, k, (.inl 1 : aV)) ∈ [(0, 1002, (.inl 1 : aV)), (0, 1003, .inl 1), (0, 1004, .inl 1)] → nGh k h1 9 fm1 = 1 := fun k hk he => by
    obtain ⟨w, v1, v2⟩ := fc_at ok1 (by rw [hs]; exact he) (X1.mu (show [175][0]? = some 175 from rfl)) hm1
    rw [nFd_hi hk] at v1
    have v3 : w = .int (Int32.ofInt 1) := v2
    rw [v3] at v1
    exact Value.int.inj (Option.some.inj v1)
  exact ⟨fm1, hm1, look 1002 (by decide) List.mem_cons_self, look 1003 (by decide) (List.mem_cons_of_mem _ List.mem_cons_self), look 1004 (by decide) (List.mem_cons_of_mem _ (List.mem_cons_of_mem _ List.mem_cons_self))⟩
theorem i3_fc5 {nu : List Int} (I : lwI fS 0 175 37 38 h) : ∀ e ∈ [(0, 1002, (.inl 1 : aV)), (0, 1003, .inl 1), (0, 1004, .inl 1)], fcOk nu [175] h e := by
  obtain ⟨fm, hm, g2, g3, g4⟩ := I.2.2.1
  exact List.forall_mem_cons.mpr ⟨⟨175, 9, fm, _, rfl, hm, nFd_hi (by decide), by rw [g2]; rfl⟩, List.forall_mem_cons.mpr ⟨⟨175, 9, fm, _, rfl, hm, nFd_hi (by decide), by rw [g3]; rfl⟩, List.forall_mem_cons.mpr ⟨⟨175, 9, fm, _, rfl, hm, nFd_hi (by decide), by rw [g4]; rfl⟩, (fun _ hx => nomatch hx)⟩⟩⟩
theorem yCall {mt : nM} {args : List Value} {A : Option Value → Prop} {B : Option Value → List nC → Prop} (I : lwY nc nm bc bm z y0 y1 k0 k1 s kp ak h) (kz : nT nj_M X L xs g d mt (fun rv h1 => A rv ∧ lwZ nc2 nm2 bc2 bm2 h1) 0 (lv_args 0 args) [] h) (kv : nT nj_M X L xs g d mt (fun rv h1 => nJC fS (some s) h1 ∧ tOk nFT nAT2 fS h1 ∧ nFr mf ma fS h h1 ∧ B rv h1) 0 (lv_args 0 args) [] h) (hc : hcB mf ma = true) (hy : fyC mf = true) : nT nj_M X L xs g d mt (fun rv h1 => A rv ∧ lwY nc2 nm2 bc2 bm2 z y0 y1 k0 k1 s kp ak h1) 0 (lv_args 0 args) [] h := by
  refine nT.mono ?_ (nT_and kz kv)
  rintro rv h1 ⟨⟨a, Z1⟩, J1, T1, F1, -⟩
  exact ⟨a, lwY_fr I J1 (tOk_of T1) F1 Z1 hc hy⟩
theorem fr_at {ks : List Nat} {q : Nat} (R : fr ks h h1) (hl : ks.elem q = false) : h1[q]? = h[q]? := R q (fun hm => by rw [List.elem_eq_true_of_mem hm] at hl; cases hl)
theorem yEndS (hd : 1 ≤ d) (hn : n ≤ 940) (I : lwY n n b b z y0 y1 k0 k1 s kp ak h) (u : Int32) : nT nj_M X L xs g d nm_20 (fun rv h1 => (∃ y : Int32, rv = some (.int y)) ∧ lwY (eF u n) n b b z y0 y1 k0 k1 s kp ak h1) 0 (lv_args 0 [.ref 0, .int u]) [] h :=
  yCall I (zEndS hd hn I.1 u) ((nV_cc (vk_65 (X := X) (L := L) (xs := xs) (g := g) (S := fS)) (by decide)) d (Nat.le_trans (by decide) hd) nm_20 rfl h [u.toInt] [0] [.ref 0, .int u] (yJ I) (tOk_to I.1.1.1.2.1) ⟨aE1 (r0 := (-2147483648, 2147483647)) (i32b u), tau_1 (show fS[0]? = some 8 by decide), (fun e he => nomatch he), (fun e he => nomatch he), (fun e he => nomatch he)⟩ ⟨⟨_, rfl, rfl⟩, ⟨u.toInt, rfl, by rw [Int.add_zero, Int32.ofInt_toInt]⟩, trivial⟩) (by decide +kernel) (by decide +kernel)
theorem yEndM (hd : 1 ≤ d) (hn : n ≤ 940) (I : lwY nc n bc b z y0 y1 k0 k1 s kp ak h) (u : Int32) : nT nj_M X L xs g d nm_158 (fun rv h1 => (∃ y : Int32, rv = some (.int y)) ∧ lwY nc (eF u n) bc b z y0 y1 k0 k1 s kp ak h1) 0 (lv_args 0 [.ref 175, .int u]) [] h :=
  yCall I (zEndM hd hn I.1 u) ((nV_cc (vk_160 (X := X) (L := L) (xs := xs) (g := g) (S := fS)) (by decide)) d (Nat.le_trans (by decide) hd) nm_158 rfl h [u.toInt] [175] [.ref 175, .int u] (yJ I) (tOk_to I.1.1.1.2.1) ⟨aE1 (r0 := (-2147483648, 2147483647)) (i32b u), tau_1 (show fS[175]? = some 9 by decide), (fun e he => nomatch he), (fun e he => nomatch he), (fun e he => nomatch he)⟩ ⟨⟨_, rfl, rfl⟩, ⟨u.toInt, rfl, by rw [Int.add_zero, Int32.ofInt_toInt]⟩, trivial⟩) (by decide +kernel) (by decide +kernel)
theorem yChrS (hd : 8 ≤ d) (hn : n ≤ 940) (I : lwY n n b b z y0 y1 k0 k1 s kp ak h) (u : Int32) : nT nj_M X L xs g d nm_125 (fun rv h1 => (∃ y : Int32, rv = some (.int y)) ∧ lwY (chF u n) n b b z y0 y1 k0 k1 s kp ak h1) 0 (lv_args 0 [.ref 0, .int u]) [] h :=
  yCall I (zChrS hd hn I.1 u) ((nV_cc (vk_348 (X := X) (L := L) (xs := xs) (g := g) (S := fS)) (by decide)) d (Nat.le_trans (by decide) hd) nm_125 rfl h [u.toInt] [0] [.ref 0, .int u] (yJ I) (tOk_to I.1.1.1.2.1) ⟨aE1 (r0 := (-2147483648, 2147483647)) (i32b u), tau_1 (show fS[0]? = some 8 by decide), (fun e he => nomatch he), (fun e he => nomatch he), (fun e he => nomatch he)⟩ ⟨⟨_, rfl, rfl⟩, ⟨u.toInt, rfl, by rw [Int.add_zero, Int32.ofInt_toInt]⟩, trivial⟩) (by decide +kernel) (by decide +kernel)
theorem yChrM (hd : 8 ≤ d) (hn : n ≤ 940) (I : lwY nc n bc b z y0 y1 k0 k1 s kp ak h) (u : Int32) : nT nj_M X L xs g d nm_247 (fun rv h1 => (∃ y : Int32, rv = some (.int y)) ∧ lwY nc (chF u n) bc b z y0 y1 k0 k1 s kp ak h1) 0 (lv_args 0 [.ref 175, .int u]) [] h := by
  have bu := i32b u
  rcases (by omega : u.toInt < 0 ∨ 1 < u.toInt ∨ (0 ≤ u.toInt ∧ u.toInt ≤ 1)) with c | c | c
  · exact yCall I (zChrM hd hn I.1 u) ((nV_cc (vk_369 (X := X) (L := L) (xs := xs) (g := g) (S := fS)) (by decide)) d (Nat.le_trans (by decide) hd) nm_247 rfl h [u.toInt] [175] [.ref 175, .int u] (yJ I) (tOk_to I.1.1.1.2.1) ⟨aE1 (r0 := (-2147483648, -1)) ⟨by omega, by omega⟩, tau_1 (show fS[175]? = some 9 by decide), (fun e he => nomatch he), (fun e he => nomatch he), (fun e he => nomatch he)⟩ ⟨⟨_, rfl, rfl⟩, ⟨u.toInt, rfl, by rw [Int.add_zero, Int32.ofInt_toInt]⟩, trivial⟩) (by decide +kernel) (by decide +kernel)
  · exact yCall I (zChrM hd hn I.1 u) ((nV_cc (vk_370 (X := X) (L := L) (xs := xs) (g := g) (S := fS)) (by decide)) d (Nat.le_trans (by decide) hd) nm_247 rfl h [u.toInt] [175] [.ref 175, .int u] (yJ I) (tOk_to I.1.1.1.2.1) ⟨aE1 (r0 := (2, 2147483647)) ⟨by omega, by omega⟩, tau_1 (show fS[175]? = some 9 by decide), (fun e he => nomatch he), (fun e he => nomatch he), (fun e he => nomatch he)⟩ ⟨⟨_, rfl, rfl⟩, ⟨u.toInt, rfl, by rw [Int.add_zero, Int32.ofInt_toInt]⟩, trivial⟩) (by decide +kernel) (by decide +kernel)
  · exact yCall I (zChrM hd hn I.1 u) ((wk_368 (X := X) (L := L) (xs := xs) (g := g) (S := fS) (cc := some s)) d (Nat.le_trans (by decide) hd) nm_247 rfl h [u.toInt] [175] [.ref 175, .int u] (yJ I) (tOk_to I.1.1.1.2.1) ⟨aE1 (r0 := (0, 1)) ⟨by omega, by omega⟩, tau_1 (show fS[175]? = some 9 by decide), (fun e he => nomatch he), (fun e he => nomatch he), (fun e he => nomatch he)⟩ ⟨⟨_, rfl, rfl⟩, ⟨u.toInt, rfl, by rw [Int.add_zero, Int32.ofInt_toInt]⟩, trivial⟩) (by decide +kernel) (by decide +kernel)
theorem yFeedS (hd : 1 ≤ d) (hn : n ≤ 940) (I : lwY n n b b z y0 y1 k0 k1 s kp ak h) (a1 a2 a3 a4 a5 : Int32) : nT nj_M X L xs g d nm_18 (fun rv h1 => (∃ y : Int32, rv = some (.int y)) ∧ lwY (fN n) n (fB b n a1 a2 a3 a4 a5) b z y0 y1 k0 k1 s kp ak h1) 0 (lv_args 0 [.ref 0, .int a1, .int a2, .int a3, .int a4, .int a5]) [] h :=
  yCall I (zFeedS hd hn I.1 a1 a2 a3 a4 a5) ((nV_cc (vk_64 (X := X) (L := L) (xs := xs) (g := g) (S := fS)) (by decide)) d (Nat.le_trans (by decide) hd) nm_18 rfl h [a1.toInt, a2.toInt, a3.toInt, a4.toInt, a5.toInt] [0] [.ref 0, .int a1, .int a2, .int a3, .int a4, .int a5] (yJ I) (tOk_to I.1.1.1.2.1) ⟨aE_push (aE_push (aE_push (aE2 (r0 := (-2147483648, 2147483647)) (r1 := (-2147483648, 2147483647)) (i32b a1) (i32b a2)) (r := (-2147483648, 2147483647)) (i32b a3)) (r := (-2147483648, 2147483647)) (i32b a4)) (r := (-2147483648, 2147483647)) (i32b a5), tau_1 (show fS[0]? = some 8 by decide), (fun e he => nomatch he), (fun e he => nomatch he), (fun e he => nomatch he)⟩ ⟨⟨_, rfl, rfl⟩, ⟨a1.toInt, rfl, by rw [Int.add_zero, Int32.ofInt_toInt]⟩, ⟨a2.toInt, rfl, by rw [Int.add_zero, Int32.ofInt_toInt]⟩, ⟨a3.toInt, rfl, by rw [Int.add_zero, Int32.ofInt_toInt]⟩, ⟨a4.toInt, rfl, by rw [Int.add_zero, Int32.ofInt_toInt]⟩, ⟨a5.toInt, rfl, by rw [Int.add_zero, Int32.ofInt_toInt]⟩, trivial⟩) (by decide +kernel) (by decide +kernel)
theorem yFeedM (hd : 1 ≤ d) (hn : n ≤ 940) (I : lwY nc n bc b z y0 y1 k0 k1 s kp ak h) (a1 a2 a3 a4 a5 : Int32) : nT nj_M X L xs g d nm_156 (fun rv h1 => (∃ y : Int32, rv = some (.int y)) ∧ lwY nc (fN n) bc (fB b n a1 a2 a3 a4 a5) z y0 y1 k0 k1 s kp ak h1) 0 (lv_args 0 [.ref 175, .int a1, .int a2, .int a3, .int a4, .int a5]) [] h :=
  yCall I (zFeedM hd hn I.1 a1 a2 a3 a4 a5) ((nV_cc (vk_159 (X := X) (L := L) (xs := xs) (g := g) (S := fS)) (by decide)) d (Nat.le_trans (by decide) hd) nm_156 rfl h [a1.toInt, a2.toInt, a3.toInt, a4.toInt, a5.toInt] [175] [.ref 175, .int a1, .int a2, .int a3, .int a4, .int a5] (yJ I) (tOk_to I.1.1.1.2.1) ⟨aE_push (aE_push (aE_push (aE2 (r0 := (-2147483648, 2147483647)) (r1 := (-2147483648, 2147483647)) (i32b a1) (i32b a2)) (r := (-2147483648, 2147483647)) (i32b a3)) (r := (-2147483648, 2147483647)) (i32b a4)) (r := (-2147483648, 2147483647)) (i32b a5), tau_1 (show fS[175]? = some 9 by decide), (fun e he => nomatch he), (fun e he => nomatch he), (fun e he => nomatch he)⟩ ⟨⟨_, rfl, rfl⟩, ⟨a1.toInt, rfl, by rw [Int.add_zero, Int32.ofInt_toInt]⟩, ⟨a2.toInt, rfl, by rw [Int.add_zero, Int32.ofInt_toInt]⟩, ⟨a3.toInt, rfl, by rw [Int.add_zero, Int32.ofInt_toInt]⟩, ⟨a4.toInt, rfl, by rw [Int.add_zero, Int32.ofInt_toInt]⟩, ⟨a5.toInt, rfl, by rw [Int.add_zero, Int32.ofInt_toInt]⟩, trivial⟩) (by decide +kernel) (by decide +kernel)
theorem yFamS (hd : 6 ≤ d) (hn : n ≤ 940) (I : lwY n n b b z y0 y1 k0 k1 s kp ak h) : nT nj_M X L xs g d nm_21 (fun rv h1 => rv = some (.int (fAns (fR b n))) ∧ ∃ z2, lwY 0 n b b z2 y0 y1 k0 k1 s kp ak h1 ∧ ((∃ e, fR b n = .inl e) ∧ z2 = z ∨ ∃ H ln, fR b n = .inr (H, ln) ∧ hoR H z2)) 0 (lv_args 0 [.ref 0]) [] h := by
  have kz := zFamS (X := X) (L := L) (xs := xs) (g := g) hd hn I.1
  obtain ⟨d1, rfl⟩ : ∃ d1, d = d1 + 6 := ⟨d - 6, by omega⟩
  obtain ⟨u, lf, b1, kd, pl, vl, ky, tok, cur, tak, tl, fk, fp, y, zd, x, p1, p2, p3, p4, hky, hb1, hpic⟩ := pic_c I.1.1.1.2.1 I.1.2.1 I.1.2.2 I.1.1.2.2.1
  have hyz := ho_inj (hv_l (hv_r (hv_r hpic))) I.2.2.1.1
  rw [ofI_n, hyz] at hpic
  obtain ⟨mz, hM0, ks⟩ := c_family (L := L) (xs := xs) (d := d1) (u := u) (lf := lf) (b := b1) (kd := kd) (pl := pl) (vl := vl) (ky := ky) (tok := tok) (cur := cur) (tak := tak) (tl := tl) (fk := fk) (fp := fp) (y := z) (z := zd) (x := x) (p1 := p1) (p2 := p2) (p3 := p3) (p4 := p4) hn hky
  have hM2 : nj_M 21 = some nm_21 := rfl
  cases hM0.symm.trans hM2
  have k1 := nT_up (X := X) (g := g) (by decide +kernel) (ks h hpic)
  have hpre : aOk fS h [] [0] nk_66.2.2.1 := ⟨⟨rfl, fun i z r h => nomatch h⟩, tau_1 (show fS[0]? = some 8 by decide), (fun e he => nomatch he), (fun e he => nomatch he), (fun e he => nomatch he)⟩
  have k2 := vk_66 (X := X) (L := L) (xs := xs) (g := g) (d1 + 6) (by show 6 ≤ d1 + 6; omega) nm_21 rfl h [] [0] [.ref 0] I.1.1.1.1 I.1.1.1.2.1 hpre ⟨⟨_, rfl, rfl⟩, trivial⟩
  refine nT.mono ?_ (nT_and kz (nT_and k1 k2))
  rintro rv h1 ⟨⟨e0, Z1⟩, ⟨l1, ⟨e1, kd1, pl1, vl1, tok1, cur1, tak1, fp1, z1, hP⟩, hk1, hv1, fr1⟩, J1, T1, F1, -⟩
  have hR : fR b n = sFam (tk b1 n 900) (decide (900 < n)) 901 0 Hs0 0 := by
    unfold fR
    rw [tk_cg (f := b1) (g := b) (fun j hj => hb1 j (by omega))]
  have hy2 := fy_fr I.2.1 F1 (by decide +kernel)
  have hm2 := hM_ex I.2.2.2 fr1 rfl
  obtain ⟨c1, c2, c3, c4, c5, f, c6, c7, c8⟩ := id I.2.2.1
  have q2 := hv_ex c2 fr1 rfl
  have q3 := hv_ex c3 fr1 rfl
  have q4 := hv_ex c4 fr1 rfl
  have q5 := hv_ex c5 fr1 rfl
  have q6 := hv_ex c6 fr1 rfl
  refine ⟨e0, ?_⟩
  rcases hP with ⟨e, p, hr, rfl⟩ | ⟨H, ln, g2, g3, hr, hH, -, -, -, rfl⟩
  · exact ⟨z, ⟨Z1, hy2, ⟨hv_l (hv_r (hv_r hv1)), q2, q3, q4, q5, f, q6, c7, c8⟩, hm2⟩, Or.inl ⟨⟨_, hR.trans hr⟩, rfl⟩⟩
  · exact ⟨cpH z1 z, ⟨Z1, hy2, ⟨hv_l (hv_r (hv_r hv1)), q2, q3, q4, q5, f, q6, c7, c8⟩, hm2⟩, Or.inr ⟨H, ln, hR.trans hr, hoR_cg hH (cpH_eq _ _)⟩⟩
theorem yFamM (hd : 6 ≤ d) (hn : n ≤ 940) (I : lwY nc n bc b z y0 y1 k0 k1 s kp ak h) : nT nj_M X L xs g d nm_161 (fun rv h1 => rv = some (.int (fAns (fR b n))) ∧ ∃ s2, lwY nc 0 bc b z y0 y1 k0 k1 s2 kp ak h1 ∧ ((∃ e, fR b n = .inl e) ∧ s2 = s ∨ ∃ H ln, fR b n = .inr (H, ln) ∧ rsR H s2)) 0 (lv_args 0 [.ref 175]) [] h := by
  have kz := zFamM (X := X) (L := L) (xs := xs) (g := g) hd hn I.1
  obtain ⟨d1, rfl⟩ : ∃ d1, d = d1 + 6 := ⟨d - 6, by omega⟩
  obtain ⟨o, thr, sz, lim, Y, flt, fat, got, lns, crs, b1, hh, nms, rsv, s1, hrs, hb1, hby, hpic⟩ := pic_r I.1.1.1.2.1 I.1.2.1 I.1.2.2 I.1.1.2.2.2
  rw [ofI_n] at hpic
  obtain ⟨mz, hM0, ks⟩ := k_family (L := L) (xs := xs) (d := d1) (o := o) (thr := thr) (sz := sz) (lim := lim) (X := Y) (flt := flt) (fat := fat) (got := got) (lns := lns) (crs := crs) (b := b1) (hh := hh) (nms := nms) (rsv := rsv) (s := s1) hn hby hrs
  have hM2 : nj_M 161 = some nm_161 := rfl
  cases hM0.symm.trans hM2
  have k1 := nT_up (X := X) (g := g) (by decide +kernel) (ks h hpic)
  obtain ⟨fm0, hm0, g2, g3, g4⟩ := I.1.1.1.2.2.1
  have hpre : aOk fS h [] [175] nk_209.2.2.1 := ⟨⟨rfl, fun i z r h => nomatch h⟩, tau_1 (show fS[175]? = some 9 by decide), List.forall_mem_cons.mpr ⟨⟨175, 9, fm0, _, rfl, hm0, nFd_hi (by decide), by rw [g2]; rfl⟩, (fun _ hx => nomatch hx)⟩, (fun e he => nomatch he), (fun e he => nomatch he)⟩
  have k2 := vk_209 (X := X) (L := L) (xs := xs) (g := g) (d1 + 6) (by show 6 ≤ d1 + 6; omega) nm_161 rfl h [] [175] [.ref 175] I.1.1.1.1 I.1.1.1.2.1 hpre ⟨⟨_, rfl, rfl⟩, trivial⟩
  refine nT.mono ?_ (nT_and kz (nT_and k1 k2))
  rintro rv h1 ⟨⟨e0, Z1⟩, ⟨l1, ⟨o1, X1, fat1, got1, lns1, crs1, hh1, nms1, s2, e1, hP⟩, hk1, hv1, fr1⟩, J1, T1, F1, -⟩
  have hR : fR b n = sFam (tk b1 n 900) (decide (900 < n)) 901 0 Hs0 0 := by
    unfold fR
    rw [tk_cg (f := b1) (g := b) (fun j hj => hb1 j (by omega))]
  have hy2 := fy_fr I.2.1 F1 (by decide +kernel)
  have hc2 := hC_ex I.2.2.1 fr1 rfl
  obtain ⟨⟨s3, e3, h3⟩, m2, m3⟩ := id I.2.2.2
  have es : s1 = s3 := celI ((lg_hv (q := 177) hpic rfl).symm.trans e3)
  have m4 := (fr_at (q := 192) fr1 rfl).trans m2
  have m5 := (fr_at (q := 194) fr1 rfl).trans m3
  refine ⟨e0, ?_⟩
  rcases hP with ⟨e, p, hr, es2, rfl⟩ | ⟨H, ln, nmsB, hr, hH, -, -, hs, rfl⟩
  · have et := lg_hv (q := 177) hv1 rfl
    exact ⟨s, ⟨Z1, hy2, hc2, ⟨s2, et, fun i hi => by rw [es2, es]; exact h3 i hi⟩, m4, m5⟩, Or.inl ⟨⟨_, hR.trans hr⟩, rfl⟩⟩
  · have et := lg_hv (q := 177) hv1 rfl
    exact ⟨s2, ⟨Z1, hy2, hc2, ⟨s2, et, fun _ _ => rfl⟩, m4, m5⟩, Or.inr ⟨H, ln, hR.trans hr, rsR_cg ⟨hH.1, hH.2.2.1, crs1, hH.2.2.2⟩ (fun i hi => hs.1 i hi)⟩⟩
set_option maxHeartbeats 2000000 in
theorem yImgS0 (hd : 1 ≤ d) (I : lwY nc nm bc bm z y0 y1 k0 k1 s kp ak h) : nT nj_M X L xs g d nm_151 (fun rv h1 => rv = some (.int 1) ∧ lwY nc nm bc bm z (cpH z y0) y1 1 k1 s kp ak h1) 0 (lv_args 0 [.ref 0, .int (Int32.ofInt 0)]) [] h := by
  obtain ⟨d1, rfl⟩ : ∃ d1, d = d1 + 1 := ⟨d - 1, by omega⟩
  obtain ⟨c1, c2, c3, c4, c5, f, c6, c7, c8⟩ := id I.2.2.1
  have T := I.1.1.1.2.1
  obtain ⟨u, p3, p4, s1, s2⟩ := pic_sl T I.1.2.1 I.2.1
  obtain ⟨x, q1⟩ := pic_lfP T I.1.2.1 I.2.1
  obtain ⟨w, q2⟩ := pic_lf130 T I.1.2.1 I.2.1
  obtain ⟨p, q3⟩ := pic_ph49 T I.1.2.1 I.2.1
  obtain ⟨r, q4⟩ := pic_ph136 T I.1.2.1 I.2.1
  obtain ⟨mz, hM0, ks⟩ := c_image0 (L := L) (xs := xs) (d := d1) (u := u) (f := f) (kp := k0) (y := y0) (w := w) (r := r) (z := z) (x := x) (p := p) (p3 := p3) (p4 := p4) c7
  have hM2 : nj_M 151 = some nm_151 := rfl
  cases hM0.symm.trans hM2
  have hpic := hv_a s1 (hv_a c6 (hv_a c4 (hv_a c2 (hv_a q2 (hv_a q4 (hv_a c1 (hv_a q1 (hv_a q3 s2))))))))
  have k1 := nT_up (X := X) (g := g) (by decide +kernel) (ks h hpic)
  have hpre : aOk fS h [0] [0] nk_157.2.2.1 := ⟨aE1 (r0 := (-2147483648, 2147483647)) ⟨by decide, by decide⟩, tau_1 (show fS[0]? = some 8 by decide), (fun e he => nomatch he), (fun e he => nomatch he), (fun e he => nomatch he)⟩
  have k2 := vk_157 (X := X) (L := L) (xs := xs) (g := g) (S := fS) (d1 + 1) (by show 1 ≤ d1 + 1; omega) nm_151 rfl h [0] [0] [.ref 0, .int (Int32.ofInt 0)] I.1.1.1.1 T hpre ⟨⟨_, rfl, rfl⟩, ⟨0, rfl, rfl⟩, trivial⟩
  refine nT.mono ?_ (nT_and k1 k2)
  rintro rv h1 ⟨⟨l1, ⟨e1, rfl⟩, hk1, hv1, fr1⟩, J1, T1, F1, -⟩
  exact ⟨e1, lwZ_keep I.1 J1 T1 F1 (by decide +kernel), fy_fr I.2.1 F1 (by decide +kernel), ⟨hv_l (hv_r (hv_r (hv_r (hv_r (hv_r (hv_r hv1)))))), hv_l (hv_r (hv_r (hv_r hv1))), hv_ex c3 fr1 rfl, hv_l (hv_r (hv_r hv1)), hv_ex c5 fr1 rfl, f, hv_l (hv_r hv1), c7, c8⟩, hM_ex I.2.2.2 fr1 rfl⟩
set_option maxHeartbeats 2000000 in
theorem yImgS1 (hd : 1 ≤ d) (I : lwY nc nm bc bm z y0 y1 k0 k1 s kp ak h) : nT nj_M X L xs g d nm_151 (fun rv h1 => rv = some (.int 1) ∧ lwY nc nm bc bm z y0 (cpH z y1) k0 1 s kp ak h1) 0 (lv_args 0 [.ref 0, .int (Int32.ofInt 1)]) [] h := by
  obtain ⟨d1, rfl⟩ : ∃ d1, d = d1 + 1 := ⟨d - 1, by omega⟩
  obtain ⟨c1, c2, c3, c4, c5, f, c6, c7, c8⟩ := id I.2.2.1
  have T := I.1.1.1.2.1
  obtain ⟨u, p3, p4, s1, s2⟩ := pic_sl T I.1.2.1 I.2.1
  obtain ⟨x, q1⟩ := pic_lfP T I.1.2.1 I.2.1
  obtain ⟨w, q2⟩ := pic_lf157 T I.1.2.1 I.2.1
  obtain ⟨p, q3⟩ := pic_ph49 T I.1.2.1 I.2.1
  obtain ⟨r, q4⟩ := pic_ph163 T I.1.2.1 I.2.1
  obtain ⟨mz, hM0, ks⟩ := c_image1 (L := L) (xs := xs) (d := d1) (u := u) (f := f) (kp := k1) (y := y1) (w := w) (r := r) (z := z) (x := x) (p := p) (p3 := p3) (p4 := p4) c8
  have hM2 : nj_M 151 = some nm_151 := rfl
  cases hM0.symm.trans hM2
  have hpic := hv_a s1 (hv_a c6 (hv_a c5 (hv_a c3 (hv_a q2 (hv_a q4 (hv_a c1 (hv_a q1 (hv_a q3 s2))))))))
  have k1 := nT_up (X := X) (g := g) (by decide +kernel) (ks h hpic)
  have hpre : aOk fS h [1] [0] nk_157.2.2.1 := ⟨aE1 (r0 := (-2147483648, 2147483647)) ⟨by decide, by decide⟩, tau_1 (show fS[0]? = some 8 by decide), (fun e he => nomatch he), (fun e he => nomatch he), (fun e he => nomatch he)⟩
  have k2 := vk_157 (X := X) (L := L) (xs := xs) (g := g) (S := fS) (d1 + 1) (by show 1 ≤ d1 + 1; omega) nm_151 rfl h [1] [0] [.ref 0, .int (Int32.ofInt 1)] I.1.1.1.1 T hpre ⟨⟨_, rfl, rfl⟩, ⟨1, rfl, rfl⟩, trivial⟩
  refine nT.mono ?_ (nT_and k1 k2)
  rintro rv h1 ⟨⟨l1, ⟨e1, rfl⟩, hk1, hv1, fr1⟩, J1, T1, F1, -⟩
  exact ⟨e1, lwZ_keep I.1 J1 T1 F1 (by decide +kernel), fy_fr I.2.1 F1 (by decide +kernel), ⟨hv_l (hv_r (hv_r (hv_r (hv_r (hv_r (hv_r hv1)))))), hv_ex c2 fr1 rfl, hv_l (hv_r (hv_r (hv_r hv1))), hv_ex c4 fr1 rfl, hv_l (hv_r (hv_r hv1)), f, hv_l (hv_r hv1), c7, c8⟩, hM_ex I.2.2.2 fr1 rfl⟩
theorem yImgSN (hd : 1 ≤ d) (I : lwY nc nm bc bm z y0 y1 k0 k1 s kp ak h) {u : Int32} (h0 : ¬ u = 0) (h1 : ¬ u = 1) : nT nj_M X L xs g d nm_151 (fun rv h1 => rv = some (.int 0) ∧ lwY nc nm bc bm z y0 y1 k0 k1 s kp ak h1) 0 (lv_args 0 [.ref 0, .int u]) [] h := by
  obtain ⟨mz, hM0, ks⟩ := c_imgN (L := L) (xs := xs) (d := d) h0 h1
  have hM2 : nj_M 151 = some nm_151 := rfl
  cases hM0.symm.trans hM2
  have k1 := nT_up (X := X) (g := g) (by decide +kernel) (ks h hv_0)
  have hpre : aOk fS h [u.toInt] [0] nk_157.2.2.1 := ⟨aE1 (r0 := (-2147483648, 2147483647)) (i32b u), tau_1 (show fS[0]? = some 8 by decide), (fun e he => nomatch he), (fun e he => nomatch he), (fun e he => nomatch he)⟩
  have k2 := vk_157 (X := X) (L := L) (xs := xs) (g := g) (S := fS) d (Nat.le_trans (by decide) hd) nm_151 rfl h [u.toInt] [0] [.ref 0, .int u] I.1.1.1.1 I.1.1.1.2.1 hpre ⟨⟨_, rfl, rfl⟩, ⟨u.toInt, rfl, by rw [Int.add_zero, Int32.ofInt_toInt]⟩, trivial⟩
  refine nT.mono ?_ (nT_and k1 k2)
  rintro rv h2 ⟨⟨l1, ⟨e1, rfl⟩, hk1, hv1, fr1⟩, J1, T1, F1, -⟩
  exact ⟨e1, lwZ_keep I.1 J1 T1 F1 (by decide +kernel), fy_fr I.2.1 F1 (by decide +kernel), hC_ex I.2.2.1 fr1 rfl, hM_ex I.2.2.2 fr1 rfl⟩
set_option maxHeartbeats 2000000 in
theorem yResS0 (hd : 1 ≤ d) (I : lwY nc nm bc bm z y0 y1 1 k1 s kp ak h) : nT nj_M X L xs g d nm_152 (fun rv h1 => rv = some (.int 1) ∧ lwY nc nm bc bm (cpH y0 z) y0 y1 1 k1 s kp ak h1) 0 (lv_args 0 [.ref 0, .int (Int32.ofInt 0)]) [] h := by
  obtain ⟨d1, rfl⟩ : ∃ d1, d = d1 + 1 := ⟨d - 1, by omega⟩
  obtain ⟨c1, c2, c3, c4, c5, f, c6, c7, c8⟩ := id I.2.2.1
  have T := I.1.1.1.2.1
  obtain ⟨u, p3, p4, s1, s2⟩ := pic_sl T I.1.2.1 I.2.1
  obtain ⟨x, q1⟩ := pic_lfP T I.1.2.1 I.2.1
  obtain ⟨w, q2⟩ := pic_lf130 T I.1.2.1 I.2.1
  obtain ⟨p, q3⟩ := pic_ph49 T I.1.2.1 I.2.1
  obtain ⟨r, q4⟩ := pic_ph136 T I.1.2.1 I.2.1
  obtain ⟨mz, hM0, ks⟩ := c_restore0 (L := L) (xs := xs) (d := d1) (u := u) (f := f) (y := y0) (w := w) (r := r) (z := z) (x := x) (p := p) (p3 := p3) (p4 := p4) c7
  have hM2 : nj_M 152 = some nm_152 := rfl
  cases hM0.symm.trans hM2
  have hpic := hv_a s1 (hv_a c6 (hv_a c4 (hv_a c2 (hv_a q2 (hv_a q4 (hv_a c1 (hv_a q1 (hv_a q3 s2))))))))
  have k1 := nT_up (X := X) (g := g) (by decide +kernel) (ks h hpic)
  have hpre : aOk fS h [0] [0] nk_158.2.2.1 := ⟨aE1 (r0 := (-2147483648, 2147483647)) ⟨by decide, by decide⟩, tau_1 (show fS[0]? = some 8 by decide), (fun e he => nomatch he), (fun e he => nomatch he), (fun e he => nomatch he)⟩
  have k2 := vk_158 (X := X) (L := L) (xs := xs) (g := g) (S := fS) (d1 + 1) (by show 1 ≤ d1 + 1; omega) nm_152 rfl h [0] [0] [.ref 0, .int (Int32.ofInt 0)] I.1.1.1.1 T hpre ⟨⟨_, rfl, rfl⟩, ⟨0, rfl, rfl⟩, trivial⟩
  refine nT.mono ?_ (nT_and k1 k2)
  rintro rv h1 ⟨⟨l1, ⟨e1, rfl⟩, hk1, hv1, fr1⟩, J1, T1, F1, -⟩
  exact ⟨e1, lwZ_keep I.1 J1 T1 F1 (by decide +kernel), fy_fr I.2.1 F1 (by decide +kernel), ⟨hv_l (hv_r (hv_r (hv_r (hv_r (hv_r (hv_r hv1)))))), hv_l (hv_r (hv_r (hv_r hv1))), hv_ex c3 fr1 rfl, hv_l (hv_r (hv_r hv1)), hv_ex c5 fr1 rfl, f, hv_l (hv_r hv1), c7, c8⟩, hM_ex I.2.2.2 fr1 rfl⟩
set_option maxHeartbeats 2000000 in
theorem yResS1 (hd : 1 ≤ d) (I : lwY nc nm bc bm z y0 y1 k0 1 s kp ak h) : nT nj_M X L xs g d nm_152 (fun rv h1 => rv = some (.int 1) ∧ lwY nc nm bc bm (cpH y1 z) y0 y1 k0 1 s kp ak h1) 0 (lv_args 0 [.ref 0, .int (Int32.ofInt 1)]) [] h := by
  obtain ⟨d1, rfl⟩ : ∃ d1, d = d1 + 1 := ⟨d - 1, by omega⟩
  obtain ⟨c1, c2, c3, c4, c5, f, c6, c7, c8⟩ := id I.2.2.1
  have T := I.1.1.1.2.1
  obtain ⟨u, p3, p4, s1, s2⟩ := pic_sl T I.1.2.1 I.2.1
  obtain ⟨x, q1⟩ := pic_lfP T I.1.2.1 I.2.1
  obtain ⟨w, q2⟩ := pic_lf157 T I.1.2.1 I.2.1
  obtain ⟨p, q3⟩ := pic_ph49 T I.1.2.1 I.2.1
  obtain ⟨r, q4⟩ := pic_ph163 T I.1.2.1 I.2.1
  obtain ⟨mz, hM0, ks⟩ := c_restore1 (L := L) (xs := xs) (d := d1) (u := u) (f := f) (y := y1) (w := w) (r := r) (z := z) (x := x) (p := p) (p3 := p3) (p4 := p4) c8
  have hM2 : nj_M 152 = some nm_152 := rfl
  cases hM0.symm.trans hM2
  have hpic := hv_a s1 (hv_a c6 (hv_a c5 (hv_a c3 (hv_a q2 (hv_a q4 (hv_a c1 (hv_a q1 (hv_a q3 s2))))))))
  have k1 := nT_up (X := X) (g := g) (by decide +kernel) (ks h hpic)
  have hpre : aOk fS h [1] [0] nk_158.2.2.1 := ⟨aE1 (r0 := (-2147483648, 2147483647)) ⟨by decide, by decide⟩, tau_1 (show fS[0]? = some 8 by decide), (fun e he => nomatch he), (fun e he => nomatch he), (fun e he => nomatch he)⟩
  have k2 := vk_158 (X := X) (L := L) (xs := xs) (g := g) (S := fS) (d1 + 1) (by show 1 ≤ d1 + 1; omega) nm_152 rfl h [1] [0] [.ref 0, .int (Int32.ofInt 1)] I.1.1.1.1 T hpre ⟨⟨_, rfl, rfl⟩, ⟨1, rfl, rfl⟩, trivial⟩
  refine nT.mono ?_ (nT_and k1 k2)
  rintro rv h1 ⟨⟨l1, ⟨e1, rfl⟩, hk1, hv1, fr1⟩, J1, T1, F1, -⟩
  exact ⟨e1, lwZ_keep I.1 J1 T1 F1 (by decide +kernel), fy_fr I.2.1 F1 (by decide +kernel), ⟨hv_l (hv_r (hv_r (hv_r (hv_r (hv_r (hv_r hv1)))))), hv_ex c2 fr1 rfl, hv_l (hv_r (hv_r (hv_r hv1))), hv_ex c4 fr1 rfl, hv_l (hv_r (hv_r hv1)), f, hv_l (hv_r hv1), c7, c8⟩, hM_ex I.2.2.2 fr1 rfl⟩
theorem yResSN (hd : 1 ≤ d) (I : lwY nc nm bc bm z y0 y1 k0 k1 s kp ak h) {u : Int32} (h0 : ¬ u = 0) (h1 : ¬ u = 1) : nT nj_M X L xs g d nm_152 (fun rv h1 => rv = some (.int 0) ∧ lwY nc nm bc bm z y0 y1 k0 k1 s kp ak h1) 0 (lv_args 0 [.ref 0, .int u]) [] h := by
  obtain ⟨mz, hM0, ks⟩ := c_resN (L := L) (xs := xs) (d := d) h0 h1
  have hM2 : nj_M 152 = some nm_152 := rfl
  cases hM0.symm.trans hM2
  have k1 := nT_up (X := X) (g := g) (by decide +kernel) (ks h hv_0)
  have hpre : aOk fS h [u.toInt] [0] nk_158.2.2.1 := ⟨aE1 (r0 := (-2147483648, 2147483647)) (i32b u), tau_1 (show fS[0]? = some 8 by decide), (fun e he => nomatch he), (fun e he => nomatch he), (fun e he => nomatch he)⟩
  have k2 := vk_158 (X := X) (L := L) (xs := xs) (g := g) (S := fS) d (Nat.le_trans (by decide) hd) nm_152 rfl h [u.toInt] [0] [.ref 0, .int u] I.1.1.1.1 I.1.1.1.2.1 hpre ⟨⟨_, rfl, rfl⟩, ⟨u.toInt, rfl, by rw [Int.add_zero, Int32.ofInt_toInt]⟩, trivial⟩
  refine nT.mono ?_ (nT_and k1 k2)
  rintro rv h2 ⟨⟨l1, ⟨e1, rfl⟩, hk1, hv1, fr1⟩, J1, T1, F1, -⟩
  exact ⟨e1, lwZ_keep I.1 J1 T1 F1 (by decide +kernel), fy_fr I.2.1 F1 (by decide +kernel), hC_ex I.2.2.1 fr1 rfl, hM_ex I.2.2.2 fr1 rfl⟩
theorem yRes0X (hd : 1 ≤ d) (I : lwY nc nm bc bm z y0 y1 0 k1 s kp ak h) : nT nj_M X L xs g d nm_152 (fun rv h1 => rv = some (.int 0) ∧ lwY nc nm bc bm z y0 y1 0 k1 s kp ak h1) 0 (lv_args 0 [.ref 0, .int (Int32.ofInt 0)]) [] h := by
  obtain ⟨c1, c2, c3, c4, c5, f, c6, c7, c8⟩ := id I.2.2.1
  have T := I.1.1.1.2.1
  obtain ⟨u, p3, p4, s1, s2⟩ := pic_sl T I.1.2.1 I.2.1
  obtain ⟨mz, hM0, ks⟩ := c_res0X (L := L) (xs := xs) (d := d) (u := u) (f := f) c7
  have hM2 : nj_M 152 = some nm_152 := rfl
  cases hM0.symm.trans hM2
  have k1 := nT_up (X := X) (g := g) (by decide +kernel) (ks h (hv_a s1 (hv_a c6 c4)))
  have hpre : aOk fS h [0] [0] nk_158.2.2.1 := ⟨aE1 (r0 := (-2147483648, 2147483647)) ⟨by decide, by decide⟩, tau_1 (show fS[0]? = some 8 by decide), (fun e he => nomatch he), (fun e he => nomatch he), (fun e he => nomatch he)⟩
  have k2 := vk_158 (X := X) (L := L) (xs := xs) (g := g) (S := fS) d (Nat.le_trans (by decide) hd) nm_152 rfl h [0] [0] [.ref 0, .int (Int32.ofInt 0)] I.1.1.1.1 T hpre ⟨⟨_, rfl, rfl⟩, ⟨0, rfl, rfl⟩, trivial⟩
  refine nT.mono ?_ (nT_and k1 k2)
  rintro rv h1 ⟨⟨l1, ⟨e1, rfl⟩, hk1, hv1, fr1⟩, J1, T1, F1, -⟩
  exact ⟨e1, lwZ_keep I.1 J1 T1 F1 (by decide +kernel), fy_fr I.2.1 F1 (by decide +kernel), ⟨hv_ex c1 fr1 rfl, hv_ex c2 fr1 rfl, hv_ex c3 fr1 rfl, hv_r (hv_r hv1), hv_ex c5 fr1 rfl, f, hv_l (hv_r hv1), c7, c8⟩, hM_ex I.2.2.2 fr1 rfl⟩
theorem yRes1X (hd : 1 ≤ d) (I : lwY nc nm bc bm z y0 y1 k0 0 s kp ak h) : nT nj_M X L xs g d nm_152 (fun rv h1 => rv = some (.int 0) ∧ lwY nc nm bc bm z y0 y1 k0 0 s kp ak h1) 0 (lv_args 0 [.ref 0, .int (Int32.ofInt 1)]) [] h := by
  obtain ⟨c1, c2, c3, c4, c5, f, c6, c7, c8⟩ := id I.2.2.1
  have T := I.1.1.1.2.1
  obtain ⟨u, p3, p4, s1, s2⟩ := pic_sl T I.1.2.1 I.2.1
  obtain ⟨mz, hM0, ks⟩ := c_res1X (L := L) (xs := xs) (d := d) (u := u) (f := f) c8
  have hM2 : nj_M 152 = some nm_152 := rfl
  cases hM0.symm.trans hM2
  have k1 := nT_up (X := X) (g := g) (by decide +kernel) (ks h (hv_a s1 (hv_a c6 c5)))
  have hpre : aOk fS h [1] [0] nk_158.2.2.1 := ⟨aE1 (r0 := (-2147483648, 2147483647)) ⟨by decide, by decide⟩, tau_1 (show fS[0]? = some 8 by decide), (fun e he => nomatch he), (fun e he => nomatch he), (fun e he => nomatch he)⟩
  have k2 := vk_158 (X := X) (L := L) (xs := xs) (g := g) (S := fS) d (Nat.le_trans (by decide) hd) nm_152 rfl h [1] [0] [.ref 0, .int (Int32.ofInt 1)] I.1.1.1.1 T hpre ⟨⟨_, rfl, rfl⟩, ⟨1, rfl, rfl⟩, trivial⟩
  refine nT.mono ?_ (nT_and k1 k2)
  rintro rv h1 ⟨⟨l1, ⟨e1, rfl⟩, hk1, hv1, fr1⟩, J1, T1, F1, -⟩
  exact ⟨e1, lwZ_keep I.1 J1 T1 F1 (by decide +kernel), fy_fr I.2.1 F1 (by decide +kernel), ⟨hv_ex c1 fr1 rfl, hv_ex c2 fr1 rfl, hv_ex c3 fr1 rfl, hv_ex c4 fr1 rfl, hv_r (hv_r hv1), f, hv_l (hv_r hv1), c7, c8⟩, hM_ex I.2.2.2 fr1 rfl⟩
theorem yImgM0 (hd : 1 ≤ d) (I : lwY nc nm bc bm z y0 y1 k0 k1 s kp ak h) : nT nj_M X L xs g d nm_262 (fun rv h1 => rv = some (.int 1) ∧ ∃ kp2 ak2, imP (Int32.ofInt 0) s kp ak kp2 ak2 ∧ lwY nc nm bc bm z y0 y1 k0 k1 s kp2 ak2 h1) 0 (lv_args 0 [.ref 175, .int (Int32.ofInt 0)]) [] h := by
  obtain ⟨d1, rfl⟩ : ∃ d1, d = d1 + 1 := ⟨d - 1, by omega⟩
  have T := I.1.1.1.2.1
  obtain ⟨o, thr, sz, lim, Y, flt, fat, got, lns, crs, b1, hh, nms, rsv, s1, hrs, hb1, hby, hpic⟩ := pic_r T I.1.2.1 I.1.2.2 I.1.1.2.2.2
  obtain ⟨⟨s3, e3, h3⟩, m2, m3⟩ := id I.2.2.2
  have es : s1 = s3 := celI ((lg_hv (q := 177) hpic rfl).symm.trans e3)
  obtain ⟨nk, e193⟩ := rowL T (q := 193) (show fS[193]? = some 66 by decide) (show nAT 66 = some (3, 52, .inr (.inr ())) from rfl) rfl
  have eo := oK_of I.2.1 hpic
  have hpic2 := hv_a hpic (hv_c m2 (hv_c e193 (hv_c m3 hv_0)))
  rw [← eo] at hpic2
  obtain ⟨mz, hM0, ks⟩ := q_image0 (L := L) (xs := xs) (d := d1) (o := o) (thr := thr) (len := Int32.ofInt (nm : Int)) (sz := sz) (lim := lim) (X := Y) (flt := flt) (fat := fat) (got := got) (lns := lns) (crs := crs) (b := b1) (hh := hh) (nms := nms) (rsv := rsv) (s := s1) (kp := kp) (nk := nk) (ak := ak)
  have hM2 : nj_M 262 = some nm_262 := rfl
  cases hM0.symm.trans hM2
  have k1 := nT_up (X := X) (g := g) (by decide +kernel) (ks h hpic2)
  have hpre : aOk fS h [0] [175] nk_336.2.2.1 := ⟨aE1 (r0 := (-2147483648, 2147483647)) ⟨by decide, by decide⟩, tau_1 (show fS[175]? = some 9 by decide), i3_fc5 I.1.1.1, (fun e he => nomatch he), (fun e he => nomatch he)⟩
  have k2 := vk_336 (X := X) (L := L) (xs := xs) (g := g) (S := fS) (d1 + 1) (by show 1 ≤ d1 + 1; omega) nm_262 rfl h [0] [175] [.ref 175, .int (Int32.ofInt 0)] I.1.1.1.1 T hpre ⟨⟨_, rfl, rfl⟩, ⟨0, rfl, rfl⟩, trivial⟩
  refine nT.mono ?_ (nT_and k1 k2)
  rintro rv h1 ⟨⟨l1, ⟨e1, kx, nx, hkx, rfl⟩, hk1, hv1, fr1⟩, J1, T1, F1, po, hpo, nu1, mu1, X1, ok1, -⟩
  have hpo2 := List.mem_singleton.mp (show po ∈ [_] from hpo)
  subst hpo2
  have Z1 := lwZ_keep2 I.1 J1 T1 F1 (i3_of5 T1 X1 ok1 rfl) (by decide +kernel)
  have y2 := fy_fr I.2.1 F1 (by decide +kernel)
  have hc2 := hC_ex I.2.2.1 fr1 rfl
  have et := lg_hv (q := 177) hv1 rfl
  have eu := lg_hv (q := 192) hv1 rfl
  have ew := lg_hv (q := 194) hv1 rfl
  exact ⟨e1, kx, upd ak 0 (vp_nar (nj_kt 2) (Int32.ofInt 1)), ⟨fun _ => ⟨fun j hj => by rw [hkx j, if_pos (by omega), show j - 360 * 0 = j by omega, es]; exact h3 j hj, fun j hj => by rw [hkx j, if_neg (by omega)], rfl, rfl⟩, fun c => absurd c (by decide), fun c => absurd rfl c⟩, Z1, y2, hc2, ⟨s1, et, fun i hi => by rw [es]; exact h3 i hi⟩, eu, ew⟩
theorem yResM0 (hd : 1 ≤ d) (I : lwY nc nm bc bm z y0 y1 k0 k1 s kp ak h) (ha : ak 0 = 1) : nT nj_M X L xs g d nm_263 (fun rv h1 => rv = some (.int 1) ∧ ∃ s2, rsP (Int32.ofInt 0) s kp ak s2 ∧ lwY nc nm bc bm z y0 y1 k0 k1 s2 kp ak h1) 0 (lv_args 0 [.ref 175, .int (Int32.ofInt 0)]) [] h := by
  obtain ⟨d1, rfl⟩ : ∃ d1, d = d1 + 1 := ⟨d - 1, by omega⟩
  have T := I.1.1.1.2.1
  obtain ⟨o, thr, sz, lim, Y, flt, fat, got, lns, crs, b1, hh, nms, rsv, s1, hrs, hb1, hby, hpic⟩ := pic_r T I.1.2.1 I.1.2.2 I.1.1.2.2.2
  obtain ⟨⟨s3, e3, h3⟩, m2, m3⟩ := id I.2.2.2
  have es : s1 = s3 := celI ((lg_hv (q := 177) hpic rfl).symm.trans e3)
  obtain ⟨nk, e193⟩ := rowL T (q := 193) (show fS[193]? = some 66 by decide) (show nAT 66 = some (3, 52, .inr (.inr ())) from rfl) rfl
  have eo := oK_of I.2.1 hpic
  have hpic2 := hv_a hpic (hv_c m2 (hv_c e193 (hv_c m3 hv_0)))
  rw [← eo] at hpic2
  obtain ⟨mz, hM0, ks⟩ := q_restore0 (L := L) (xs := xs) (d := d1) (o := o) (thr := thr) (len := Int32.ofInt (nm : Int)) (sz := sz) (lim := lim) (X := Y) (flt := flt) (fat := fat) (got := got) (lns := lns) (crs := crs) (b := b1) (hh := hh) (nms := nms) (rsv := rsv) (s := s1) (kp := kp) (nk := nk) (ak := ak) (by rw [ha]; rfl)
  have hM2 : nj_M 263 = some nm_263 := rfl
  cases hM0.symm.trans hM2
  have k1 := nT_up (X := X) (g := g) (by decide +kernel) (ks h hpic2)
  have hpre : aOk fS h [0] [175] nk_337.2.2.1 := ⟨aE1 (r0 := (-2147483648, 2147483647)) ⟨by decide, by decide⟩, tau_1 (show fS[175]? = some 9 by decide), i3_fc5 I.1.1.1, (fun e he => nomatch he), (fun e he => nomatch he)⟩
  have k2 := vk_337 (X := X) (L := L) (xs := xs) (g := g) (S := fS) (d1 + 1) (by show 1 ≤ d1 + 1; omega) nm_263 rfl h [0] [175] [.ref 175, .int (Int32.ofInt 0)] I.1.1.1.1 T hpre ⟨⟨_, rfl, rfl⟩, ⟨0, rfl, rfl⟩, trivial⟩
  refine nT.mono ?_ (nT_and k1 k2)
  rintro rv h1 ⟨⟨l1, ⟨e1, o1, kx, nx, hkx, rfl⟩, hk1, hv1, fr1⟩, J1, T1, F1, po, hpo, nu1, mu1, X1, ok1, -⟩
  have hpo2 := List.mem_singleton.mp (show po ∈ [_] from hpo)
  subst hpo2
  have Z1 := lwZ_keep2 I.1 J1 T1 F1 (i3_of5 T1 X1 ok1 rfl) (by decide +kernel)
  have y2 := fy_fr I.2.1 F1 (by decide +kernel)
  have hc2 := hC_ex I.2.2.1 fr1 rfl
  have et := lg_hv (q := 177) hv1 rfl
  have eu := lg_hv (q := 192) hv1 rfl
  have ew := lg_hv (q := 194) hv1 rfl
  exact ⟨e1, kx, ⟨fun _ _ i hi => by rw [hkx i, if_pos (by omega), show 360 * 0 + i = i by omega], fun c => absurd c (by decide), fun c => absurd ⟨rfl, ha⟩ c⟩, Z1, y2, hc2, ⟨kx, et, fun _ _ => rfl⟩, eu, ew⟩
theorem yResM0X (hd : 1 ≤ d) (I : lwY nc nm bc bm z y0 y1 k0 k1 s kp ak h) (ha : ak 0 = 0) : nT nj_M X L xs g d nm_263 (fun rv h1 => rv = some (.int 0) ∧ ∃ s2, rsP (Int32.ofInt 0) s kp ak s2 ∧ lwY nc nm bc bm z y0 y1 k0 k1 s2 kp ak h1) 0 (lv_args 0 [.ref 175, .int (Int32.ofInt 0)]) [] h := by
  obtain ⟨d1, rfl⟩ : ∃ d1, d = d1 + 1 := ⟨d - 1, by omega⟩
  have T := I.1.1.1.2.1
  obtain ⟨o, thr, sz, lim, Y, flt, fat, got, lns, crs, b1, hh, nms, rsv, s1, hrs, hb1, hby, hpic⟩ := pic_r T I.1.2.1 I.1.2.2 I.1.1.2.2.2
  obtain ⟨⟨s3, e3, h3⟩, m2, m3⟩ := id I.2.2.2
  have es : s1 = s3 := celI ((lg_hv (q := 177) hpic rfl).symm.trans e3)
  obtain ⟨nk, e193⟩ := rowL T (q := 193) (show fS[193]? = some 66 by decide) (show nAT 66 = some (3, 52, .inr (.inr ())) from rfl) rfl
  have eo := oK_of I.2.1 hpic
  have hpic2 := hv_a hpic (hv_c m2 (hv_c e193 (hv_c m3 hv_0)))
  rw [← eo] at hpic2
  obtain ⟨mz, hM0, ks⟩ := q_res0X (L := L) (xs := xs) (d := d1) (o := o) (thr := thr) (len := Int32.ofInt (nm : Int)) (sz := sz) (lim := lim) (X := Y) (flt := flt) (fat := fat) (got := got) (lns := lns) (crs := crs) (b := b1) (hh := hh) (nms := nms) (rsv := rsv) (s := s1) (kp := kp) (nk := nk) (ak := ak) ha
  have hM2 : nj_M 263 = some nm_263 := rfl
  cases hM0.symm.trans hM2
  have k1 := nT_up (X := X) (g := g) (by decide +kernel) (ks h hpic2)
  have hpre : aOk fS h [0] [175] nk_337.2.2.1 := ⟨aE1 (r0 := (-2147483648, 2147483647)) ⟨by decide, by decide⟩, tau_1 (show fS[175]? = some 9 by decide), i3_fc5 I.1.1.1, (fun e he => nomatch he), (fun e he => nomatch he)⟩
  have k2 := vk_337 (X := X) (L := L) (xs := xs) (g := g) (S := fS) (d1 + 1) (by show 1 ≤ d1 + 1; omega) nm_263 rfl h [0] [175] [.ref 175, .int (Int32.ofInt 0)] I.1.1.1.1 T hpre ⟨⟨_, rfl, rfl⟩, ⟨0, rfl, rfl⟩, trivial⟩
  refine nT.mono ?_ (nT_and k1 k2)
  rintro rv h1 ⟨⟨l1, ⟨e1, rfl⟩, hk1, hv1, fr1⟩, J1, T1, F1, po, hpo, nu1, mu1, X1, ok1, -⟩
  have hpo2 := List.mem_singleton.mp (show po ∈ [_] from hpo)
  subst hpo2
  have Z1 := lwZ_keep2 I.1 J1 T1 F1 (i3_of5 T1 X1 ok1 rfl) (by decide +kernel)
  have y2 := fy_fr I.2.1 F1 (by decide +kernel)
  have hc2 := hC_ex I.2.2.1 fr1 rfl
  have et := lg_hv (q := 177) hv1 rfl
  have eu := lg_hv (q := 192) hv1 rfl
  have ew := lg_hv (q := 194) hv1 rfl
  exact ⟨e1, s, ⟨fun _ c2 => by rw [ha] at c2; exact absurd c2 (by decide), fun c => absurd c (by decide), fun _ _ => rfl⟩, Z1, y2, hc2, ⟨s1, et, fun i hi => by rw [es]; exact h3 i hi⟩, eu, ew⟩
theorem yImgM1 (hd : 1 ≤ d) (I : lwY nc nm bc bm z y0 y1 k0 k1 s kp ak h) : nT nj_M X L xs g d nm_262 (fun rv h1 => rv = some (.int 1) ∧ ∃ kp2 ak2, imP (Int32.ofInt 1) s kp ak kp2 ak2 ∧ lwY nc nm bc bm z y0 y1 k0 k1 s kp2 ak2 h1) 0 (lv_args 0 [.ref 175, .int (Int32.ofInt 1)]) [] h := by
  obtain ⟨d1, rfl⟩ : ∃ d1, d = d1 + 1 := ⟨d - 1, by omega⟩
  have T := I.1.1.1.2.1
  obtain ⟨o, thr, sz, lim, Y, flt, fat, got, lns, crs, b1, hh, nms, rsv, s1, hrs, hb1, hby, hpic⟩ := pic_r T I.1.2.1 I.1.2.2 I.1.1.2.2.2
  obtain ⟨⟨s3, e3, h3⟩, m2, m3⟩ := id I.2.2.2
  have es : s1 = s3 := celI ((lg_hv (q := 177) hpic rfl).symm.trans e3)
  obtain ⟨nk, e193⟩ := rowL T (q := 193) (show fS[193]? = some 66 by decide) (show nAT 66 = some (3, 52, .inr (.inr ())) from rfl) rfl
  have eo := oK_of I.2.1 hpic
  have hpic2 := hv_a hpic (hv_c m2 (hv_c e193 (hv_c m3 hv_0)))
  rw [← eo] at hpic2
  obtain ⟨mz, hM0, ks⟩ := q_image1 (L := L) (xs := xs) (d := d1) (o := o) (thr := thr) (len := Int32.ofInt (nm : Int)) (sz := sz) (lim := lim) (X := Y) (flt := flt) (fat := fat) (got := got) (lns := lns) (crs := crs) (b := b1) (hh := hh) (nms := nms) (rsv := rsv) (s := s1) (kp := kp) (nk := nk) (ak := ak)
  have hM2 : nj_M 262 = some nm_262 := rfl
  cases hM0.symm.trans hM2
  have k1 := nT_up (X := X) (g := g) (by decide +kernel) (ks h hpic2)
  have hpre : aOk fS h [1] [175] nk_336.2.2.1 := ⟨aE1 (r0 := (-2147483648, 2147483647)) ⟨by decide, by decide⟩, tau_1 (show fS[175]? = some 9 by decide), i3_fc5 I.1.1.1, (fun e he => nomatch he), (fun e he => nomatch he)⟩
  have k2 := vk_336 (X := X) (L := L) (xs := xs) (g := g) (S := fS) (d1 + 1) (by show 1 ≤ d1 + 1; omega) nm_262 rfl h [1] [175] [.ref 175, .int (Int32.ofInt 1)] I.1.1.1.1 T hpre ⟨⟨_, rfl, rfl⟩, ⟨1, rfl, rfl⟩, trivial⟩
  refine nT.mono ?_ (nT_and k1 k2)
  rintro rv h1 ⟨⟨l1, ⟨e1, kx, nx, hkx, rfl⟩, hk1, hv1, fr1⟩, J1, T1, F1, po, hpo, nu1, mu1, X1, ok1, -⟩
  have hpo2 := List.mem_singleton.mp (show po ∈ [_] from hpo)
  subst hpo2
  have Z1 := lwZ_keep2 I.1 J1 T1 F1 (i3_of5 T1 X1 ok1 rfl) (by decide +kernel)
  have y2 := fy_fr I.2.1 F1 (by decide +kernel)
  have hc2 := hC_ex I.2.2.1 fr1 rfl
  have et := lg_hv (q := 177) hv1 rfl
  have eu := lg_hv (q := 192) hv1 rfl
  have ew := lg_hv (q := 194) hv1 rfl
  exact ⟨e1, kx, upd ak 1 (vp_nar (nj_kt 2) (Int32.ofInt 1)), ⟨fun c => absurd c (by decide), fun _ => ⟨fun j hj => by rw [hkx (360 + j), if_pos (by omega), show 360 + j - 360 * 1 = j by omega, es]; exact h3 j hj, fun j hj => by rw [hkx j, if_neg (by omega)], rfl, rfl⟩, fun _ c => absurd rfl c⟩, Z1, y2, hc2, ⟨s1, et, fun i hi => by rw [es]; exact h3 i hi⟩, eu, ew⟩
theorem yResM1 (hd : 1 ≤ d) (I : lwY nc nm bc bm z y0 y1 k0 k1 s kp ak h) (ha : ak 1 = 1) : nT nj_M X L xs g d nm_263 (fun rv h1 => rv = some (.int 1) ∧ ∃ s2, rsP (Int32.ofInt 1) s kp ak s2 ∧ lwY nc nm bc bm z y0 y1 k0 k1 s2 kp ak h1) 0 (lv_args 0 [.ref 175, .int (Int32.ofInt 1)]) [] h := by
  obtain ⟨d1, rfl⟩ : ∃ d1, d = d1 + 1 := ⟨d - 1, by omega⟩
  have T := I.1.1.1.2.1
  obtain ⟨o, thr, sz, lim, Y, flt, fat, got, lns, crs, b1, hh, nms, rsv, s1, hrs, hb1, hby, hpic⟩ := pic_r T I.1.2.1 I.1.2.2 I.1.1.2.2.2
  obtain ⟨⟨s3, e3, h3⟩, m2, m3⟩ := id I.2.2.2
  have es : s1 = s3 := celI ((lg_hv (q := 177) hpic rfl).symm.trans e3)
  obtain ⟨nk, e193⟩ := rowL T (q := 193) (show fS[193]? = some 66 by decide) (show nAT 66 = some (3, 52, .inr (.inr ())) from rfl) rfl
  have eo := oK_of I.2.1 hpic
  have hpic2 := hv_a hpic (hv_c m2 (hv_c e193 (hv_c m3 hv_0)))
  rw [← eo] at hpic2
  obtain ⟨mz, hM0, ks⟩ := q_restore1 (L := L) (xs := xs) (d := d1) (o := o) (thr := thr) (len := Int32.ofInt (nm : Int)) (sz := sz) (lim := lim) (X := Y) (flt := flt) (fat := fat) (got := got) (lns := lns) (crs := crs) (b := b1) (hh := hh) (nms := nms) (rsv := rsv) (s := s1) (kp := kp) (nk := nk) (ak := ak) (by rw [ha]; rfl)
  have hM2 : nj_M 263 = some nm_263 := rfl
  cases hM0.symm.trans hM2
  have k1 := nT_up (X := X) (g := g) (by decide +kernel) (ks h hpic2)
  have hpre : aOk fS h [1] [175] nk_337.2.2.1 := ⟨aE1 (r0 := (-2147483648, 2147483647)) ⟨by decide, by decide⟩, tau_1 (show fS[175]? = some 9 by decide), i3_fc5 I.1.1.1, (fun e he => nomatch he), (fun e he => nomatch he)⟩
  have k2 := vk_337 (X := X) (L := L) (xs := xs) (g := g) (S := fS) (d1 + 1) (by show 1 ≤ d1 + 1; omega) nm_263 rfl h [1] [175] [.ref 175, .int (Int32.ofInt 1)] I.1.1.1.1 T hpre ⟨⟨_, rfl, rfl⟩, ⟨1, rfl, rfl⟩, trivial⟩
  refine nT.mono ?_ (nT_and k1 k2)
  rintro rv h1 ⟨⟨l1, ⟨e1, o1, kx, nx, hkx, rfl⟩, hk1, hv1, fr1⟩, J1, T1, F1, po, hpo, nu1, mu1, X1, ok1, -⟩
  have hpo2 := List.mem_singleton.mp (show po ∈ [_] from hpo)
  subst hpo2
  have Z1 := lwZ_keep2 I.1 J1 T1 F1 (i3_of5 T1 X1 ok1 rfl) (by decide +kernel)
  have y2 := fy_fr I.2.1 F1 (by decide +kernel)
  have hc2 := hC_ex I.2.2.1 fr1 rfl
  have et := lg_hv (q := 177) hv1 rfl
  have eu := lg_hv (q := 192) hv1 rfl
  have ew := lg_hv (q := 194) hv1 rfl
  exact ⟨e1, kx, ⟨fun c => absurd c (by decide), fun _ _ i hi => by rw [hkx i, if_pos (by omega), show 360 * 1 + i = 360 + i by omega], fun _ c => absurd ⟨rfl, ha⟩ c⟩, Z1, y2, hc2, ⟨kx, et, fun _ _ => rfl⟩, eu, ew⟩
theorem yResM1X (hd : 1 ≤ d) (I : lwY nc nm bc bm z y0 y1 k0 k1 s kp ak h) (ha : ak 1 = 0) : nT nj_M X L xs g d nm_263 (fun rv h1 => rv = some (.int 0) ∧ ∃ s2, rsP (Int32.ofInt 1) s kp ak s2 ∧ lwY nc nm bc bm z y0 y1 k0 k1 s2 kp ak h1) 0 (lv_args 0 [.ref 175, .int (Int32.ofInt 1)]) [] h := by
  obtain ⟨d1, rfl⟩ : ∃ d1, d = d1 + 1 := ⟨d - 1, by omega⟩
  have T := I.1.1.1.2.1
  obtain ⟨o, thr, sz, lim, Y, flt, fat, got, lns, crs, b1, hh, nms, rsv, s1, hrs, hb1, hby, hpic⟩ := pic_r T I.1.2.1 I.1.2.2 I.1.1.2.2.2
  obtain ⟨⟨s3, e3, h3⟩, m2, m3⟩ := id I.2.2.2
  have es : s1 = s3 := celI ((lg_hv (q := 177) hpic rfl).symm.trans e3)
  obtain ⟨nk, e193⟩ := rowL T (q := 193) (show fS[193]? = some 66 by decide) (show nAT 66 = some (3, 52, .inr (.inr ())) from rfl) rfl
  have eo := oK_of I.2.1 hpic
  have hpic2 := hv_a hpic (hv_c m2 (hv_c e193 (hv_c m3 hv_0)))
  rw [← eo] at hpic2
  obtain ⟨mz, hM0, ks⟩ := q_res1X (L := L) (xs := xs) (d := d1) (o := o) (thr := thr) (len := Int32.ofInt (nm : Int)) (sz := sz) (lim := lim) (X := Y) (flt := flt) (fat := fat) (got := got) (lns := lns) (crs := crs) (b := b1) (hh := hh) (nms := nms) (rsv := rsv) (s := s1) (kp := kp) (nk := nk) (ak := ak) ha
  have hM2 : nj_M 263 = some nm_263 := rfl
  cases hM0.symm.trans hM2
  have k1 := nT_up (X := X) (g := g) (by decide +kernel) (ks h hpic2)
  have hpre : aOk fS h [1] [175] nk_337.2.2.1 := ⟨aE1 (r0 := (-2147483648, 2147483647)) ⟨by decide, by decide⟩, tau_1 (show fS[175]? = some 9 by decide), i3_fc5 I.1.1.1, (fun e he => nomatch he), (fun e he => nomatch he)⟩
  have k2 := vk_337 (X := X) (L := L) (xs := xs) (g := g) (S := fS) (d1 + 1) (by show 1 ≤ d1 + 1; omega) nm_263 rfl h [1] [175] [.ref 175, .int (Int32.ofInt 1)] I.1.1.1.1 T hpre ⟨⟨_, rfl, rfl⟩, ⟨1, rfl, rfl⟩, trivial⟩
  refine nT.mono ?_ (nT_and k1 k2)
  rintro rv h1 ⟨⟨l1, ⟨e1, rfl⟩, hk1, hv1, fr1⟩, J1, T1, F1, po, hpo, nu1, mu1, X1, ok1, -⟩
  have hpo2 := List.mem_singleton.mp (show po ∈ [_] from hpo)
  subst hpo2
  have Z1 := lwZ_keep2 I.1 J1 T1 F1 (i3_of5 T1 X1 ok1 rfl) (by decide +kernel)
  have y2 := fy_fr I.2.1 F1 (by decide +kernel)
  have hc2 := hC_ex I.2.2.1 fr1 rfl
  have et := lg_hv (q := 177) hv1 rfl
  have eu := lg_hv (q := 192) hv1 rfl
  have ew := lg_hv (q := 194) hv1 rfl
  exact ⟨e1, s, ⟨fun c => absurd c (by decide), fun _ c2 => by rw [ha] at c2; exact absurd c2 (by decide), fun _ _ => rfl⟩, Z1, y2, hc2, ⟨s1, et, fun i hi => by rw [es]; exact h3 i hi⟩, eu, ew⟩
theorem yImgMN (hd : 1 ≤ d) (I : lwY nc nm bc bm z y0 y1 k0 k1 s kp ak h) {u : Int32} (h0 : ¬ u = 0) (h01 : ¬ u = 1) : nT nj_M X L xs g d nm_262 (fun rv h1 => rv = some (.int 0) ∧ ∃ kp2 ak2, imP u s kp ak kp2 ak2 ∧ lwY nc nm bc bm z y0 y1 k0 k1 s kp2 ak2 h1) 0 (lv_args 0 [.ref 175, .int u]) [] h := by
  obtain ⟨d1, rfl⟩ : ∃ d1, d = d1 + 1 := ⟨d - 1, by omega⟩
  have T := I.1.1.1.2.1
  obtain ⟨o, thr, sz, lim, Y, flt, fat, got, lns, crs, b1, hh, nms, rsv, s1, hrs, hb1, hby, hpic⟩ := pic_r T I.1.2.1 I.1.2.2 I.1.1.2.2.2
  obtain ⟨⟨s3, e3, h3⟩, m2, m3⟩ := id I.2.2.2
  have es : s1 = s3 := celI ((lg_hv (q := 177) hpic rfl).symm.trans e3)
  obtain ⟨nk, e193⟩ := rowL T (q := 193) (show fS[193]? = some 66 by decide) (show nAT 66 = some (3, 52, .inr (.inr ())) from rfl) rfl
  have eo := oK_of I.2.1 hpic
  have hpic2 := hv_a hpic (hv_c m2 (hv_c e193 (hv_c m3 hv_0)))
  rw [← eo] at hpic2
  obtain ⟨mz, hM0, ks⟩ := q_imgN (L := L) (xs := xs) (d := d1) (o := o) (thr := thr) (len := Int32.ofInt (nm : Int)) (sz := sz) (lim := lim) (X := Y) (flt := flt) (fat := fat) (got := got) (lns := lns) (crs := crs) (b := b1) (hh := hh) (nms := nms) (rsv := rsv) (s := s1) (kp := kp) (nk := nk) (ak := ak) h0 h01
  have hM2 : nj_M 262 = some nm_262 := rfl
  cases hM0.symm.trans hM2
  have k1 := nT_up (X := X) (g := g) (by decide +kernel) (ks h hpic2)
  have hpre : aOk fS h [u.toInt] [175] nk_336.2.2.1 := ⟨aE1 (r0 := (-2147483648, 2147483647)) (i32b u), tau_1 (show fS[175]? = some 9 by decide), i3_fc5 I.1.1.1, (fun e he => nomatch he), (fun e he => nomatch he)⟩
  have k2 := vk_336 (X := X) (L := L) (xs := xs) (g := g) (S := fS) (d1 + 1) (by show 1 ≤ d1 + 1; omega) nm_262 rfl h [u.toInt] [175] [.ref 175, .int u] I.1.1.1.1 T hpre ⟨⟨_, rfl, rfl⟩, ⟨u.toInt, rfl, by rw [Int.add_zero, Int32.ofInt_toInt]⟩, trivial⟩
  refine nT.mono ?_ (nT_and k1 k2)
  rintro rv h1 ⟨⟨l1, ⟨e1, rfl⟩, hk1, hv1, fr1⟩, J1, T1, F1, po, hpo, nu1, mu1, X1, ok1, -⟩
  have hpo2 := List.mem_singleton.mp (show po ∈ [_] from hpo)
  subst hpo2
  have Z1 := lwZ_keep2 I.1 J1 T1 F1 (i3_of5 T1 X1 ok1 rfl) (by decide +kernel)
  have y2 := fy_fr I.2.1 F1 (by decide +kernel)
  have hc2 := hC_ex I.2.2.1 fr1 rfl
  have et := lg_hv (q := 177) hv1 rfl
  have eu := lg_hv (q := 192) hv1 rfl
  have ew := lg_hv (q := 194) hv1 rfl
  exact ⟨e1, kp, ak, ⟨fun c => absurd c h0, fun c => absurd c h01, fun _ _ => ⟨rfl, rfl⟩⟩, Z1, y2, hc2, ⟨s1, et, fun i hi => by rw [es]; exact h3 i hi⟩, eu, ew⟩
theorem yResMN (hd : 1 ≤ d) (I : lwY nc nm bc bm z y0 y1 k0 k1 s kp ak h) {u : Int32} (h0 : ¬ u = 0) (h01 : ¬ u = 1) : nT nj_M X L xs g d nm_263 (fun rv h1 => rv = some (.int 0) ∧ ∃ s2, rsP u s kp ak s2 ∧ lwY nc nm bc bm z y0 y1 k0 k1 s2 kp ak h1) 0 (lv_args 0 [.ref 175, .int u]) [] h := by
  obtain ⟨d1, rfl⟩ : ∃ d1, d = d1 + 1 := ⟨d - 1, by omega⟩
  have T := I.1.1.1.2.1
  obtain ⟨o, thr, sz, lim, Y, flt, fat, got, lns, crs, b1, hh, nms, rsv, s1, hrs, hb1, hby, hpic⟩ := pic_r T I.1.2.1 I.1.2.2 I.1.1.2.2.2
  obtain ⟨⟨s3, e3, h3⟩, m2, m3⟩ := id I.2.2.2
  have es : s1 = s3 := celI ((lg_hv (q := 177) hpic rfl).symm.trans e3)
  obtain ⟨nk, e193⟩ := rowL T (q := 193) (show fS[193]? = some 66 by decide) (show nAT 66 = some (3, 52, .inr (.inr ())) from rfl) rfl
  have eo := oK_of I.2.1 hpic
  have hpic2 := hv_a hpic (hv_c m2 (hv_c e193 (hv_c m3 hv_0)))
  rw [← eo] at hpic2
  obtain ⟨mz, hM0, ks⟩ := q_resN (L := L) (xs := xs) (d := d1) (o := o) (thr := thr) (len := Int32.ofInt (nm : Int)) (sz := sz) (lim := lim) (X := Y) (flt := flt) (fat := fat) (got := got) (lns := lns) (crs := crs) (b := b1) (hh := hh) (nms := nms) (rsv := rsv) (s := s1) (kp := kp) (nk := nk) (ak := ak) h0 h01
  have hM2 : nj_M 263 = some nm_263 := rfl
  cases hM0.symm.trans hM2
  have k1 := nT_up (X := X) (g := g) (by decide +kernel) (ks h hpic2)
  have hpre : aOk fS h [u.toInt] [175] nk_337.2.2.1 := ⟨aE1 (r0 := (-2147483648, 2147483647)) (i32b u), tau_1 (show fS[175]? = some 9 by decide), i3_fc5 I.1.1.1, (fun e he => nomatch he), (fun e he => nomatch he)⟩
  have k2 := vk_337 (X := X) (L := L) (xs := xs) (g := g) (S := fS) (d1 + 1) (by show 1 ≤ d1 + 1; omega) nm_263 rfl h [u.toInt] [175] [.ref 175, .int u] I.1.1.1.1 T hpre ⟨⟨_, rfl, rfl⟩, ⟨u.toInt, rfl, by rw [Int.add_zero, Int32.ofInt_toInt]⟩, trivial⟩
  refine nT.mono ?_ (nT_and k1 k2)
  rintro rv h1 ⟨⟨l1, ⟨e1, rfl⟩, hk1, hv1, fr1⟩, J1, T1, F1, po, hpo, nu1, mu1, X1, ok1, -⟩
  have hpo2 := List.mem_singleton.mp (show po ∈ [_] from hpo)
  subst hpo2
  have Z1 := lwZ_keep2 I.1 J1 T1 F1 (i3_of5 T1 X1 ok1 rfl) (by decide +kernel)
  have y2 := fy_fr I.2.1 F1 (by decide +kernel)
  have hc2 := hC_ex I.2.2.1 fr1 rfl
  have et := lg_hv (q := 177) hv1 rfl
  have eu := lg_hv (q := 192) hv1 rfl
  have ew := lg_hv (q := 194) hv1 rfl
  exact ⟨e1, s, ⟨fun c => absurd c h0, fun c => absurd c h01, fun _ _ => rfl⟩, Z1, y2, hc2, ⟨s1, et, fun i hi => by rw [es]; exact h3 i hi⟩, eu, ew⟩
theorem yImgS (hd : 1 ≤ d) (I : lwY nc nm bc bm z y0 y1 k0 k1 s kp ak h) (u : Int32) : nT nj_M X L xs g d nm_151 (fun rv h1 => (∃ y : Int32, rv = some (.int y)) ∧ lwY nc nm bc bm z (imY u 0 z y0) (imY u 1 z y1) (imK u 0 k0) (imK u 1 k1) s kp ak h1) 0 (lv_args 0 [.ref 0, .int u]) [] h := by
  by_cases c0 : u = Int32.ofInt 0
  · subst c0
    refine nT.mono ?_ (yImgS0 hd I)
    rintro rv h1 ⟨e, I1⟩
    refine ⟨⟨_, e⟩, ?_⟩
    rw [show imY (Int32.ofInt 0) 0 z y0 = cpH z y0 from if_pos rfl, show imY (Int32.ofInt 0) 1 z y1 = y1 from if_neg (by decide), show imK (Int32.ofInt 0) 0 k0 = 1 from if_pos rfl, show imK (Int32.ofInt 0) 1 k1 = k1 from if_neg (by decide)]
    exact I1
  · by_cases c1 : u = Int32.ofInt 1
    · subst c1
      refine nT.mono ?_ (yImgS1 hd I)
      rintro rv h1 ⟨e, I1⟩
      refine ⟨⟨_, e⟩, ?_⟩
      rw [show imY (Int32.ofInt 1) 0 z y0 = y0 from if_neg (by decide), show imY (Int32.ofInt 1) 1 z y1 = cpH z y1 from if_pos rfl, show imK (Int32.ofInt 1) 0 k0 = k0 from if_neg (by decide), show imK (Int32.ofInt 1) 1 k1 = 1 from if_pos rfl]
      exact I1
    · refine nT.mono ?_ (yImgSN hd I (u := u) c0 c1)
      rintro rv h1 ⟨e, I1⟩
      refine ⟨⟨_, e⟩, ?_⟩
      rw [show imY u 0 z y0 = y0 from if_neg c0, show imY u 1 z y1 = y1 from if_neg c1, show imK u 0 k0 = k0 from if_neg c0, show imK u 1 k1 = k1 from if_neg c1]
      exact I1
theorem yResS (hd : 1 ≤ d) (I : lwY nc nm bc bm z y0 y1 k0 k1 s kp ak h) (b0 : k0 = 0 ∨ k0 = 1) (b1 : k1 = 0 ∨ k1 = 1) (u : Int32) : nT nj_M X L xs g d nm_152 (fun rv h1 => (∃ y : Int32, rv = some (.int y)) ∧ lwY nc nm bc bm (rsZ u k0 k1 z y0 y1) y0 y1 k0 k1 s kp ak h1) 0 (lv_args 0 [.ref 0, .int u]) [] h := by
  have n01 : ¬ (0 : Int32) = 1 := by decide
  by_cases c0 : u = Int32.ofInt 0
  · subst c0
    rcases b0 with rfl | rfl
    · refine nT.mono ?_ (yRes0X hd I)
      rintro rv h1 ⟨e, I1⟩
      refine ⟨⟨_, e⟩, ?_⟩
      rw [show rsZ (Int32.ofInt 0) 0 k1 z y0 y1 = z from (if_neg (fun q => n01 q.2)).trans (if_neg (fun q => n01 q.1))]
      exact I1
    · refine nT.mono ?_ (yResS0 hd I)
      rintro rv h1 ⟨e, I1⟩
      refine ⟨⟨_, e⟩, ?_⟩
      rw [show rsZ (Int32.ofInt 0) 1 k1 z y0 y1 = cpH y0 z from if_pos ⟨rfl, rfl⟩]
      exact I1
  · by_cases c1 : u = Int32.ofInt 1
    · subst c1
      rcases b1 with rfl | rfl
      · refine nT.mono ?_ (yRes1X hd I)
        rintro rv h1 ⟨e, I1⟩
        refine ⟨⟨_, e⟩, ?_⟩
        rw [show rsZ (Int32.ofInt 1) k0 0 z y0 y1 = z from (if_neg (fun q => c0 q.1)).trans (if_neg (fun q => n01 q.2))]
        exact I1
      · refine nT.mono ?_ (yResS1 hd I)
        rintro rv h1 ⟨e, I1⟩
        refine ⟨⟨_, e⟩, ?_⟩
        rw [show rsZ (Int32.ofInt 1) k0 1 z y0 y1 = cpH y1 z from (if_neg (fun q => c0 q.1)).trans (if_pos ⟨rfl, rfl⟩)]
        exact I1
    · refine nT.mono ?_ (yResSN hd I (u := u) c0 c1)
      rintro rv h1 ⟨e, I1⟩
      refine ⟨⟨_, e⟩, ?_⟩
      rw [show rsZ u k0 k1 z y0 y1 = z from (if_neg (fun q => c0 q.1)).trans (if_neg (fun q => c1 q.1))]
      exact I1
theorem yImgM (hd : 1 ≤ d) (I : lwY nc nm bc bm z y0 y1 k0 k1 s kp ak h) (u : Int32) : nT nj_M X L xs g d nm_262 (fun rv h1 => (∃ y : Int32, rv = some (.int y)) ∧ ∃ kp2 ak2, imP u s kp ak kp2 ak2 ∧ lwY nc nm bc bm z y0 y1 k0 k1 s kp2 ak2 h1) 0 (lv_args 0 [.ref 175, .int u]) [] h := by
  by_cases c0 : u = Int32.ofInt 0
  · subst c0
    exact nT.mono (fun rv h1 q => ⟨⟨_, q.1⟩, q.2⟩) (yImgM0 hd I)
  · by_cases c1 : u = Int32.ofInt 1
    · subst c1
      exact nT.mono (fun rv h1 q => ⟨⟨_, q.1⟩, q.2⟩) (yImgM1 hd I)
    · exact nT.mono (fun rv h1 q => ⟨⟨_, q.1⟩, q.2⟩) (yImgMN hd I (u := u) c0 c1)
theorem yResM (hd : 1 ≤ d) (I : lwY nc nm bc bm z y0 y1 k0 k1 s kp ak h) (b0 : ak 0 = 0 ∨ ak 0 = 1) (b1 : ak 1 = 0 ∨ ak 1 = 1) (u : Int32) : nT nj_M X L xs g d nm_263 (fun rv h1 => (∃ y : Int32, rv = some (.int y)) ∧ ∃ s2, rsP u s kp ak s2 ∧ lwY nc nm bc bm z y0 y1 k0 k1 s2 kp ak h1) 0 (lv_args 0 [.ref 175, .int u]) [] h := by
  by_cases c0 : u = Int32.ofInt 0
  · subst c0
    rcases b0 with a | a
    · exact nT.mono (fun rv h1 q => ⟨⟨_, q.1⟩, q.2⟩) (yResM0X hd I a)
    · exact nT.mono (fun rv h1 q => ⟨⟨_, q.1⟩, q.2⟩) (yResM0 hd I a)
  · by_cases c1 : u = Int32.ofInt 1
    · subst c1
      rcases b1 with a | a
      · exact nT.mono (fun rv h1 q => ⟨⟨_, q.1⟩, q.2⟩) (yResM1X hd I a)
      · exact nT.mono (fun rv h1 q => ⟨⟨_, q.1⟩, q.2⟩) (yResM1 hd I a)
    · exact nT.mono (fun rv h1 q => ⟨⟨_, q.1⟩, q.2⟩) (yResMN hd I (u := u) c0 c1)
theorem cA_cg {v len : Int32} {f g : Nat → Int32} (h : ∀ i, i < 4 → f i = g i) : cA v len f = cA v len g := by
  unfold cA
  split
  · rfl
  · split
    · next c =>
      refine h _ ?_
      show v.toInt.toNat < 4
      omega
    · rfl
theorem yCntS (hn : n ≤ 940) (I : lwY n n b b z y0 y1 k0 k1 s kp ak h) (v : Int32) : nT nj_M X L xs g d nm_153 (fun rv h1 => rv = some (.int (cA v (Int32.ofNat n) z.1)) ∧ lwY n n b b z y0 y1 k0 k1 s kp ak h1) 0 (lv_args 0 [.ref 0, .int v]) [] h := by
  obtain ⟨u, lf, b1, kd, pl, vl, ky, tok, cur, tak, tl, fk, fp, y, zd, x, p1, p2, p3, p4, hky, hb1, hpic⟩ := pic_c I.1.1.1.2.1 I.1.2.1 I.1.2.2 I.1.1.2.2.1
  have hyz := ho_inj (hv_l (hv_r (hv_r hpic))) I.2.2.1.1
  rw [ofI_n, hyz] at hpic
  obtain ⟨mz, hM0, ks⟩ := c_count (L := L) (xs := xs) (d := d) (u := u) (lf := lf) (b := b1) (kd := kd) (pl := pl) (vl := vl) (ky := ky) (len := Int32.ofNat n) (tok := tok) (cur := cur) (tak := tak) (tl := tl) (fk := fk) (fp := fp) (y := z) (z := zd) (x := x) (p1 := p1) (p2 := p2) (p3 := p3) (p4 := p4) v
  have hM2 : nj_M 153 = some nm_153 := rfl
  cases hM0.symm.trans hM2
  have k1 := nT_up (X := X) (g := g) (by decide +kernel) (ks h hpic)
  have k2 := (nV_cc (vk_102 (X := X) (L := L) (xs := xs) (g := g) (S := fS)) (by decide)) d (Nat.zero_le d) nm_153 rfl h [v.toInt] [0] [.ref 0, .int v] (yJ I) (tOk_to I.1.1.1.2.1) ⟨aE1 (r0 := (-2147483648, 2147483647)) (i32b v), tau_1 (show fS[0]? = some 8 by decide), (fun e he => nomatch he), (fun e he => nomatch he), (fun e he => nomatch he)⟩ ⟨⟨_, rfl, rfl⟩, ⟨v.toInt, rfl, by rw [Int.add_zero, Int32.ofInt_toInt]⟩, trivial⟩
  refine nT.mono ?_ (nT_and k1 k2)
  rintro rv h1 ⟨⟨l1, ⟨e1, rfl⟩, hk1, hv1, fr1⟩, J1, T1, F1, -⟩
  exact ⟨e1, lwY_keep I J1 (tOk_of T1) F1 (by decide +kernel) (by decide +kernel) (by decide +kernel)⟩
theorem yCntM (hd : 1 ≤ d) (I : lwY nc n bc b z y0 y1 k0 k1 s kp ak h) (hf : ∀ i, i < 4 → z.1 i = s i) (v : Int32) : nT nj_M X L xs g d nm_264 (fun rv h1 => rv = some (.int (cA v (Int32.ofNat n) z.1)) ∧ lwY nc n bc b z y0 y1 k0 k1 s kp ak h1) 0 (lv_args 0 [.ref 175, .int v]) [] h := by
  obtain ⟨d1, rfl⟩ : ∃ d1, d = d1 + 1 := ⟨d - 1, by omega⟩
  obtain ⟨o, thr, sz, lim, Y, flt, fat, got, lns, crs, b1, hh, nms, rsv, s1, hrs, hb1, hby, hpic⟩ := pic_r I.1.1.1.2.1 I.1.2.1 I.1.2.2 I.1.1.2.2.2
  obtain ⟨⟨s3, e3, h3⟩, m2, m3⟩ := id I.2.2.2
  have es : s1 = s3 := celI ((lg_hv (q := 177) hpic rfl).symm.trans e3)
  rw [ofI_n] at hpic
  obtain ⟨mz, hM0, ks⟩ := q_count (L := L) (xs := xs) (d := d1) (o := o) (thr := thr) (len := Int32.ofNat n) (sz := sz) (lim := lim) (X := Y) (flt := flt) (fat := fat) (got := got) (lns := lns) (crs := crs) (b := b1) (hh := hh) (nms := nms) (rsv := rsv) (s := s1) v
  have hM2 : nj_M 264 = some nm_264 := rfl
  cases hM0.symm.trans hM2
  have k1 := nT_up (X := X) (g := g) (by decide +kernel) (ks h hpic)
  have k2 := (nV_cc (vk_300 (X := X) (L := L) (xs := xs) (g := g) (S := fS)) (by decide)) (d1 + 1) (by show 1 ≤ d1 + 1; omega) nm_264 rfl h [v.toInt] [175] [.ref 175, .int v] (yJ I) (tOk_to I.1.1.1.2.1) ⟨aE1 (r0 := (-2147483648, 2147483647)) (i32b v), tau_1 (show fS[175]? = some 9 by decide), (fun e he => nomatch he), (fun e he => nomatch he), (fun e he => nomatch he)⟩ ⟨⟨_, rfl, rfl⟩, ⟨v.toInt, rfl, by rw [Int.add_zero, Int32.ofInt_toInt]⟩, trivial⟩
  refine nT.mono ?_ (nT_and k1 k2)
  rintro rv h1 ⟨⟨l1, ⟨e1, rfl⟩, hk1, hv1, fr1⟩, J1, T1, F1, -⟩
  refine ⟨e1.trans ?_, lwY_keep I J1 (tOk_of T1) F1 (by decide +kernel) (by decide +kernel) (by decide +kernel)⟩
  rw [cA_cg (f := s1) (g := z.1) (fun i hi => by rw [es, h3 i (by omega)]; exact (hf i hi).symm)]
end LWY
