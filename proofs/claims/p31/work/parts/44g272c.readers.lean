/-! readers of the houses: nothing changes but the reference's mark -/
theorem rW_cg {H : Hs} {s t : Nat → Int32} (n1 : nmOk H.1) (h : rW H s) (e : ∀ i, i < 132 → t i = s i) : rW H t := by
  obtain ⟨⟨c0, c1, c2, c3⟩, b3, b7, b8⟩ := h
  obtain ⟨l1, l2, l3, l4, -, -⟩ := id n1
  exact ⟨⟨(e 0 (by decide)).trans c0, (e 1 (by decide)).trans c1, (e 2 (by decide)).trans c2, (e 3 (by decide)).trans c3⟩, fun i hi => (e _ (by omega)).trans (b3 i hi),
    fun i hi => ⟨(e _ (by omega)).trans (b7 i hi).1, (e _ (by omega)).trans (b7 i hi).2.1, (e _ (by omega)).trans (b7 i hi).2.2.1, (e _ (by omega)).trans (b7 i hi).2.2.2.1, (e _ (by omega)).trans (b7 i hi).2.2.2.2.1, (e _ (by omega)).trans (b7 i hi).2.2.2.2.2⟩,
    fun i hi => ⟨(b8 i hi).1, (e _ (by omega)).trans (b8 i hi).2.1, fun j hj => (e _ (by have := (b8 i hi).1; omega)).trans ((b8 i hi).2.2 j hj)⟩⟩
theorem same_heap {l : nL} {h h1 : List nC} (a : hv l h) (b : hv l h1) (R : fr (hk l) h h1) : h1 = h := by
  apply List.ext_getElem?
  intro q
  by_cases hq : q ∈ hk l
  · obtain ⟨e, he, rfl⟩ := List.mem_map.mp hq
    rw [a e he, b e he]
  · exact R q hq
section RDR
variable {X : nX} {L : Nat} {xs : Nat → Int32} {g d nc nm m : Nat} {bc bm : Nat → Int32} {h : List nC} {z y0 y1 : Ho} {k0 k1 a : Int32} {s kp ak : Nat → Int32} {mt : nM} {args : List Value}
theorem yRdS (hMm : nj_M m = some mt) (hg : goodX mt = true) (I : lwY nc nm bc bm z y0 y1 k0 k1 s kp ak h) (ks : ∀ u, mS nj_M nX0 L xs d m args (slI u ++ hoQ z) (fun rv l => rv = some (.int a) ∧ l = slI u ++ hoQ z)) : nT nj_M X L xs g d mt (fun rv h1 => rv = some (.int a) ∧ lwY nc nm bc bm z y0 y1 k0 k1 s kp ak h1) 0 (lv_args 0 args) [] h := by
  obtain ⟨u, p3, p4, s1, -⟩ := pic_sl I.1.1.1.2.1 I.1.2.1 I.2.1
  obtain ⟨mz, hM0, kr⟩ := ks u
  cases hM0.symm.trans hMm
  have hp := hv_a s1 I.2.2.1.1
  refine nT.mono ?_ (nT_up (X := X) (g := g) hg (kr h hp))
  rintro rv h1 ⟨l1, ⟨e1, rfl⟩, hk1, hv1, fr1⟩
  have e := same_heap hp hv1 fr1
  subst e
  exact ⟨e1, I⟩
theorem yRdM {B : Option Value → List nC → Prop} (hMm : nj_M m = some mt) (hg : goodX mt = true) (I : lwY nc nm bc bm z y0 y1 k0 k1 s kp ak h) (kv : nT nj_M X L xs g d mt (fun rv h1 => nJC fS (some s) h1 ∧ tOk nFT nAT2 fS h1 ∧ nFr [(9, 0)] [] fS h h1 ∧ B rv h1) 0 (lv_args 0 args) [] h) (ks : ∀ (o : Nat → Value) (thr len sz lim : Int32) (Y : Lx) (flt fat got lns crs : Int32) (b hh : Nat → Int32) (nms rsv : Nat → Int64) (s1 : Nat → Int32), (∀ i, i < 132 → s1 i = s i) → mS nj_M nX0 L xs d m args (rfS o thr len sz lim Y flt fat got lns crs b hh nms rsv s1) (fun rv l => rv = some (.int a) ∧ l = rfS o 0 len sz lim Y flt fat got lns crs b hh nms rsv s1)) : nT nj_M X L xs g d mt (fun rv h1 => rv = some (.int a) ∧ lwY nc nm bc bm z y0 y1 k0 k1 s kp ak h1) 0 (lv_args 0 args) [] h := by
  obtain ⟨o, thr, sz, lim, Y, flt, fat, got, lns, crs, b1, hh, nms, rsv, s1, hrs, hb1, hby, hpic⟩ := pic_r I.1.1.1.2.1 I.1.2.1 I.1.2.2 I.1.1.2.2.2
  obtain ⟨⟨s3, e3, h3⟩, m2, m3⟩ := id I.2.2.2
  have es : s1 = s3 := celI ((lg_hv (q := 177) hpic rfl).symm.trans e3)
  obtain ⟨mz, hM0, kr⟩ := ks o thr _ sz lim Y flt fat got lns crs b1 hh nms rsv s1 (fun i hi => by rw [es]; exact h3 i hi)
  cases hM0.symm.trans hMm
  refine nT.mono ?_ (nT_and (nT_up (X := X) (g := g) hg (kr h hpic)) kv)
  rintro rv h1 ⟨⟨l1, ⟨e1, rfl⟩, hk1, hv1, fr1⟩, J1, T1, F1, -⟩
  exact ⟨e1, lwY_keep I J1 (tOk_of T1) F1 (by decide +kernel) (by decide +kernel) (by decide +kernel)⟩
theorem yDeedS (hd : 1 ≤ d) {H : Hs} (hH : hW H z) (I : lwY nc nm bc bm z y0 y1 k0 k1 s kp ak h) (u1 u2 : Int32) : nT nj_M X L xs g d nm_56 (fun rv h1 => rv = some (.int (dS H u1 u2)) ∧ lwY nc nm bc bm z y0 y1 k0 k1 s kp ak h1) 0 (lv_args 0 [.ref 0, .int u1, .int u2]) [] h := by
  obtain ⟨d1, rfl⟩ : ∃ d1, d = d1 + 1 := ⟨d - 1, by omega⟩
  exact yRdS (m := 56) rfl (by decide +kernel) I (fun u => c_deed hH u1 u2)
theorem yDeedM (hd : 2 ≤ d) {H : Hs} (n1 : nmOk H.1) (hH : rW H s) (I : lwY nc nm bc bm z y0 y1 k0 k1 s kp ak h) (u1 u2 : Int32) : nT nj_M X L xs g d nm_194 (fun rv h1 => rv = some (.int (dS H u1 u2)) ∧ lwY nc nm bc bm z y0 y1 k0 k1 s kp ak h1) 0 (lv_args 0 [.ref 175, .int u1, .int u2]) [] h := by
  obtain ⟨d1, rfl⟩ : ∃ d1, d = d1 + 2 := ⟨d - 2, by omega⟩
  exact yRdM (m := 194) rfl (by decide +kernel) I ((nV_cc (vk_248 (X := X) (L := L) (xs := xs) (g := g) (S := fS)) (by decide)) (d1 + 2) (by show 2 ≤ d1 + 2; omega) nm_194 rfl h [u1.toInt, u2.toInt] [175] [.ref 175, .int u1, .int u2] (yJ I) (tOk_to I.1.1.1.2.1) ⟨aE2 (r0 := (-2147483648, 2147483647)) (r1 := (-2147483648, 2147483647)) (i32b u1) (i32b u2), tau_1 (show fS[175]? = some 9 by decide), (fun e he => nomatch he), (fun e he => nomatch he), (fun e he => nomatch he)⟩ ⟨⟨_, rfl, rfl⟩, ⟨u1.toInt, rfl, by rw [Int.add_zero, Int32.ofInt_toInt]⟩, ⟨u2.toInt, rfl, by rw [Int.add_zero, Int32.ofInt_toInt]⟩, trivial⟩) (fun o thr len sz lim Y flt fat got lns crs b hh nms rsv s1 hs => q_deed n1 (rW_cg n1 hH hs) u1 u2)
end RDR
