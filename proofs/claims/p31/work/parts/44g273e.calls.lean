/-! under and common as calls of the law -/
section RD2
variable {X : nX} {L : Nat} {xs : Nat → Int32} {g d nc nm m : Nat} {bc bm : Nat → Int32} {h : List nC} {z y0 y1 : Ho} {k0 k1 a : Int32} {s kp ak : Nat → Int32}
theorem s50_par : ∀ i, i < 10 → sAt s50A (14 + i) = some (0, (i : Int), false) := by decide
theorem par_ok {H : Hs} (I : lwY nc nm bc bm z y0 y1 k0 k1 s kp ak h) (n1 : nmOk H.1) (w : rW H s) (hx : hX H) : parOk H := by
  intro i hi q e
  obtain ⟨⟨s1, e1, h1⟩, -, -⟩ := I.2.2.2
  obtain ⟨f, e2, r⟩ := rowI I.1.1.1.2.1 (q := 177) (show fS[177]? = some 50 by decide) nAT_50 rfl
  have es : f = s1 := celI (e2.symm.trans e1)
  obtain ⟨-, l2, -, -, -, -⟩ := id n1
  obtain ⟨rr, r1, r2, r3⟩ := r (14 + i) (by omega)
  have hv : f (14 + i) = Int32.ofNat (q + 1) := by
    rw [es, h1 (14 + i) (by omega), w.2.1 i hi, show H.2.1.2.1.getD i none = some q from e]
    rfl
  rw [s50_par i (by omega)] at r1
  cases r1
  rw [hv] at r3
  have hq : q < 10 := by
    have e2 : H.2.1.2.1.getD i none = some q := e
    by_cases c : i < H.2.1.2.1.length
    · rw [List.getD_eq_getElem?_getD, List.getElem?_eq_getElem c] at e2
      exact hx.2.1 _ (List.getElem_mem c) q e2
    · rw [List.getD_eq_getElem?_getD, List.getElem?_eq_none (by omega)] at e2
      cases e2
  rw [i32_small (by omega)] at r3
  have r4 : ((q + 1 : Nat) : Int) ≤ (i : Int) := r3
  omega
theorem yUnderS (hd : 1 ≤ d) {H : Hs} (hH : hW H z) (hpo : parOk H) (I : lwY nc nm bc bm z y0 y1 k0 k1 s kp ak h) (u1 : Int32) : nT nj_M X L xs g d nm_119 (fun rv h1 => rv = some (.int (unS H u1)) ∧ lwY nc nm bc bm z y0 y1 k0 k1 s kp ak h1) 0 (lv_args 0 [.ref 0, .int u1]) [] h := by
  obtain ⟨d1, rfl⟩ : ∃ d1, d = d1 + 1 := ⟨d - 1, by omega⟩
  exact yRdS (m := 119) rfl (by decide +kernel) I (fun u => c_under hH hpo u1)
theorem yUnderM (hd : 2 ≤ d) {H : Hs} (n1 : nmOk H.1) (hH : rW H s) (hpo : parOk H) (I : lwY nc nm bc bm z y0 y1 k0 k1 s kp ak h) (u1 : Int32) : nT nj_M X L xs g d nm_241 (fun rv h1 => rv = some (.int (unS H u1)) ∧ lwY nc nm bc bm z y0 y1 k0 k1 s kp ak h1) 0 (lv_args 0 [.ref 175, .int u1]) [] h := by
  obtain ⟨d1, rfl⟩ : ∃ d1, d = d1 + 2 := ⟨d - 2, by omega⟩
  exact yRdM (m := 241) rfl (by decide +kernel) I ((nV_cc (vk_294 (X := X) (L := L) (xs := xs) (g := g) (S := fS)) (by decide)) (d1 + 2) (by show 2 ≤ d1 + 2; omega) nm_241 rfl h [u1.toInt] [175] [.ref 175, .int u1] (yJ I) (tOk_to I.1.1.1.2.1) ⟨aE1 (r0 := (-2147483648, 2147483647)) (i32b u1), tau_1 (show fS[175]? = some 9 by decide), (fun e he => nomatch he), (fun e he => nomatch he), (fun e he => nomatch he)⟩ ⟨⟨_, rfl, rfl⟩, ⟨u1.toInt, rfl, by rw [Int.add_zero, Int32.ofInt_toInt]⟩, trivial⟩) (fun o thr len sz lim Y flt fat got lns crs b hh nms rsv s1 hs => q_under n1 (rW_cg n1 hH hs) hpo u1)
theorem yCommonS (hd : 1 ≤ d) {H : Hs} (hH : hW H z) (hpo : parOk H) (I : lwY nc nm bc bm z y0 y1 k0 k1 s kp ak h) (u1 u2 : Int32) : nT nj_M X L xs g d nm_120 (fun rv h1 => rv = some (.int (coS H u1 u2)) ∧ lwY nc nm bc bm z y0 y1 k0 k1 s kp ak h1) 0 (lv_args 0 [.ref 0, .int u1, .int u2]) [] h := by
  obtain ⟨d1, rfl⟩ : ∃ d1, d = d1 + 1 := ⟨d - 1, by omega⟩
  exact yRdS (m := 120) rfl (by decide +kernel) I (fun u => c_common hH hpo u1 u2)
theorem yCommonM (hd : 2 ≤ d) {H : Hs} (n1 : nmOk H.1) (hH : rW H s) (hpo : parOk H) (I : lwY nc nm bc bm z y0 y1 k0 k1 s kp ak h) (u1 u2 : Int32) : nT nj_M X L xs g d nm_242 (fun rv h1 => rv = some (.int (coS H u1 u2)) ∧ lwY nc nm bc bm z y0 y1 k0 k1 s kp ak h1) 0 (lv_args 0 [.ref 175, .int u1, .int u2]) [] h := by
  obtain ⟨d1, rfl⟩ : ∃ d1, d = d1 + 2 := ⟨d - 2, by omega⟩
  exact yRdM (m := 242) rfl (by decide +kernel) I ((nV_cc (vk_295 (X := X) (L := L) (xs := xs) (g := g) (S := fS)) (by decide)) (d1 + 2) (by show 2 ≤ d1 + 2; omega) nm_242 rfl h [u1.toInt, u2.toInt] [175] [.ref 175, .int u1, .int u2] (yJ I) (tOk_to I.1.1.1.2.1) ⟨aE2 (r0 := (-2147483648, 2147483647)) (r1 := (-2147483648, 2147483647)) (i32b u1) (i32b u2), tau_1 (show fS[175]? = some 9 by decide), (fun e he => nomatch he), (fun e he => nomatch he), (fun e he => nomatch he)⟩ ⟨⟨_, rfl, rfl⟩, ⟨u1.toInt, rfl, by rw [Int.add_zero, Int32.ofInt_toInt]⟩, ⟨u2.toInt, rfl, by rw [Int.add_zero, Int32.ofInt_toInt]⟩, trivial⟩) (fun o thr len sz lim Y flt fat got lns crs b hh nms rsv s1 hs => q_common n1 (rW_cg n1 hH hs) hpo u1 u2)
end RD2
