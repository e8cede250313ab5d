def lwV (qx qm qo : Nat) (lv : nLv) (i : Int) : Prop := nj_get lv 0 = some (.retAddr 0) ∧ nj_get lv 1 = some (.ref qx) ∧ nj_get lv 2 = some (.ref qm) ∧ nj_get lv 3 = some (.ref qo) ∧ nj_get lv 4 = some (.int (Int32.ofInt i))
theorem lwV_ne {lv : nLv} {j k : Nat} {w v : Value} (hj : ¬ j = k) (hw : nj_get lv j = some w) (hc : w.category = 1) : nj_get (nj_put lv k v) j = some w := by
  rw [nj_get_put_ne hj (fun w2 h2 => by rw [hw] at h2; cases h2; omega)]
  exact hw
theorem lwV_put {qx qm qo k : Nat} {lv : nLv} {i : Int} {v : Value} (hk : 5 ≤ k) (V : lwV qx qm qo lv i) : lwV qx qm qo (nj_put lv k v) i :=
  ⟨lwV_ne (by omega) V.1 rfl, lwV_ne (by omega) V.2.1 rfl, lwV_ne (by omega) V.2.2.1 rfl, lwV_ne (by omega) V.2.2.2.1 rfl, lwV_ne (by omega) V.2.2.2.2 rfl⟩
theorem lwV_inc {qx qm qo : Nat} {lv : nLv} {i : Int} (V : lwV qx qm qo lv i) : lwV qx qm qo (nj_put lv 4 (.int (Int32.ofInt i + Int32.ofInt 6))) (i + 6) :=
  ⟨lwV_ne (by omega) V.1 rfl, lwV_ne (by omega) V.2.1 rfl, lwV_ne (by omega) V.2.2.1 rfl, lwV_ne (by omega) V.2.2.2.1 rfl, by rw [nj_get_put_eq, a32_add]⟩
section LOOP
variable {X : nX} {L : Nat} {xs : Nat → Int32} {C : Nat × Nat} {d K g : Nat} {lv : nLv} {h : List nC} {i : Int}
set_option maxRecDepth 100000 in
theorem nU_lda {pc k : Nat} {st : List Value} {q : Nat} (hk : nj_get lv k = some (.ref q)) : nj_lda lv (pc + 1) k st = some (pc + 1, lv, .ref q :: st) := by
  unfold nj_lda
  rw [hk]
set_option maxRecDepth 100000 in
theorem nU_xchron {d1 : Nat} (hd : 8 ≤ d1) (hL : L ≤ 3072) (hi : 0 ≤ i) (hiL : i + 6 ≤ (L : Int)) (V : lwV 0 175 195 lv i) (I : lwB5 h) (kk : ∀ h1, lwB5 h1 → nU X L xs C (d1 + 1) K 1395 lv [] h1 g) : nU X L xs C (d1 + 1) K 1232 lv [] h g := by
  obtain ⟨n0, b0, z, y0, y1, k0, k1, s, kp, ak, hn0, R, I⟩ := I
  obtain ⟨fx, hx, -⟩ := I.1.1.2.1
  refine nU_pure (pc1 := 1233) (lv1 := lv) (st1 := [.ref 0]) rfl rfl (nU_lda V.2.1) ?_
  refine nU_rd (p := 1233) (k := 1) V.1 V.2.2.2.2 hi (by decide) (by omega) hL rfl rfl rfl rfl rfl ?_
  generalize hu1 : xs (i + 1).toNat = u1
  refine nU_call (d1 := d1) (mz := nm_125) rfl rfl (by decide) (by decide) (by decide) (by decide) rfl (pass_v (recv_at hx rfl) (Nat.le_of_ble_eq_true rfl) (Nat.le_of_ble_eq_true rfl) (Nat.le_of_ble_eq_true rfl)) ?_
  refine nT.mono ?_ (yChrS (by omega) hn0 I u1)
  rintro rv h1 ⟨⟨y, rfl⟩, I1⟩
  obtain ⟨fm, hm, -⟩ := I1.1.1.1.2.2.1
  show nU X L xs C (d1 + 1) K 1242 lv [.int y] h1 g
  refine nU_pure (pc1 := 1243) (lv1 := lv) (st1 := []) rfl rfl rfl ?_
  refine nU_pure (pc1 := 1244) (lv1 := lv) (st1 := [.ref 175]) rfl rfl (nU_lda V.2.2.1) ?_
  refine nU_rd (p := 1244) (k := 1) V.1 V.2.2.2.2 hi (by decide) (by omega) hL rfl rfl rfl rfl rfl ?_
  rw [hu1]
  refine nU_call (d1 := d1) (mz := nm_247) rfl rfl (by decide) (by decide) (by decide) (by decide) rfl (pass_v (recv_at hm rfl) (Nat.le_of_ble_eq_true rfl) (Nat.le_of_ble_eq_true rfl) (Nat.le_of_ble_eq_true rfl)) ?_
  refine nT.mono ?_ (yChrM (by omega) hn0 I1 u1)
  rintro rv h2 ⟨⟨y2, rfl⟩, I2⟩
  show nU X L xs C (d1 + 1) K 1253 lv [.int y2] h2 g
  refine nU_pure (pc1 := 1254) (lv1 := lv) (st1 := []) rfl rfl rfl ?_
  exact nU_pure (pc1 := 1395) (lv1 := lv) (st1 := []) rfl rfl rfl (kk h2 ⟨_, _, z, y0, y1, k0, k1, s, kp, ak, (by unfold chF; split <;> omega), R, I2⟩)
set_option maxRecDepth 100000 in
theorem nU_xend {d1 : Nat} (hd : 1 ≤ d1) (hL : L ≤ 3072) (hi : 0 ≤ i) (hiL : i + 6 ≤ (L : Int)) (V : lwV 0 175 195 lv i) (I : lwB5 h) (kk : ∀ h1, lwB5 h1 → nU X L xs C (d1 + 1) K 1395 lv [] h1 g) : nU X L xs C (d1 + 1) K 293 lv [] h g := by
  obtain ⟨n0, b0, z, y0, y1, k0, k1, s, kp, ak, hn0, R, I⟩ := I
  obtain ⟨fx, hx, -⟩ := I.1.1.2.1
  refine nU_pure (pc1 := 294) (lv1 := lv) (st1 := [.ref 0]) rfl rfl (nU_lda V.2.1) ?_
  refine nU_rd (p := 294) (k := 1) V.1 V.2.2.2.2 hi (by decide) (by omega) hL rfl rfl rfl rfl rfl ?_
  generalize hu1 : xs (i + 1).toNat = u1
  refine nU_call (d1 := d1) (mz := nm_20) rfl rfl (by decide) (by decide) (by decide) (by decide) rfl (pass_v (recv_at hx rfl) (Nat.le_of_ble_eq_true rfl) (Nat.le_of_ble_eq_true rfl) (Nat.le_of_ble_eq_true rfl)) ?_
  refine nT.mono ?_ (yEndS (by omega) hn0 I u1)
  rintro rv h1 ⟨⟨y, rfl⟩, I1⟩
  obtain ⟨fm, hm, -⟩ := I1.1.1.1.2.2.1
  show nU X L xs C (d1 + 1) K 303 lv [.int y] h1 g
  refine nU_pure (pc1 := 304) (lv1 := lv) (st1 := []) rfl rfl rfl ?_
  refine nU_pure (pc1 := 305) (lv1 := lv) (st1 := [.ref 175]) rfl rfl (nU_lda V.2.2.1) ?_
  refine nU_rd (p := 305) (k := 1) V.1 V.2.2.2.2 hi (by decide) (by omega) hL rfl rfl rfl rfl rfl ?_
  rw [hu1]
  refine nU_call (d1 := d1) (mz := nm_158) rfl rfl (by decide) (by decide) (by decide) (by decide) rfl (pass_v (recv_at hm rfl) (Nat.le_of_ble_eq_true rfl) (Nat.le_of_ble_eq_true rfl) (Nat.le_of_ble_eq_true rfl)) ?_
  refine nT.mono ?_ (yEndM (by omega) hn0 I1 u1)
  rintro rv h2 ⟨⟨y2, rfl⟩, I2⟩
  show nU X L xs C (d1 + 1) K 314 lv [.int y2] h2 g
  refine nU_pure (pc1 := 315) (lv1 := lv) (st1 := []) rfl rfl rfl ?_
  exact nU_pure (pc1 := 1395) (lv1 := lv) (st1 := []) rfl rfl rfl (kk h2 ⟨_, _, z, y0, y1, k0, k1, s, kp, ak, (by unfold eF; split <;> omega), R, I2⟩)
set_option maxRecDepth 100000 in
theorem nU_xfeed {d1 : Nat} (hd : 1 ≤ d1) (hL : L ≤ 3072) (hi : 0 ≤ i) (hiL : i + 6 ≤ (L : Int)) (V : lwV 0 175 195 lv i) (I : lwB5 h) (kk : ∀ h1, lwB5 h1 → nU X L xs C (d1 + 1) K 1395 lv [] h1 g) : nU X L xs C (d1 + 1) K 220 lv [] h g := by
  obtain ⟨n0, b0, z, y0, y1, k0, k1, s, kp, ak, hn0, R, I⟩ := I
  obtain ⟨fx, hx, -⟩ := I.1.1.2.1
  refine nU_pure (pc1 := 221) (lv1 := lv) (st1 := [.ref 0]) rfl rfl (nU_lda V.2.1) ?_
  refine nU_rd (p := 221) (k := 1) V.1 V.2.2.2.2 hi (by decide) (by omega) hL rfl rfl rfl rfl rfl ?_
  refine nU_rd (p := 227) (k := 2) V.1 V.2.2.2.2 hi (by decide) (by omega) hL rfl rfl rfl rfl rfl ?_
  refine nU_rd (p := 233) (k := 3) V.1 V.2.2.2.2 hi (by decide) (by omega) hL rfl rfl rfl rfl rfl ?_
  refine nU_rd (p := 239) (k := 4) V.1 V.2.2.2.2 hi (by decide) (by omega) hL rfl rfl rfl rfl rfl ?_
  refine nU_rd (p := 245) (k := 5) V.1 V.2.2.2.2 hi (by decide) (by omega) hL rfl rfl rfl rfl rfl ?_
  generalize hu1 : xs (i + 1).toNat = u1
  generalize hu2 : xs (i + 2).toNat = u2
  generalize hu3 : xs (i + 3).toNat = u3
  generalize hu4 : xs (i + 4).toNat = u4
  generalize hu5 : xs (i + 5).toNat = u5
  refine nU_call (d1 := d1) (mz := nm_18) rfl rfl (by decide) (by decide) (by decide) (by decide) rfl (pass_v (recv_at hx rfl) (Nat.le_of_ble_eq_true rfl) (Nat.le_of_ble_eq_true rfl) (Nat.le_of_ble_eq_true rfl)) ?_
  refine nT.mono ?_ (yFeedS (by omega) hn0 I u1 u2 u3 u4 u5)
  rintro rv h1 ⟨⟨y, rfl⟩, I1⟩
  obtain ⟨fm, hm, -⟩ := I1.1.1.1.2.2.1
  show nU X L xs C (d1 + 1) K 254 lv [.int y] h1 g
  refine nU_pure (pc1 := 255) (lv1 := lv) (st1 := []) rfl rfl rfl ?_
  refine nU_pure (pc1 := 256) (lv1 := lv) (st1 := [.ref 175]) rfl rfl (nU_lda V.2.2.1) ?_
  refine nU_rd (p := 256) (k := 1) V.1 V.2.2.2.2 hi (by decide) (by omega) hL rfl rfl rfl rfl rfl ?_
  refine nU_rd (p := 262) (k := 2) V.1 V.2.2.2.2 hi (by decide) (by omega) hL rfl rfl rfl rfl rfl ?_
  refine nU_rd (p := 268) (k := 3) V.1 V.2.2.2.2 hi (by decide) (by omega) hL rfl rfl rfl rfl rfl ?_
  refine nU_rd (p := 274) (k := 4) V.1 V.2.2.2.2 hi (by decide) (by omega) hL rfl rfl rfl rfl rfl ?_
  refine nU_rd (p := 280) (k := 5) V.1 V.2.2.2.2 hi (by decide) (by omega) hL rfl rfl rfl rfl rfl ?_
  rw [hu1]
  rw [hu2]
  rw [hu3]
  rw [hu4]
  rw [hu5]
  refine nU_call (d1 := d1) (mz := nm_156) rfl rfl (by decide) (by decide) (by decide) (by decide) rfl (pass_v (recv_at hm rfl) (Nat.le_of_ble_eq_true rfl) (Nat.le_of_ble_eq_true rfl) (Nat.le_of_ble_eq_true rfl)) ?_
  refine nT.mono ?_ (yFeedM (by omega) hn0 I1 u1 u2 u3 u4 u5)
  rintro rv h2 ⟨⟨y2, rfl⟩, I2⟩
  show nU X L xs C (d1 + 1) K 289 lv [.int y2] h2 g
  refine nU_pure (pc1 := 290) (lv1 := lv) (st1 := []) rfl rfl rfl ?_
  exact nU_pure (pc1 := 1395) (lv1 := lv) (st1 := []) rfl rfl rfl (kk h2 ⟨_, _, z, y0, y1, k0, k1, s, kp, ak, (by unfold fN; split <;> omega), R, I2⟩)
set_option maxRecDepth 100000 in
theorem nU_xfamily {d1 : Nat} (hd : 6 ≤ d1) (hL : L ≤ 3072) (hi : 0 ≤ i) (hiL : i + 6 ≤ (L : Int)) (V : lwV 0 175 195 lv i) (I : lwB5 h) (kk : ∀ h1, lwB5 h1 → nU X L xs C (d1 + 1) K 1395 lv [] h1 g) : nU X L xs C (d1 + 1) K 318 lv [] h g := by
  obtain ⟨n0, b0, z, y0, y1, k0, k1, s, kp, ak, hn0, R, I⟩ := I
  obtain ⟨fx, hx, -⟩ := I.1.1.2.1
  refine nU_pure (pc1 := 319) (lv1 := lv) (st1 := [.ref 0]) rfl rfl (nU_lda V.2.1) ?_
  refine nU_call (d1 := d1) (mz := nm_21) rfl rfl (by decide) (by decide) (by decide) (by decide) rfl (pass_v (recv_at hx rfl) (Nat.le_of_ble_eq_true rfl) (Nat.le_of_ble_eq_true rfl) (Nat.le_of_ble_eq_true rfl)) ?_
  refine nT.mono ?_ (yFamS (by omega) hn0 I)
  rintro rv h1 ⟨rfl, z2, I1, P1⟩
  obtain ⟨fm, hm, -⟩ := I1.1.1.1.2.2.1
  show nU X L xs C (d1 + 1) K 322 lv [.int (fAns (fR b0 n0))] h1 g
  refine nU_pure (pc1 := 323) (lv1 := lv) (st1 := []) rfl rfl rfl ?_
  refine nU_pure (pc1 := 324) (lv1 := lv) (st1 := [.ref 175]) rfl rfl (nU_lda V.2.2.1) ?_
  refine nU_call (d1 := d1) (mz := nm_161) rfl rfl (by decide) (by decide) (by decide) (by decide) rfl (pass_v (recv_at hm rfl) (Nat.le_of_ble_eq_true rfl) (Nat.le_of_ble_eq_true rfl) (Nat.le_of_ble_eq_true rfl)) ?_
  refine nT.mono ?_ (yFamM (by omega) hn0 I1)
  rintro rv h2 ⟨rfl, s2, I2, P2⟩
  show nU X L xs C (d1 + 1) K 327 lv [.int (fAns (fR b0 n0))] h2 g
  refine nU_pure (pc1 := 328) (lv1 := lv) (st1 := []) rfl rfl rfl ?_
  exact nU_pure (pc1 := 1395) (lv1 := lv) (st1 := []) rfl rfl rfl (kk h2 ⟨0, b0, z2, y0, y1, k0, k1, s2, kp, ak, by omega, hR_fam (fun H ln e => hX_fam _ _ _ _ _ _ hX_0 e) R P1 P2, I2⟩)
set_option maxRecDepth 100000 in
theorem nU_ximage {d1 : Nat} (hd : 1 ≤ d1) (hL : L ≤ 3072) (hi : 0 ≤ i) (hiL : i + 6 ≤ (L : Int)) (V : lwV 0 175 195 lv i) (I : lwB5 h) (kk : ∀ h1, lwB5 h1 → nU X L xs C (d1 + 1) K 1395 lv [] h1 g) : nU X L xs C (d1 + 1) K 1320 lv [] h g := by
  obtain ⟨n0, b0, z, y0, y1, k0, k1, s, kp, ak, hn0, R, I⟩ := I
  obtain ⟨fx, hx, -⟩ := I.1.1.2.1
  refine nU_pure (pc1 := 1321) (lv1 := lv) (st1 := [.ref 0]) rfl rfl (nU_lda V.2.1) ?_
  refine nU_rd (p := 1321) (k := 1) V.1 V.2.2.2.2 hi (by decide) (by omega) hL rfl rfl rfl rfl rfl ?_
  generalize hu1 : xs (i + 1).toNat = u1
  refine nU_call (d1 := d1) (mz := nm_151) rfl rfl (by decide) (by decide) (by decide) (by decide) rfl (pass_v (recv_at hx rfl) (Nat.le_of_ble_eq_true rfl) (Nat.le_of_ble_eq_true rfl) (Nat.le_of_ble_eq_true rfl)) ?_
  refine nT.mono ?_ (yImgS (by omega) I u1)
  rintro rv h1 ⟨⟨y, rfl⟩, I1⟩
  obtain ⟨fm, hm, -⟩ := I1.1.1.1.2.2.1
  show nU X L xs C (d1 + 1) K 1330 lv [.int y] h1 g
  refine nU_pure (pc1 := 1331) (lv1 := lv) (st1 := []) rfl rfl rfl ?_
  refine nU_pure (pc1 := 1332) (lv1 := lv) (st1 := [.ref 175]) rfl rfl (nU_lda V.2.2.1) ?_
  refine nU_rd (p := 1332) (k := 1) V.1 V.2.2.2.2 hi (by decide) (by omega) hL rfl rfl rfl rfl rfl ?_
  rw [hu1]
  refine nU_call (d1 := d1) (mz := nm_262) rfl rfl (by decide) (by decide) (by decide) (by decide) rfl (pass_v (recv_at hm rfl) (Nat.le_of_ble_eq_true rfl) (Nat.le_of_ble_eq_true rfl) (Nat.le_of_ble_eq_true rfl)) ?_
  refine nT.mono ?_ (yImgM (by omega) I1 u1)
  rintro rv h2 ⟨⟨y2, rfl⟩, kp2, ak2, P2, I2⟩
  show nU X L xs C (d1 + 1) K 1341 lv [.int y2] h2 g
  refine nU_pure (pc1 := 1342) (lv1 := lv) (st1 := []) rfl rfl rfl ?_
  exact nU_pure (pc1 := 1395) (lv1 := lv) (st1 := []) rfl rfl rfl (kk h2 ⟨n0, b0, z, _, _, _, _, s, kp2, ak2, hn0, hR_img R P2, I2⟩)
set_option maxRecDepth 100000 in
theorem nU_xrestore {d1 : Nat} (hd : 1 ≤ d1) (hL : L ≤ 3072) (hi : 0 ≤ i) (hiL : i + 6 ≤ (L : Int)) (V : lwV 0 175 195 lv i) (I : lwB5 h) (kk : ∀ h1, lwB5 h1 → nU X L xs C (d1 + 1) K 1395 lv [] h1 g) : nU X L xs C (d1 + 1) K 1345 lv [] h g := by
  obtain ⟨n0, b0, z, y0, y1, k0, k1, s, kp, ak, hn0, R, I⟩ := I
  obtain ⟨fx, hx, -⟩ := I.1.1.2.1
  refine nU_pure (pc1 := 1346) (lv1 := lv) (st1 := [.ref 0]) rfl rfl (nU_lda V.2.1) ?_
  refine nU_rd (p := 1346) (k := 1) V.1 V.2.2.2.2 hi (by decide) (by omega) hL rfl rfl rfl rfl rfl ?_
  generalize hu1 : xs (i + 1).toNat = u1
  refine nU_call (d1 := d1) (mz := nm_152) rfl rfl (by decide) (by decide) (by decide) (by decide) rfl (pass_v (recv_at hx rfl) (Nat.le_of_ble_eq_true rfl) (Nat.le_of_ble_eq_true rfl) (Nat.le_of_ble_eq_true rfl)) ?_
  refine nT.mono ?_ (yResS (by omega) I (kB2_k R.2.1).1 (kB2_k R.2.2).1 u1)
  rintro rv h1 ⟨⟨y, rfl⟩, I1⟩
  obtain ⟨fm, hm, -⟩ := I1.1.1.1.2.2.1
  show nU X L xs C (d1 + 1) K 1355 lv [.int y] h1 g
  refine nU_pure (pc1 := 1356) (lv1 := lv) (st1 := []) rfl rfl rfl ?_
  refine nU_pure (pc1 := 1357) (lv1 := lv) (st1 := [.ref 175]) rfl rfl (nU_lda V.2.2.1) ?_
  refine nU_rd (p := 1357) (k := 1) V.1 V.2.2.2.2 hi (by decide) (by omega) hL rfl rfl rfl rfl rfl ?_
  rw [hu1]
  refine nU_call (d1 := d1) (mz := nm_263) rfl rfl (by decide) (by decide) (by decide) (by decide) rfl (pass_v (recv_at hm rfl) (Nat.le_of_ble_eq_true rfl) (Nat.le_of_ble_eq_true rfl) (Nat.le_of_ble_eq_true rfl)) ?_
  refine nT.mono ?_ (yResM (by omega) I1 (kB2_k R.2.1).2 (kB2_k R.2.2).2 u1)
  rintro rv h2 ⟨⟨y2, rfl⟩, s2, P2, I2⟩
  show nU X L xs C (d1 + 1) K 1366 lv [.int y2] h2 g
  refine nU_pure (pc1 := 1367) (lv1 := lv) (st1 := []) rfl rfl rfl ?_
  exact nU_pure (pc1 := 1395) (lv1 := lv) (st1 := []) rfl rfl rfl (kk h2 ⟨n0, b0, _, y0, y1, k0, k1, s2, kp, ak, hn0, hR_res R P2, I2⟩)
set_option maxRecDepth 100000 in
theorem nU_xcancel {d1 : Nat} (hd : 4 ≤ d1) (hL : L ≤ 3072) (hi : 0 ≤ i) (hiL : i + 6 ≤ (L : Int)) (V : lwV 0 175 195 lv i) (I : lwB5 h) (kk : ∀ h1, lwB5 h1 → nU X L xs C (d1 + 1) K 1395 lv [] h1 g) : nU X L xs C (d1 + 1) K 1047 lv [] h g := by
  obtain ⟨n0, b0, z, y0, y1, k0, k1, s, kp, ak, hn0, R, I⟩ := I
  obtain ⟨fx, hx, -⟩ := I.1.1.2.1
  obtain ⟨H, w1, w2, hX9⟩ := hQ_w R.1
  refine nU_pure (pc1 := 1048) (lv1 := lv) (st1 := [.ref 0]) rfl rfl (nU_lda V.2.1) ?_
  refine nU_rd (p := 1048) (k := 1) V.1 V.2.2.2.2 hi (by decide) (by omega) hL rfl rfl rfl rfl rfl ?_
  refine nU_rd (p := 1054) (k := 2) V.1 V.2.2.2.2 hi (by decide) (by omega) hL rfl rfl rfl rfl rfl ?_
  generalize hu1 : xs (i + 1).toNat = u1
  generalize hu2 : xs (i + 2).toNat = u2
  refine nU_call (d1 := d1) (mz := nm_116) rfl rfl (by decide) (by decide) (by decide) (by decide) rfl (pass_v (recv_at hx rfl) (Nat.le_of_ble_eq_true rfl) (Nat.le_of_ble_eq_true rfl) (Nat.le_of_ble_eq_true rfl)) ?_
  refine nT.mono ?_ (yCancelS (by omega) w1 hX9 I u1 u2)
  rintro rv h1 ⟨rfl, I1⟩
  obtain ⟨fm, hm, -⟩ := I1.1.1.1.2.2.1
  show nU X L xs C (d1 + 1) K 1063 lv [.int (caS H u1 u2)] h1 g
  refine nU_pure (pc1 := 1064) (lv1 := lv) (st1 := [.ref 175, .int (caS H u1 u2)]) rfl rfl (nU_lda V.2.2.1) ?_
  refine nU_rd (p := 1064) (k := 1) V.1 V.2.2.2.2 hi (by decide) (by omega) hL rfl rfl rfl rfl rfl ?_
  refine nU_rd (p := 1070) (k := 2) V.1 V.2.2.2.2 hi (by decide) (by omega) hL rfl rfl rfl rfl rfl ?_
  rw [hu1]
  rw [hu2]
  refine nU_call (d1 := d1) (mz := nm_239) rfl rfl (by decide) (by decide) (by decide) (by decide) rfl (pass_v (recv_at hm rfl) (Nat.le_of_ble_eq_true rfl) (Nat.le_of_ble_eq_true rfl) (Nat.le_of_ble_eq_true rfl)) ?_
  refine nT.mono ?_ (yCancelM (by omega) w1.1 w2 hX9 I1 u1 u2)
  rintro rv h2 ⟨rfl, I2⟩
  show nU X L xs C (d1 + 1) K 1079 lv [.int (caS H u1 u2), .int (caS H u1 u2)] h2 g
  refine nU_pure (pc1 := 1395) (lv1 := lv) (st1 := []) rfl rfl ?_ (kk h2 ⟨n0, b0, z, y0, y1, k0, k1, s, kp, ak, hn0, R, I2⟩)
  show nj_br 1079 316 (decide ((caS H u1 u2) = (caS H u1 u2))) lv [] = _
  rw [decide_eq_true rfl]
  rfl
set_option maxRecDepth 100000 in
theorem nU_person {d1 : Nat} (hd : 2 ≤ d1) (hX : ∀ (u w : Int32) (h : List nC), lwB5 h → ∃ (r : Int32) (h1 : List nC) (dg ms : Nat), X 0 [.ref 0, .int u, .int w, .ref 195] h = some (r, h1, dg, ms) ∧ dg ≤ C.1 ∧ ms ≤ C.2 ∧ lwB5 h1) (hL : L ≤ 3072) (hi : 0 ≤ i) (hiL : i + 6 ≤ (L : Int)) (tx : fS[0]? = some 8) (tm : fS[175]? = some 9) (tl : fS[37]? = some 2) (V : lwV 0 175 195 lv i) (I : lwB5 h) (kk : ∀ lv1 h1 g1, lwV 0 175 195 lv1 i → lwB5 h1 → nU X L xs C (d1 + 1) K 1395 lv1 [] h1 g1) : nU X L xs C (d1 + 1) (K + 1) 344 lv [] h g := by
  refine nU_pure (pc1 := 345) (lv1 := lv) (st1 := [.ref 0]) rfl rfl (nU_lda V.2.1) ?_
  refine nU_rd (p := 345) (k := 1) V.1 V.2.2.2.2 hi (by decide) (by omega) hL rfl rfl rfl rfl rfl ?_
  refine nU_rd (p := 351) (k := 2) V.1 V.2.2.2.2 hi (by decide) (by omega) hL rfl rfl rfl rfl rfl ?_
  generalize xs (i + 1).toNat = u
  generalize xs (i + 2).toNat = w
  refine nU_pure (pc1 := 358) (lv1 := lv) (st1 := [.ref 195, .int w, .int u, .ref 0]) rfl rfl (nU_lda V.2.2.2.1) ?_
  obtain ⟨r, h1, dg, ms, x1, x2, x3, I1⟩ := hX u w h I
  refine nU_X rfl rfl (Nat.le_of_ble_eq_true rfl) (Nat.le_of_ble_eq_true rfl) x1 x2 x3 ?_
  have V1 := lwV_put (k := 5) (v := .int r) (by decide) V
  refine nU_pure (pc1 := 363) (lv1 := nj_put lv 5 (.int r)) (st1 := []) rfl rfl rfl ?_
  obtain ⟨n0, b0, z, y0, y1, k0, k1, s, kp, ak, hn0, R, I1'⟩ := id I1
  obtain ⟨fm, hm, -⟩ := I1'.1.1.1.2.2.1
  refine nU_pure (pc1 := 364) (lv1 := nj_put lv 5 (.int r)) (st1 := [.ref 175]) rfl rfl (nU_lda V1.2.2.1) ?_
  refine nU_rd (p := 364) (k := 1) V1.1 V1.2.2.2.2 hi (by decide) (by omega) hL rfl rfl rfl rfl rfl ?_
  refine nU_rd (p := 370) (k := 2) V1.1 V1.2.2.2.2 hi (by decide) (by omega) hL rfl rfl rfl rfl rfl ?_
  generalize xs (i + 1).toNat = u2
  generalize xs (i + 2).toNat = w2
  refine nU_call (d1 := d1) (mz := nm_186) rfl rfl (by decide) (by decide) (by decide) (by decide) rfl (pass_v (recv_at hm rfl) (Nat.le_of_ble_eq_true rfl) (Nat.le_of_ble_eq_true rfl) (Nat.le_of_ble_eq_true rfl)) ?_
  refine nT.mono ?_ (two_app2 (u := u2) (w := w2) (nV_cc (cc := some s) vk_246 (by decide)) rfl (show 2 ≤ d1 from hd) rfl rfl (List.forall_mem_cons.mpr ⟨rfl, (fun _ hx => nomatch hx)⟩) tm (yJ I1') I1'.1.1.1.2.1)
  rintro rv h2 ⟨J2, T2, F2, y, rfl⟩
  show nU X L xs C (d1 + 1) K 379 (nj_put lv 5 (.int r)) [.int y] h2 (g + dg)
  refine nU_pure (pc1 := 381) (lv1 := nj_put (nj_put lv 5 (.int r)) 6 (.int y)) (st1 := []) rfl rfl rfl ?_
  exact nU_pure (pc1 := 1395) (lv1 := nj_put (nj_put lv 5 (.int r)) 6 (.int y)) (st1 := []) rfl rfl rfl (kk _ h2 _ (lwV_put (by decide) V1) (⟨n0, b0, z, y0, y1, k0, k1, s, kp, ak, hn0, R, lwY_keep I1' J2 T2 F2 (by decide +kernel) (by decide +kernel) (by decide +kernel)⟩))
set_option maxRecDepth 100000 in
theorem nU_loss {d1 : Nat} (hd : 3 ≤ d1) (hX : ∀ (u w : Int32) (h : List nC), lwB5 h → ∃ (r : Int32) (h1 : List nC) (dg ms : Nat), X 1 [.ref 0, .int u, .int w, .ref 195] h = some (r, h1, dg, ms) ∧ dg ≤ C.1 ∧ ms ≤ C.2 ∧ lwB5 h1) (hL : L ≤ 3072) (hi : 0 ≤ i) (hiL : i + 6 ≤ (L : Int)) (tx : fS[0]? = some 8) (tm : fS[175]? = some 9) (tl : fS[37]? = some 2) (V : lwV 0 175 195 lv i) (I : lwB5 h) (kk : ∀ lv1 h1 g1, lwV 0 175 195 lv1 i → lwB5 h1 → nU X L xs C (d1 + 1) K 1395 lv1 [] h1 g1) : nU X L xs C (d1 + 1) (K + 1) 719 lv [] h g := by
  refine nU_pure (pc1 := 720) (lv1 := lv) (st1 := [.ref 0]) rfl rfl (nU_lda V.2.1) ?_
  refine nU_rd (p := 720) (k := 1) V.1 V.2.2.2.2 hi (by decide) (by omega) hL rfl rfl rfl rfl rfl ?_
  refine nU_rd (p := 726) (k := 2) V.1 V.2.2.2.2 hi (by decide) (by omega) hL rfl rfl rfl rfl rfl ?_
  generalize xs (i + 1).toNat = u
  generalize xs (i + 2).toNat = w
  refine nU_pure (pc1 := 733) (lv1 := lv) (st1 := [.ref 195, .int w, .int u, .ref 0]) rfl rfl (nU_lda V.2.2.2.1) ?_
  obtain ⟨r, h1, dg, ms, x1, x2, x3, I1⟩ := hX u w h I
  refine nU_X rfl rfl (Nat.le_of_ble_eq_true rfl) (Nat.le_of_ble_eq_true rfl) x1 x2 x3 ?_
  have V1 := lwV_put (k := 5) (v := .int r) (by decide) V
  refine nU_pure (pc1 := 738) (lv1 := nj_put lv 5 (.int r)) (st1 := []) rfl rfl rfl ?_
  obtain ⟨n0, b0, z, y0, y1, k0, k1, s, kp, ak, hn0, R, I1'⟩ := id I1
  obtain ⟨fm, hm, -⟩ := I1'.1.1.1.2.2.1
  refine nU_pure (pc1 := 739) (lv1 := nj_put lv 5 (.int r)) (st1 := [.ref 175]) rfl rfl (nU_lda V1.2.2.1) ?_
  refine nU_rd (p := 739) (k := 1) V1.1 V1.2.2.2.2 hi (by decide) (by omega) hL rfl rfl rfl rfl rfl ?_
  refine nU_rd (p := 745) (k := 2) V1.1 V1.2.2.2.2 hi (by decide) (by omega) hL rfl rfl rfl rfl rfl ?_
  generalize xs (i + 1).toNat = u2
  generalize xs (i + 2).toNat = w2
  refine nU_call (d1 := d1) (mz := nm_219) rfl rfl (by decide) (by decide) (by decide) (by decide) rfl (pass_v (recv_at hm rfl) (Nat.le_of_ble_eq_true rfl) (Nat.le_of_ble_eq_true rfl) (Nat.le_of_ble_eq_true rfl)) ?_
  refine nT.mono ?_ (two_app2 (u := u2) (w := w2) (wk_279 (cc := some s)) rfl (show 3 ≤ d1 from hd) rfl rfl (List.forall_mem_cons.mpr ⟨rfl, (fun _ hx => nomatch hx)⟩) tm (yJ I1') I1'.1.1.1.2.1)
  rintro rv h2 ⟨J2, T2, F2, y, rfl⟩
  show nU X L xs C (d1 + 1) K 754 (nj_put lv 5 (.int r)) [.int y] h2 (g + dg)
  refine nU_pure (pc1 := 756) (lv1 := nj_put (nj_put lv 5 (.int r)) 6 (.int y)) (st1 := []) rfl rfl rfl ?_
  exact nU_pure (pc1 := 1395) (lv1 := nj_put (nj_put lv 5 (.int r)) 6 (.int y)) (st1 := []) rfl rfl rfl (kk _ h2 _ (lwV_put (by decide) V1) (⟨n0, b0, z, y0, y1, k0, k1, s, kp, ak, hn0, R, lwY_keep I1' J2 T2 F2 (by decide +kernel) (by decide +kernel) (by decide +kernel)⟩))
set_option maxRecDepth 100000 in
theorem nU_inc (V : lwV 0 175 195 lv i) (kk : nU X L xs C d K 23 (nj_put lv 4 (.int (Int32.ofInt i + Int32.ofInt 6))) [] h g) : nU X L xs C d K 1395 lv [] h g := by
  refine nU_pure (pc1 := 1398) (lv1 := nj_put lv 4 (.int (Int32.ofInt i + Int32.ofInt 6))) (st1 := []) rfl rfl (by simp only [nj_pure, V.2.2.2.2]; rfl) ?_
  exact nU_pure (pc1 := 23) (lv1 := nj_put lv 4 (.int (Int32.ofInt i + Int32.ofInt 6))) (st1 := []) rfl rfl rfl kk
set_option maxRecDepth 100000 in
theorem nU_end : nU X L xs C d K 1401 lv [] h g := by
  refine nU_pure (pc1 := 1402) (lv1 := lv) (st1 := [.int (Int32.ofInt 1)]) rfl rfl rfl ?_
  refine ⟨1, h, g, 0, 0, ?_, Nat.zero_le _, Nat.zero_le _⟩
  unfold nj_run
  simp only [show nm_265.2.2.2.2.2.find? (fun q => q.1 == 1402) = some (1402, .ireturn, 0, 0, 0, 0) from rfl, show nj_ret nm_265.2.2.2.1 .ireturn [.int (Int32.ofInt 1)] = some (some (.int (Int32.ofInt 1))) from by decide]
set_option maxRecDepth 100000 in
theorem nU_head (V : lwV 0 175 195 lv i) (hi : 0 ≤ i) (hiL : i ≤ (L : Int)) (hL : L ≤ 3072) (k1 : i + 6 ≤ (L : Int) → nU X L xs C d K 33 lv [] h g) : nU X L xs C d K 23 lv [] h g := by
  refine nU_pure (pc1 := 25) (lv1 := lv) (st1 := [.int (Int32.ofInt i)]) rfl rfl (by simp only [nj_pure, nj_ldi, V.2.2.2.2]) ?_
  refine nU_pure (pc1 := 26) (lv1 := lv) (st1 := [.retAddr 0, .int (Int32.ofInt i)]) rfl rfl (by show nj_lda lv (25 + 1) 0 _ = _; unfold nj_lda; rw [V.1]) ?_
  refine nU_mem (pc1 := 27) (st1 := [.int (Int32.ofNat L), .int (Int32.ofInt i)]) (h1 := h) rfl rfl rfl rfl ?_
  refine nU_pure (pc1 := 29) (lv1 := lv) (st1 := [.int (Int8.ofInt 6).toInt32, .int (Int32.ofNat L), .int (Int32.ofInt i)]) rfl rfl rfl ?_
  refine nU_pure (pc1 := 30) (lv1 := lv) (st1 := [.int (Int32.ofNat L - (Int8.ofInt 6).toInt32), .int (Int32.ofInt i)]) rfl rfl rfl ?_
  have ey : Int32.ofNat L - (Int8.ofInt 6).toInt32 = Int32.ofInt ((L : Int) - 6) := by
    rw [show (Int8.ofInt 6).toInt32 = Int32.ofInt 6 from by decide, Int32.ofInt_sub, Int32.ofInt_eq_ofNat]
  rw [ey]
  have hc : (Int32.ofInt ((L : Int) - 6) < Int32.ofInt i) ↔ (L : Int) - 6 < i := by
    rw [Int32.lt_iff_toInt_lt, a32 (by omega) (by omega), a32 (by omega) (by omega)]
  by_cases c : i + 6 ≤ (L : Int)
  · refine nU_pure (pc1 := 33) (lv1 := lv) (st1 := []) rfl rfl ?_ (k1 c)
    show nj_br 30 1371 (decide (Int32.ofInt ((L : Int) - 6) < Int32.ofInt i)) lv [] = _
    rw [decide_eq_false (fun e => by have := hc.mp e; omega)]
    rfl
  · refine nU_pure (pc1 := 1401) (lv1 := lv) (st1 := []) rfl rfl ?_ nU_end
    show nj_br 30 1371 (decide (Int32.ofInt ((L : Int) - 6) < Int32.ofInt i)) lv [] = _
    rw [decide_eq_true (hc.mpr (by omega))]
    rfl
set_option maxRecDepth 100000 in
theorem nU_round (hd : 30 ≤ d) (hL : L ≤ 3072) (hi : 0 ≤ i) (hiL : i + 6 ≤ (L : Int)) (tx : fS[0]? = some 8) (tm : fS[175]? = some 9) (to : fS[195]? = some 68) (tl : fS[37]? = some 2) (tb : fS[38]? = some 24) (V : lwV 0 175 195 lv i) (I : lwB5 h) (kk : ∀ r, r < 10 → ∀ h1, lwB5 h1 → nU X L xs C d K (vE r) lv [] h1 g) : nU X L xs C d K 33 lv [] h g := by
  obtain ⟨n0, b0, z, y0, y1, k0, k1, s, kp, ak, hn0, R, I⟩ := I
  obtain ⟨⟨J, T, ⟨fm, hm, g2, g3, g4⟩, ⟨fx, hx, fx3⟩, fl, hl, fl0⟩, ⟨fx2, hx2, fx0⟩, ⟨ft, ht, ft5⟩, fm3, hm3, fm2⟩ := id I.1.1
  cases hx.symm.trans hx2
  cases hm.symm.trans hm3
  have k := (nT_M2 (X := X) (xs := xs) (g := g) good_v).mp (law_round (qx := 0) (qm := 175) (qo := 195) (ql := 37) (qb := 38) (qt := 1) (S := fS) (cc := some s) hd hL hi hiL (yJ I) T tx tm to tl tb (show fS[1]? = some 7 by decide) (show (0 : Int) ≤ (n0 : Int) by omega) (by omega) fx0 ht ft5 fm2 hx hl hm fx3 fl0 g2 g3 g4)
  rw [Int.add_zero] at k
  obtain ⟨n, rv, h1, e, J1, T1, p1, p2, p3, F1, z2, p4, p5, p6, p7⟩ := k
  cases n with
  | zero => cases e
  | succ n =>
    unfold nj_run at e
    have s0 : nm_v.2.2.2.2.2.find? (fun q => q.1 == 0) = some (0, .goto 33, 0, 0, 0, 0) := rfl
    have s1 : nj_ret nm_v.2.2.2.1 (.goto 33) ([] : List Value) = none := rfl
    have s2 : nj_step nj_M X L xs (fun d1 mz lv0 h0 g0 => nj_run nj_M X L xs n d1 mz 0 lv0 [] h0 g0) d nm_v (.goto 33) 0 0 0 0 [(0, .retAddr 0), (1, .ref 0), (2, .ref 175), (3, .ref 195), (4, .int (Int32.ofInt i))] [] h g = some (33, [(0, .retAddr 0), (1, .ref 0), (2, .ref 175), (3, .ref 195), (4, .int (Int32.ofInt i))], [], h, g, 0, 0) := rfl
    simp only [s0, s1, s2] at e
    cases hr : nj_run nj_M X L xs n d nm_v 33 [(0, .retAddr 0), (1, .ref 0), (2, .ref 175), (3, .ref 195), (4, .int (Int32.ofInt i))] [] h g with
    | none => rw [hr] at e; cases e
    | some res =>
      obtain ⟨rv2, h2, g5, mc0, ms0⟩ := res
      rw [hr] at e
      simp only [Nat.zero_add, Option.some.injEq, Prod.mk.injEq] at e
      obtain ⟨rfl, rfl, rfl, rfl, rfl⟩ := e
      have hr2 := v_runL n d 33 _ lv [] h _ _ (fun k hk => by
        match k, hk with
        | 0, _ => exact V.1
        | 1, _ => exact V.2.1
        | 2, _ => exact V.2.2.1
        | 3, _ => exact V.2.2.2.1
        | 4, _ => exact V.2.2.2.2
        | n + 5, hk => exact absurd hk (by omega)) hr
      obtain ⟨r, r4, -, law⟩ := v_law n d 33 lv [] h _ _ _ _ _ _ (by decide) hr2
      obtain ⟨n2, h3, g6, mc, ms, e1, e2, e3⟩ := kk r r4 _ ⟨z2.toNat, b0, z, y0, y1, k0, k1, s, kp, ak, (by have := p4.1; have := p4.2; omega), R, lwY_fr I J1 T1 F1 ⟨(by rw [Int.toNat_of_nonneg p4.1]; exact ⟨⟨J1.1, T1, p1, p2, p3⟩, p5, p6, p7⟩), fx_fr I.1.2.1 F1 (by decide +kernel), ro_fr I.1.2.2 F1 (by decide) (by decide) (by decide) (by decide)⟩ (by decide +kernel) (by decide +kernel)⟩
      obtain ⟨n3, e4⟩ := law n2 _ h3 g6 mc ms e1
      exact ⟨n3, h3, g6, 0 + mc, 0 + ms, e4, by omega, by omega⟩
/-- the law's loop to its end -/
theorem law_loop {d1 : Nat} (hd : 30 ≤ d1) (hX : ∀ a, a < 2 → ∀ (u w : Int32) (h : List nC), lwB5 h → ∃ (r : Int32) (h1 : List nC) (dg ms : Nat), X a [.ref 0, .int u, .int w, .ref 195] h = some (r, h1, dg, ms) ∧ dg ≤ C.1 ∧ ms ≤ C.2 ∧ lwB5 h1) (hL : L ≤ 3072) (tx : fS[0]? = some 8) (tm : fS[175]? = some 9) (to : fS[195]? = some 68) (tl : fS[37]? = some 2) (tb : fS[38]? = some 24) : ∀ (K : Nat) (i : Int) (lv : nLv) (h : List nC) (g : Nat), 0 ≤ i → i ≤ (L : Int) → (L : Int) < i + 6 * (K : Int) + 6 → lwV 0 175 195 lv i → lwB5 h → nU X L xs C (d1 + 1) K 23 lv [] h g := by
  intro K
  induction K with
  | zero => intro i lv h g hi hiL hK V I; exact nU_head V hi hiL hL (fun c => absurd c (by omega))
  | succ K ih =>
    intro i lv h g hi hiL hK V I
    refine nU_head V hi hiL hL (fun c => nU_round (by omega) hL hi c tx tm to tl tb V I (fun r r4 h1 I1 => ?_))
    have nxt : ∀ lv1 h2 g2, lwV 0 175 195 lv1 i → lwB5 h2 → nU X L xs C (d1 + 1) K 1395 lv1 [] h2 g2 := fun lv1 h2 g2 V1 I2 => nU_inc V1 (ih (i + 6) _ h2 g2 (by omega) (by omega) (by omega) (lwV_inc V1) I2)
    match r, r4 with
    | 0, _ => exact nU_more (Nat.le_succ K) (nxt lv h1 g V I1)
    | 1, _ => exact nU_person (by omega) (hX 0 (by decide)) hL hi c tx tm tl V I1 nxt
    | 2, _ => exact nU_loss (by omega) (hX 1 (by decide)) hL hi c tx tm tl V I1 nxt
    | 3, _ => exact nU_more (Nat.le_succ K) (nU_xchron (by omega) hL hi c V I1 (fun h2 I2 => nxt lv h2 g V I2))
    | 4, _ => exact nU_more (Nat.le_succ K) (nU_xend (by omega) hL hi c V I1 (fun h2 I2 => nxt lv h2 g V I2))
    | 5, _ => exact nU_more (Nat.le_succ K) (nU_xfeed (by omega) hL hi c V I1 (fun h2 I2 => nxt lv h2 g V I2))
    | 6, _ => exact nU_more (Nat.le_succ K) (nU_xfamily (by omega) hL hi c V I1 (fun h2 I2 => nxt lv h2 g V I2))
    | 7, _ => exact nU_more (Nat.le_succ K) (nU_ximage (by omega) hL hi c V I1 (fun h2 I2 => nxt lv h2 g V I2))
    | 8, _ => exact nU_more (Nat.le_succ K) (nU_xrestore (by omega) hL hi c V I1 (fun h2 I2 => nxt lv h2 g V I2))
    | 9, _ => exact nU_more (Nat.le_succ K) (nU_xcancel (by omega) hL hi c V I1 (fun h2 I2 => nxt lv h2 g V I2))
    | n + 10, h4 => exact absurd h4 (by omega)
end LOOP
