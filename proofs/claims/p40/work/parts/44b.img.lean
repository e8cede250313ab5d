theorem lwI_fr2 {S : List Nat} {qx qm ql qb : Nat} {h h1 : List nC} {mf : List (Nat × Nat)} {ma : List Nat} (I : lwI S qx qm ql qb h) (tx : S[qx]? = some 8) (tl : S[ql]? = some 2) (J1 : nJJ S h1) (T1 : tOk nFT nAT S h1) (F : nFr mf ma S h h1) (hg : ∃ fm, h1[qm]? = some (.inr (9, fm)) ∧ nGh 1002 h1 9 fm = 1 ∧ nGh 1003 h1 9 fm = 1 ∧ nGh 1004 h1 9 fm = 1) (n5 : (8, 3) ∉ mf) (n6 : (2, 0) ∉ mf) : lwI S qx qm ql qb h1 := by
  obtain ⟨-, -, -, ⟨fx, hx, b⟩, fl, hl, c⟩ := I
  obtain ⟨fx1, hx1, ex⟩ := (F qx 8 tx).1 ⟨8, rfl⟩ 8 fx hx
  obtain ⟨fl1, hl1, el⟩ := (F ql 2 tl).1 ⟨2, rfl⟩ 2 fl hl
  exact ⟨J1, T1, hg, ⟨fx1, hx1, (nFd_lo (by decide)).symm.trans ((ex 3 n5).trans ((nFd_lo (by decide)).trans b))⟩, fl1, hl1, (nFd_lo (by decide)).symm.trans ((el 0 n6).trans ((nFd_lo (by decide)).trans c))⟩
theorem lwI_fr {S : List Nat} {qx qm ql qb : Nat} {h h1 : List nC} {mf : List (Nat × Nat)} {ma : List Nat} (I : lwI S qx qm ql qb h) (tx : S[qx]? = some 8) (tm : S[qm]? = some 9) (tl : S[ql]? = some 2) (J1 : nJJ S h1) (T1 : tOk nFT nAT S h1) (F : nFr mf ma S h h1) (n2 : (9, 1002) ∉ mf) (n3 : (9, 1003) ∉ mf) (n4 : (9, 1004) ∉ mf) (n5 : (8, 3) ∉ mf) (n6 : (2, 0) ∉ mf) : lwI S qx qm ql qb h1 := by
  have I0 := I
  obtain ⟨-, -, ⟨fm, hm, a2, a3, a4⟩, -⟩ := I
  obtain ⟨fm1, hm1, em⟩ := (F qm 9 tm).1 ⟨9, rfl⟩ 9 fm hm
  have gk : ∀ k, ¬ k < 1000 → (9, k) ∉ mf → nGh k h 9 fm = 1 → nGh k h1 9 fm1 = 1 := fun k hk hn e => by
    have e2 := em k hn
    rw [nFd_hi hk, nFd_hi hk, e] at e2
    exact Value.int.inj (Option.some.inj e2)
  exact lwI_fr2 I0 tx tl J1 T1 F ⟨fm1, hm1, gk 1002 (by decide) n2 a2, gk 1003 (by decide) n3 a3, gk 1004 (by decide) n4 a4⟩ n5 n6
theorem res_c {nu : List Int} {mu : List Nat} {r : Int} {rv : Option Value} (h : aRes nu mu (some (.inl r)) rv) : rv = some (.int (Int32.ofInt r)) := by
  cases rv with
  | none => exact h.elim
  | some v => exact congrArg some (show v = .int (Int32.ofInt r) from h)
theorem res_s {S : List Nat} {h : List nC} {nu : List Int} {mu : List Nat} {s : aS} {i : Nat} {r : Int} {rv : Option Value} (ok : aOk S h nu mu s) (hr : aRes nu mu (some (.inr (.inl (i, 0)))) rv) (hi : s.1[i]? = some (r, r)) : rv = some (.int (Int32.ofInt r)) := by
  cases rv with
  | none => exact hr.elim
  | some v =>
    obtain ⟨z, hz, e⟩ := (show ∃ z : Int, nu[i]? = some z ∧ v = .int (Int32.ofInt (z + 0)) from hr)
    have h2 := ok.1.2 i z (r, r) hz hi
    have h3 : z = r := Int.le_antisymm h2.2 h2.1
    rw [e, Int.add_zero, h3]
theorem tau_1 {S : List Nat} {q t : Nat} (h : S[q]? = some t) : [t].length = [q].length ∧ ∀ (j q2 t2 : Nat), [q][j]? = some q2 → [t][j]? = some t2 → S[q2]? = some t2 := by
  refine ⟨rfl, fun j q2 t2 a b => ?_⟩
  match j, a, b with
  | 0, a, b => cases a; cases b; exact h
section IMG
variable {X : nX} {L : Nat} {xs : Nat → Int32} {g d : Nat} {S : List Nat} {h : List nC}
theorem img_app {c : nK} {mt : nM} {t q : Nat} {lo hi : Int} {fc : List (Nat × Nat × aV)} {v : Int32} (hv : nV nj_M X L xs g nFT nAT S (nJJ S) c) (hM : nj_M c.1 = some mt) (hd : c.2.1 ≤ d) (hpre : c.2.2.1 = ([(lo, hi)], [t], fc, [], [])) (har : c.2.2.2.1 = [.inr (.inr (.inl 0)), .inr (.inl (0, 0))]) (hlo : lo ≤ v.toInt) (hhi : v.toInt ≤ hi) (hq : S[q]? = some t) (hfc : ∀ e ∈ fc, fcOk [v.toInt] [q] h e) (hJ : nJJ S h) (hT : tOk nFT nAT S h) : nT nj_M X L xs g d mt (fun rv h1 => nJJ S h1 ∧ tOk nFT nAT S h1 ∧ nFr c.2.2.2.2.1 c.2.2.2.2.2.1 S h h1 ∧ ∃ po ∈ c.2.2.2.2.2.2, ∃ nu1 mu1, aX [v.toInt] [q] nu1 mu1 ∧ aOk S h1 nu1 mu1 po.1 ∧ aRes nu1 mu1 po.2 rv) 0 (lv_args 0 [.ref q, .int v]) [] h :=
  hv d hd mt hM h [v.toInt] [q] [.ref q, .int v] hJ hT (by rw [hpre]; exact ⟨aE1 ⟨hlo, hhi⟩, tau_1 hq, hfc, (fun e he => nomatch he), (fun e he => nomatch he)⟩) (by rw [har]; exact ⟨⟨q, rfl, rfl⟩, ⟨v.toInt, rfl, by rw [Int.add_zero, Int32.ofInt_toInt]⟩, trivial⟩)
theorem two_app {c : nK} {mt : nM} {q : Nat} {u w : Int32} (hv : nV nj_M X L xs g nFT nAT S (nJJ S) c) (hM : nj_M c.1 = some mt) (hd : c.2.1 ≤ d) (hpre : c.2.2.1 = ([(-2147483648, 2147483647), (-2147483648, 2147483647)], [9], [], [], [])) (har : c.2.2.2.1 = [.inr (.inr (.inl 0)), .inr (.inl (0, 0)), .inr (.inl (1, 0))]) (hpo : ∀ po ∈ c.2.2.2.2.2.2, po.2 = some (.inr (.inl (2, 0)))) (hq : S[q]? = some 9) (hJ : nJJ S h) (hT : tOk nFT nAT S h) : nT nj_M X L xs g d mt (fun rv h1 => nJJ S h1 ∧ tOk nFT nAT S h1 ∧ nFr c.2.2.2.2.1 c.2.2.2.2.2.1 S h h1 ∧ ∃ y : Int32, rv = some (.int y)) 0 (lv_args 0 [.ref q, .int u, .int w]) [] h := by
  have b : ∀ u : Int32, -2147483648 ≤ u.toInt ∧ u.toInt ≤ 2147483647 := fun u => ⟨Int32.le_toInt u, by have := Int32.toInt_lt u; omega⟩
  refine nT.mono ?_ (hv d hd mt hM h [u.toInt, w.toInt] [q] [.ref q, .int u, .int w] hJ hT (by rw [hpre]; exact ⟨aE2 (b u) (b w), tau_1 hq, (fun e he => nomatch he), (fun e he => nomatch he), (fun e he => nomatch he)⟩) (by rw [har]; exact ⟨⟨q, rfl, rfl⟩, ⟨u.toInt, rfl, by rw [Int.add_zero, Int32.ofInt_toInt]⟩, ⟨w.toInt, rfl, by rw [Int.add_zero, Int32.ofInt_toInt]⟩, trivial⟩))
  rintro rv h1 ⟨J1, T1, F1, po, hpo1, nu1, mu1, X1, ok1, res1⟩
  refine ⟨J1, T1, F1, ?_⟩
  rw [hpo po hpo1] at res1
  cases rv with
  | none => exact res1.elim
  | some v =>
    obtain ⟨z, hz, e⟩ := (show ∃ z : Int, nu1[2]? = some z ∧ v = .int (Int32.ofInt (z + 0)) from res1)
    exact ⟨_, congrArg some e⟩
def imA (v : Int32) : Int := if v.toInt = 0 ∨ v.toInt = 1 then 1 else 0
theorem slip_image {qx qm ql qb : Nat} (hd : 1 ≤ d) (I : lwI S qx qm ql qb h) (tx : S[qx]? = some 8) (tm : S[qm]? = some 9) (tl : S[ql]? = some 2) (v : Int32) : nT nj_M X L xs g d nm_151 (fun rv h1 => rv = some (.int (Int32.ofInt (imA v))) ∧ lwI S qx qm ql qb h1) 0 (lv_args 0 [.ref qx, .int v]) [] h := by
  have b1 := Int32.le_toInt v
  have b2 := Int32.toInt_lt v
  rcases (by omega : v.toInt < 0 ∨ v.toInt = 0 ∨ v.toInt = 1 ∨ 2 ≤ v.toInt) with e | e | e | e
  · refine nT.mono ?_ (img_app (lo := -2147483648) (hi := -1) vk_353 rfl (by show 0 ≤ d; omega) rfl rfl (by omega) (by omega) tx (fun e he => nomatch he) I.1 I.2.1)
    rintro rv h1 ⟨J1, T1, F1, po, hpo, nu1, mu1, X1, ok1, res1⟩
    have hpo2 := List.mem_singleton.mp (show po ∈ [_] from hpo)
    subst hpo2
    rw [(show imA v = 0 from if_neg (by omega))]
    exact ⟨res_s ok1 res1 rfl, lwI_fr I tx tm tl J1 T1 F1 (by decide) (by decide) (by decide) (by decide) (by decide)⟩
  · refine nT.mono ?_ (img_app (lo := 0) (hi := 0) vk_349 rfl (by show 1 ≤ d; omega) rfl rfl (by omega) (by omega) tx (fun e he => nomatch he) I.1 I.2.1)
    rintro rv h1 ⟨J1, T1, F1, po, hpo, nu1, mu1, X1, ok1, res1⟩
    have hpo2 := List.mem_singleton.mp (show po ∈ [_] from hpo)
    subst hpo2
    rw [(show imA v = 1 from if_pos (by omega))]
    exact ⟨res_s ok1 res1 rfl, lwI_fr I tx tm tl J1 T1 F1 (by decide) (by decide) (by decide) (by decide) (by decide)⟩
  · refine nT.mono ?_ (img_app (lo := 1) (hi := 1) vk_351 rfl (by show 1 ≤ d; omega) rfl rfl (by omega) (by omega) tx (fun e he => nomatch he) I.1 I.2.1)
    rintro rv h1 ⟨J1, T1, F1, po, hpo, nu1, mu1, X1, ok1, res1⟩
    have hpo2 := List.mem_singleton.mp (show po ∈ [_] from hpo)
    subst hpo2
    rw [(show imA v = 1 from if_pos (by omega))]
    exact ⟨res_s ok1 res1 rfl, lwI_fr I tx tm tl J1 T1 F1 (by decide) (by decide) (by decide) (by decide) (by decide)⟩
  · refine nT.mono ?_ (img_app (lo := 2) (hi := 2147483647) vk_355 rfl (by show 0 ≤ d; omega) rfl rfl (by omega) (by omega) tx (fun e he => nomatch he) I.1 I.2.1)
    rintro rv h1 ⟨J1, T1, F1, po, hpo, nu1, mu1, X1, ok1, res1⟩
    have hpo2 := List.mem_singleton.mp (show po ∈ [_] from hpo)
    subst hpo2
    rw [(show imA v = 0 from if_neg (by omega))]
    exact ⟨res_s ok1 res1 rfl, lwI_fr I tx tm tl J1 T1 F1 (by decide) (by decide) (by decide) (by decide) (by decide)⟩
theorem model_image {qx qm ql qb : Nat} (hd : 1 ≤ d) (I : lwI S qx qm ql qb h) (tx : S[qx]? = some 8) (tm : S[qm]? = some 9) (tl : S[ql]? = some 2) (v : Int32) : nT nj_M X L xs g d nm_262 (fun rv h1 => rv = some (.int (Int32.ofInt (imA v))) ∧ lwI S qx qm ql qb h1) 0 (lv_args 0 [.ref qm, .int v]) [] h := by
  have b1 := Int32.le_toInt v
  have b2 := Int32.toInt_lt v
  obtain ⟨fm, hm, a2, a3, a4⟩ := I.2.2.1
  have hfc : ∀ e ∈ [(0, 1002, (.inl 1 : aV)), (0, 1003, .inl 1), (0, 1004, .inl 1)], fcOk [v.toInt] [qm] h e := fun e he => by
    simp only [List.mem_cons, List.not_mem_nil, or_false] at he
    rcases he with rfl | rfl | rfl
    · exact ⟨qm, 9, fm, _, rfl, hm, nFd_hi (by decide), by rw [a2]; rfl⟩
    · exact ⟨qm, 9, fm, _, rfl, hm, nFd_hi (by decide), by rw [a3]; rfl⟩
    · exact ⟨qm, 9, fm, _, rfl, hm, nFd_hi (by decide), by rw [a4]; rfl⟩
  rcases (by omega : v.toInt < 0 ∨ v.toInt = 0 ∨ v.toInt = 1 ∨ 2 ≤ v.toInt) with e | e | e | e
  · refine nT.mono ?_ (img_app (lo := -2147483648) (hi := -1) vk_354 rfl (by show 1 ≤ d; omega) rfl rfl (by omega) (by omega) tm hfc I.1 I.2.1)
    rintro rv h1 ⟨J1, T1, F1, po, hpo, nu1, mu1, X1, ok1, res1⟩
    have hpo2 := List.mem_singleton.mp (show po ∈ [_] from hpo)
    subst hpo2
    rw [(show imA v = 0 from if_neg (by omega))]
    exact ⟨res_c res1, lwI_fr I tx tm tl J1 T1 F1 (by decide) (by decide) (by decide) (by decide) (by decide)⟩
  · refine nT.mono ?_ (img_app (lo := 0) (hi := 0) vk_350 rfl (by show 1 ≤ d; omega) rfl rfl (by omega) (by omega) tm hfc I.1 I.2.1)
    rintro rv h1 ⟨J1, T1, F1, po, hpo, nu1, mu1, X1, ok1, res1⟩
    have hpo2 := List.mem_singleton.mp (show po ∈ [_] from hpo)
    subst hpo2
    rw [(show imA v = 1 from if_pos (by omega))]
    obtain ⟨fm1, hm1, -⟩ := T1.obj tm (show oT 9 = some 9 from rfl)
    have look : ∀ k, ¬ k < 1000 → (0, k, (.inl 1 : aV)) ∈ [(0, 1002, (.inl 1 : aV)), (0, 1003, .inl 1), (0, 1004, .inl 1)] → nGh k h1 9 fm1 = 1 := fun k hk he => by
      obtain ⟨w, v1, v2⟩ := fc_at ok1 he (X1.mu (show [qm][0]? = some qm from rfl)) hm1
      rw [nFd_hi hk] at v1
      have v3 : w = .int (Int32.ofInt 1) := v2
      rw [v3] at v1
      exact Value.int.inj (Option.some.inj v1)
    exact ⟨res_c res1, lwI_fr2 I tx tl J1 T1 F1 ⟨fm1, hm1, look 1002 (by decide) List.mem_cons_self, look 1003 (by decide) (List.mem_cons_of_mem _ List.mem_cons_self), look 1004 (by decide) (List.mem_cons_of_mem _ (List.mem_cons_of_mem _ List.mem_cons_self))⟩ (by decide) (by decide)⟩
  · refine nT.mono ?_ (img_app (lo := 1) (hi := 1) vk_352 rfl (by show 1 ≤ d; omega) rfl rfl (by omega) (by omega) tm hfc I.1 I.2.1)
    rintro rv h1 ⟨J1, T1, F1, po, hpo, nu1, mu1, X1, ok1, res1⟩
    have hpo2 := List.mem_singleton.mp (show po ∈ [_] from hpo)
    subst hpo2
    rw [(show imA v = 1 from if_pos (by omega))]
    obtain ⟨fm1, hm1, -⟩ := T1.obj tm (show oT 9 = some 9 from rfl)
    have look : ∀ k, ¬ k < 1000 → (0, k, (.inl 1 : aV)) ∈ [(0, 1002, (.inl 1 : aV)), (0, 1003, .inl 1), (0, 1004, .inl 1)] → nGh k h1 9 fm1 = 1 := fun k hk he => by
      obtain ⟨w, v1, v2⟩ := fc_at ok1 he (X1.mu (show [qm][0]? = some qm from rfl)) hm1
      rw [nFd_hi hk] at v1
      have v3 : w = .int (Int32.ofInt 1) := v2
      rw [v3] at v1
      exact Value.int.inj (Option.some.inj v1)
    exact ⟨res_c res1, lwI_fr2 I tx tl J1 T1 F1 ⟨fm1, hm1, look 1002 (by decide) List.mem_cons_self, look 1003 (by decide) (List.mem_cons_of_mem _ List.mem_cons_self), look 1004 (by decide) (List.mem_cons_of_mem _ (List.mem_cons_of_mem _ List.mem_cons_self))⟩ (by decide) (by decide)⟩
  · refine nT.mono ?_ (img_app (lo := 2) (hi := 2147483647) vk_356 rfl (by show 1 ≤ d; omega) rfl rfl (by omega) (by omega) tm hfc I.1 I.2.1)
    rintro rv h1 ⟨J1, T1, F1, po, hpo, nu1, mu1, X1, ok1, res1⟩
    have hpo2 := List.mem_singleton.mp (show po ∈ [_] from hpo)
    subst hpo2
    rw [(show imA v = 0 from if_neg (by omega))]
    exact ⟨res_c res1, lwI_fr I tx tm tl J1 T1 F1 (by decide) (by decide) (by decide) (by decide) (by decide)⟩
end IMG
