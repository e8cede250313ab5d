/-! the reference's next token -/
theorem sk_le {b : Nat → Int32} {n : Nat} : ∀ (k p : Nat), p ≤ n → sk b n k p ≤ n := by
  intro k
  induction k with
  | zero => intro p h; exact h
  | succ k ih =>
    intro p h
    show (if p < n ∧ isB (b p) = true then sk b n k (p + 1) else p) ≤ n
    split
    · next h2 => exact ih (p + 1) h2.1
    · exact h
section RFC
variable {L : Nat} {xs : Nat → Int32} {d : Nat} {o : Nat → Value} {thr len sz lim : Int32} {X : Lx} {flt fat got lns crs : Int32} {b hh : Nat → Int32} {nms rsv : Nat → Int64}
set_option maxHeartbeats 4000000 in
theorem q_next {n m q0 : Nat} {Y : Int32 × Int32 × Int32 × Int32 × Int64} (hn : n ≤ 940) (hm : m ≤ 900) (hby : ∀ i, i < 940 → -128 ≤ (b i).toInt ∧ (b i).toInt ≤ 127) (hq0 : q0 ≤ n) : mS nj_M nX0 L xs (d + 1) 163 [.ref 175] (rfP o thr len (Int32.ofNat n) (Int32.ofNat m) (Int32.ofNat q0, Y) flt fat got lns crs b hh nms rsv) (fun rv l => rv = none ∧ ∃ X1, rT (tk b n m) (decide (m < n)) q0 X1 ∧ l = (rfP o thr len (Int32.ofNat n) (Int32.ofNat m) X1 flt fat got lns crs b hh nms rsv)) := by
  refine mS_of rfl (fun h0 => ?_)
  have hZn := sk_le (b := b) (n := n) 941 q0 hq0
  have hrun : (sk b n 941 q0) < n → (sk b n 941 q0) < m → isA (b (sk b n 941 q0)) = true → ∀ (spn num : Int32) (wrd : Int64), kT nj_M nX0 L xs (d + 1) nm_163 (mQ (rfP o thr len (Int32.ofNat n) (Int32.ofNat m) (Int32.ofNat q0, Y) flt fat got lns crs b hh nms rsv) (fun rv l => rv = none ∧ ∃ X1, rT (tk b n m) (decide (m < n)) q0 X1 ∧ l = (rfP o thr len (Int32.ofNat n) (Int32.ofNat m) X1 flt fat got lns crs b hh nms rsv)) h0) (hk (rfP o thr len (Int32.ofNat n) (Int32.ofNat m) (Int32.ofNat q0, Y) flt fat got lns crs b hh nms rsv)) h0 164 [(0, .ref 175), (1, .int (pk (b (sk b n 941 q0))))] [] (rfP o thr len (Int32.ofNat n) (Int32.ofNat m) (Int32.ofNat (sk b n 941 q0), Y.1, Int32.ofNat (sk b n 941 q0), Int32.ofInt 0, num, wrd) flt fat got lns crs b hh nms rsv) := by
    intro hlt hltm hA spn num wrd
    have hb := hby (sk b n 941 q0) (by omega)
    have hT : tk b n m q0 = tq b n (sk b n 941 q0) := tk_tq (by omega)
    have hge := ru_ge (b := b) (n := n) 941 (sk b n 941 q0)
    have hle := ru_le (b := b) (n := n) 941 (sk b n 941 q0) (by omega)
    have h1le : (sk b n 941 q0) + 1 ≤ ru b n 941 (sk b n 941 q0) := ru_one (b := b) hlt hA 940
    have hJ : ru b n (n - (sk b n 941 q0)) ((sk b n 941 q0) + 0) = (sk b n 941 q0) + (ru b n 941 (sk b n 941 q0) - (sk b n 941 q0)) := by
      rw [show (sk b n 941 q0) + 0 = (sk b n 941 q0) from rfl, ru_fuel (n - (sk b n 941 q0)) 941 (sk b n 941 q0) (by omega) (by omega)]
      omega
    have hall : ∀ i, i < (ru b n 941 (sk b n 941 q0) - (sk b n 941 q0)) → isA (b ((sk b n 941 q0) + i)) = true := fun i hi => ru_all (n := n) 941 (sk b n 941 q0) ((sk b n 941 q0) + i) (by omega) (by omega)
    have hend : (sk b n 941 q0) + (ru b n 941 (sk b n 941 q0) - (sk b n 941 q0)) = ru b n 941 (sk b n 941 q0) := by omega
    have hexit : ∀ sm, isL (b (sk b n 941 q0)) = sm → kT nj_M nX0 L xs (d + 1) nm_163 (mQ (rfP o thr len (Int32.ofNat n) (Int32.ofNat m) (Int32.ofNat q0, Y) flt fat got lns crs b hh nms rsv) (fun rv l => rv = none ∧ ∃ X1, rT (tk b n m) (decide (m < n)) q0 X1 ∧ l = (rfP o thr len (Int32.ofNat n) (Int32.ofNat m) X1 flt fat got lns crs b hh nms rsv)) h0) (hk (rfP o thr len (Int32.ofNat n) (Int32.ofNat m) (Int32.ofNat q0, Y) flt fat got lns crs b hh nms rsv)) h0 298 [(0, .ref 175), (1, .int (pk (b (sk b n 941 q0)))), (2, .int (b01 sm)), (3, .int (b01 (alP b (fun c => isL c == sm) (sk b n 941 q0) (ru b n 941 (sk b n 941 q0) - (sk b n 941 q0)))))] [] (rfP o thr len (Int32.ofNat n) (Int32.ofNat m) (Int32.ofNat ((sk b n 941 q0) + (ru b n 941 (sk b n 941 q0) - (sk b n 941 q0))), Y.1, Int32.ofNat (sk b n 941 q0), Int32.ofNat (ru b n 941 (sk b n 941 q0) - (sk b n 941 q0)), Int32.ofInt (rnum b (sk b n 941 q0) (min (ru b n 941 (sk b n 941 q0) - (sk b n 941 q0)) 3)), Int64.ofNat (e256 (byl b (sk b n 941 q0) (min (ru b n 941 (sk b n 941 q0) - (sk b n 941 q0)) 7)) 0)) flt fat got lns crs b hh nms rsv) := by
      intro sm hsm
      have h333 : ∀ k : Int32, rT (tk b n m) (decide (m < n)) q0 (Int32.ofNat ((sk b n 941 q0) + (ru b n 941 (sk b n 941 q0) - (sk b n 941 q0))), k, Int32.ofNat (sk b n 941 q0), Int32.ofNat (ru b n 941 (sk b n 941 q0) - (sk b n 941 q0)), Int32.ofInt (rnum b (sk b n 941 q0) (min (ru b n 941 (sk b n 941 q0) - (sk b n 941 q0)) 3)), Int64.ofNat (e256 (byl b (sk b n 941 q0) (min (ru b n 941 (sk b n 941 q0) - (sk b n 941 q0)) 7)) 0)) → kT nj_M nX0 L xs (d + 1) nm_163 (mQ (rfP o thr len (Int32.ofNat n) (Int32.ofNat m) (Int32.ofNat q0, Y) flt fat got lns crs b hh nms rsv) (fun rv l => rv = none ∧ ∃ X1, rT (tk b n m) (decide (m < n)) q0 X1 ∧ l = (rfP o thr len (Int32.ofNat n) (Int32.ofNat m) X1 flt fat got lns crs b hh nms rsv)) h0) (hk (rfP o thr len (Int32.ofNat n) (Int32.ofNat m) (Int32.ofNat q0, Y) flt fat got lns crs b hh nms rsv)) h0 333 [(0, .ref 175), (1, .int (pk (b (sk b n 941 q0)))), (2, .int (b01 sm)), (3, .int (b01 (alP b (fun c => isL c == sm) (sk b n 941 q0) (ru b n 941 (sk b n 941 q0) - (sk b n 941 q0)))))] [.int k, .ref 175] (rfP o thr len (Int32.ofNat n) (Int32.ofNat m) (Int32.ofNat ((sk b n 941 q0) + (ru b n 941 (sk b n 941 q0) - (sk b n 941 q0))), Y.1, Int32.ofNat (sk b n 941 q0), Int32.ofNat (ru b n 941 (sk b n 941 q0) - (sk b n 941 q0)), Int32.ofInt (rnum b (sk b n 941 q0) (min (ru b n 941 (sk b n 941 q0) - (sk b n 941 q0)) 3)), Int64.ofNat (e256 (byl b (sk b n 941 q0) (min (ru b n 941 (sk b n 941 q0) - (sk b n 941 q0)) 7)) 0)) flt fat got lns crs b hh nms rsv) := fun k hr => xw_go nostop 10 (fun K e => And.intro rfl (e _ _ _ _ (kT_end rfl rfl ⟨rfl, _, hr, rfl⟩)))
      cases sm with
      | true =>
        have hnD : ¬ (alP b isD (sk b n 941 q0) (ru b n 941 (sk b n 941 q0) - (sk b n 941 q0)) = true ∧ (ru b n 941 (sk b n 941 q0) - (sk b n 941 q0)) ≤ 3) := fun z => by
          have := isD_i.mp (alP_iff.mp z.1 0 (by omega))
          have := isL_i.mp hsm
          simp only [Nat.add_zero] at *
          omega
        have haeq : alP b (fun c => isL c == true) (sk b n 941 q0) (ru b n 941 (sk b n 941 q0) - (sk b n 941 q0)) = alP b isL (sk b n 941 q0) (ru b n 941 (sk b n 941 q0) - (sk b n 941 q0)) := by
          congr 1
          funext c
          cases isL c <;> rfl
        have hbad : ¬ (alP b isL (sk b n 941 q0) (ru b n 941 (sk b n 941 q0) - (sk b n 941 q0)) = true ∧ (ru b n 941 (sk b n 941 q0) - (sk b n 941 q0)) ≤ 7) → rT (tk b n m) (decide (m < n)) q0 (Int32.ofNat ((sk b n 941 q0) + (ru b n 941 (sk b n 941 q0) - (sk b n 941 q0))), Int32.ofInt 4, Int32.ofNat (sk b n 941 q0), Int32.ofNat (ru b n 941 (sk b n 941 q0) - (sk b n 941 q0)), Int32.ofInt (rnum b (sk b n 941 q0) (min (ru b n 941 (sk b n 941 q0) - (sk b n 941 q0)) 3)), Int64.ofNat (e256 (byl b (sk b n 941 q0) (min (ru b n 941 (sk b n 941 q0) - (sk b n 941 q0)) 7)) 0)) := by
          intro hz
          unfold rT
          rw [hT, tq_bad hA hnD hz, hend]
          exact ⟨rfl, rfl, Or.inr (Or.inl ⟨rfl, rfl⟩)⟩
        have hc7 := (cmp_nat (i := (ru b n 941 (sk b n 941 q0) - (sk b n 941 q0))) (j := 7) (by omega) (by omega)).2.2.2.1
        refine xw_go (fun pc => pc == 333) 20 (fun K e => And.intro (fun c => e _ _ _ _ (h333 _ (hbad (fun z => ?_)))) (fun c => And.intro (fun c2 => nomatch (show false = true from c2)) (fun _ => And.intro (fun c3 => And.intro (fun c2 => nomatch (show false = true from c2)) (fun _ => e _ _ _ _ (h333 _ ?_))) (fun c3 => e _ _ _ _ (h333 _ (hbad (fun z => ?_)))))))
        · have c2 := (cmp_eq01 _).symm.trans c
          rw [haeq, z.1] at c2
          cases c2
        · have c2 := (cmp_eq01 _).symm.trans c
          rw [haeq] at c2
          have hal : alP b isL (sk b n 941 q0) (ru b n 941 (sk b n 941 q0) - (sk b n 941 q0)) = true := by simpa using c2
          have h7 := of_decide_eq_true (hc7.symm.trans c3)
          unfold rT
          rw [hT, tq_wrd hA hnD ⟨hal, h7⟩, hend, Nat.min_eq_left h7]
          refine ⟨rfl, rfl, Or.inr (Or.inr (Or.inl ⟨rfl, rfl, rfl, byl_L _ hal, ?_, ?_⟩))⟩
          · show (byl b _ _).length ≤ 7
            rw [byl_len]; exact h7
          · intro z
            have z2 : (byl b (sk b n 941 q0) (ru b n 941 (sk b n 941 q0) - (sk b n 941 q0))).length = 0 := congrArg List.length z
            rw [byl_len] at z2
            omega
        · have := of_decide_eq_false (hc7.symm.trans c3)
          exact absurd z.2 this
      | false =>
        have hD0 : isD (b (sk b n 941 q0)) = true := by
          rcases isA_or.mp hA with z | z
          · rw [hsm] at z; cases z
          · exact z
        have hnL : ¬ (alP b isL (sk b n 941 q0) (ru b n 941 (sk b n 941 q0) - (sk b n 941 q0)) = true ∧ (ru b n 941 (sk b n 941 q0) - (sk b n 941 q0)) ≤ 7) := fun z => by
          have h1 := alP_iff.mp z.1 0 (by omega)
          simp only [Nat.add_zero] at h1
          rw [hsm] at h1
          cases h1
        have haeq : alP b (fun c => isL c == false) (sk b n 941 q0) (ru b n 941 (sk b n 941 q0) - (sk b n 941 q0)) = alP b isD (sk b n 941 q0) (ru b n 941 (sk b n 941 q0) - (sk b n 941 q0)) := by
          have hiff : alP b (fun c => isL c == false) (sk b n 941 q0) (ru b n 941 (sk b n 941 q0) - (sk b n 941 q0)) = true ↔ alP b isD (sk b n 941 q0) (ru b n 941 (sk b n 941 q0) - (sk b n 941 q0)) = true := by
            rw [alP_iff, alP_iff]
            constructor
            · intro h i hi
              have h1 := h i hi
              rcases isA_or.mp (hall i hi) with z | z
              · simp [z] at h1
              · exact z
            · intro h i hi
              have h1 := isD_i.mp (h i hi)
              cases hl : isL (b ((sk b n 941 q0) + i)) with
              | false => rfl
              | true => have := isL_i.mp hl; omega
          cases h1 : alP b (fun c => isL c == false) (sk b n 941 q0) (ru b n 941 (sk b n 941 q0) - (sk b n 941 q0)) <;> cases h2 : alP b isD (sk b n 941 q0) (ru b n 941 (sk b n 941 q0) - (sk b n 941 q0)) <;> simp_all
        have hbad : ¬ (alP b isD (sk b n 941 q0) (ru b n 941 (sk b n 941 q0) - (sk b n 941 q0)) = true ∧ (ru b n 941 (sk b n 941 q0) - (sk b n 941 q0)) ≤ 3) → rT (tk b n m) (decide (m < n)) q0 (Int32.ofNat ((sk b n 941 q0) + (ru b n 941 (sk b n 941 q0) - (sk b n 941 q0))), Int32.ofInt 4, Int32.ofNat (sk b n 941 q0), Int32.ofNat (ru b n 941 (sk b n 941 q0) - (sk b n 941 q0)), Int32.ofInt (rnum b (sk b n 941 q0) (min (ru b n 941 (sk b n 941 q0) - (sk b n 941 q0)) 3)), Int64.ofNat (e256 (byl b (sk b n 941 q0) (min (ru b n 941 (sk b n 941 q0) - (sk b n 941 q0)) 7)) 0)) := by
          intro hz
          unfold rT
          rw [hT, tq_bad hA hz hnL, hend]
          exact ⟨rfl, rfl, Or.inr (Or.inl ⟨rfl, rfl⟩)⟩
        have hc3 := (cmp_nat (i := (ru b n 941 (sk b n 941 q0) - (sk b n 941 q0))) (j := 3) (by omega) (by omega)).2.2.2.1
        refine xw_go (fun pc => pc == 333) 20 (fun K e => And.intro (fun c => e _ _ _ _ (h333 _ (hbad (fun z => ?_)))) (fun c => And.intro (fun _ => And.intro (fun c3 => And.intro (fun _ => e _ _ _ _ (h333 _ ?_)) (fun c2 => nomatch (show true = false from c2))) (fun c3 => e _ _ _ _ (h333 _ (hbad (fun z => ?_))))) (fun c2 => nomatch (show true = false from c2))))
        · have c2 := (cmp_eq01 _).symm.trans c
          rw [haeq, z.1] at c2
          cases c2
        · have c2 := (cmp_eq01 _).symm.trans c
          rw [haeq] at c2
          have hal : alP b isD (sk b n 941 q0) (ru b n 941 (sk b n 941 q0) - (sk b n 941 q0)) = true := by simpa using c2
          have h3 := of_decide_eq_true (hc3.symm.trans c3)
          unfold rT
          rw [hT, tq_num hA ⟨hal, h3⟩, hend, Nat.min_eq_left h3, rnum_dec _ hal, Int32.ofInt_eq_ofNat]
          exact ⟨rfl, rfl, Or.inr (Or.inr (Or.inr (Or.inl ⟨rfl, rfl, rfl⟩)))⟩
        · have := of_decide_eq_false (hc3.symm.trans c3)
          exact absurd z.2 this
    refine xw_go nostop 10 (fun K e => e _ _ _ _ (kT_call rfl rfl rfl rfl (q_isL _) trivial rfl rfl (fun rv l1 hP _ => ?_)))
    obtain ⟨rfl, rfl⟩ := hP
    rw [pk_L hb]
    exact xw_go (fun pc => pc == 181) 20 (fun K e => And.intro rfl (And.intro rfl (e _ _ _ _ (kT_sort rfl (rrun_loop hn hby (hexit _ rfl) (n - (sk b n 941 q0)) 0 (by omega) hJ (fun i hi => absurd hi (Nat.not_lt_zero i)))))))
  have h80 : ¬ (m < n ∧ m ≤ (sk b n 941 q0)) → kT nj_M nX0 L xs (d + 1) nm_163 (mQ (rfP o thr len (Int32.ofNat n) (Int32.ofNat m) (Int32.ofNat q0, Y) flt fat got lns crs b hh nms rsv) (fun rv l => rv = none ∧ ∃ X1, rT (tk b n m) (decide (m < n)) q0 X1 ∧ l = (rfP o thr len (Int32.ofNat n) (Int32.ofNat m) X1 flt fat got lns crs b hh nms rsv)) h0) (hk (rfP o thr len (Int32.ofNat n) (Int32.ofNat m) (Int32.ofNat q0, Y) flt fat got lns crs b hh nms rsv)) h0 80 [(0, .ref 175)] [] (rfP o thr len (Int32.ofNat n) (Int32.ofNat m) (Int32.ofNat (sk b n 941 q0), Y.1, Int32.ofNat (sk b n 941 q0), Int32.ofInt 0, Y.2.2.2) flt fat got lns crs b hh nms rsv) := by
    intro hcnd
    refine xw_go nostop 10 (fun K e => e _ _ _ _ (kT_call rfl rfl rfl rfl (q_peek (q := (sk b n 941 q0)) hn (by omega)) ⟨rfl, rfl, rfl, rfl, rfl, trivial⟩ rfl rfl (fun rv l1 hP _ => ?_)))
    obtain ⟨rfl, rfl⟩ := hP
    by_cases hlt : (sk b n 941 q0) < n
    · rw [if_pos hlt]
      have hltm : (sk b n 941 q0) < m := by omega
      have hb := hby (sk b n 941 q0) (by omega)
      have hpki := pk_i hb
      have hT : tk b n m q0 = tq b n (sk b n 941 q0) := tk_tq (by omega)
      have hrun' := hrun hlt hltm
      refine xw_go nostop 10 (fun K e => And.intro (fun _ => e _ _ _ _ (kT_call rfl rfl rfl rfl (q_isL _) trivial rfl rfl (fun rv l1 hP _ => ?_))) (fun c => ?_))
      · obtain ⟨rfl, rfl⟩ := hP
        rw [pk_L hb]
        refine xw_go (fun pc => pc == 164) 10 (fun K e => And.intro (fun c => e _ _ _ _ (kT_sort rfl (hrun' (isA_or.mpr (Or.inl ((cmp_ne01 _).symm.trans c))) 0 _ _))) (fun c => e _ _ _ _ (kT_call rfl rfl rfl rfl (q_isD _) trivial rfl rfl (fun rv l1 hP _ => ?_))))
        obtain ⟨rfl, rfl⟩ := hP
        rw [pk_D hb]
        have hL := (cmp_ne01 _).symm.trans c
        have h145 : ∀ k : Int32, isA (b (sk b n 941 q0)) = false → ((isS (b (sk b n 941 q0)) = true ∧ k = 3) ∨ (isS (b (sk b n 941 q0)) = false ∧ k = 4)) → kT nj_M nX0 L xs (d + 1) nm_163 (mQ (rfP o thr len (Int32.ofNat n) (Int32.ofNat m) (Int32.ofNat q0, Y) flt fat got lns crs b hh nms rsv) (fun rv l => rv = none ∧ ∃ X1, rT (tk b n m) (decide (m < n)) q0 X1 ∧ l = (rfP o thr len (Int32.ofNat n) (Int32.ofNat m) X1 flt fat got lns crs b hh nms rsv)) h0) (hk (rfP o thr len (Int32.ofNat n) (Int32.ofNat m) (Int32.ofNat q0, Y) flt fat got lns crs b hh nms rsv)) h0 145 [(0, .ref 175), (1, .int (pk (b (sk b n 941 q0))))] [.int k, .ref 175] (rfP o thr len (Int32.ofNat n) (Int32.ofNat m) (Int32.ofNat (sk b n 941 q0), Y.1, Int32.ofNat (sk b n 941 q0), Int32.ofInt 0, Y.2.2.2) flt fat got lns crs b hh nms rsv) := by
          intro k hA hk
          refine xw_go nostop 20 (fun K e => And.intro rfl (And.intro rfl (And.intro rfl (e _ _ _ _ (kT_end rfl rfl ⟨rfl, (Int32.ofNat (sk b n 941 q0) + Int32.ofInt 1, k, Int32.ofNat (sk b n 941 q0), Int32.ofInt 0, pk (b (sk b n 941 q0)), Y.2.2.2.2), ?_, rfl⟩)))))
          rw [i32_succ]
          unfold rT
          rw [hT]
          rcases hk with ⟨hS, rfl⟩ | ⟨hS, rfl⟩
          · have hSi := isS_i hS
            have e1 : tq b n (sk b n 941 q0) = ((b (sk b n 941 q0)).toInt.toNat, (sk b n 941 q0), [], 0, (sk b n 941 q0) + 1) := by
              unfold tq
              rw [if_neg (by rw [hA]; decide), if_pos hS]
            rw [e1]
            refine ⟨rfl, rfl, Or.inr (Or.inr (Or.inr (Or.inr ⟨?_, ?_, rfl, ?_⟩)))⟩
            · show 40 ≤ (b (sk b n 941 q0)).toInt.toNat
              omega
            · show (b (sk b n 941 q0)).toInt.toNat ≤ 62
              omega
            · apply Int32.toInt_inj.mp
              show (pk (b (sk b n 941 q0))).toInt = (Int32.ofNat (b (sk b n 941 q0)).toInt.toNat).toInt
              rw [hpki, if_pos (by omega), i32_small (by omega)]
              omega
          · have e1 : tq b n (sk b n 941 q0) = (1, (sk b n 941 q0), [], 0, (sk b n 941 q0) + 1) := by
              unfold tq
              rw [if_neg (by rw [hA]; decide), if_neg (by rw [hS]; decide)]
            rw [e1]
            exact ⟨rfl, rfl, Or.inr (Or.inl ⟨rfl, rfl⟩)⟩
        refine xw_go (fun pc => pc == 164 || pc == 145) 30 (fun K e => And.intro (fun c2 => e _ _ _ _ (kT_sort rfl (hrun' (isA_or.mpr (Or.inr ((cmp_ne01 _).symm.trans c2))) 0 _ _))) (fun c2 => ?_))
        have hD := (cmp_ne01 _).symm.trans c2
        have hA : isA (b (sk b n 941 q0)) = false := by unfold isA; rw [hL, hD]; rfl
        have hpi : (pk (b (sk b n 941 q0))).toInt = 59 → isS (b (sk b n 941 q0)) = true := fun z => isS_iff.mpr (by split at hpki <;> omega)
        refine And.intro (fun c3 => e _ _ _ _ (kT_sort rfl (h145 _ hA (Or.inl ⟨?_, rfl⟩)))) (fun c3 => And.intro (fun c4 => e _ _ _ _ (kT_sort rfl (h145 _ hA (Or.inl ⟨?_, rfl⟩)))) (fun c4 => And.intro (fun c5 => e _ _ _ _ (kT_sort rfl (h145 _ hA (Or.inl ⟨?_, rfl⟩)))) (fun c5 => And.intro (fun c6 => e _ _ _ _ (kT_sort rfl (h145 _ hA (Or.inr ⟨?_, rfl⟩)))) (fun c6 => And.intro (fun c7 => e _ _ _ _ (kT_sort rfl (h145 _ hA (Or.inr ⟨?_, rfl⟩)))) (fun c7 => e _ _ _ _ (kT_sort rfl (h145 _ hA (Or.inl ⟨?_, rfl⟩))))))))
        · have z := congrArg Int32.toInt (of_decide_eq_true (show decide (pk (b (sk b n 941 q0)) = 59) = true from c3))
          have e9 : (59 : Int32).toInt = 59 := rfl
          exact isS_iff.mpr (by split at hpki <;> omega)
        · have z := congrArg Int32.toInt (of_decide_eq_true (show decide (pk (b (sk b n 941 q0)) = 40) = true from c4))
          have e9 : (40 : Int32).toInt = 40 := rfl
          exact isS_iff.mpr (by split at hpki <;> omega)
        · have z := congrArg Int32.toInt (of_decide_eq_true (show decide (pk (b (sk b n 941 q0)) = 41) = true from c5))
          have e9 : (41 : Int32).toInt = 41 := rfl
          exact isS_iff.mpr (by split at hpki <;> omega)
        · have z := Int32.lt_iff_toInt_lt.mp (of_decide_eq_true (show decide (pk (b (sk b n 941 q0)) < 60) = true from c6))
          have e9 : (60 : Int32).toInt = 60 := rfl
          have z3 : ¬ (pk (b (sk b n 941 q0))).toInt = (59 : Int32).toInt := fun y => of_decide_eq_false (show decide (pk (b (sk b n 941 q0)) = 59) = false from c3) (Int32.toInt_inj.mp y)
          have z4 : ¬ (pk (b (sk b n 941 q0))).toInt = (40 : Int32).toInt := fun y => of_decide_eq_false (show decide (pk (b (sk b n 941 q0)) = 40) = false from c4) (Int32.toInt_inj.mp y)
          have z5 : ¬ (pk (b (sk b n 941 q0))).toInt = (41 : Int32).toInt := fun y => of_decide_eq_false (show decide (pk (b (sk b n 941 q0)) = 41) = false from c5) (Int32.toInt_inj.mp y)
          have e3 : (59 : Int32).toInt = 59 := rfl
          have e4 : (40 : Int32).toInt = 40 := rfl
          have e5 : (41 : Int32).toInt = 41 := rfl
          cases hS : isS (b (sk b n 941 q0)) with
          | false => rfl
          | true =>
            have := isS_iff.mp hS
            split at hpki <;> omega
        · have z := Int32.lt_iff_toInt_lt.mp (of_decide_eq_true (show decide ((62 : Int32) < pk (b (sk b n 941 q0))) = true from c7))
          have e9 : (62 : Int32).toInt = 62 := rfl
          cases hS : isS (b (sk b n 941 q0)) with
          | false => rfl
          | true =>
            have := isS_iff.mp hS
            split at hpki <;> omega
        · have z6 : ¬ (pk (b (sk b n 941 q0))).toInt < (60 : Int32).toInt := fun y => of_decide_eq_false (show decide (pk (b (sk b n 941 q0)) < 60) = false from c6) (Int32.lt_iff_toInt_lt.mpr y)
          have z7 : ¬ (62 : Int32).toInt < (pk (b (sk b n 941 q0))).toInt := fun y => of_decide_eq_false (show decide ((62 : Int32) < pk (b (sk b n 941 q0))) = false from c7) (Int32.lt_iff_toInt_lt.mpr y)
          have e9 : (62 : Int32).toInt = 62 := rfl
          have e8 : (60 : Int32).toInt = 60 := rfl
          exact isS_iff.mpr (by split at hpki <;> omega)
      · exfalso
        have z := of_decide_eq_false (show decide ((0 : Int32) ≤ pk (b (sk b n 941 q0))) = false from c)
        apply z
        rw [Int32.le_iff_toInt_le]
        have e0 : (0 : Int32).toInt = 0 := rfl
        split at hpki <;> omega
    · rw [if_neg hlt]
      have hE := tk_end (b := b) (n := n) (m := m) (p := q0) (by omega)
      refine xw_go nostop 10 (fun K e => And.intro (fun c => nomatch (show false = true from c)) (fun _ => And.intro rfl (e _ _ _ _ (kT_end rfl rfl ⟨rfl, (Int32.ofNat (sk b n 941 q0), 0, Int32.ofNat (sk b n 941 q0), Int32.ofInt 0, Y.2.2.2), ?_, rfl⟩))))
      unfold rT
      rw [hE, decide_eq_false (by omega)]
      refine ⟨rfl, ?_, Or.inl ⟨rfl, rfl⟩⟩
      show Int32.ofNat (sk b n 941 q0) = Int32.ofNat (min n m)
      rw [show min n m = (sk b n 941 q0) from by omega]
  refine skip_loop (Z := (sk b n 941 q0)) hn hby ?_ (n - q0) q0 (by omega) rfl
  have hcle := (cmp_nat (i := n) (j := m) (by omega) (by omega)).2.2.2.1
  have hclt := (cmp_nat (i := (sk b n 941 q0)) (j := m) (by omega) (by omega)).2.1
  refine xw_go (fun pc => pc == 80) 40 (fun K e => And.intro rfl (And.intro rfl (And.intro (fun c => e _ _ _ _ (h80 ?_)) (fun c => And.intro (fun c2 => e _ _ _ _ (h80 ?_)) (fun c2 => And.intro rfl (And.intro rfl (e _ _ _ _ (kT_end rfl rfl ⟨rfl, (Int32.ofNat (sk b n 941 q0), 4, Int32.ofNat m, Int32.ofInt 0, Y.2.2.2), ?_, rfl⟩))))))))
  · have := of_decide_eq_true (hcle.symm.trans c)
    omega
  · have := of_decide_eq_true (hclt.symm.trans c2)
    omega
  · have h1 := of_decide_eq_false (hcle.symm.trans c)
    have h2 := of_decide_eq_false (hclt.symm.trans c2)
    have hE := tk_end (b := b) (n := n) (m := m) (p := q0) (by omega)
    unfold rT
    rw [hE, decide_eq_true (by omega)]
    refine ⟨rfl, ?_, Or.inl ⟨rfl, rfl⟩⟩
    show Int32.ofNat m = Int32.ofNat (min n m)
    rw [show min n m = m from by omega]
end RFC
