theorem a_i8 {n : Int} (h : -128 ≤ n ∧ n ≤ 127) : (Int8.ofInt n).toInt32 = Int32.ofInt n := by
  apply Int32.toInt_inj.mp
  rw [Int8.toInt_toInt32, Int8.toInt_ofInt, a32 (by omega) (by omega), Int.bmod_def]
  have : ((2 ^ 8 : Nat) : Int) = 256 := rfl
  simp only [this]
  omega
theorem a_i16 {n : Int} (h : -32768 ≤ n ∧ n ≤ 32767) : (Int16.ofInt n).toInt32 = Int32.ofInt n := by
  apply Int32.toInt_inj.mp
  rw [Int16.toInt_toInt32, Int16.toInt_ofInt, a32 (by omega) (by omega), Int.bmod_def]
  have : ((2 ^ 16 : Nat) : Int) = 65536 := rfl
  simp only [this]
  omega
theorem a_lcmp (x y : Int64) : -1 ≤ (lg_cmp x y).toInt ∧ (lg_cmp x y).toInt ≤ 1 := by
  unfold lg_cmp
  repeat' split
  all_goals decide
section AP4
variable {S : List Nat} {h : List nC} {nu : List Int} {mu : List Nat} {s : aS} {pc mL : Nat} {lv : nLv} {st : List Value} {al : List (Nat × aV)} {ast : List aV} {l : List aY}
set_option maxHeartbeats 4000000 in
theorem p_pure {i : Instr} (k : aOk S h nu mu s) (hl : aLv nu mu al lv) (hs : aSt nu mu ast st) (hr : aPure s mL pc al ast i = some l) : ∃ r, nj_pure lv mL pc st i = some r ∧ aNx S h nu mu l r := by
  cases i with
  | iconst n => cases hr; exact ⟨_, rfl, aNx.one rfl k hl ⟨rfl, hs⟩⟩
  | bipush n =>
    simp only [aPure] at hr
    split at hr
    · next hc => cases hr; exact ⟨(pc + 2, lv, .int (Int8.ofInt n).toInt32 :: st), rfl, aNx.one rfl k hl ⟨by rw [a_i8 hc]; rfl, hs⟩⟩
    · cases hr
  | sipush n =>
    simp only [aPure] at hr
    split at hr
    · next hc => cases hr; exact ⟨(pc + 3, lv, .int (Int16.ofInt n).toInt32 :: st), rfl, aNx.one rfl k hl ⟨by rw [a_i16 hc]; rfl, hs⟩⟩
    · cases hr
  | lconst n => cases hr; exact ⟨_, rfl, aNx.one rfl k hl ⟨⟨_, rfl⟩, hs⟩⟩
  | iload_n kx =>
    obtain ⟨x, v, hf, g1, g2, g3⟩ := aLoad_ok k hl hs hr
    obtain ⟨y, rfl⟩ := aIsI_v hf g2
    exact ⟨_, by simp only [nj_pure, nj_ldi, g1], g3⟩
  | iload kx =>
    obtain ⟨x, v, hf, g1, g2, g3⟩ := aLoad_ok k hl hs hr
    obtain ⟨y, rfl⟩ := aIsI_v hf g2
    exact ⟨_, by simp only [nj_pure, nj_ldi, g1], g3⟩
  | lload_n kx =>
    obtain ⟨x, v, hf, g1, g2, g3⟩ := aLoad_ok k hl hs hr
    obtain ⟨y, rfl⟩ := aIsL_v hf g2
    exact ⟨_, by simp only [nj_pure, nj_ldl, g1], g3⟩
  | lload kx =>
    obtain ⟨x, v, hf, g1, g2, g3⟩ := aLoad_ok k hl hs hr
    obtain ⟨y, rfl⟩ := aIsL_v hf g2
    exact ⟨_, by simp only [nj_pure, nj_ldl, g1], g3⟩
  | aload_n kx =>
    obtain ⟨x, v, hf, g1, g2, g3⟩ := aLoad_ok k hl hs hr
    rcases aIsR_v hf g2 with ⟨y, rfl⟩ | ⟨y, rfl⟩
    · exact ⟨_, by simp only [nj_pure, nj_lda, g1], g3⟩
    · exact ⟨_, by simp only [nj_pure, nj_lda, g1], g3⟩
  | aload kx =>
    obtain ⟨x, v, hf, g1, g2, g3⟩ := aLoad_ok k hl hs hr
    rcases aIsR_v hf g2 with ⟨y, rfl⟩ | ⟨y, rfl⟩
    · exact ⟨_, by simp only [nj_pure, nj_lda, g1], g3⟩
    · exact ⟨_, by simp only [nj_pure, nj_lda, g1], g3⟩
  | istore_n kx =>
    obtain ⟨x, v, rst, hf, rfl, g2, g4, g3⟩ := aStore_ok k hl hs hr
    obtain ⟨y, rfl⟩ := aIsI_v hf g2
    exact ⟨_, by simp only [nj_pure, nj_sti, if_pos g4], g3⟩
  | istore kx =>
    obtain ⟨x, v, rst, hf, rfl, g2, g4, g3⟩ := aStore_ok k hl hs hr
    obtain ⟨y, rfl⟩ := aIsI_v hf g2
    exact ⟨_, by simp only [nj_pure, nj_sti, if_pos g4], g3⟩
  | astore_n kx =>
    obtain ⟨x, v, rst, hf, rfl, g2, g4, g3⟩ := aStore_ok k hl hs hr
    rcases aIsR_v hf g2 with ⟨y, rfl⟩ | ⟨y, rfl⟩
    · exact ⟨_, by simp only [nj_pure, nj_sta, if_pos g4], g3⟩
    · exact ⟨_, by simp only [nj_pure, nj_sta, if_pos g4], g3⟩
  | astore kx =>
    obtain ⟨x, v, rst, hf, rfl, g2, g4, g3⟩ := aStore_ok k hl hs hr
    rcases aIsR_v hf g2 with ⟨y, rfl⟩ | ⟨y, rfl⟩
    · exact ⟨_, by simp only [nj_pure, nj_sta, if_pos g4], g3⟩
    · exact ⟨_, by simp only [nj_pure, nj_sta, if_pos g4], g3⟩
  | lstore_n kx =>
    simp only [aPure] at hr
    split at hr
    · next x r =>
      split at hr
      · next hc =>
        cases hr
        obtain ⟨v, rst, rfl, hx, hrst⟩ := hs.cons
        obtain ⟨y, rfl⟩ := aIsL_v hc.1 hx
        exact ⟨(pc + 1, nj_put2 lv kx (.long y), rst), by simp only [nj_pure, nj_stl, if_pos hc.2], aNx.one rfl k (aPut2_ok hl hx) hrst⟩
      · cases hr
    · cases hr
  | iinc kx n =>
    simp only [aPure] at hr
    split at hr
    · next x hx =>
      split at hr
      · next hc =>
        cases hr
        obtain ⟨v, g1, g2⟩ := aGetL_ok hl hx
        obtain ⟨y, rfl⟩ := aIsI_v hc.1 g2
        exact ⟨(pc + 3, nj_put lv kx (.int (y + Int32.ofInt n)), st), by simp only [nj_pure, g1, if_pos hc.2], by
          obtain ⟨nu1, X1, k1, a1⟩ := aAddN_ok k g2 n
          exact ⟨nu1, X1, _, List.mem_singleton.mpr rfl, rfl, k1, aPut_ok (hl.x X1) a1, hs.x X1⟩⟩
      · cases hr
    · cases hr
  | iadd => obtain ⟨x, y, rst, rfl, g⟩ := aB2_ok (i := .iadd) (pc := pc) k hl hs hr; exact ⟨_, rfl, g⟩
  | isub => obtain ⟨x, y, rst, rfl, g⟩ := aB2_ok (i := .isub) (pc := pc) k hl hs hr; exact ⟨_, rfl, g⟩
  | imul => obtain ⟨x, y, rst, rfl, g⟩ := aB2_ok (i := .imul) (pc := pc) k hl hs hr; exact ⟨_, rfl, g⟩
  | iand => obtain ⟨x, y, rst, rfl, g⟩ := aB2_ok (i := .iand) (pc := pc) k hl hs hr; exact ⟨_, rfl, g⟩
  | ior => obtain ⟨x, y, rst, rfl, g⟩ := aB2_ok (i := .ior) (pc := pc) k hl hs hr; exact ⟨_, rfl, g⟩
  | ixor => obtain ⟨x, y, rst, rfl, g⟩ := aB2_ok (i := .ixor) (pc := pc) k hl hs hr; exact ⟨_, rfl, g⟩
  | ishl => obtain ⟨x, y, rst, rfl, g⟩ := aB2_ok (i := .ishl) (pc := pc) k hl hs hr; exact ⟨_, rfl, g⟩
  | ishr => obtain ⟨x, y, rst, rfl, g⟩ := aB2_ok (i := .ishr) (pc := pc) k hl hs hr; exact ⟨_, rfl, g⟩
  | iushr => obtain ⟨x, y, rst, rfl, g⟩ := aB2_ok (i := .iushr) (pc := pc) k hl hs hr; exact ⟨_, rfl, g⟩
  | irem =>
    obtain ⟨x, y, rst, rfl, hy, g⟩ := aRem_ok k hl hs hr
    exact ⟨_, by simp only [nj_pure, if_neg hy], g⟩
  | ladd =>
    simp only [aPure] at hr
    split at hr
    · split at hr
      · next hc =>
        cases hr
        obtain ⟨v0, rst0, rfl, hy, hrst0⟩ := hs.cons
        obtain ⟨v1, rst, rfl, hx, hrst⟩ := hrst0.cons
        obtain ⟨x0, rfl⟩ := aIsL_v hc.1 hx
        obtain ⟨y0, rfl⟩ := aIsL_v hc.2 hy
        exact ⟨_, rfl, aNx.one rfl k hl ⟨⟨_, rfl⟩, hrst⟩⟩
      · cases hr
    · cases hr
  | lsub =>
    simp only [aPure] at hr
    split at hr
    · split at hr
      · next hc =>
        cases hr
        obtain ⟨v0, rst0, rfl, hy, hrst0⟩ := hs.cons
        obtain ⟨v1, rst, rfl, hx, hrst⟩ := hrst0.cons
        obtain ⟨x0, rfl⟩ := aIsL_v hc.1 hx
        obtain ⟨y0, rfl⟩ := aIsL_v hc.2 hy
        exact ⟨_, rfl, aNx.one rfl k hl ⟨⟨_, rfl⟩, hrst⟩⟩
      · cases hr
    · cases hr
  | lmul =>
    simp only [aPure] at hr
    split at hr
    · split at hr
      · next hc =>
        cases hr
        obtain ⟨v0, rst0, rfl, hy, hrst0⟩ := hs.cons
        obtain ⟨v1, rst, rfl, hx, hrst⟩ := hrst0.cons
        obtain ⟨x0, rfl⟩ := aIsL_v hc.1 hx
        obtain ⟨y0, rfl⟩ := aIsL_v hc.2 hy
        exact ⟨_, rfl, aNx.one rfl k hl ⟨⟨_, rfl⟩, hrst⟩⟩
      · cases hr
    · cases hr
  | lor =>
    simp only [aPure] at hr
    split at hr
    · split at hr
      · next hc =>
        cases hr
        obtain ⟨v0, rst0, rfl, hy, hrst0⟩ := hs.cons
        obtain ⟨v1, rst, rfl, hx, hrst⟩ := hrst0.cons
        obtain ⟨x0, rfl⟩ := aIsL_v hc.1 hx
        obtain ⟨y0, rfl⟩ := aIsL_v hc.2 hy
        exact ⟨_, rfl, aNx.one rfl k hl ⟨⟨_, rfl⟩, hrst⟩⟩
      · cases hr
    · cases hr
  | lshl =>
    simp only [aPure] at hr
    split at hr
    · split at hr
      · next hc =>
        cases hr
        obtain ⟨v0, rst0, rfl, hy, hrst0⟩ := hs.cons
        obtain ⟨v1, rst, rfl, hx, hrst⟩ := hrst0.cons
        obtain ⟨x0, rfl⟩ := aIsL_v hc.1 hx
        obtain ⟨y0, rfl⟩ := aIsI_v hc.2 hy
        exact ⟨_, rfl, aNx.one rfl k hl ⟨⟨_, rfl⟩, hrst⟩⟩
      · cases hr
    · cases hr
  | lcmp =>
    simp only [aPure] at hr
    split at hr
    · split at hr
      · next hc =>
        cases hr
        obtain ⟨v0, rst0, rfl, hy, hrst0⟩ := hs.cons
        obtain ⟨v1, rst, rfl, hx, hrst⟩ := hrst0.cons
        obtain ⟨x0, rfl⟩ := aIsL_v hc.1 hx
        obtain ⟨y0, rfl⟩ := aIsL_v hc.2 hy
        exact ⟨_, rfl, aNx.new k hl hrst (a_lcmp x0 y0)⟩
      · cases hr
    · cases hr
  | i2l =>
    simp only [aPure] at hr
    split at hr
    · split at hr
      · next hc =>
        cases hr
        obtain ⟨v0, rst, rfl, hx, hrst⟩ := hs.cons
        obtain ⟨x0, rfl⟩ := aIsI_v hc hx
        exact ⟨_, rfl, aNx.one rfl k hl ⟨⟨_, rfl⟩, hrst⟩⟩
      · cases hr
    · cases hr
  | l2i =>
    simp only [aPure] at hr
    split at hr
    · split at hr
      · next hc =>
        cases hr
        obtain ⟨v0, rst, rfl, hx, hrst⟩ := hs.cons
        obtain ⟨x0, rfl⟩ := aIsL_v hc hx
        exact ⟨_, rfl, aNx.new k hl hrst (aFull_ok _)⟩
      · cases hr
    · cases hr
  | i2b =>
    simp only [aPure] at hr
    split at hr
    · split at hr
      · next hc =>
        cases hr
        obtain ⟨v0, rst, rfl, hx, hrst⟩ := hs.cons
        obtain ⟨x0, rfl⟩ := aIsI_v hc hx
        have := nar_byte x0
        rw [vp_nar_byte] at this
        exact ⟨_, rfl, aNx.new k hl hrst this⟩
      · cases hr
    · cases hr
  | dup =>
    simp only [aPure] at hr
    split at hr
    · split at hr
      · next hc =>
        cases hr
        obtain ⟨v0, rst, rfl, hx, hrst⟩ := hs.cons
        have hcat : v0.category = 1 := by rw [aR_cat hx]; exact hc
        exact ⟨(pc + 1, lv, v0 :: v0 :: rst), by simp only [nj_pure, if_pos hcat], aNx.one rfl k hl ⟨hx, hx, hrst⟩⟩
      · cases hr
    · cases hr
  | pop =>
    simp only [aPure] at hr
    split at hr
    · split at hr
      · next hc =>
        cases hr
        obtain ⟨v0, rst, rfl, hx, hrst⟩ := hs.cons
        have hcat : v0.category = 1 := by rw [aR_cat hx]; exact hc
        exact ⟨(pc + 1, lv, rst), by simp only [nj_pure, if_pos hcat], aNx.one rfl k hl hrst⟩
      · cases hr
    · cases hr
  | dup2 =>
    simp only [aPure] at hr
    split at hr
    · split at hr
      · next hc =>
        cases hr
        obtain ⟨v0, rst0, rfl, hx, hrst0⟩ := hs.cons
        obtain ⟨v1, rst, rfl, hy, hrst⟩ := hrst0.cons
        have hcat : v0.category = 1 ∧ v1.category = 1 := by rw [aR_cat hx, aR_cat hy]; exact hc
        exact ⟨(pc + 1, lv, v0 :: v1 :: v0 :: v1 :: rst), by simp only [nj_pure, if_pos hcat], aNx.one rfl k hl ⟨hx, hy, hx, hy, hrst⟩⟩
      · cases hr
    · cases hr
  | ifCond c off =>
    simp only [aPure] at hr
    split at hr
    · next x r =>
      obtain ⟨v0, rst, rfl, hx, hrst⟩ := hs.cons
      have hc : aIsI x = true := by
        unfold aBr at hr
        split at hr
        · next hc => exact hc.2.1
        · cases hr
      obtain ⟨x0, rfl⟩ := aIsI_v hc hx
      exact aBr_ok k hl hrst hx (b := .inl 0) (y := 0) rfl hr
    · cases hr
  | if_icmp c off =>
    simp only [aPure] at hr
    split at hr
    · next y x r =>
      obtain ⟨v0, rst0, rfl, hy, hrst0⟩ := hs.cons
      obtain ⟨v1, rst, rfl, hx, hrst⟩ := hrst0.cons
      have hc : aIsI x = true ∧ aIsI y = true := by
        unfold aBr at hr
        split at hr
        · next hc => exact hc.2
        · cases hr
      obtain ⟨x0, rfl⟩ := aIsI_v hc.1 hx
      obtain ⟨y0, rfl⟩ := aIsI_v hc.2 hy
      exact aBr_ok k hl hrst hx hy hr
    · cases hr
  | goto off =>
    simp only [aPure] at hr
    split at hr
    · next y hy =>
      cases hr
      obtain ⟨g1, g2⟩ := aGo_ok (lv := lv) (st := st) hy
      exact ⟨_, g1, by rw [g2]; exact aNx.one rfl k hl hs⟩
    · cases hr
  | tableswitch d lo hi offs =>
    simp only [aPure] at hr
    split at hr
    · next x r =>
      obtain ⟨v0, rst, rfl, hx, hrst⟩ := hs.cons
      have hc : aIsI x = true := by
        unfold aTsw at hr
        split at hr
        · next hc => exact hc.1
        · cases hr
      obtain ⟨x0, rfl⟩ := aIsI_v hc hx
      exact aTsw_ok k hl hrst hx hr
    · cases hr
  | lookupswitch d ps =>
    simp only [aPure] at hr
    split at hr
    · next x r =>
      obtain ⟨v0, rst, rfl, hx, hrst⟩ := hs.cons
      unfold aLsw at hr
      split at hr
      · next hc =>
        obtain ⟨x0, rfl⟩ := aIsI_v hc.1 hx
        split at hr
        · next y l0 hy hsw =>
          cases hr
          simp only [nj_pure, if_pos hc.2.1]
          obtain ⟨g1, g2⟩ := aGo_ok (lv := lv) (st := rst) hy
          rcases aSw_ok (pc := pc) k hl hrst hx hc.1 ps.toList d l0 hc.2.2 hsw with e | ⟨r1, e1, e2⟩
          · rw [e.2]
            refine ⟨_, g1, ?_⟩
            rw [g2]
            exact (aGap_ok k hl hrst hx ps.toList none (fun b hb => by cases hb) e.1).app1 (l2 := l0)
          · exact ⟨r1, e1, e2.app2⟩
        · cases hr
      · cases hr
    · cases hr
  | _ => exact nomatch (show (none : Option (List aY)) = some l from hr)
end AP4
