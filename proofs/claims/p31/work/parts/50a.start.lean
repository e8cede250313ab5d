/-! THE CLAIM OUT OF ONE WALK OF THE LAW'S BODY. Your part is whole_start (and what it stands on); all else here is the same for every law, but numbers. -/
def R_law : String := "SlipHeirsLaw"
def lw_P (b : Addr) (xs : List Int32) (args : Array Value) (s : State) : Prop := args = #[.ref b] ∧ s.IntsAt b xs ∧ xs.length ≤ 3072 ∧ (Jvm.Cond.and given_1 narrow_1).before args s = true
def lw_Q (_ : Array Value) (s : State) (o : Outcome) (t : State) : Prop := o = .returned (some (.int 1)) ∧ Framed s o t [] 601024 7293034
def lw_Z (below : List Frame) (a : Array Value) (s : State) : State → Prop := fun t => ∃ o, t.status = .running ∧ Ended t below o ∧ lw_Q a s o t
/-- the law's own end, with 1 on the stack, nothing written that was there before, its room as the claim has it -/
theorem lw_ret {p : Program} {l : Launch} {e : Env} {s : State} {m : MethodId} {below : List Frame} {meth : Method} {c : Code} {b : Nat} (hx : p.tables.exec = Jvm.exec) (hb : c.code = code) (hr : meth.sig.returnType = ret) (hlocks : meth.locks = false) {pc : Nat} {H : Heap} {ls : Array Slot} (hdg : decode code pc = .ok (.ireturn, 1)) : W p l e room_1 s m #[Value.ref b] below meth c H [] 601024 7293034 (lw_Z below #[Value.ref b] s) (F0 m pc ls [.int 1]) := by
  intro T hT X
  obtain ⟨fs, hret, hrun, hended, hW, hframe⟩ := X.leave (v := some (.int 1)) (hlocks := hlocks) (fun h => by rw [hr] at h; cases h)
  have hmeth' : T.vm.method? m = some meth := X.method'
  refine ⟨T.setFrames fs, ?_, .returned (some (.int 1)), hrun, hended, rfl, ⟨_, rfl⟩, hW, hframe⟩
  jvm_step X.here [X.here.top, hx, hb, hdg, hmeth', hr, ret, narrow_b1]
  (try refine ⟨rfl, ?_⟩); (try refine ⟨rfl, ?_⟩)
  first | (intro acts; rw [hret _ acts rfl rfl rfl]) | rw [hret _ _ rfl rfl rfl]
  exact Steps.refl _
/-- what holds at the law's entry: the machine, the code, the tables' words (any of lw_tbl by 'hts w (by decide +kernel)'), the script of L ints xs at the cell b, what the Statement gives of the start (any of its parts by flat_of_before) -/
def lw_At (p : Program) (s : State) (m : MethodId) (meth : Method) (c : Code) (b L : Nat) (xs : Nat → Int32) : Prop :=
  p.tables.exec = Jvm.exec ∧ c.code = code ∧ meth.sig.returnType = ret ∧ c.maxLocals = 7 ∧ s.vm.findClass R_law = some m.cls ∧ (∀ w ∈ lw_tbl, w.before #[Value.ref b] s = true) ∧ va_X b L xs s s.heap ∧ b < s.heap.size ∧ meth.locks = false ∧ (Jvm.Cond.and given_1 narrow_1).before #[Value.ref b] s = true
set_option maxRecDepth 100000 in
theorem whole_start {p : Program} {e : Env} {s : State} {m : MethodId} {below : List Frame} {meth : Method} {c : Code} (l : Launch) (hl0 : l.stackTraces = false) {b L : Nat} {xs : Nat → Int32} (hL : L ≤ 3072) (C0 : lw_At p s m meth c b L xs) : W p l e room_1 s m #[Value.ref b] below meth c s.heap [] 0 0 (lw_Z below #[Value.ref b] s) (entryFrame m ([Value.ref b] : List Value).toArray 7) := by
  obtain ⟨hx, hb, hr, hml, hown, hts, hX, hbl, hlocks, hgv⟩ := id C0
  obtain ⟨ext, cA, D, e0, hE, hK, hT⟩ := nj_start hts hX hbl hgv
  have hl := lv_entry ([.ref b]) (n := 7) (Nat.le_of_ble_eq_true rfl)
  rw [lg_entry_eq]
  generalize (lg_sl ([.ref b]) ++ List.replicate (7 - (lg_sl ([.ref b])).length) Slot.unset).toArray = ls at hl ⊢
  have hl : lv_has ls 7 [(0, .ref b)] := hl
  have hl2 : lv_has ls nm_265.2.2.1 (nj_rlv s.heap.size ext (lv_args 0 [.retAddr 0])) := by
    have e1 : nj_rlv s.heap.size ext (lv_args 0 [.retAddr 0]) = [(0, .ref b)] := by
      show [(0, va_rf (ext 0))] = [(0, Value.ref b)]
      rw [e0]
      rfl
    rw [e1]
    exact hl
  have hCx : nj_Cx s.heap.size ext cA D L xs nm_265 p s m #[Value.ref b] meth c := ⟨hx, hb, hml, fun w hw => hts w (List.mem_filter.mp hw).1, hown, hK, hE, fun hi => absurd hi (by decide)⟩
  obtain ⟨n, h1, g1, mc, ms, er, e1, e2⟩ := law_small (X := lX L xs) (C := (1, 6)) (d1 := 31) (L := L) (xs := xs) (by decide) x_hX hL
  have e1 : mc ≤ 196 + 1 * 512 := e1
  have e2 : ms ≤ 8948 + 6 * 512 := e2
  refine law_sim hl0 n 32 0 (lv_args 0 [.retAddr 0]) [] [] 0 _ h1 g1 mc ms (by decide) er p e room_1 s m _ below meth c s.heap [] 0 0 _ ls hCx hT hl2 ⟨fun k q hk => by simp [nj_ws] at hk, va_S.rf, rfl, rfl⟩ (show 32 + 1 ≤ 2048 by decide) (show 64 * (32 + 1) ≤ 84000 by decide) (show 0 + mc ≤ 601024 by omega) (show 0 + ms ≤ 7293034 by omega) ?_
  intro H1 locs1 pc1 ls1 i st1 hst hdec hret
  refine va_forget (fun q hq => hst.2.1.2.2 q hq) ?_
  refine W.widen (k := 601024) (n := 7293034) (by omega) (by omega) ?_
  cases i with
  | ireturn =>
    have hret2 : nj_ret (some .boolean) .ireturn st1 = some (some (.int (Int32.ofInt 1))) := hret
    simp only [nj_ret] at hret2
    split at hret2
    · next _ x _ hty =>
      split at hret2
      · have hx1 : x = Int32.ofInt 1 := Value.int.inj (Option.some.inj (Option.some.inj hret2))
        subst hx1
        exact lw_ret hx hb hr hlocks hdec
      · cases hret2
    · cases hret2
  | lreturn =>
    have hret2 : nj_ret (some .boolean) .lreturn st1 = some (some (.int (Int32.ofInt 1))) := hret
    simp only [nj_ret] at hret2
    split at hret2
    · split at hret2 <;> cases hret2
    · cases hret2
  | return_ =>
    have hret2 : nj_ret (some .boolean) .return_ st1 = some (some (.int (Int32.ofInt 1))) := hret
    simp only [nj_ret] at hret2
    cases hret2
  | _ => exact nomatch (show (none : Option (Option Value)) = some _ from hret)
