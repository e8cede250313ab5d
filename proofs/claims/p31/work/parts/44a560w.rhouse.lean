/-! the reference's house, and how it tells a name -/
abbrev N4 : Type := List (List Nat) × List (List Nat) × List (List Nat) × List (List Nat)
def nmQ (nms : Nat → Int64) (N : N4) : Prop := nmF nms 26 N.1 ∧ nmF nms 32 N.2.1 ∧ nmF nms 42 N.2.2.1 ∧ nmF nms 48 N.2.2.2
def cnQ (hh : Nat → Int32) (N : N4) : Prop := hh 0 = Int32.ofNat N.1.length ∧ hh 1 = Int32.ofNat N.2.1.length ∧ hh 2 = Int32.ofNat N.2.2.1.length ∧ hh 3 = Int32.ofNat N.2.2.2.length
def oP (o : Option Nat) : Int32 := match o with
  | some k => Int32.ofNat (k + 1)
  | none => Int32.ofNat 0
def rhB (H : Hs) (hh : Nat → Int32) (crs : Int32) : Prop :=
  (H.2.1.1.length = H.1.2.1.length ∧ H.2.1.2.1.length = H.1.2.1.length ∧ H.2.1.2.2.1.length = H.1.2.1.length ∧ H.2.1.2.2.2.length = H.1.2.1.length ∧ H.2.2.1.length = H.1.2.2.1.length ∧ H.2.2.2.length = H.1.2.2.2.length) ∧
  (∀ i, i < H.1.2.1.length → hh (4 + i) = Int32.ofNat (H.2.1.1.getD i 0) ∧ H.2.1.1.getD i 0 ≤ 300) ∧
  (∀ i, i < H.1.2.1.length → hh (14 + i) = oP (H.2.1.2.1.getD i none)) ∧
  (∀ i, i < 10 → hh (24 + i) = oP (H.2.1.2.2.1.getD i none) ∧ ∀ j, H.2.1.2.2.1.getD i none = some j → j < 10) ∧
  (∀ i, i < H.1.2.1.length → hh (34 + i) = oC (H.2.1.2.2.2.getD i none)) ∧
  (∀ i, i < 10 → bt crs i = (H.2.1.2.2.2.getD i none).isSome) ∧
  (∀ i, i < H.1.2.2.1.length → hh (74 + i) = Int32.ofNat (H.2.2.1.getD i e6).1 ∧ hh (44 + i) = Int32.ofNat (H.2.2.1.getD i e6).2.1 ∧ hh (50 + i) = Int32.ofNat (H.2.2.1.getD i e6).2.2.1 ∧ hh (56 + i) = Int32.ofNat (H.2.2.1.getD i e6).2.2.2.1 ∧ hh (62 + i) = Int32.ofNat (H.2.2.1.getD i e6).2.2.2.2.1 ∧ hh (68 + i) = Int32.ofNat (H.2.2.1.getD i e6).2.2.2.2.2) ∧
  (∀ i, i < H.1.2.2.2.length → (H.2.2.2.getD i []).length ≤ 12 ∧ hh (80 + i) = Int32.ofNat (H.2.2.2.getD i []).length ∧ ∀ j, j < (H.2.2.2.getD i []).length → hh (84 + 12 * i + j) = Int32.ofNat ((H.2.2.2.getD i []).getD j 0))
def rfR (H : Hs) (hh : Nat → Int32) (nms : Nat → Int64) (crs : Int32) : Prop := nmOk H.1 ∧ nmQ nms H.1 ∧ cnQ hh H.1 ∧ rhB H hh crs
def sFr (T : Nat → Tk) (q : Nat) (H : Hs) : Rs (List Nat) := if ¬ (T q).1 = 2 then .inl (1, (T q).2.1) else if nameIn (T q).2.2.1 H = true then .inl (3, (T q).2.1) else .inr ((T q).2.2.2.2, (T q).2.2.1)
theorem sBeg_fr {T : Nat → Tk} {c most p : Nat} {H : Hs} : sBeg T c most p H = if c = most then .inl (4, (T p).2.1) else sFr T (T p).2.2.2.2 H := rfl
theorem ix_add {k c : Nat} {v : Int32} (hv : v = Int32.ofNat c) (h : k + c < 132) : nj_ix (Int32.ofNat k + v) 132 = true ∧ (Int32.ofNat k + v).toNatClampNeg = k + c := by
  rw [hv, ← Int32.ofNat_add]
  exact ix_nat h (by decide)
theorem up_ne {f : Nat → Int32} {k i : Nat} {v : Int32} (h : ¬ i = k) : upd f k v i = f i := if_neg h
theorem up_eq {f : Nat → Int32} {k : Nat} {v : Int32} : upd f k v k = v := if_pos rfl
theorem nmF_app {nms : Nat → Int64} {f : Nat} {ns : List (List Nat)} {w : List Nat} (h : nmF nms f ns) : nmF (vp_updL nms (f + ns.length) (Int64.ofNat (e256 w 0))) f (ns ++ [w]) := by
  intro i hi
  rw [List.length_append] at hi
  have hi2 : i < ns.length + 1 := hi
  rw [gd_app]
  by_cases e : i = ns.length
  · rw [if_neg (by omega), if_pos e, e]
    exact if_pos rfl
  · rw [if_pos (by omega)]
    exact (if_neg (by omega)).trans (h i (by omega))
theorem nmF_ne {nms : Nat → Int64} {f k : Nat} {ns : List (List Nat)} {v : Int64} (h : nmF nms f ns) (hk : k < f ∨ f + ns.length ≤ k) : nmF (vp_updL nms k v) f ns := by
  intro i hi
  exact (if_neg (by omega)).trans (h i hi)
section RFF
variable {L : Nat} {xs : Nat → Int32} {d : Nat} {o : Nat → Value} {thr len sz lim : Int32} {X : Lx} {flt fat got lns crs : Int32} {b hh : Nat → Int32} {nms rsv : Nat → Int64} {n m q : Nat} {H : Hs}
/-- what a reader of a line leaves in the reference -/
abbrev pLr (o : Nat → Value) (thr len : Int32) (n m : Nat) (flt fat lns : Int32) (b : Nat → Int32) (rsv : Nat → Int64) (R : Rs Hs) : Option Value → nL → Prop := fun rv l => (∃ q1 H1 X1 got1 crs1 hh1 nms1, R = .inr (q1, H1) ∧ rv = some (.int 1) ∧ rX b n m q1 X1 ∧ rfR H1 hh1 nms1 crs1 ∧ l = rfP o thr len (Int32.ofNat n) (Int32.ofNat m) X1 flt fat got1 lns crs1 b hh1 nms1 rsv) ∨ (∃ e p X1 got1 crs1 hh1 nms1, R = .inl (e, p) ∧ rv = some (.int 0) ∧ l = rfP o thr len (Int32.ofNat n) (Int32.ofNat m) X1 (Int32.ofNat e) (Int32.ofNat p) got1 lns crs1 b hh1 nms1 rsv)
theorem k_fresh (hn : n ≤ 940) (hm : m ≤ 900) (hby : ∀ i, i < 940 → -128 ≤ (b i).toInt ∧ (b i).toInt ≤ 127) (hrs : rsvOk rsv) (h : rX b n m q X) (n1 : nmOk H.1) (n2 : nmQ nms H.1) (n3 : cnQ hh H.1) {t : Int32} {t0 : Nat} (ht : t = Int32.ofNat t0) (ht0 : t0 < 52) : mS nj_M nX0 L xs (d + 2) 170 [.ref 175, .int t] (rfP o thr len (Int32.ofNat n) (Int32.ofNat m) X flt fat got lns crs b hh nms rsv) (fun rv l => (∃ q1 w X1, sFr (tk b n m) q H = .inr (q1, w) ∧ wOk w ∧ w ∉ alln H.1 ∧ rv = some (.int 1) ∧ rX b n m q1 X1 ∧ l = (rfP o thr len (Int32.ofNat n) (Int32.ofNat m) X1 flt fat got lns crs b hh (vp_updL nms t0 (Int64.ofNat (e256 w 0))) rsv)) ∨ (∃ e p, sFr (tk b n m) q H = .inl (e, p) ∧ rv = some (.int 0) ∧ l = (rfP o thr len (Int32.ofNat n) (Int32.ofNat m) X (Int32.ofNat e) (Int32.ofNat p) got lns crs b hh nms rsv))) := by
  subst ht
  have hx := ix_nat (i := t0) (n := 52) ht0 (by decide)
  obtain ⟨l1, l2, l3, l4, hnd, hwk⟩ := id n1
  refine mS_of rfl (fun h0 => ?_)
  refine xw_go nostop 10 (fun K e => e _ _ _ _ (kT_call rfl rfl rfl rfl (k_isName hrs h) ⟨rfl, rfl, rfl, rfl, rfl, trivial⟩ rfl rfl (fun rv l1 hP _ => ?_)))
  obtain ⟨rfl, rfl⟩ := hP
  by_cases hk2 : ((tk b n m) q).1 = 2
  · rw [decide_eq_true hk2]
    have hS : sFr (tk b n m) q H = if nameIn ((tk b n m) q).2.2.1 H = true then .inl (3, ((tk b n m) q).2.1) else .inr (((tk b n m) q).2.2.2.2, ((tk b n m) q).2.2.1) := by
      unfold sFr
      rw [if_neg (fun z => z hk2)]
    have h73 : ((tk b n m) q).2.2.1 ∈ alln H.1 → kT nj_M nX0 L xs (d + 2) nm_170 (mQ (rfP o thr len (Int32.ofNat n) (Int32.ofNat m) X flt fat got lns crs b hh nms rsv) (fun rv l => (∃ q1 w X1, sFr (tk b n m) q H = .inr (q1, w) ∧ wOk w ∧ w ∉ alln H.1 ∧ rv = some (.int 1) ∧ rX b n m q1 X1 ∧ l = (rfP o thr len (Int32.ofNat n) (Int32.ofNat m) X1 flt fat got lns crs b hh (vp_updL nms t0 (Int64.ofNat (e256 w 0))) rsv)) ∨ (∃ e p, sFr (tk b n m) q H = .inl (e, p) ∧ rv = some (.int 0) ∧ l = (rfP o thr len (Int32.ofNat n) (Int32.ofNat m) X (Int32.ofNat e) (Int32.ofNat p) got lns crs b hh nms rsv))) h0) (hk (rfP o thr len (Int32.ofNat n) (Int32.ofNat m) X flt fat got lns crs b hh nms rsv)) h0 73 [(0, .ref 175), (1, .int (Int32.ofNat t0))] [] (rfP o thr len (Int32.ofNat n) (Int32.ofNat m) X flt fat got lns crs b hh nms rsv) := by
      intro hm2
      rw [if_pos (nameIn_iff.mpr hm2)] at hS
      refine xw_go nostop 10 (fun K e => e _ _ _ _ (kT_call rfl rfl rfl rfl (k_bad h _) ⟨rfl, rfl, rfl, rfl, rfl, trivial⟩ rfl rfl (fun rv l1 hP _ => ?_)))
      obtain ⟨rfl, rfl⟩ := hP
      exact xw_go nostop 10 (fun K e => e _ _ _ _ (kT_end rfl rfl (Or.inr ⟨3, _, hS, rfl, rfl⟩)))
    have hge : ∀ k : Nat, k < 1000 → nj_cmp .ge (Int32.ofNat k) 0 = true := fun k hk1 => (cmp_nat (i := k) (j := 0) (by omega) (by omega)).1.trans (decide_eq_true (Nat.zero_le k))
    have hltz : ∀ k : Nat, k < 1000 → nj_cmp .lt (Int32.ofNat k) 0 = false := fun k hk1 => (cmp_nat (i := k) (j := 0) (by omega) (by omega)).2.1.trans (decide_eq_false (Nat.not_lt_zero k))
    refine xw_go nostop 20 (fun K e => And.intro (fun _ => And.intro rfl (e _ _ _ _ (kT_call rfl rfl rfl rfl (k_find (ns := H.1.1) (f := 26) h hk2 (by omega) n2.1 (fun w hw => hwk w (alln_mem.mpr (Or.inl hw))) n3.1) ⟨rfl, rfl, rfl, rfl, rfl, trivial⟩ rfl rfl (fun rv l1 hP _ => ?_)))) (fun c => nomatch (show true = false from c)))
    obtain ⟨rfl, rfl⟩ := hP
    cases f1 : fi H.1.1 ((tk b n m) q).2.2.1 with
    | some k1 =>
      have g1 := fi_some f1
      exact xw_go (fun pc => pc == 73) 10 (fun K e => And.intro (fun _ => e _ _ _ _ (h73 (alln_mem.mpr (Or.inl g1.2.1)))) (fun c => by have c' : nj_cmp .ge (Int32.ofNat k1) 0 = false := c; rw [hge k1 (by omega)] at c'; cases c'))
    | none =>
      refine xw_go nostop 20 (fun K e => And.intro (fun c => nomatch (show false = true from c)) (fun _ => And.intro rfl (e _ _ _ _ (kT_call rfl rfl rfl rfl (k_find (ns := H.1.2.1) (f := 32) h hk2 (by omega) n2.2.1 (fun w hw => hwk w (alln_mem.mpr (Or.inr (Or.inl hw)))) n3.2.1) ⟨rfl, rfl, rfl, rfl, rfl, trivial⟩ rfl rfl (fun rv l1 hP _ => ?_)))))
      obtain ⟨rfl, rfl⟩ := hP
      cases f2 : fi H.1.2.1 ((tk b n m) q).2.2.1 with
      | some k1 =>
        have g1 := fi_some f2
        exact xw_go (fun pc => pc == 73) 10 (fun K e => And.intro (fun _ => e _ _ _ _ (h73 (alln_mem.mpr (Or.inr (Or.inl g1.2.1))))) (fun c => by have c' : nj_cmp .ge (Int32.ofNat k1) 0 = false := c; rw [hge k1 (by omega)] at c'; cases c'))
      | none =>
        refine xw_go nostop 20 (fun K e => And.intro (fun c => nomatch (show false = true from c)) (fun _ => And.intro rfl (e _ _ _ _ (kT_call rfl rfl rfl rfl (k_find (ns := H.1.2.2.1) (f := 42) h hk2 (by omega) n2.2.2.1 (fun w hw => hwk w (alln_mem.mpr (Or.inr (Or.inr (Or.inl hw))))) n3.2.2.1) ⟨rfl, rfl, rfl, rfl, rfl, trivial⟩ rfl rfl (fun rv l1 hP _ => ?_)))))
        obtain ⟨rfl, rfl⟩ := hP
        cases f3 : fi H.1.2.2.1 ((tk b n m) q).2.2.1 with
        | some k1 =>
          have g1 := fi_some f3
          exact xw_go (fun pc => pc == 73) 10 (fun K e => And.intro (fun _ => e _ _ _ _ (h73 (alln_mem.mpr (Or.inr (Or.inr (Or.inl g1.2.1)))))) (fun c => by have c' : nj_cmp .ge (Int32.ofNat k1) 0 = false := c; rw [hge k1 (by omega)] at c'; cases c'))
        | none =>
          refine xw_go nostop 20 (fun K e => And.intro (fun c => nomatch (show false = true from c)) (fun _ => And.intro rfl (e _ _ _ _ (kT_call rfl rfl rfl rfl (k_find (ns := H.1.2.2.2) (f := 48) h hk2 (by omega) n2.2.2.2 (fun w hw => hwk w (alln_mem.mpr (Or.inr (Or.inr (Or.inr hw))))) n3.2.2.2) ⟨rfl, rfl, rfl, rfl, rfl, trivial⟩ rfl rfl (fun rv l1 hP _ => ?_)))))
          obtain ⟨rfl, rfl⟩ := hP
          refine kT_pic (l2 := (rfP o thr len (Int32.ofNat n) (Int32.ofNat m) X flt fat got lns crs b hh nms rsv)) rfl ?_
          cases f4 : fi H.1.2.2.2 ((tk b n m) q).2.2.1 with
          | some k1 =>
            have g1 := fi_some f4
            exact xw_go (fun pc => pc == 73) 10 (fun K e => And.intro (fun c => by have c' : nj_cmp .lt (Int32.ofNat k1) 0 = true := c; rw [hltz k1 (by omega)] at c'; cases c') (fun _ => e _ _ _ _ (h73 (alln_mem.mpr (Or.inr (Or.inr (Or.inr g1.2.1)))))))
          | none =>
            have hnew : ((tk b n m) q).2.2.1 ∉ alln H.1 := by
              rw [alln_mem]
              intro z
              rcases z with z | z | z | z
              · exact fi_none.mp f1 z
              · exact fi_none.mp f2 z
              · exact fi_none.mp f3 z
              · exact fi_none.mp f4 z
            rw [if_neg (fun z => hnew (nameIn_iff.mp z))] at hS
            rcases rX_w h with ⟨tw, kw, wd, ok⟩ | ⟨tw, k1, k2⟩
            · refine xw_go nostop 20 (fun K e => And.intro (fun _ => And.intro hx.1 (e _ _ _ _ (kT_call rfl rfl rfl rfl (k_next hn hm hby h) ⟨rfl, rfl, rfl, rfl, rfl, trivial⟩ rfl rfl (fun rv l1 hP _ => ?_)))) (fun c => nomatch (show true = false from c)))
              obtain ⟨rfl, X1, hX1, rfl⟩ := hP
              refine xw_go nostop 20 (fun K e => e _ _ _ _ (kT_end rfl rfl (Or.inl ⟨_, _, X1, hS, ok, hnew, rfl, hX1, ?_⟩)))
              rw [← wd, show vp_updL nms t0 = vp_updL nms (Int32.ofNat t0).toNatClampNeg from by rw [hx.2]]
              rfl
            · exact absurd hk2 k1
  · rw [decide_eq_false hk2]
    refine xw_go nostop 20 (fun K e => And.intro (fun c => nomatch (show false = true from c)) (fun _ => e _ _ _ _ (kT_call rfl rfl rfl rfl (k_bad h _) ⟨rfl, rfl, rfl, rfl, rfl, trivial⟩ rfl rfl (fun rv l1 hP _ => ?_))))
    obtain ⟨rfl, rfl⟩ := hP
    refine xw_go nostop 20 (fun K e => e _ _ _ _ (kT_end rfl rfl (Or.inr ⟨1, ((tk b n m) q).2.1, ?_, rfl, rfl⟩)))
    unfold sFr
    rw [if_pos hk2]
theorem k_pers (hn : n ≤ 940) (hm : m ≤ 900) (hby : ∀ i, i < 940 → -128 ≤ (b i).toInt ∧ (b i).toInt ≤ 127) (hrs : rsvOk rsv) (h : rX b n m q X) {ns : List (List Nat)} (hf : ns.length ≤ 10) (hns : nmF nms 32 ns) (hok : ∀ w ∈ ns, wOk w) (hc : hh 1 = Int32.ofNat ns.length) : mS nj_M nX0 L xs (d + 2) 177 [.ref 175] (rfP o thr len (Int32.ofNat n) (Int32.ofNat m) X flt fat got lns crs b hh nms rsv) (fun rv l => (∃ k, sKno (tk b n m) q ns = .inr (q, k) ∧ k < ns.length ∧ rv = some (.int 1) ∧ l = (rfP o thr len (Int32.ofNat n) (Int32.ofNat m) X flt fat (Int32.ofNat k) lns crs b hh nms rsv)) ∨ (∃ e p g, sKno (tk b n m) q ns = .inl (e, p) ∧ rv = some (.int 0) ∧ l = (rfP o thr len (Int32.ofNat n) (Int32.ofNat m) X (Int32.ofNat e) (Int32.ofNat p) g lns crs b hh nms rsv))) := by
  refine mS_of rfl (fun h0 => ?_)
  refine xw_go nostop 10 (fun K e => And.intro rfl (e _ _ _ _ (kT_call rfl rfl rfl rfl (k_looks (f := 32) hn hm hby hrs h (by omega) hns hok hc) ⟨rfl, rfl, rfl, rfl, rfl, trivial⟩ rfl rfl (fun rv l1 hP _ => ?_))))
  rcases hP with ⟨k, e1, hk1, rfl, rfl⟩ | ⟨e, p, g, e1, rfl, rfl⟩
  · exact xw_go nostop 10 (fun K e => e _ _ _ _ (kT_end rfl rfl (Or.inl ⟨k, e1, hk1, rfl, rfl⟩)))
  · exact xw_go nostop 10 (fun K e2 => e2 _ _ _ _ (kT_end rfl rfl (Or.inr ⟨e, p, g, e1, rfl, rfl⟩)))
theorem k_stp (hn : n ≤ 940) (hm : m ≤ 900) (hby : ∀ i, i < 940 → -128 ≤ (b i).toInt ∧ (b i).toInt ≤ 127) (hrs : rsvOk rsv) (h : rX b n m q X) {ns : List (List Nat)} (hf : ns.length ≤ 10) (hns : nmF nms 26 ns) (hok : ∀ w ∈ ns, wOk w) (hc : hh 0 = Int32.ofNat ns.length) : mS nj_M nX0 L xs (d + 2) 180 [.ref 175] (rfP o thr len (Int32.ofNat n) (Int32.ofNat m) X flt fat got lns crs b hh nms rsv) (fun rv l => (∃ k, sKno (tk b n m) q ns = .inr (q, k) ∧ k < ns.length ∧ rv = some (.int 1) ∧ l = (rfP o thr len (Int32.ofNat n) (Int32.ofNat m) X flt fat (Int32.ofNat k) lns crs b hh nms rsv)) ∨ (∃ e p g, sKno (tk b n m) q ns = .inl (e, p) ∧ rv = some (.int 0) ∧ l = (rfP o thr len (Int32.ofNat n) (Int32.ofNat m) X (Int32.ofNat e) (Int32.ofNat p) g lns crs b hh nms rsv))) := by
  refine mS_of rfl (fun h0 => ?_)
  refine xw_go nostop 10 (fun K e => And.intro rfl (e _ _ _ _ (kT_call rfl rfl rfl rfl (k_looks (f := 26) hn hm hby hrs h (by omega) hns hok hc) ⟨rfl, rfl, rfl, rfl, rfl, trivial⟩ rfl rfl (fun rv l1 hP _ => ?_))))
  rcases hP with ⟨k, e1, hk1, rfl, rfl⟩ | ⟨e, p, g, e1, rfl, rfl⟩
  · exact xw_go nostop 10 (fun K e => e _ _ _ _ (kT_end rfl rfl (Or.inl ⟨k, e1, hk1, rfl, rfl⟩)))
  · exact xw_go nostop 10 (fun K e2 => e2 _ _ _ _ (kT_end rfl rfl (Or.inr ⟨e, p, g, e1, rfl, rfl⟩)))
end RFF
