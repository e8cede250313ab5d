/-! the first heap -/
def fNew (a n : Nat) : nC := .inr (a, (List.range n).map (fun j => defaultValue (nj_ty a j)))
def fArr : nC := .inl (3, 1, .inr (.inl (fun _ => 0)))
noncomputable def fRun : Option (List nC × List nC × Nat × Nat × Nat × Nat) := match nj_lS 4000 8 nm_0 0 (lv_args 0 [.ref 0]) [] [fNew 8 17] 0 0 0 with
  | some (none, h1, 0, mc1, ms1) => (match nj_lS 4000 8 nm_159 0 (lv_args 0 [.ref 175]) [] (h1 ++ [fNew 9 48]) 0 0 0 with
    | some (none, h2, 0, mc2, ms2) => some (h1, h2, mc1, ms1, mc2, ms2)
    | _ => none)
  | _ => none
noncomputable def fChk (p : List nC → List nC → Nat → Nat → Nat → Nat → Bool) : Bool := match fRun with
  | some (h1, h2, mc1, ms1, mc2, ms2) => p h1 h2 mc1 ms1 mc2 ms2
  | none => false
set_option maxRecDepth 1000000 in
theorem f_run : fChk (fun h1 h2 mc1 ms1 mc2 ms2 => decide (h1.length = 175) && (decide (h2.length = 195) && (decide (mc1 + mc2 = 193) && decide (ms1 + ms2 ≤ 8882)))) = true := by decide +kernel
