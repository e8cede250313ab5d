set_option maxRecDepth 1000000 in
theorem f_j : fChk (fun _ h2 _ _ _ _ => jB fS 0 175 37 38 (h2 ++ [fArr])) = true := by decide +kernel
