set_option maxRecDepth 1000000 in
theorem f_t0 : fChk (fun _ h2 _ _ _ _ => tOkR fS (h2 ++ [fArr]) 0 4) = true := by decide +kernel
