set_option maxRecDepth 1000000 in
theorem f_t2 : fChk (fun _ h2 _ _ _ _ => tOkR fS (h2 ++ [fArr]) 56 121) = true := by decide +kernel
