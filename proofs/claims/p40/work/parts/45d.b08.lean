set_option maxRecDepth 1000000 in
theorem f_t7 : fChk (fun _ h2 _ _ _ _ => tOkR fS (h2 ++ [fArr]) 176 1) = true := by decide +kernel
