set_option maxRecDepth 1000000 in
theorem f_t1 : fChk (fun _ h2 _ _ _ _ => tOkR fS (h2 ++ [fArr]) 4 52) = true := by decide +kernel
