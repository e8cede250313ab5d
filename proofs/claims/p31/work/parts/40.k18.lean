set_option maxRecDepth 100000 in
theorem vf_334_26 : aFrom nj_M nFT nAT nx_334 nw_334 none nk_334.2.2.2.2.1 nk_334.2.2.2.2.2.1 nk_334.2.2.2.2.2.2 nk_334.2.2.1.1.length nk_334.2.2.1.2.1.length nk_334.2.1 nk_334.1 nu_334 63 nu_334_26 = true := by decide +kernel
set_option maxRecDepth 100000 in
theorem vf_334_27 : aFrom nj_M nFT nAT nx_334 nw_334 none nk_334.2.2.2.2.1 nk_334.2.2.2.2.2.1 nk_334.2.2.2.2.2.2 nk_334.2.2.1.1.length nk_334.2.2.1.2.1.length nk_334.2.1 nk_334.1 nu_334 63 nu_334_27 = true := by decide +kernel
set_option maxRecDepth 100000 in
theorem vf_334_28 : aFrom nj_M nFT nAT nx_334 nw_334 none nk_334.2.2.2.2.1 nk_334.2.2.2.2.2.1 nk_334.2.2.2.2.2.2 nk_334.2.2.1.1.length nk_334.2.2.1.2.1.length nk_334.2.1 nk_334.1 nu_334 63 nu_334_28 = true := by decide +kernel
set_option maxRecDepth 100000 in
theorem vf_334_29 : aFrom nj_M nFT nAT nx_334 nw_334 none nk_334.2.2.2.2.1 nk_334.2.2.2.2.2.1 nk_334.2.2.2.2.2.2 nk_334.2.2.1.1.length nk_334.2.2.1.2.1.length nk_334.2.1 nk_334.1 nu_334 63 nu_334_29 = true := by decide +kernel
set_option maxRecDepth 100000 in
theorem vf_334_30 : aFrom nj_M nFT nAT nx_334 nw_334 none nk_334.2.2.2.2.1 nk_334.2.2.2.2.2.1 nk_334.2.2.2.2.2.2 nk_334.2.2.1.1.length nk_334.2.2.1.2.1.length nk_334.2.1 nk_334.1 nu_334 63 nu_334_30 = true := by decide +kernel
set_option maxRecDepth 100000 in
theorem vf_334_31 : aFrom nj_M nFT nAT nx_334 nw_334 none nk_334.2.2.2.2.1 nk_334.2.2.2.2.2.1 nk_334.2.2.2.2.2.2 nk_334.2.2.1.1.length nk_334.2.2.1.2.1.length nk_334.2.1 nk_334.1 nu_334 63 nu_334_31 = true := by decide +kernel
set_option maxRecDepth 100000 in
theorem vf_334_32 : aFrom nj_M nFT nAT nx_334 nw_334 none nk_334.2.2.2.2.1 nk_334.2.2.2.2.2.1 nk_334.2.2.2.2.2.2 nk_334.2.2.1.1.length nk_334.2.2.1.2.1.length nk_334.2.1 nk_334.1 nu_334 63 nu_334_32 = true := by decide +kernel
set_option maxRecDepth 100000 in
theorem vf_334_33 : aFrom nj_M nFT nAT nx_334 nw_334 none nk_334.2.2.2.2.1 nk_334.2.2.2.2.2.1 nk_334.2.2.2.2.2.2 nk_334.2.2.1.1.length nk_334.2.2.1.2.1.length nk_334.2.1 nk_334.1 nu_334 63 nu_334_33 = true := by decide +kernel
set_option maxRecDepth 100000 in
theorem vf_334_34 : aFrom nj_M nFT nAT nx_334 nw_334 none nk_334.2.2.2.2.1 nk_334.2.2.2.2.2.1 nk_334.2.2.2.2.2.2 nk_334.2.2.1.1.length nk_334.2.2.1.2.1.length nk_334.2.1 nk_334.1 nu_334 63 nu_334_34 = true := by decide +kernel
set_option maxRecDepth 100000 in
theorem vf_334_35 : aFrom nj_M nFT nAT nx_334 nw_334 none nk_334.2.2.2.2.1 nk_334.2.2.2.2.2.1 nk_334.2.2.2.2.2.2 nk_334.2.2.1.1.length nk_334.2.2.1.2.1.length nk_334.2.1 nk_334.1 nu_334 63 nu_334_35 = true := by decide +kernel
set_option maxRecDepth 100000 in
theorem vf_334_36 : aFrom nj_M nFT nAT nx_334 nw_334 none nk_334.2.2.2.2.1 nk_334.2.2.2.2.2.1 nk_334.2.2.2.2.2.2 nk_334.2.2.1.1.length nk_334.2.2.1.2.1.length nk_334.2.1 nk_334.1 nu_334 63 nu_334_36 = true := by decide +kernel
set_option maxRecDepth 100000 in
theorem vf_334_37 : aFrom nj_M nFT nAT nx_334 nw_334 none nk_334.2.2.2.2.1 nk_334.2.2.2.2.2.1 nk_334.2.2.2.2.2.2 nk_334.2.2.1.1.length nk_334.2.2.1.2.1.length nk_334.2.1 nk_334.1 nu_334 63 nu_334_37 = true := by decide +kernel
