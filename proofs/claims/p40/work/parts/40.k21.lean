set_option maxRecDepth 100000 in
theorem vf_343_2 : aFrom nj_M nFT nAT nx_343 nw_343 none nk_343.2.2.2.2.1 nk_343.2.2.2.2.2.1 nk_343.2.2.2.2.2.2 nk_343.2.2.1.1.length nk_343.2.2.1.2.1.length nk_343.2.1 nk_343.1 nu_343 46 nu_343_2 = true := by decide +kernel
set_option maxRecDepth 100000 in
theorem vf_343_3 : aFrom nj_M nFT nAT nx_343 nw_343 none nk_343.2.2.2.2.1 nk_343.2.2.2.2.2.1 nk_343.2.2.2.2.2.2 nk_343.2.2.1.1.length nk_343.2.2.1.2.1.length nk_343.2.1 nk_343.1 nu_343 46 nu_343_3 = true := by decide +kernel
set_option maxRecDepth 100000 in
theorem vf_343_4 : aFrom nj_M nFT nAT nx_343 nw_343 none nk_343.2.2.2.2.1 nk_343.2.2.2.2.2.1 nk_343.2.2.2.2.2.2 nk_343.2.2.1.1.length nk_343.2.2.1.2.1.length nk_343.2.1 nk_343.1 nu_343 46 nu_343_4 = true := by decide +kernel
set_option maxRecDepth 100000 in
theorem vf_343_5 : aFrom nj_M nFT nAT nx_343 nw_343 none nk_343.2.2.2.2.1 nk_343.2.2.2.2.2.1 nk_343.2.2.2.2.2.2 nk_343.2.2.1.1.length nk_343.2.2.1.2.1.length nk_343.2.1 nk_343.1 nu_343 46 nu_343_5 = true := by decide +kernel
set_option maxRecDepth 100000 in
theorem vf_343_6 : aFrom nj_M nFT nAT nx_343 nw_343 none nk_343.2.2.2.2.1 nk_343.2.2.2.2.2.1 nk_343.2.2.2.2.2.2 nk_343.2.2.1.1.length nk_343.2.2.1.2.1.length nk_343.2.1 nk_343.1 nu_343 46 nu_343_6 = true := by decide +kernel
set_option maxRecDepth 100000 in
theorem vf_343_7 : aFrom nj_M nFT nAT nx_343 nw_343 none nk_343.2.2.2.2.1 nk_343.2.2.2.2.2.1 nk_343.2.2.2.2.2.2 nk_343.2.2.1.1.length nk_343.2.2.1.2.1.length nk_343.2.1 nk_343.1 nu_343 46 nu_343_7 = true := by decide +kernel
set_option maxRecDepth 100000 in
theorem vf_343_8 : aFrom nj_M nFT nAT nx_343 nw_343 none nk_343.2.2.2.2.1 nk_343.2.2.2.2.2.1 nk_343.2.2.2.2.2.2 nk_343.2.2.1.1.length nk_343.2.2.1.2.1.length nk_343.2.1 nk_343.1 nu_343 46 nu_343_8 = true := by decide +kernel
set_option maxRecDepth 100000 in
theorem vf_343_9 : aFrom nj_M nFT nAT nx_343 nw_343 none nk_343.2.2.2.2.1 nk_343.2.2.2.2.2.1 nk_343.2.2.2.2.2.2 nk_343.2.2.1.1.length nk_343.2.2.1.2.1.length nk_343.2.1 nk_343.1 nu_343 46 nu_343_9 = true := by decide +kernel
