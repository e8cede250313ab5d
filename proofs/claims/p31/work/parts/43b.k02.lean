set_option maxRecDepth 100000 in
theorem vf_368_17 : aFrom nj_M nFT nAT2 nx_368 nw_368 none nk_368.2.2.2.2.1 nk_368.2.2.2.2.2.1 nk_368.2.2.2.2.2.2 nk_368.2.2.1.1.length nk_368.2.2.1.2.1.length nk_368.2.1 nk_368.1 nu_368 46 nu_368_17 = true := by decide +kernel
set_option maxRecDepth 100000 in
theorem vf_368_18 : aFrom nj_M nFT nAT2 nx_368 nw_368 none nk_368.2.2.2.2.1 nk_368.2.2.2.2.2.1 nk_368.2.2.2.2.2.2 nk_368.2.2.1.1.length nk_368.2.2.1.2.1.length nk_368.2.1 nk_368.1 nu_368 46 nu_368_18 = true := by decide +kernel
set_option maxRecDepth 100000 in
theorem vf_368_19 : aFrom nj_M nFT nAT2 nx_368 nw_368 none nk_368.2.2.2.2.1 nk_368.2.2.2.2.2.1 nk_368.2.2.2.2.2.2 nk_368.2.2.1.1.length nk_368.2.2.1.2.1.length nk_368.2.1 nk_368.1 nu_368 46 nu_368_19 = true := by decide +kernel
set_option maxRecDepth 100000 in
theorem vf_368_20 : aFrom nj_M nFT nAT2 nx_368 nw_368 none nk_368.2.2.2.2.1 nk_368.2.2.2.2.2.1 nk_368.2.2.2.2.2.2 nk_368.2.2.1.1.length nk_368.2.2.1.2.1.length nk_368.2.1 nk_368.1 nu_368 46 nu_368_20 = true := by decide +kernel
set_option maxRecDepth 100000 in
theorem vf_368_21 : aFrom nj_M nFT nAT2 nx_368 nw_368 none nk_368.2.2.2.2.1 nk_368.2.2.2.2.2.1 nk_368.2.2.2.2.2.2 nk_368.2.2.1.1.length nk_368.2.2.1.2.1.length nk_368.2.1 nk_368.1 nu_368 46 nu_368_21 = true := by decide +kernel
set_option maxRecDepth 100000 in
theorem vf_368_22 : aFrom nj_M nFT nAT2 nx_368 nw_368 none nk_368.2.2.2.2.1 nk_368.2.2.2.2.2.1 nk_368.2.2.2.2.2.2 nk_368.2.2.1.1.length nk_368.2.2.1.2.1.length nk_368.2.1 nk_368.1 nu_368 46 nu_368_22 = true := by decide +kernel
set_option maxRecDepth 100000 in
theorem vf_368_23 : aFrom nj_M nFT nAT2 nx_368 nw_368 none nk_368.2.2.2.2.1 nk_368.2.2.2.2.2.1 nk_368.2.2.2.2.2.2 nk_368.2.2.1.1.length nk_368.2.2.1.2.1.length nk_368.2.1 nk_368.1 nu_368 46 nu_368_23 = true := by decide +kernel
set_option maxRecDepth 100000 in
theorem vf_368_24 : aFrom nj_M nFT nAT2 nx_368 nw_368 none nk_368.2.2.2.2.1 nk_368.2.2.2.2.2.1 nk_368.2.2.2.2.2.2 nk_368.2.2.1.1.length nk_368.2.2.1.2.1.length nk_368.2.1 nk_368.1 nu_368 46 nu_368_24 = true := by decide +kernel
set_option maxRecDepth 100000 in
theorem vf_368_25 : aFrom nj_M nFT nAT2 nx_368 nw_368 none nk_368.2.2.2.2.1 nk_368.2.2.2.2.2.1 nk_368.2.2.2.2.2.2 nk_368.2.2.1.1.length nk_368.2.2.1.2.1.length nk_368.2.1 nk_368.1 nu_368 46 nu_368_25 = true := by decide +kernel
set_option maxRecDepth 100000 in
theorem vf_368_26 : aFrom nj_M nFT nAT2 nx_368 nw_368 none nk_368.2.2.2.2.1 nk_368.2.2.2.2.2.1 nk_368.2.2.2.2.2.2 nk_368.2.2.1.1.length nk_368.2.2.1.2.1.length nk_368.2.1 nk_368.1 nu_368 46 nu_368_26 = true := by decide +kernel
set_option maxRecDepth 100000 in
theorem vf_368_27 : aFrom nj_M nFT nAT2 nx_368 nw_368 none nk_368.2.2.2.2.1 nk_368.2.2.2.2.2.1 nk_368.2.2.2.2.2.2 nk_368.2.2.1.1.length nk_368.2.2.1.2.1.length nk_368.2.1 nk_368.1 nu_368 46 nu_368_27 = true := by decide +kernel
set_option maxRecDepth 100000 in
theorem vf_368_28 : aFrom nj_M nFT nAT2 nx_368 nw_368 none nk_368.2.2.2.2.1 nk_368.2.2.2.2.2.1 nk_368.2.2.2.2.2.2 nk_368.2.2.1.1.length nk_368.2.2.1.2.1.length nk_368.2.1 nk_368.1 nu_368 46 nu_368_28 = true := by decide +kernel
set_option maxRecDepth 100000 in
theorem vf_368_29 : aFrom nj_M nFT nAT2 nx_368 nw_368 none nk_368.2.2.2.2.1 nk_368.2.2.2.2.2.1 nk_368.2.2.2.2.2.2 nk_368.2.2.1.1.length nk_368.2.2.1.2.1.length nk_368.2.1 nk_368.1 nu_368 46 nu_368_29 = true := by decide +kernel
set_option maxRecDepth 100000 in
theorem vf_368_30 : aFrom nj_M nFT nAT2 nx_368 nw_368 none nk_368.2.2.2.2.1 nk_368.2.2.2.2.2.1 nk_368.2.2.2.2.2.2 nk_368.2.2.1.1.length nk_368.2.2.1.2.1.length nk_368.2.1 nk_368.1 nu_368 46 nu_368_30 = true := by decide +kernel
set_option maxRecDepth 100000 in
theorem vf_368_31 : aFrom nj_M nFT nAT2 nx_368 nw_368 none nk_368.2.2.2.2.1 nk_368.2.2.2.2.2.1 nk_368.2.2.2.2.2.2 nk_368.2.2.1.1.length nk_368.2.2.1.2.1.length nk_368.2.1 nk_368.1 nu_368 46 nu_368_31 = true := by decide +kernel
set_option maxRecDepth 100000 in
theorem vf_368_32 : aFrom nj_M nFT nAT2 nx_368 nw_368 none nk_368.2.2.2.2.1 nk_368.2.2.2.2.2.1 nk_368.2.2.2.2.2.2 nk_368.2.2.1.1.length nk_368.2.2.1.2.1.length nk_368.2.1 nk_368.1 nu_368 46 nu_368_32 = true := by decide +kernel
set_option maxRecDepth 100000 in
theorem vf_368_33 : aFrom nj_M nFT nAT2 nx_368 nw_368 none nk_368.2.2.2.2.1 nk_368.2.2.2.2.2.1 nk_368.2.2.2.2.2.2 nk_368.2.2.1.1.length nk_368.2.2.1.2.1.length nk_368.2.1 nk_368.1 nu_368 46 nu_368_33 = true := by decide +kernel
set_option maxRecDepth 100000 in
theorem vf_368_34 : aFrom nj_M nFT nAT2 nx_368 nw_368 none nk_368.2.2.2.2.1 nk_368.2.2.2.2.2.1 nk_368.2.2.2.2.2.2 nk_368.2.2.1.1.length nk_368.2.2.1.2.1.length nk_368.2.1 nk_368.1 nu_368 46 nu_368_34 = true := by decide +kernel
set_option maxRecDepth 100000 in
theorem vf_368_35 : aFrom nj_M nFT nAT2 nx_368 nw_368 none nk_368.2.2.2.2.1 nk_368.2.2.2.2.2.1 nk_368.2.2.2.2.2.2 nk_368.2.2.1.1.length nk_368.2.2.1.2.1.length nk_368.2.1 nk_368.1 nu_368 46 nu_368_35 = true := by decide +kernel
set_option maxRecDepth 100000 in
theorem vf_368_36 : aFrom nj_M nFT nAT2 nx_368 nw_368 none nk_368.2.2.2.2.1 nk_368.2.2.2.2.2.1 nk_368.2.2.2.2.2.2 nk_368.2.2.1.1.length nk_368.2.2.1.2.1.length nk_368.2.1 nk_368.1 nu_368 46 nu_368_36 = true := by decide +kernel
