set_option maxRecDepth 100000 in
theorem ne_0 : nm_0.2.2.2.2.2.all (nj_oke nj_M nm_0.1.cls nm_0.2.1) = true := by decide +kernel
set_option maxRecDepth 100000 in
theorem nc_0 : nj_okM nj_M nm_0 := ⟨by decide +kernel, nj_w_mem (pos := 136) (by decide +kernel), ⟨by decide +kernel, by decide +kernel⟩, nj_w_mem (pos := 110) (by decide +kernel), by decide +kernel, fun q hq => List.all_eq_true.mp ne_0 q hq⟩
set_option maxRecDepth 100000 in
theorem ne_1 : nm_1.2.2.2.2.2.all (nj_oke nj_M nm_1.1.cls nm_1.2.1) = true := by decide +kernel
set_option maxRecDepth 100000 in
theorem nc_1 : nj_okM nj_M nm_1 := ⟨by decide +kernel, nj_w_mem (pos := 144) (by decide +kernel), ⟨by decide +kernel, by decide +kernel⟩, nj_w_mem (pos := 111) (by decide +kernel), by decide +kernel, fun q hq => List.all_eq_true.mp ne_1 q hq⟩
set_option maxRecDepth 100000 in
theorem ne_2 : nm_2.2.2.2.2.2.all (nj_oke nj_M nm_2.1.cls nm_2.2.1) = true := by decide +kernel
set_option maxRecDepth 100000 in
theorem nc_2 : nj_okM nj_M nm_2 := ⟨by decide +kernel, nj_w_mem (pos := 150) (by decide +kernel), ⟨by decide +kernel, by decide +kernel⟩, nj_w_mem (pos := 112) (by decide +kernel), by decide +kernel, fun q hq => List.all_eq_true.mp ne_2 q hq⟩
set_option maxRecDepth 100000 in
theorem ne_3 : nm_3.2.2.2.2.2.all (nj_oke nj_M nm_3.1.cls nm_3.2.1) = true := by decide +kernel
set_option maxRecDepth 100000 in
theorem nc_3 : nj_okM nj_M nm_3 := ⟨by decide +kernel, nj_w_mem (pos := 154) (by decide +kernel), ⟨by decide +kernel, by decide +kernel⟩, nj_w_mem (pos := 112) (by decide +kernel), by decide +kernel, fun q hq => List.all_eq_true.mp ne_3 q hq⟩
set_option maxRecDepth 100000 in
theorem ne_4 : nm_4.2.2.2.2.2.all (nj_oke nj_M nm_4.1.cls nm_4.2.1) = true := by decide +kernel
set_option maxRecDepth 100000 in
theorem nc_4 : nj_okM nj_M nm_4 := ⟨by decide +kernel, nj_w_mem (pos := 160) (by decide +kernel), ⟨by decide +kernel, by decide +kernel⟩, nj_w_mem (pos := 112) (by decide +kernel), by decide +kernel, fun q hq => List.all_eq_true.mp ne_4 q hq⟩
set_option maxRecDepth 100000 in
theorem ne_5 : nm_5.2.2.2.2.2.all (nj_oke nj_M nm_5.1.cls nm_5.2.1) = true := by decide +kernel
set_option maxRecDepth 100000 in
theorem nc_5 : nj_okM nj_M nm_5 := ⟨by decide +kernel, nj_w_mem (pos := 164) (by decide +kernel), ⟨by decide +kernel, by decide +kernel⟩, nj_w_mem (pos := 112) (by decide +kernel), by decide +kernel, fun q hq => List.all_eq_true.mp ne_5 q hq⟩
set_option maxRecDepth 100000 in
theorem ne_6 : nm_6.2.2.2.2.2.all (nj_oke nj_M nm_6.1.cls nm_6.2.1) = true := by decide +kernel
set_option maxRecDepth 100000 in
theorem nc_6 : nj_okM nj_M nm_6 := ⟨by decide +kernel, nj_w_mem (pos := 167) (by decide +kernel), ⟨by decide +kernel, by decide +kernel⟩, nj_w_mem (pos := 113) (by decide +kernel), by decide +kernel, fun q hq => List.all_eq_true.mp ne_6 q hq⟩
set_option maxRecDepth 100000 in
theorem ne_7 : nm_7.2.2.2.2.2.all (nj_oke nj_M nm_7.1.cls nm_7.2.1) = true := by decide +kernel
set_option maxRecDepth 100000 in
theorem nc_7 : nj_okM nj_M nm_7 := ⟨by decide +kernel, nj_w_mem (pos := 170) (by decide +kernel), ⟨by decide +kernel, by decide +kernel⟩, nj_w_mem (pos := 112) (by decide +kernel), by decide +kernel, fun q hq => List.all_eq_true.mp ne_7 q hq⟩
set_option maxRecDepth 100000 in
theorem ne_8 : nm_8.2.2.2.2.2.all (nj_oke nj_M nm_8.1.cls nm_8.2.1) = true := by decide +kernel
set_option maxRecDepth 100000 in
theorem nc_8 : nj_okM nj_M nm_8 := ⟨by decide +kernel, nj_w_mem (pos := 175) (by decide +kernel), ⟨by decide +kernel, by decide +kernel⟩, nj_w_mem (pos := 114) (by decide +kernel), by decide +kernel, fun q hq => List.all_eq_true.mp ne_8 q hq⟩
set_option maxRecDepth 100000 in
theorem ne_9 : nm_9.2.2.2.2.2.all (nj_oke nj_M nm_9.1.cls nm_9.2.1) = true := by decide +kernel
set_option maxRecDepth 100000 in
theorem nc_9 : nj_okM nj_M nm_9 := ⟨by decide +kernel, nj_w_mem (pos := 197) (by decide +kernel), ⟨by decide +kernel, by decide +kernel⟩, nj_w_mem (pos := 111) (by decide +kernel), by decide +kernel, fun q hq => List.all_eq_true.mp ne_9 q hq⟩
set_option maxRecDepth 100000 in
theorem ne_10 : nm_10.2.2.2.2.2.all (nj_oke nj_M nm_10.1.cls nm_10.2.1) = true := by decide +kernel
set_option maxRecDepth 100000 in
theorem nc_10 : nj_okM nj_M nm_10 := ⟨by decide +kernel, nj_w_mem (pos := 250) (by decide +kernel), ⟨by decide +kernel, by decide +kernel⟩, nj_w_mem (pos := 116) (by decide +kernel), by decide +kernel, fun q hq => List.all_eq_true.mp ne_10 q hq⟩
set_option maxRecDepth 100000 in
theorem ne_11 : nm_11.2.2.2.2.2.all (nj_oke nj_M nm_11.1.cls nm_11.2.1) = true := by decide +kernel
set_option maxRecDepth 100000 in
theorem nc_11 : nj_okM nj_M nm_11 := ⟨by decide +kernel, nj_w_mem (pos := 328) (by decide +kernel), ⟨by decide +kernel, by decide +kernel⟩, nj_w_mem (pos := 117) (by decide +kernel), by decide +kernel, fun q hq => List.all_eq_true.mp ne_11 q hq⟩
set_option maxRecDepth 100000 in
theorem ne_12 : nm_12.2.2.2.2.2.all (nj_oke nj_M nm_12.1.cls nm_12.2.1) = true := by decide +kernel
set_option maxRecDepth 100000 in
theorem nc_12 : nj_okM nj_M nm_12 := ⟨by decide +kernel, nj_w_mem (pos := 387) (by decide +kernel), ⟨by decide +kernel, by decide +kernel⟩, nj_w_mem (pos := 118) (by decide +kernel), by decide +kernel, fun q hq => List.all_eq_true.mp ne_12 q hq⟩
set_option maxRecDepth 100000 in
theorem ne_13 : nm_13.2.2.2.2.2.all (nj_oke nj_M nm_13.1.cls nm_13.2.1) = true := by decide +kernel
set_option maxRecDepth 100000 in
theorem nc_13 : nj_okM nj_M nm_13 := ⟨by decide +kernel, nj_w_mem (pos := 413) (by decide +kernel), ⟨by decide +kernel, by decide +kernel⟩, nj_w_mem (pos := 119) (by decide +kernel), by decide +kernel, fun q hq => List.all_eq_true.mp ne_13 q hq⟩
set_option maxRecDepth 100000 in
theorem ne_14 : nm_14.2.2.2.2.2.all (nj_oke nj_M nm_14.1.cls nm_14.2.1) = true := by decide +kernel
set_option maxRecDepth 100000 in
theorem nc_14 : nj_okM nj_M nm_14 := ⟨by decide +kernel, nj_w_mem (pos := 437) (by decide +kernel), ⟨by decide +kernel, by decide +kernel⟩, nj_w_mem (pos := 120) (by decide +kernel), by decide +kernel, fun q hq => List.all_eq_true.mp ne_14 q hq⟩
set_option maxRecDepth 100000 in
theorem ne_15 : nm_15.2.2.2.2.2.all (nj_oke nj_M nm_15.1.cls nm_15.2.1) = true := by decide +kernel
set_option maxRecDepth 100000 in
theorem nc_15 : nj_okM nj_M nm_15 := ⟨by decide +kernel, nj_w_mem (pos := 457) (by decide +kernel), ⟨by decide +kernel, by decide +kernel⟩, nj_w_mem (pos := 121) (by decide +kernel), by decide +kernel, fun q hq => List.all_eq_true.mp ne_15 q hq⟩
set_option maxRecDepth 100000 in
theorem ne_16 : nm_16.2.2.2.2.2.all (nj_oke nj_M nm_16.1.cls nm_16.2.1) = true := by decide +kernel
set_option maxRecDepth 100000 in
theorem nc_16 : nj_okM nj_M nm_16 := ⟨by decide +kernel, nj_w_mem (pos := 486) (by decide +kernel), ⟨by decide +kernel, by decide +kernel⟩, nj_w_mem (pos := 122) (by decide +kernel), by decide +kernel, fun q hq => List.all_eq_true.mp ne_16 q hq⟩
set_option maxRecDepth 100000 in
theorem ne_17 : nm_17.2.2.2.2.2.all (nj_oke nj_M nm_17.1.cls nm_17.2.1) = true := by decide +kernel
set_option maxRecDepth 100000 in
theorem nc_17 : nj_okM nj_M nm_17 := ⟨by decide +kernel, nj_w_mem (pos := 515) (by decide +kernel), ⟨by decide +kernel, by decide +kernel⟩, nj_w_mem (pos := 123) (by decide +kernel), by decide +kernel, fun q hq => List.all_eq_true.mp ne_17 q hq⟩
set_option maxRecDepth 100000 in
theorem ne_18 : nm_18.2.2.2.2.2.all (nj_oke nj_M nm_18.1.cls nm_18.2.1) = true := by decide +kernel
set_option maxRecDepth 100000 in
theorem nc_18 : nj_okM nj_M nm_18 := ⟨by decide +kernel, nj_w_mem (pos := 571) (by decide +kernel), ⟨by decide +kernel, by decide +kernel⟩, nj_w_mem (pos := 110) (by decide +kernel), by decide +kernel, fun q hq => List.all_eq_true.mp ne_18 q hq⟩
set_option maxRecDepth 100000 in
theorem ne_19 : nm_19.2.2.2.2.2.all (nj_oke nj_M nm_19.1.cls nm_19.2.1) = true := by decide +kernel
set_option maxRecDepth 100000 in
theorem nc_19 : nj_okM nj_M nm_19 := ⟨by decide +kernel, nj_w_mem (pos := 575) (by decide +kernel), ⟨by decide +kernel, by decide +kernel⟩, nj_w_mem (pos := 111) (by decide +kernel), by decide +kernel, fun q hq => List.all_eq_true.mp ne_19 q hq⟩
set_option maxRecDepth 100000 in
theorem ne_20 : nm_20.2.2.2.2.2.all (nj_oke nj_M nm_20.1.cls nm_20.2.1) = true := by decide +kernel
set_option maxRecDepth 100000 in
theorem nc_20 : nj_okM nj_M nm_20 := ⟨by decide +kernel, nj_w_mem (pos := 579) (by decide +kernel), ⟨by decide +kernel, by decide +kernel⟩, nj_w_mem (pos := 110) (by decide +kernel), by decide +kernel, fun q hq => List.all_eq_true.mp ne_20 q hq⟩
set_option maxRecDepth 100000 in
theorem ne_21 : nm_21.2.2.2.2.2.all (nj_oke nj_M nm_21.1.cls nm_21.2.1) = true := by decide +kernel
set_option maxRecDepth 100000 in
theorem nc_21 : nj_okM nj_M nm_21 := ⟨by decide +kernel, nj_w_mem (pos := 583) (by decide +kernel), ⟨by decide +kernel, by decide +kernel⟩, nj_w_mem (pos := 110) (by decide +kernel), by decide +kernel, fun q hq => List.all_eq_true.mp ne_21 q hq⟩
set_option maxRecDepth 100000 in
theorem ne_22 : nm_22.2.2.2.2.2.all (nj_oke nj_M nm_22.1.cls nm_22.2.1) = true := by decide +kernel
set_option maxRecDepth 100000 in
theorem nc_22 : nj_okM nj_M nm_22 := ⟨by decide +kernel, nj_w_mem (pos := 587) (by decide +kernel), ⟨by decide +kernel, by decide +kernel⟩, nj_w_mem (pos := 116) (by decide +kernel), by decide +kernel, fun q hq => List.all_eq_true.mp ne_22 q hq⟩
set_option maxRecDepth 100000 in
theorem ne_23 : nm_23.2.2.2.2.2.all (nj_oke nj_M nm_23.1.cls nm_23.2.1) = true := by decide +kernel
set_option maxRecDepth 100000 in
theorem nc_23 : nj_okM nj_M nm_23 := ⟨by decide +kernel, nj_w_mem (pos := 591) (by decide +kernel), ⟨by decide +kernel, by decide +kernel⟩, nj_w_mem (pos := 123) (by decide +kernel), by decide +kernel, fun q hq => List.all_eq_true.mp ne_23 q hq⟩
set_option maxRecDepth 100000 in
theorem ne_24 : nm_24.2.2.2.2.2.all (nj_oke nj_M nm_24.1.cls nm_24.2.1) = true := by decide +kernel
set_option maxRecDepth 100000 in
theorem nc_24 : nj_okM nj_M nm_24 := ⟨by decide +kernel, nj_w_mem (pos := 595) (by decide +kernel), ⟨by decide +kernel, by decide +kernel⟩, nj_w_mem (pos := 111) (by decide +kernel), by decide +kernel, fun q hq => List.all_eq_true.mp ne_24 q hq⟩
set_option maxRecDepth 100000 in
theorem ne_25 : nm_25.2.2.2.2.2.all (nj_oke nj_M nm_25.1.cls nm_25.2.1) = true := by decide +kernel
set_option maxRecDepth 100000 in
theorem nc_25 : nj_okM nj_M nm_25 := ⟨by decide +kernel, nj_w_mem (pos := 602) (by decide +kernel), ⟨by decide +kernel, by decide +kernel⟩, nj_w_mem (pos := 111) (by decide +kernel), by decide +kernel, fun q hq => List.all_eq_true.mp ne_25 q hq⟩
set_option maxRecDepth 100000 in
theorem ne_26 : nm_26.2.2.2.2.2.all (nj_oke nj_M nm_26.1.cls nm_26.2.1) = true := by decide +kernel
set_option maxRecDepth 100000 in
theorem nc_26 : nj_okM nj_M nm_26 := ⟨by decide +kernel, nj_w_mem (pos := 605) (by decide +kernel), ⟨by decide +kernel, by decide +kernel⟩, nj_w_mem (pos := 111) (by decide +kernel), by decide +kernel, fun q hq => List.all_eq_true.mp ne_26 q hq⟩
set_option maxRecDepth 100000 in
theorem ne_27 : nm_27.2.2.2.2.2.all (nj_oke nj_M nm_27.1.cls nm_27.2.1) = true := by decide +kernel
set_option maxRecDepth 100000 in
theorem nc_27 : nj_okM nj_M nm_27 := ⟨by decide +kernel, nj_w_mem (pos := 608) (by decide +kernel), ⟨by decide +kernel, by decide +kernel⟩, nj_w_mem (pos := 111) (by decide +kernel), by decide +kernel, fun q hq => List.all_eq_true.mp ne_27 q hq⟩
set_option maxRecDepth 100000 in
theorem ne_28 : nm_28.2.2.2.2.2.all (nj_oke nj_M nm_28.1.cls nm_28.2.1) = true := by decide +kernel
set_option maxRecDepth 100000 in
theorem nc_28 : nj_okM nj_M nm_28 := ⟨by decide +kernel, nj_w_mem (pos := 612) (by decide +kernel), ⟨by decide +kernel, by decide +kernel⟩, nj_w_mem (pos := 111) (by decide +kernel), by decide +kernel, fun q hq => List.all_eq_true.mp ne_28 q hq⟩
set_option maxRecDepth 100000 in
theorem ne_29 : nm_29.2.2.2.2.2.all (nj_oke nj_M nm_29.1.cls nm_29.2.1) = true := by decide +kernel
set_option maxRecDepth 100000 in
theorem nc_29 : nj_okM nj_M nm_29 := ⟨by decide +kernel, nj_w_mem (pos := 616) (by decide +kernel), ⟨by decide +kernel, by decide +kernel⟩, nj_w_mem (pos := 111) (by decide +kernel), by decide +kernel, fun q hq => List.all_eq_true.mp ne_29 q hq⟩
set_option maxRecDepth 100000 in
theorem ne_30 : nm_30.2.2.2.2.2.all (nj_oke nj_M nm_30.1.cls nm_30.2.1) = true := by decide +kernel
set_option maxRecDepth 100000 in
theorem nc_30 : nj_okM nj_M nm_30 := ⟨by decide +kernel, nj_w_mem (pos := 620) (by decide +kernel), ⟨by decide +kernel, by decide +kernel⟩, nj_w_mem (pos := 111) (by decide +kernel), by decide +kernel, fun q hq => List.all_eq_true.mp ne_30 q hq⟩
set_option maxRecDepth 100000 in
theorem ne_31 : nm_31.2.2.2.2.2.all (nj_oke nj_M nm_31.1.cls nm_31.2.1) = true := by decide +kernel
set_option maxRecDepth 100000 in
theorem nc_31 : nj_okM nj_M nm_31 := ⟨by decide +kernel, nj_w_mem (pos := 624) (by decide +kernel), ⟨by decide +kernel, by decide +kernel⟩, nj_w_mem (pos := 111) (by decide +kernel), by decide +kernel, fun q hq => List.all_eq_true.mp ne_31 q hq⟩
set_option maxRecDepth 100000 in
theorem ne_32 : nm_32.2.2.2.2.2.all (nj_oke nj_M nm_32.1.cls nm_32.2.1) = true := by decide +kernel
set_option maxRecDepth 100000 in
theorem nc_32 : nj_okM nj_M nm_32 := ⟨by decide +kernel, nj_w_mem (pos := 628) (by decide +kernel), ⟨by decide +kernel, by decide +kernel⟩, nj_w_mem (pos := 116) (by decide +kernel), by decide +kernel, fun q hq => List.all_eq_true.mp ne_32 q hq⟩
set_option maxRecDepth 100000 in
theorem ne_33 : nm_33.2.2.2.2.2.all (nj_oke nj_M nm_33.1.cls nm_33.2.1) = true := by decide +kernel
set_option maxRecDepth 100000 in
theorem nc_33 : nj_okM nj_M nm_33 := ⟨by decide +kernel, nj_w_mem (pos := 632) (by decide +kernel), ⟨by decide +kernel, by decide +kernel⟩, nj_w_mem (pos := 116) (by decide +kernel), by decide +kernel, fun q hq => List.all_eq_true.mp ne_33 q hq⟩
set_option maxRecDepth 100000 in
theorem ne_34 : nm_34.2.2.2.2.2.all (nj_oke nj_M nm_34.1.cls nm_34.2.1) = true := by decide +kernel
set_option maxRecDepth 100000 in
theorem nc_34 : nj_okM nj_M nm_34 := ⟨by decide +kernel, nj_w_mem (pos := 638) (by decide +kernel), ⟨by decide +kernel, by decide +kernel⟩, nj_w_mem (pos := 111) (by decide +kernel), by decide +kernel, fun q hq => List.all_eq_true.mp ne_34 q hq⟩
set_option maxRecDepth 100000 in
theorem ne_35 : nm_35.2.2.2.2.2.all (nj_oke nj_M nm_35.1.cls nm_35.2.1) = true := by decide +kernel
set_option maxRecDepth 100000 in
theorem nc_35 : nj_okM nj_M nm_35 := ⟨by decide +kernel, nj_w_mem (pos := 642) (by decide +kernel), ⟨by decide +kernel, by decide +kernel⟩, nj_w_mem (pos := 111) (by decide +kernel), by decide +kernel, fun q hq => List.all_eq_true.mp ne_35 q hq⟩
set_option maxRecDepth 100000 in
theorem ne_36 : nm_36.2.2.2.2.2.all (nj_oke nj_M nm_36.1.cls nm_36.2.1) = true := by decide +kernel
set_option maxRecDepth 100000 in
theorem nc_36 : nj_okM nj_M nm_36 := ⟨by decide +kernel, nj_w_mem (pos := 646) (by decide +kernel), ⟨by decide +kernel, by decide +kernel⟩, nj_w_mem (pos := 111) (by decide +kernel), by decide +kernel, fun q hq => List.all_eq_true.mp ne_36 q hq⟩
set_option maxRecDepth 100000 in
theorem ne_37 : nm_37.2.2.2.2.2.all (nj_oke nj_M nm_37.1.cls nm_37.2.1) = true := by decide +kernel
set_option maxRecDepth 100000 in
theorem nc_37 : nj_okM nj_M nm_37 := ⟨by decide +kernel, nj_w_mem (pos := 650) (by decide +kernel), ⟨by decide +kernel, by decide +kernel⟩, nj_w_mem (pos := 116) (by decide +kernel), by decide +kernel, fun q hq => List.all_eq_true.mp ne_37 q hq⟩
set_option maxRecDepth 100000 in
theorem ne_38 : nm_38.2.2.2.2.2.all (nj_oke nj_M nm_38.1.cls nm_38.2.1) = true := by decide +kernel
set_option maxRecDepth 100000 in
theorem nc_38 : nj_okM nj_M nm_38 := ⟨by decide +kernel, nj_w_mem (pos := 654) (by decide +kernel), ⟨by decide +kernel, by decide +kernel⟩, nj_w_mem (pos := 116) (by decide +kernel), by decide +kernel, fun q hq => List.all_eq_true.mp ne_38 q hq⟩
set_option maxRecDepth 100000 in
theorem ne_39 : nm_39.2.2.2.2.2.all (nj_oke nj_M nm_39.1.cls nm_39.2.1) = true := by decide +kernel
set_option maxRecDepth 100000 in
theorem nc_39 : nj_okM nj_M nm_39 := ⟨by decide +kernel, nj_w_mem (pos := 658) (by decide +kernel), ⟨by decide +kernel, by decide +kernel⟩, nj_w_mem (pos := 111) (by decide +kernel), by decide +kernel, fun q hq => List.all_eq_true.mp ne_39 q hq⟩
set_option maxRecDepth 100000 in
theorem ne_40 : nm_40.2.2.2.2.2.all (nj_oke nj_M nm_40.1.cls nm_40.2.1) = true := by decide +kernel
set_option maxRecDepth 100000 in
theorem nc_40 : nj_okM nj_M nm_40 := ⟨by decide +kernel, nj_w_mem (pos := 664) (by decide +kernel), ⟨by decide +kernel, by decide +kernel⟩, nj_w_mem (pos := 116) (by decide +kernel), by decide +kernel, fun q hq => List.all_eq_true.mp ne_40 q hq⟩
set_option maxRecDepth 100000 in
theorem ne_41 : nm_41.2.2.2.2.2.all (nj_oke nj_M nm_41.1.cls nm_41.2.1) = true := by decide +kernel
set_option maxRecDepth 100000 in
theorem nc_41 : nj_okM nj_M nm_41 := ⟨by decide +kernel, nj_w_mem (pos := 668) (by decide +kernel), ⟨by decide +kernel, by decide +kernel⟩, nj_w_mem (pos := 116) (by decide +kernel), by decide +kernel, fun q hq => List.all_eq_true.mp ne_41 q hq⟩
set_option maxRecDepth 100000 in
theorem ne_42 : nm_42.2.2.2.2.2.all (nj_oke nj_M nm_42.1.cls nm_42.2.1) = true := by decide +kernel
set_option maxRecDepth 100000 in
theorem nc_42 : nj_okM nj_M nm_42 := ⟨by decide +kernel, nj_w_mem (pos := 672) (by decide +kernel), ⟨by decide +kernel, by decide +kernel⟩, nj_w_mem (pos := 116) (by decide +kernel), by decide +kernel, fun q hq => List.all_eq_true.mp ne_42 q hq⟩
set_option maxRecDepth 100000 in
theorem ne_43 : nm_43.2.2.2.2.2.all (nj_oke nj_M nm_43.1.cls nm_43.2.1) = true := by decide +kernel
set_option maxRecDepth 100000 in
theorem nc_43 : nj_okM nj_M nm_43 := ⟨by decide +kernel, nj_w_mem (pos := 676) (by decide +kernel), ⟨by decide +kernel, by decide +kernel⟩, nj_w_mem (pos := 116) (by decide +kernel), by decide +kernel, fun q hq => List.all_eq_true.mp ne_43 q hq⟩
set_option maxRecDepth 100000 in
theorem ne_44 : nm_44.2.2.2.2.2.all (nj_oke nj_M nm_44.1.cls nm_44.2.1) = true := by decide +kernel
set_option maxRecDepth 100000 in
theorem nc_44 : nj_okM nj_M nm_44 := ⟨by decide +kernel, nj_w_mem (pos := 680) (by decide +kernel), ⟨by decide +kernel, by decide +kernel⟩, nj_w_mem (pos := 116) (by decide +kernel), by decide +kernel, fun q hq => List.all_eq_true.mp ne_44 q hq⟩
set_option maxRecDepth 100000 in
theorem ne_45 : nm_45.2.2.2.2.2.all (nj_oke nj_M nm_45.1.cls nm_45.2.1) = true := by decide +kernel
set_option maxRecDepth 100000 in
theorem nc_45 : nj_okM nj_M nm_45 := ⟨by decide +kernel, nj_w_mem (pos := 684) (by decide +kernel), ⟨by decide +kernel, by decide +kernel⟩, nj_w_mem (pos := 116) (by decide +kernel), by decide +kernel, fun q hq => List.all_eq_true.mp ne_45 q hq⟩
