set_option maxRecDepth 100000 in
theorem ne_46 : nm_46.2.2.2.2.2.all (nj_oke nj_M nm_46.1.cls nm_46.2.1) = true := by decide +kernel
set_option maxRecDepth 100000 in
theorem nc_46 : nj_okM nj_M nm_46 := ⟨by decide +kernel, nj_w_mem (pos := 688) (by decide +kernel), ⟨by decide +kernel, by decide +kernel⟩, nj_w_mem (pos := 111) (by decide +kernel), by decide +kernel, fun q hq => List.all_eq_true.mp ne_46 q hq⟩
set_option maxRecDepth 100000 in
theorem ne_47 : nm_47.2.2.2.2.2.all (nj_oke nj_M nm_47.1.cls nm_47.2.1) = true := by decide +kernel
set_option maxRecDepth 100000 in
theorem nc_47 : nj_okM nj_M nm_47 := ⟨by decide +kernel, nj_w_mem (pos := 692) (by decide +kernel), ⟨by decide +kernel, by decide +kernel⟩, nj_w_mem (pos := 111) (by decide +kernel), by decide +kernel, fun q hq => List.all_eq_true.mp ne_47 q hq⟩
set_option maxRecDepth 100000 in
theorem ne_48 : nm_48.2.2.2.2.2.all (nj_oke nj_M nm_48.1.cls nm_48.2.1) = true := by decide +kernel
set_option maxRecDepth 100000 in
theorem nc_48 : nj_okM nj_M nm_48 := ⟨by decide +kernel, nj_w_mem (pos := 696) (by decide +kernel), ⟨by decide +kernel, by decide +kernel⟩, nj_w_mem (pos := 110) (by decide +kernel), by decide +kernel, fun q hq => List.all_eq_true.mp ne_48 q hq⟩
set_option maxRecDepth 100000 in
theorem ne_49 : nm_49.2.2.2.2.2.all (nj_oke nj_M nm_49.1.cls nm_49.2.1) = true := by decide +kernel
set_option maxRecDepth 100000 in
theorem nc_49 : nj_okM nj_M nm_49 := ⟨by decide +kernel, nj_w_mem (pos := 700) (by decide +kernel), ⟨by decide +kernel, by decide +kernel⟩, nj_w_mem (pos := 116) (by decide +kernel), by decide +kernel, fun q hq => List.all_eq_true.mp ne_49 q hq⟩
set_option maxRecDepth 100000 in
theorem ne_50 : nm_50.2.2.2.2.2.all (nj_oke nj_M nm_50.1.cls nm_50.2.1) = true := by decide +kernel
set_option maxRecDepth 100000 in
theorem nc_50 : nj_okM nj_M nm_50 := ⟨by decide +kernel, nj_w_mem (pos := 707) (by decide +kernel), ⟨by decide +kernel, by decide +kernel⟩, nj_w_mem (pos := 117) (by decide +kernel), by decide +kernel, fun q hq => List.all_eq_true.mp ne_50 q hq⟩
set_option maxRecDepth 100000 in
theorem ne_51 : nm_51.2.2.2.2.2.all (nj_oke nj_M nm_51.1.cls nm_51.2.1) = true := by decide +kernel
set_option maxRecDepth 100000 in
theorem nc_51 : nj_okM nj_M nm_51 := ⟨by decide +kernel, nj_w_mem (pos := 713) (by decide +kernel), ⟨by decide +kernel, by decide +kernel⟩, nj_w_mem (pos := 118) (by decide +kernel), by decide +kernel, fun q hq => List.all_eq_true.mp ne_51 q hq⟩
set_option maxRecDepth 100000 in
theorem ne_52 : nm_52.2.2.2.2.2.all (nj_oke nj_M nm_52.1.cls nm_52.2.1) = true := by decide +kernel
set_option maxRecDepth 100000 in
theorem nc_52 : nj_okM nj_M nm_52 := ⟨by decide +kernel, nj_w_mem (pos := 717) (by decide +kernel), ⟨by decide +kernel, by decide +kernel⟩, nj_w_mem (pos := 120) (by decide +kernel), by decide +kernel, fun q hq => List.all_eq_true.mp ne_52 q hq⟩
set_option maxRecDepth 100000 in
theorem ne_53 : nm_53.2.2.2.2.2.all (nj_oke nj_M nm_53.1.cls nm_53.2.1) = true := by decide +kernel
set_option maxRecDepth 100000 in
theorem nc_53 : nj_okM nj_M nm_53 := ⟨by decide +kernel, nj_w_mem (pos := 721) (by decide +kernel), ⟨by decide +kernel, by decide +kernel⟩, nj_w_mem (pos := 110) (by decide +kernel), by decide +kernel, fun q hq => List.all_eq_true.mp ne_53 q hq⟩
set_option maxRecDepth 100000 in
theorem ne_54 : nm_54.2.2.2.2.2.all (nj_oke nj_M nm_54.1.cls nm_54.2.1) = true := by decide +kernel
set_option maxRecDepth 100000 in
theorem nc_54 : nj_okM nj_M nm_54 := ⟨by decide +kernel, nj_w_mem (pos := 725) (by decide +kernel), ⟨by decide +kernel, by decide +kernel⟩, nj_w_mem (pos := 110) (by decide +kernel), by decide +kernel, fun q hq => List.all_eq_true.mp ne_54 q hq⟩
set_option maxRecDepth 100000 in
theorem ne_55 : nm_55.2.2.2.2.2.all (nj_oke nj_M nm_55.1.cls nm_55.2.1) = true := by decide +kernel
set_option maxRecDepth 100000 in
theorem nc_55 : nj_okM nj_M nm_55 := ⟨by decide +kernel, nj_w_mem (pos := 729) (by decide +kernel), ⟨by decide +kernel, by decide +kernel⟩, nj_w_mem (pos := 116) (by decide +kernel), by decide +kernel, fun q hq => List.all_eq_true.mp ne_55 q hq⟩
set_option maxRecDepth 100000 in
theorem ne_56 : nm_56.2.2.2.2.2.all (nj_oke nj_M nm_56.1.cls nm_56.2.1) = true := by decide +kernel
set_option maxRecDepth 100000 in
theorem nc_56 : nj_okM nj_M nm_56 := ⟨by decide +kernel, nj_w_mem (pos := 733) (by decide +kernel), ⟨by decide +kernel, by decide +kernel⟩, nj_w_mem (pos := 110) (by decide +kernel), by decide +kernel, fun q hq => List.all_eq_true.mp ne_56 q hq⟩
set_option maxRecDepth 100000 in
theorem ne_57 : nm_57.2.2.2.2.2.all (nj_oke nj_M nm_57.1.cls nm_57.2.1) = true := by decide +kernel
set_option maxRecDepth 100000 in
theorem nc_57 : nj_okM nj_M nm_57 := ⟨by decide +kernel, nj_w_mem (pos := 737) (by decide +kernel), ⟨by decide +kernel, by decide +kernel⟩, nj_w_mem (pos := 116) (by decide +kernel), by decide +kernel, fun q hq => List.all_eq_true.mp ne_57 q hq⟩
set_option maxRecDepth 100000 in
theorem ne_58 : nm_58.2.2.2.2.2.all (nj_oke nj_M nm_58.1.cls nm_58.2.1) = true := by decide +kernel
set_option maxRecDepth 100000 in
theorem nc_58 : nj_okM nj_M nm_58 := ⟨by decide +kernel, nj_w_mem (pos := 741) (by decide +kernel), ⟨by decide +kernel, by decide +kernel⟩, nj_w_mem (pos := 110) (by decide +kernel), by decide +kernel, fun q hq => List.all_eq_true.mp ne_58 q hq⟩
set_option maxRecDepth 100000 in
theorem ne_59 : nm_59.2.2.2.2.2.all (nj_oke nj_M nm_59.1.cls nm_59.2.1) = true := by decide +kernel
set_option maxRecDepth 100000 in
theorem nc_59 : nj_okM nj_M nm_59 := ⟨by decide +kernel, nj_w_mem (pos := 745) (by decide +kernel), ⟨by decide +kernel, by decide +kernel⟩, nj_w_mem (pos := 117) (by decide +kernel), by decide +kernel, fun q hq => List.all_eq_true.mp ne_59 q hq⟩
set_option maxRecDepth 100000 in
theorem ne_60 : nm_60.2.2.2.2.2.all (nj_oke nj_M nm_60.1.cls nm_60.2.1) = true := by decide +kernel
set_option maxRecDepth 100000 in
theorem nc_60 : nj_okM nj_M nm_60 := ⟨by decide +kernel, nj_w_mem (pos := 749) (by decide +kernel), ⟨by decide +kernel, by decide +kernel⟩, nj_w_mem (pos := 110) (by decide +kernel), by decide +kernel, fun q hq => List.all_eq_true.mp ne_60 q hq⟩
set_option maxRecDepth 100000 in
theorem ne_61 : nm_61.2.2.2.2.2.all (nj_oke nj_M nm_61.1.cls nm_61.2.1) = true := by decide +kernel
set_option maxRecDepth 100000 in
theorem nc_61 : nj_okM nj_M nm_61 := ⟨by decide +kernel, nj_w_mem (pos := 753) (by decide +kernel), ⟨by decide +kernel, by decide +kernel⟩, nj_w_mem (pos := 117) (by decide +kernel), by decide +kernel, fun q hq => List.all_eq_true.mp ne_61 q hq⟩
set_option maxRecDepth 100000 in
theorem ne_62 : nm_62.2.2.2.2.2.all (nj_oke nj_M nm_62.1.cls nm_62.2.1) = true := by decide +kernel
set_option maxRecDepth 100000 in
theorem nc_62 : nj_okM nj_M nm_62 := ⟨by decide +kernel, nj_w_mem (pos := 757) (by decide +kernel), ⟨by decide +kernel, by decide +kernel⟩, nj_w_mem (pos := 120) (by decide +kernel), by decide +kernel, fun q hq => List.all_eq_true.mp ne_62 q hq⟩
set_option maxRecDepth 100000 in
theorem ne_63 : nm_63.2.2.2.2.2.all (nj_oke nj_M nm_63.1.cls nm_63.2.1) = true := by decide +kernel
set_option maxRecDepth 100000 in
theorem nc_63 : nj_okM nj_M nm_63 := ⟨by decide +kernel, nj_w_mem (pos := 761) (by decide +kernel), ⟨by decide +kernel, by decide +kernel⟩, nj_w_mem (pos := 117) (by decide +kernel), by decide +kernel, fun q hq => List.all_eq_true.mp ne_63 q hq⟩
set_option maxRecDepth 100000 in
theorem ne_64 : nm_64.2.2.2.2.2.all (nj_oke nj_M nm_64.1.cls nm_64.2.1) = true := by decide +kernel
set_option maxRecDepth 100000 in
theorem nc_64 : nj_okM nj_M nm_64 := ⟨by decide +kernel, nj_w_mem (pos := 766) (by decide +kernel), ⟨by decide +kernel, by decide +kernel⟩, nj_w_mem (pos := 117) (by decide +kernel), by decide +kernel, fun q hq => List.all_eq_true.mp ne_64 q hq⟩
set_option maxRecDepth 100000 in
theorem ne_65 : nm_65.2.2.2.2.2.all (nj_oke nj_M nm_65.1.cls nm_65.2.1) = true := by decide +kernel
set_option maxRecDepth 100000 in
theorem nc_65 : nj_okM nj_M nm_65 := ⟨by decide +kernel, nj_w_mem (pos := 773) (by decide +kernel), ⟨by decide +kernel, by decide +kernel⟩, nj_w_mem (pos := 116) (by decide +kernel), by decide +kernel, fun q hq => List.all_eq_true.mp ne_65 q hq⟩
set_option maxRecDepth 100000 in
theorem ne_66 : nm_66.2.2.2.2.2.all (nj_oke nj_M nm_66.1.cls nm_66.2.1) = true := by decide +kernel
set_option maxRecDepth 100000 in
theorem nc_66 : nj_okM nj_M nm_66 := ⟨by decide +kernel, nj_w_mem (pos := 777) (by decide +kernel), ⟨by decide +kernel, by decide +kernel⟩, nj_w_mem (pos := 117) (by decide +kernel), by decide +kernel, fun q hq => List.all_eq_true.mp ne_66 q hq⟩
set_option maxRecDepth 100000 in
theorem ne_67 : nm_67.2.2.2.2.2.all (nj_oke nj_M nm_67.1.cls nm_67.2.1) = true := by decide +kernel
set_option maxRecDepth 100000 in
theorem nc_67 : nj_okM nj_M nm_67 := ⟨by decide +kernel, nj_w_mem (pos := 781) (by decide +kernel), ⟨by decide +kernel, by decide +kernel⟩, nj_w_mem (pos := 117) (by decide +kernel), by decide +kernel, fun q hq => List.all_eq_true.mp ne_67 q hq⟩
set_option maxRecDepth 100000 in
theorem ne_68 : nm_68.2.2.2.2.2.all (nj_oke nj_M nm_68.1.cls nm_68.2.1) = true := by decide +kernel
set_option maxRecDepth 100000 in
theorem nc_68 : nj_okM nj_M nm_68 := ⟨by decide +kernel, nj_w_mem (pos := 785) (by decide +kernel), ⟨by decide +kernel, by decide +kernel⟩, nj_w_mem (pos := 110) (by decide +kernel), by decide +kernel, fun q hq => List.all_eq_true.mp ne_68 q hq⟩
set_option maxRecDepth 100000 in
theorem ne_69 : nm_69.2.2.2.2.2.all (nj_oke nj_M nm_69.1.cls nm_69.2.1) = true := by decide +kernel
set_option maxRecDepth 100000 in
theorem nc_69 : nj_okM nj_M nm_69 := ⟨by decide +kernel, nj_w_mem (pos := 789) (by decide +kernel), ⟨by decide +kernel, by decide +kernel⟩, nj_w_mem (pos := 117) (by decide +kernel), by decide +kernel, fun q hq => List.all_eq_true.mp ne_69 q hq⟩
set_option maxRecDepth 100000 in
theorem ne_70 : nm_70.2.2.2.2.2.all (nj_oke nj_M nm_70.1.cls nm_70.2.1) = true := by decide +kernel
set_option maxRecDepth 100000 in
theorem nc_70 : nj_okM nj_M nm_70 := ⟨by decide +kernel, nj_w_mem (pos := 793) (by decide +kernel), ⟨by decide +kernel, by decide +kernel⟩, nj_w_mem (pos := 116) (by decide +kernel), by decide +kernel, fun q hq => List.all_eq_true.mp ne_70 q hq⟩
set_option maxRecDepth 100000 in
theorem ne_71 : nm_71.2.2.2.2.2.all (nj_oke nj_M nm_71.1.cls nm_71.2.1) = true := by decide +kernel
set_option maxRecDepth 100000 in
theorem nc_71 : nj_okM nj_M nm_71 := ⟨by decide +kernel, nj_w_mem (pos := 797) (by decide +kernel), ⟨by decide +kernel, by decide +kernel⟩, nj_w_mem (pos := 116) (by decide +kernel), by decide +kernel, fun q hq => List.all_eq_true.mp ne_71 q hq⟩
set_option maxRecDepth 100000 in
theorem ne_72 : nm_72.2.2.2.2.2.all (nj_oke nj_M nm_72.1.cls nm_72.2.1) = true := by decide +kernel
set_option maxRecDepth 100000 in
theorem nc_72 : nj_okM nj_M nm_72 := ⟨by decide +kernel, nj_w_mem (pos := 801) (by decide +kernel), ⟨by decide +kernel, by decide +kernel⟩, nj_w_mem (pos := 116) (by decide +kernel), by decide +kernel, fun q hq => List.all_eq_true.mp ne_72 q hq⟩
set_option maxRecDepth 100000 in
theorem ne_73 : nm_73.2.2.2.2.2.all (nj_oke nj_M nm_73.1.cls nm_73.2.1) = true := by decide +kernel
set_option maxRecDepth 100000 in
theorem nc_73 : nj_okM nj_M nm_73 := ⟨by decide +kernel, nj_w_mem (pos := 805) (by decide +kernel), ⟨by decide +kernel, by decide +kernel⟩, nj_w_mem (pos := 116) (by decide +kernel), by decide +kernel, fun q hq => List.all_eq_true.mp ne_73 q hq⟩
set_option maxRecDepth 100000 in
theorem ne_74 : nm_74.2.2.2.2.2.all (nj_oke nj_M nm_74.1.cls nm_74.2.1) = true := by decide +kernel
set_option maxRecDepth 100000 in
theorem nc_74 : nj_okM nj_M nm_74 := ⟨by decide +kernel, nj_w_mem (pos := 809) (by decide +kernel), ⟨by decide +kernel, by decide +kernel⟩, nj_w_mem (pos := 116) (by decide +kernel), by decide +kernel, fun q hq => List.all_eq_true.mp ne_74 q hq⟩
set_option maxRecDepth 100000 in
theorem ne_75 : nm_75.2.2.2.2.2.all (nj_oke nj_M nm_75.1.cls nm_75.2.1) = true := by decide +kernel
set_option maxRecDepth 100000 in
theorem nc_75 : nj_okM nj_M nm_75 := ⟨by decide +kernel, nj_w_mem (pos := 813) (by decide +kernel), ⟨by decide +kernel, by decide +kernel⟩, nj_w_mem (pos := 110) (by decide +kernel), by decide +kernel, fun q hq => List.all_eq_true.mp ne_75 q hq⟩
set_option maxRecDepth 100000 in
theorem ne_76 : nm_76.2.2.2.2.2.all (nj_oke nj_M nm_76.1.cls nm_76.2.1) = true := by decide +kernel
set_option maxRecDepth 100000 in
theorem nc_76 : nj_okM nj_M nm_76 := ⟨by decide +kernel, nj_w_mem (pos := 817) (by decide +kernel), ⟨by decide +kernel, by decide +kernel⟩, nj_w_mem (pos := 117) (by decide +kernel), by decide +kernel, fun q hq => List.all_eq_true.mp ne_76 q hq⟩
set_option maxRecDepth 100000 in
theorem ne_77 : nm_77.2.2.2.2.2.all (nj_oke nj_M nm_77.1.cls nm_77.2.1) = true := by decide +kernel
set_option maxRecDepth 100000 in
theorem nc_77 : nj_okM nj_M nm_77 := ⟨by decide +kernel, nj_w_mem (pos := 821) (by decide +kernel), ⟨by decide +kernel, by decide +kernel⟩, nj_w_mem (pos := 117) (by decide +kernel), by decide +kernel, fun q hq => List.all_eq_true.mp ne_77 q hq⟩
set_option maxRecDepth 100000 in
theorem ne_78 : nm_78.2.2.2.2.2.all (nj_oke nj_M nm_78.1.cls nm_78.2.1) = true := by decide +kernel
set_option maxRecDepth 100000 in
theorem nc_78 : nj_okM nj_M nm_78 := ⟨by decide +kernel, nj_w_mem (pos := 826) (by decide +kernel), ⟨by decide +kernel, by decide +kernel⟩, nj_w_mem (pos := 110) (by decide +kernel), by decide +kernel, fun q hq => List.all_eq_true.mp ne_78 q hq⟩
set_option maxRecDepth 100000 in
theorem ne_79 : nm_79.2.2.2.2.2.all (nj_oke nj_M nm_79.1.cls nm_79.2.1) = true := by decide +kernel
set_option maxRecDepth 100000 in
theorem nc_79 : nj_okM nj_M nm_79 := ⟨by decide +kernel, nj_w_mem (pos := 830) (by decide +kernel), ⟨by decide +kernel, by decide +kernel⟩, nj_w_mem (pos := 110) (by decide +kernel), by decide +kernel, fun q hq => List.all_eq_true.mp ne_79 q hq⟩
set_option maxRecDepth 100000 in
theorem ne_80 : nm_80.2.2.2.2.2.all (nj_oke nj_M nm_80.1.cls nm_80.2.1) = true := by decide +kernel
set_option maxRecDepth 100000 in
theorem nc_80 : nj_okM nj_M nm_80 := ⟨by decide +kernel, nj_w_mem (pos := 834) (by decide +kernel), ⟨by decide +kernel, by decide +kernel⟩, nj_w_mem (pos := 120) (by decide +kernel), by decide +kernel, fun q hq => List.all_eq_true.mp ne_80 q hq⟩
set_option maxRecDepth 100000 in
theorem ne_81 : nm_81.2.2.2.2.2.all (nj_oke nj_M nm_81.1.cls nm_81.2.1) = true := by decide +kernel
set_option maxRecDepth 100000 in
theorem nc_81 : nj_okM nj_M nm_81 := ⟨by decide +kernel, nj_w_mem (pos := 838) (by decide +kernel), ⟨by decide +kernel, by decide +kernel⟩, nj_w_mem (pos := 110) (by decide +kernel), by decide +kernel, fun q hq => List.all_eq_true.mp ne_81 q hq⟩
set_option maxRecDepth 100000 in
theorem ne_82 : nm_82.2.2.2.2.2.all (nj_oke nj_M nm_82.1.cls nm_82.2.1) = true := by decide +kernel
set_option maxRecDepth 100000 in
theorem nc_82 : nj_okM nj_M nm_82 := ⟨by decide +kernel, nj_w_mem (pos := 842) (by decide +kernel), ⟨by decide +kernel, by decide +kernel⟩, nj_w_mem (pos := 117) (by decide +kernel), by decide +kernel, fun q hq => List.all_eq_true.mp ne_82 q hq⟩
set_option maxRecDepth 100000 in
theorem ne_83 : nm_83.2.2.2.2.2.all (nj_oke nj_M nm_83.1.cls nm_83.2.1) = true := by decide +kernel
set_option maxRecDepth 100000 in
theorem nc_83 : nj_okM nj_M nm_83 := ⟨by decide +kernel, nj_w_mem (pos := 846) (by decide +kernel), ⟨by decide +kernel, by decide +kernel⟩, nj_w_mem (pos := 110) (by decide +kernel), by decide +kernel, fun q hq => List.all_eq_true.mp ne_83 q hq⟩
set_option maxRecDepth 100000 in
theorem ne_84 : nm_84.2.2.2.2.2.all (nj_oke nj_M nm_84.1.cls nm_84.2.1) = true := by decide +kernel
set_option maxRecDepth 100000 in
theorem nc_84 : nj_okM nj_M nm_84 := ⟨by decide +kernel, nj_w_mem (pos := 850) (by decide +kernel), ⟨by decide +kernel, by decide +kernel⟩, nj_w_mem (pos := 110) (by decide +kernel), by decide +kernel, fun q hq => List.all_eq_true.mp ne_84 q hq⟩
set_option maxRecDepth 100000 in
theorem ne_85 : nm_85.2.2.2.2.2.all (nj_oke nj_M nm_85.1.cls nm_85.2.1) = true := by decide +kernel
set_option maxRecDepth 100000 in
theorem nc_85 : nj_okM nj_M nm_85 := ⟨by decide +kernel, nj_w_mem (pos := 854) (by decide +kernel), ⟨by decide +kernel, by decide +kernel⟩, nj_w_mem (pos := 110) (by decide +kernel), by decide +kernel, fun q hq => List.all_eq_true.mp ne_85 q hq⟩
set_option maxRecDepth 100000 in
theorem ne_86 : nm_86.2.2.2.2.2.all (nj_oke nj_M nm_86.1.cls nm_86.2.1) = true := by decide +kernel
set_option maxRecDepth 100000 in
theorem nc_86 : nj_okM nj_M nm_86 := ⟨by decide +kernel, nj_w_mem (pos := 860) (by decide +kernel), ⟨by decide +kernel, by decide +kernel⟩, nj_w_mem (pos := 110) (by decide +kernel), by decide +kernel, fun q hq => List.all_eq_true.mp ne_86 q hq⟩
set_option maxRecDepth 100000 in
theorem ne_87 : nm_87.2.2.2.2.2.all (nj_oke nj_M nm_87.1.cls nm_87.2.1) = true := by decide +kernel
set_option maxRecDepth 100000 in
theorem nc_87 : nj_okM nj_M nm_87 := ⟨by decide +kernel, nj_w_mem (pos := 864) (by decide +kernel), ⟨by decide +kernel, by decide +kernel⟩, nj_w_mem (pos := 110) (by decide +kernel), by decide +kernel, fun q hq => List.all_eq_true.mp ne_87 q hq⟩
set_option maxRecDepth 100000 in
theorem ne_88 : nm_88.2.2.2.2.2.all (nj_oke nj_M nm_88.1.cls nm_88.2.1) = true := by decide +kernel
set_option maxRecDepth 100000 in
theorem nc_88 : nj_okM nj_M nm_88 := ⟨by decide +kernel, nj_w_mem (pos := 869) (by decide +kernel), ⟨by decide +kernel, by decide +kernel⟩, nj_w_mem (pos := 110) (by decide +kernel), by decide +kernel, fun q hq => List.all_eq_true.mp ne_88 q hq⟩
set_option maxRecDepth 100000 in
theorem ne_89 : nm_89.2.2.2.2.2.all (nj_oke nj_M nm_89.1.cls nm_89.2.1) = true := by decide +kernel
set_option maxRecDepth 100000 in
theorem nc_89 : nj_okM nj_M nm_89 := ⟨by decide +kernel, nj_w_mem (pos := 873) (by decide +kernel), ⟨by decide +kernel, by decide +kernel⟩, nj_w_mem (pos := 110) (by decide +kernel), by decide +kernel, fun q hq => List.all_eq_true.mp ne_89 q hq⟩
set_option maxRecDepth 100000 in
theorem ne_90 : nm_90.2.2.2.2.2.all (nj_oke nj_M nm_90.1.cls nm_90.2.1) = true := by decide +kernel
set_option maxRecDepth 100000 in
theorem nc_90 : nj_okM nj_M nm_90 := ⟨by decide +kernel, nj_w_mem (pos := 877) (by decide +kernel), ⟨by decide +kernel, by decide +kernel⟩, nj_w_mem (pos := 111) (by decide +kernel), by decide +kernel, fun q hq => List.all_eq_true.mp ne_90 q hq⟩
set_option maxRecDepth 100000 in
theorem ne_91 : nm_91.2.2.2.2.2.all (nj_oke nj_M nm_91.1.cls nm_91.2.1) = true := by decide +kernel
set_option maxRecDepth 100000 in
theorem nc_91 : nj_okM nj_M nm_91 := ⟨by decide +kernel, nj_w_mem (pos := 881) (by decide +kernel), ⟨by decide +kernel, by decide +kernel⟩, nj_w_mem (pos := 110) (by decide +kernel), by decide +kernel, fun q hq => List.all_eq_true.mp ne_91 q hq⟩
