set_option maxRecDepth 100000 in
theorem ne_92 : nm_92.2.2.2.2.2.all (nj_oke nj_M nm_92.1.cls nm_92.2.1) = true := by decide +kernel
set_option maxRecDepth 100000 in
theorem nc_92 : nj_okM nj_M nm_92 := ⟨by decide +kernel, nj_w_mem (pos := 885) (by decide +kernel), ⟨by decide +kernel, by decide +kernel⟩, nj_w_mem (pos := 111) (by decide +kernel), by decide +kernel, fun q hq => List.all_eq_true.mp ne_92 q hq⟩
set_option maxRecDepth 100000 in
theorem ne_93 : nm_93.2.2.2.2.2.all (nj_oke nj_M nm_93.1.cls nm_93.2.1) = true := by decide +kernel
set_option maxRecDepth 100000 in
theorem nc_93 : nj_okM nj_M nm_93 := ⟨by decide +kernel, nj_w_mem (pos := 889) (by decide +kernel), ⟨by decide +kernel, by decide +kernel⟩, nj_w_mem (pos := 122) (by decide +kernel), by decide +kernel, fun q hq => List.all_eq_true.mp ne_93 q hq⟩
set_option maxRecDepth 100000 in
theorem ne_94 : nm_94.2.2.2.2.2.all (nj_oke nj_M nm_94.1.cls nm_94.2.1) = true := by decide +kernel
set_option maxRecDepth 100000 in
theorem nc_94 : nj_okM nj_M nm_94 := ⟨by decide +kernel, nj_w_mem (pos := 895) (by decide +kernel), ⟨by decide +kernel, by decide +kernel⟩, nj_w_mem (pos := 122) (by decide +kernel), by decide +kernel, fun q hq => List.all_eq_true.mp ne_94 q hq⟩
set_option maxRecDepth 100000 in
theorem ne_95 : nm_95.2.2.2.2.2.all (nj_oke nj_M nm_95.1.cls nm_95.2.1) = true := by decide +kernel
set_option maxRecDepth 100000 in
theorem nc_95 : nj_okM nj_M nm_95 := ⟨by decide +kernel, nj_w_mem (pos := 899) (by decide +kernel), ⟨by decide +kernel, by decide +kernel⟩, nj_w_mem (pos := 122) (by decide +kernel), by decide +kernel, fun q hq => List.all_eq_true.mp ne_95 q hq⟩
set_option maxRecDepth 100000 in
theorem ne_96 : nm_96.2.2.2.2.2.all (nj_oke nj_M nm_96.1.cls nm_96.2.1) = true := by decide +kernel
set_option maxRecDepth 100000 in
theorem nc_96 : nj_okM nj_M nm_96 := ⟨by decide +kernel, nj_w_mem (pos := 904) (by decide +kernel), ⟨by decide +kernel, by decide +kernel⟩, nj_w_mem (pos := 122) (by decide +kernel), by decide +kernel, fun q hq => List.all_eq_true.mp ne_96 q hq⟩
set_option maxRecDepth 100000 in
theorem ne_97 : nm_97.2.2.2.2.2.all (nj_oke nj_M nm_97.1.cls nm_97.2.1) = true := by decide +kernel
set_option maxRecDepth 100000 in
theorem nc_97 : nj_okM nj_M nm_97 := ⟨by decide +kernel, nj_w_mem (pos := 909) (by decide +kernel), ⟨by decide +kernel, by decide +kernel⟩, nj_w_mem (pos := 122) (by decide +kernel), by decide +kernel, fun q hq => List.all_eq_true.mp ne_97 q hq⟩
set_option maxRecDepth 100000 in
theorem ne_98 : nm_98.2.2.2.2.2.all (nj_oke nj_M nm_98.1.cls nm_98.2.1) = true := by decide +kernel
set_option maxRecDepth 100000 in
theorem nc_98 : nj_okM nj_M nm_98 := ⟨by decide +kernel, nj_w_mem (pos := 913) (by decide +kernel), ⟨by decide +kernel, by decide +kernel⟩, nj_w_mem (pos := 110) (by decide +kernel), by decide +kernel, fun q hq => List.all_eq_true.mp ne_98 q hq⟩
set_option maxRecDepth 100000 in
theorem ne_99 : nm_99.2.2.2.2.2.all (nj_oke nj_M nm_99.1.cls nm_99.2.1) = true := by decide +kernel
set_option maxRecDepth 100000 in
theorem nc_99 : nj_okM nj_M nm_99 := ⟨by decide +kernel, nj_w_mem (pos := 917) (by decide +kernel), ⟨by decide +kernel, by decide +kernel⟩, nj_w_mem (pos := 110) (by decide +kernel), by decide +kernel, fun q hq => List.all_eq_true.mp ne_99 q hq⟩
set_option maxRecDepth 100000 in
theorem ne_100 : nm_100.2.2.2.2.2.all (nj_oke nj_M nm_100.1.cls nm_100.2.1) = true := by decide +kernel
set_option maxRecDepth 100000 in
theorem nc_100 : nj_okM nj_M nm_100 := ⟨by decide +kernel, nj_w_mem (pos := 921) (by decide +kernel), ⟨by decide +kernel, by decide +kernel⟩, nj_w_mem (pos := 110) (by decide +kernel), by decide +kernel, fun q hq => List.all_eq_true.mp ne_100 q hq⟩
set_option maxRecDepth 100000 in
theorem ne_101 : nm_101.2.2.2.2.2.all (nj_oke nj_M nm_101.1.cls nm_101.2.1) = true := by decide +kernel
set_option maxRecDepth 100000 in
theorem nc_101 : nj_okM nj_M nm_101 := ⟨by decide +kernel, nj_w_mem (pos := 925) (by decide +kernel), ⟨by decide +kernel, by decide +kernel⟩, nj_w_mem (pos := 110) (by decide +kernel), by decide +kernel, fun q hq => List.all_eq_true.mp ne_101 q hq⟩
set_option maxRecDepth 100000 in
theorem ne_102 : nm_102.2.2.2.2.2.all (nj_oke nj_M nm_102.1.cls nm_102.2.1) = true := by decide +kernel
set_option maxRecDepth 100000 in
theorem nc_102 : nj_okM nj_M nm_102 := ⟨by decide +kernel, nj_w_mem (pos := 929) (by decide +kernel), ⟨by decide +kernel, by decide +kernel⟩, nj_w_mem (pos := 110) (by decide +kernel), by decide +kernel, fun q hq => List.all_eq_true.mp ne_102 q hq⟩
set_option maxRecDepth 100000 in
theorem ne_103 : nm_103.2.2.2.2.2.all (nj_oke nj_M nm_103.1.cls nm_103.2.1) = true := by decide +kernel
set_option maxRecDepth 100000 in
theorem nc_103 : nj_okM nj_M nm_103 := ⟨by decide +kernel, nj_w_mem (pos := 933) (by decide +kernel), ⟨by decide +kernel, by decide +kernel⟩, nj_w_mem (pos := 110) (by decide +kernel), by decide +kernel, fun q hq => List.all_eq_true.mp ne_103 q hq⟩
set_option maxRecDepth 100000 in
theorem ne_104 : nm_104.2.2.2.2.2.all (nj_oke nj_M nm_104.1.cls nm_104.2.1) = true := by decide +kernel
set_option maxRecDepth 100000 in
theorem nc_104 : nj_okM nj_M nm_104 := ⟨by decide +kernel, nj_w_mem (pos := 937) (by decide +kernel), ⟨by decide +kernel, by decide +kernel⟩, nj_w_mem (pos := 110) (by decide +kernel), by decide +kernel, fun q hq => List.all_eq_true.mp ne_104 q hq⟩
set_option maxRecDepth 100000 in
theorem ne_105 : nm_105.2.2.2.2.2.all (nj_oke nj_M nm_105.1.cls nm_105.2.1) = true := by decide +kernel
set_option maxRecDepth 100000 in
theorem nc_105 : nj_okM nj_M nm_105 := ⟨by decide +kernel, nj_w_mem (pos := 941) (by decide +kernel), ⟨by decide +kernel, by decide +kernel⟩, nj_w_mem (pos := 110) (by decide +kernel), by decide +kernel, fun q hq => List.all_eq_true.mp ne_105 q hq⟩
set_option maxRecDepth 100000 in
theorem ne_106 : nm_106.2.2.2.2.2.all (nj_oke nj_M nm_106.1.cls nm_106.2.1) = true := by decide +kernel
set_option maxRecDepth 100000 in
theorem nc_106 : nj_okM nj_M nm_106 := ⟨by decide +kernel, nj_w_mem (pos := 945) (by decide +kernel), ⟨by decide +kernel, by decide +kernel⟩, nj_w_mem (pos := 110) (by decide +kernel), by decide +kernel, fun q hq => List.all_eq_true.mp ne_106 q hq⟩
set_option maxRecDepth 100000 in
theorem ne_107 : nm_107.2.2.2.2.2.all (nj_oke nj_M nm_107.1.cls nm_107.2.1) = true := by decide +kernel
set_option maxRecDepth 100000 in
theorem nc_107 : nj_okM nj_M nm_107 := ⟨by decide +kernel, nj_w_mem (pos := 949) (by decide +kernel), ⟨by decide +kernel, by decide +kernel⟩, nj_w_mem (pos := 110) (by decide +kernel), by decide +kernel, fun q hq => List.all_eq_true.mp ne_107 q hq⟩
set_option maxRecDepth 100000 in
theorem ne_108 : nm_108.2.2.2.2.2.all (nj_oke nj_M nm_108.1.cls nm_108.2.1) = true := by decide +kernel
set_option maxRecDepth 100000 in
theorem nc_108 : nj_okM nj_M nm_108 := ⟨by decide +kernel, nj_w_mem (pos := 953) (by decide +kernel), ⟨by decide +kernel, by decide +kernel⟩, nj_w_mem (pos := 110) (by decide +kernel), by decide +kernel, fun q hq => List.all_eq_true.mp ne_108 q hq⟩
set_option maxRecDepth 100000 in
theorem ne_109 : nm_109.2.2.2.2.2.all (nj_oke nj_M nm_109.1.cls nm_109.2.1) = true := by decide +kernel
set_option maxRecDepth 100000 in
theorem nc_109 : nj_okM nj_M nm_109 := ⟨by decide +kernel, nj_w_mem (pos := 957) (by decide +kernel), ⟨by decide +kernel, by decide +kernel⟩, nj_w_mem (pos := 110) (by decide +kernel), by decide +kernel, fun q hq => List.all_eq_true.mp ne_109 q hq⟩
set_option maxRecDepth 100000 in
theorem ne_110 : nm_110.2.2.2.2.2.all (nj_oke nj_M nm_110.1.cls nm_110.2.1) = true := by decide +kernel
set_option maxRecDepth 100000 in
theorem nc_110 : nj_okM nj_M nm_110 := ⟨by decide +kernel, nj_w_mem (pos := 961) (by decide +kernel), ⟨by decide +kernel, by decide +kernel⟩, nj_w_mem (pos := 110) (by decide +kernel), by decide +kernel, fun q hq => List.all_eq_true.mp ne_110 q hq⟩
set_option maxRecDepth 100000 in
theorem ne_111 : nm_111.2.2.2.2.2.all (nj_oke nj_M nm_111.1.cls nm_111.2.1) = true := by decide +kernel
set_option maxRecDepth 100000 in
theorem nc_111 : nj_okM nj_M nm_111 := ⟨by decide +kernel, nj_w_mem (pos := 965) (by decide +kernel), ⟨by decide +kernel, by decide +kernel⟩, nj_w_mem (pos := 110) (by decide +kernel), by decide +kernel, fun q hq => List.all_eq_true.mp ne_111 q hq⟩
set_option maxRecDepth 100000 in
theorem ne_112 : nm_112.2.2.2.2.2.all (nj_oke nj_M nm_112.1.cls nm_112.2.1) = true := by decide +kernel
set_option maxRecDepth 100000 in
theorem nc_112 : nj_okM nj_M nm_112 := ⟨by decide +kernel, nj_w_mem (pos := 969) (by decide +kernel), ⟨by decide +kernel, by decide +kernel⟩, nj_w_mem (pos := 116) (by decide +kernel), by decide +kernel, fun q hq => List.all_eq_true.mp ne_112 q hq⟩
set_option maxRecDepth 100000 in
theorem ne_113 : nm_113.2.2.2.2.2.all (nj_oke nj_M nm_113.1.cls nm_113.2.1) = true := by decide +kernel
set_option maxRecDepth 100000 in
theorem nc_113 : nj_okM nj_M nm_113 := ⟨by decide +kernel, nj_w_mem (pos := 973) (by decide +kernel), ⟨by decide +kernel, by decide +kernel⟩, nj_w_mem (pos := 116) (by decide +kernel), by decide +kernel, fun q hq => List.all_eq_true.mp ne_113 q hq⟩
set_option maxRecDepth 100000 in
theorem ne_114 : nm_114.2.2.2.2.2.all (nj_oke nj_M nm_114.1.cls nm_114.2.1) = true := by decide +kernel
set_option maxRecDepth 100000 in
theorem nc_114 : nj_okM nj_M nm_114 := ⟨by decide +kernel, nj_w_mem (pos := 978) (by decide +kernel), ⟨by decide +kernel, by decide +kernel⟩, nj_w_mem (pos := 110) (by decide +kernel), by decide +kernel, fun q hq => List.all_eq_true.mp ne_114 q hq⟩
set_option maxRecDepth 100000 in
theorem ne_115 : nm_115.2.2.2.2.2.all (nj_oke nj_M nm_115.1.cls nm_115.2.1) = true := by decide +kernel
set_option maxRecDepth 100000 in
theorem nc_115 : nj_okM nj_M nm_115 := ⟨by decide +kernel, nj_w_mem (pos := 982) (by decide +kernel), ⟨by decide +kernel, by decide +kernel⟩, nj_w_mem (pos := 116) (by decide +kernel), by decide +kernel, fun q hq => List.all_eq_true.mp ne_115 q hq⟩
set_option maxRecDepth 100000 in
theorem ne_116 : nm_116.2.2.2.2.2.all (nj_oke nj_M nm_116.1.cls nm_116.2.1) = true := by decide +kernel
set_option maxRecDepth 100000 in
theorem nc_116 : nj_okM nj_M nm_116 := ⟨by decide +kernel, nj_w_mem (pos := 987) (by decide +kernel), ⟨by decide +kernel, by decide +kernel⟩, nj_w_mem (pos := 110) (by decide +kernel), by decide +kernel, fun q hq => List.all_eq_true.mp ne_116 q hq⟩
set_option maxRecDepth 100000 in
theorem ne_117 : nm_117.2.2.2.2.2.all (nj_oke nj_M nm_117.1.cls nm_117.2.1) = true := by decide +kernel
set_option maxRecDepth 100000 in
theorem nc_117 : nj_okM nj_M nm_117 := ⟨by decide +kernel, nj_w_mem (pos := 991) (by decide +kernel), ⟨by decide +kernel, by decide +kernel⟩, nj_w_mem (pos := 116) (by decide +kernel), by decide +kernel, fun q hq => List.all_eq_true.mp ne_117 q hq⟩
set_option maxRecDepth 100000 in
theorem ne_118 : nm_118.2.2.2.2.2.all (nj_oke nj_M nm_118.1.cls nm_118.2.1) = true := by decide +kernel
set_option maxRecDepth 100000 in
theorem nc_118 : nj_okM nj_M nm_118 := ⟨by decide +kernel, nj_w_mem (pos := 995) (by decide +kernel), ⟨by decide +kernel, by decide +kernel⟩, nj_w_mem (pos := 116) (by decide +kernel), by decide +kernel, fun q hq => List.all_eq_true.mp ne_118 q hq⟩
set_option maxRecDepth 100000 in
theorem ne_119 : nm_119.2.2.2.2.2.all (nj_oke nj_M nm_119.1.cls nm_119.2.1) = true := by decide +kernel
set_option maxRecDepth 100000 in
theorem nc_119 : nj_okM nj_M nm_119 := ⟨by decide +kernel, nj_w_mem (pos := 999) (by decide +kernel), ⟨by decide +kernel, by decide +kernel⟩, nj_w_mem (pos := 110) (by decide +kernel), by decide +kernel, fun q hq => List.all_eq_true.mp ne_119 q hq⟩
set_option maxRecDepth 100000 in
theorem ne_120 : nm_120.2.2.2.2.2.all (nj_oke nj_M nm_120.1.cls nm_120.2.1) = true := by decide +kernel
set_option maxRecDepth 100000 in
theorem nc_120 : nj_okM nj_M nm_120 := ⟨by decide +kernel, nj_w_mem (pos := 1004) (by decide +kernel), ⟨by decide +kernel, by decide +kernel⟩, nj_w_mem (pos := 110) (by decide +kernel), by decide +kernel, fun q hq => List.all_eq_true.mp ne_120 q hq⟩
set_option maxRecDepth 100000 in
theorem ne_121 : nm_121.2.2.2.2.2.all (nj_oke nj_M nm_121.1.cls nm_121.2.1) = true := by decide +kernel
set_option maxRecDepth 100000 in
theorem nc_121 : nj_okM nj_M nm_121 := ⟨by decide +kernel, nj_w_mem (pos := 1008) (by decide +kernel), ⟨by decide +kernel, by decide +kernel⟩, nj_w_mem (pos := 110) (by decide +kernel), by decide +kernel, fun q hq => List.all_eq_true.mp ne_121 q hq⟩
set_option maxRecDepth 100000 in
theorem ne_122 : nm_122.2.2.2.2.2.all (nj_oke nj_M nm_122.1.cls nm_122.2.1) = true := by decide +kernel
set_option maxRecDepth 100000 in
theorem nc_122 : nj_okM nj_M nm_122 := ⟨by decide +kernel, nj_w_mem (pos := 1012) (by decide +kernel), ⟨by decide +kernel, by decide +kernel⟩, nj_w_mem (pos := 117) (by decide +kernel), by decide +kernel, fun q hq => List.all_eq_true.mp ne_122 q hq⟩
set_option maxRecDepth 100000 in
theorem ne_123 : nm_123.2.2.2.2.2.all (nj_oke nj_M nm_123.1.cls nm_123.2.1) = true := by decide +kernel
set_option maxRecDepth 100000 in
theorem nc_123 : nj_okM nj_M nm_123 := ⟨by decide +kernel, nj_w_mem (pos := 1015) (by decide +kernel), ⟨by decide +kernel, by decide +kernel⟩, nj_w_mem (pos := 117) (by decide +kernel), by decide +kernel, fun q hq => List.all_eq_true.mp ne_123 q hq⟩
set_option maxRecDepth 100000 in
theorem ne_124 : nm_124.2.2.2.2.2.all (nj_oke nj_M nm_124.1.cls nm_124.2.1) = true := by decide +kernel
set_option maxRecDepth 100000 in
theorem nc_124 : nj_okM nj_M nm_124 := ⟨by decide +kernel, nj_w_mem (pos := 1022) (by decide +kernel), ⟨by decide +kernel, by decide +kernel⟩, nj_w_mem (pos := 110) (by decide +kernel), by decide +kernel, fun q hq => List.all_eq_true.mp ne_124 q hq⟩
set_option maxRecDepth 100000 in
theorem ne_125 : nm_125.2.2.2.2.2.all (nj_oke nj_M nm_125.1.cls nm_125.2.1) = true := by decide +kernel
set_option maxRecDepth 100000 in
theorem nc_125 : nj_okM nj_M nm_125 := ⟨by decide +kernel, nj_w_mem (pos := 1026) (by decide +kernel), ⟨by decide +kernel, by decide +kernel⟩, nj_w_mem (pos := 110) (by decide +kernel), by decide +kernel, fun q hq => List.all_eq_true.mp ne_125 q hq⟩
set_option maxRecDepth 100000 in
theorem ne_126 : nm_126.2.2.2.2.2.all (nj_oke nj_M nm_126.1.cls nm_126.2.1) = true := by decide +kernel
set_option maxRecDepth 100000 in
theorem nc_126 : nj_okM nj_M nm_126 := ⟨by decide +kernel, nj_w_mem (pos := 1030) (by decide +kernel), ⟨by decide +kernel, by decide +kernel⟩, nj_w_mem (pos := 119) (by decide +kernel), by decide +kernel, fun q hq => List.all_eq_true.mp ne_126 q hq⟩
set_option maxRecDepth 100000 in
theorem ne_127 : nm_127.2.2.2.2.2.all (nj_oke nj_M nm_127.1.cls nm_127.2.1) = true := by decide +kernel
set_option maxRecDepth 100000 in
theorem nc_127 : nj_okM nj_M nm_127 := ⟨by decide +kernel, nj_w_mem (pos := 1036) (by decide +kernel), ⟨by decide +kernel, by decide +kernel⟩, nj_w_mem (pos := 119) (by decide +kernel), by decide +kernel, fun q hq => List.all_eq_true.mp ne_127 q hq⟩
set_option maxRecDepth 100000 in
theorem ne_128 : nm_128.2.2.2.2.2.all (nj_oke nj_M nm_128.1.cls nm_128.2.1) = true := by decide +kernel
set_option maxRecDepth 100000 in
theorem nc_128 : nj_okM nj_M nm_128 := ⟨by decide +kernel, nj_w_mem (pos := 1042) (by decide +kernel), ⟨by decide +kernel, by decide +kernel⟩, nj_w_mem (pos := 119) (by decide +kernel), by decide +kernel, fun q hq => List.all_eq_true.mp ne_128 q hq⟩
set_option maxRecDepth 100000 in
theorem ne_129 : nm_129.2.2.2.2.2.all (nj_oke nj_M nm_129.1.cls nm_129.2.1) = true := by decide +kernel
set_option maxRecDepth 100000 in
theorem nc_129 : nj_okM nj_M nm_129 := ⟨by decide +kernel, nj_w_mem (pos := 1047) (by decide +kernel), ⟨by decide +kernel, by decide +kernel⟩, nj_w_mem (pos := 119) (by decide +kernel), by decide +kernel, fun q hq => List.all_eq_true.mp ne_129 q hq⟩
set_option maxRecDepth 100000 in
theorem ne_130 : nm_130.2.2.2.2.2.all (nj_oke nj_M nm_130.1.cls nm_130.2.1) = true := by decide +kernel
set_option maxRecDepth 100000 in
theorem nc_130 : nj_okM nj_M nm_130 := ⟨by decide +kernel, nj_w_mem (pos := 1051) (by decide +kernel), ⟨by decide +kernel, by decide +kernel⟩, nj_w_mem (pos := 119) (by decide +kernel), by decide +kernel, fun q hq => List.all_eq_true.mp ne_130 q hq⟩
set_option maxRecDepth 100000 in
theorem ne_131 : nm_131.2.2.2.2.2.all (nj_oke nj_M nm_131.1.cls nm_131.2.1) = true := by decide +kernel
set_option maxRecDepth 100000 in
theorem nc_131 : nj_okM nj_M nm_131 := ⟨by decide +kernel, nj_w_mem (pos := 1056) (by decide +kernel), ⟨by decide +kernel, by decide +kernel⟩, nj_w_mem (pos := 119) (by decide +kernel), by decide +kernel, fun q hq => List.all_eq_true.mp ne_131 q hq⟩
set_option maxRecDepth 100000 in
theorem ne_132 : nm_132.2.2.2.2.2.all (nj_oke nj_M nm_132.1.cls nm_132.2.1) = true := by decide +kernel
set_option maxRecDepth 100000 in
theorem nc_132 : nj_okM nj_M nm_132 := ⟨by decide +kernel, nj_w_mem (pos := 1062) (by decide +kernel), ⟨by decide +kernel, by decide +kernel⟩, nj_w_mem (pos := 119) (by decide +kernel), by decide +kernel, fun q hq => List.all_eq_true.mp ne_132 q hq⟩
set_option maxRecDepth 100000 in
theorem ne_133 : nm_133.2.2.2.2.2.all (nj_oke nj_M nm_133.1.cls nm_133.2.1) = true := by decide +kernel
set_option maxRecDepth 100000 in
theorem nc_133 : nj_okM nj_M nm_133 := ⟨by decide +kernel, nj_w_mem (pos := 1066) (by decide +kernel), ⟨by decide +kernel, by decide +kernel⟩, nj_w_mem (pos := 119) (by decide +kernel), by decide +kernel, fun q hq => List.all_eq_true.mp ne_133 q hq⟩
set_option maxRecDepth 100000 in
theorem ne_134 : nm_134.2.2.2.2.2.all (nj_oke nj_M nm_134.1.cls nm_134.2.1) = true := by decide +kernel
set_option maxRecDepth 100000 in
theorem nc_134 : nj_okM nj_M nm_134 := ⟨by decide +kernel, nj_w_mem (pos := 1071) (by decide +kernel), ⟨by decide +kernel, by decide +kernel⟩, nj_w_mem (pos := 119) (by decide +kernel), by decide +kernel, fun q hq => List.all_eq_true.mp ne_134 q hq⟩
