set_option maxRecDepth 100000 in
theorem jmc_60 : lw_tbl[1499]? = some (.code (jY 60) (jC 60) (jM 60) (jR 60)) := rfl
theorem jm_60 : jmOK 60 = true := by decide +kernel
set_option maxRecDepth 100000 in
theorem jmc_61 : lw_tbl[1508]? = some (.code (jY 61) (jC 61) (jM 61) (jR 61)) := rfl
theorem jm_61 : jmOK 61 = true := by decide +kernel
set_option maxRecDepth 100000 in
theorem jmc_62 : lw_tbl[1517]? = some (.code (jY 62) (jC 62) (jM 62) (jR 62)) := rfl
theorem jm_62 : jmOK 62 = true := by decide +kernel
set_option maxRecDepth 100000 in
theorem jmc_63 : lw_tbl[1521]? = some (.code (jY 63) (jC 63) (jM 63) (jR 63)) := rfl
theorem jm_63 : jmOK 63 = true := by decide +kernel
set_option maxRecDepth 100000 in
theorem jmc_64 : lw_tbl[404]? = some (.code (jY 64) (jC 64) (jM 64) (jR 64)) := rfl
theorem jm_64 : jmOK 64 = true := by decide +kernel
set_option maxRecDepth 100000 in
theorem jmc_65 : lw_tbl[1178]? = some (.code (jY 65) (jC 65) (jM 65) (jR 65)) := rfl
theorem jm_65 : jmOK 65 = true := by decide +kernel
set_option maxRecDepth 100000 in
theorem jmc_66 : lw_tbl[1232]? = some (.code (jY 66) (jC 66) (jM 66) (jR 66)) := rfl
theorem jm_66 : jmOK 66 = true := by decide +kernel
set_option maxRecDepth 100000 in
theorem jmc_67 : lw_tbl[1183]? = some (.code (jY 67) (jC 67) (jM 67) (jR 67)) := rfl
theorem jm_67 : jmOK 67 = true := by decide +kernel
set_option maxRecDepth 100000 in
theorem jmc_68 : lw_tbl[1197]? = some (.code (jY 68) (jC 68) (jM 68) (jR 68)) := rfl
theorem jm_68 : jmOK 68 = true := by decide +kernel
set_option maxRecDepth 100000 in
theorem jmc_69 : lw_tbl[1193]? = some (.code (jY 69) (jC 69) (jM 69) (jR 69)) := rfl
theorem jm_69 : jmOK 69 = true := by decide +kernel
set_option maxRecDepth 100000 in
theorem jmc_70 : lw_tbl[1189]? = some (.code (jY 70) (jC 70) (jM 70) (jR 70)) := rfl
theorem jm_70 : jmOK 70 = true := by decide +kernel
set_option maxRecDepth 100000 in
theorem jmc_71 : lw_tbl[1202]? = some (.code (jY 71) (jC 71) (jM 71) (jR 71)) := rfl
theorem jm_71 : jmOK 71 = true := by decide +kernel
set_option maxRecDepth 100000 in
theorem jmc_72 : lw_tbl[1206]? = some (.code (jY 72) (jC 72) (jM 72) (jR 72)) := rfl
theorem jm_72 : jmOK 72 = true := by decide +kernel
set_option maxRecDepth 100000 in
theorem jmc_73 : lw_tbl[1210]? = some (.code (jY 73) (jC 73) (jM 73) (jR 73)) := rfl
theorem jm_73 : jmOK 73 = true := by decide +kernel
set_option maxRecDepth 100000 in
theorem jmc_74 : lw_tbl[1215]? = some (.code (jY 74) (jC 74) (jM 74) (jR 74)) := rfl
theorem jm_74 : jmOK 74 = true := by decide +kernel
set_option maxRecDepth 100000 in
theorem jmc_75 : lw_tbl[1223]? = some (.code (jY 75) (jC 75) (jM 75) (jR 75)) := rfl
theorem jm_75 : jmOK 75 = true := by decide +kernel
set_option maxRecDepth 100000 in
theorem jmc_76 : lw_tbl[1227]? = some (.code (jY 76) (jC 76) (jM 76) (jR 76)) := rfl
theorem jm_76 : jmOK 76 = true := by decide +kernel
set_option maxRecDepth 100000 in
theorem jmc_77 : lw_tbl[543]? = some (.code (jY 77) (jC 77) (jM 77) (jR 77)) := rfl
theorem jm_77 : jmOK 77 = true := by decide +kernel
set_option maxRecDepth 100000 in
theorem jmc_78 : lw_tbl[814]? = some (.code (jY 78) (jC 78) (jM 78) (jR 78)) := rfl
theorem jm_78 : jmOK 78 = true := by decide +kernel
set_option maxRecDepth 100000 in
theorem jmc_79 : lw_tbl[925]? = some (.code (jY 79) (jC 79) (jM 79) (jR 79)) := rfl
theorem jm_79 : jmOK 79 = true := by decide +kernel
set_option maxRecDepth 100000 in
theorem jmc_80 : lw_tbl[929]? = some (.code (jY 80) (jC 80) (jM 80) (jR 80)) := rfl
theorem jm_80 : jmOK 80 = true := by decide +kernel
set_option maxRecDepth 100000 in
theorem jmc_81 : lw_tbl[830]? = some (.code (jY 81) (jC 81) (jM 81) (jR 81)) := rfl
theorem jm_81 : jmOK 81 = true := by decide +kernel
set_option maxRecDepth 100000 in
theorem jmc_82 : lw_tbl[901]? = some (.code (jY 82) (jC 82) (jM 82) (jR 82)) := rfl
theorem jm_82 : jmOK 82 = true := by decide +kernel
set_option maxRecDepth 100000 in
theorem jmc_83 : lw_tbl[909]? = some (.code (jY 83) (jC 83) (jM 83) (jR 83)) := rfl
theorem jm_83 : jmOK 83 = true := by decide +kernel
set_option maxRecDepth 100000 in
theorem jmc_84 : lw_tbl[887]? = some (.code (jY 84) (jC 84) (jM 84) (jR 84)) := rfl
theorem jm_84 : jmOK 84 = true := by decide +kernel
set_option maxRecDepth 100000 in
theorem jmc_85 : lw_tbl[897]? = some (.code (jY 85) (jC 85) (jM 85) (jR 85)) := rfl
theorem jm_85 : jmOK 85 = true := by decide +kernel
set_option maxRecDepth 100000 in
theorem jmc_86 : lw_tbl[921]? = some (.code (jY 86) (jC 86) (jM 86) (jR 86)) := rfl
theorem jm_86 : jmOK 86 = true := by decide +kernel
set_option maxRecDepth 100000 in
theorem jmc_87 : lw_tbl[823]? = some (.code (jY 87) (jC 87) (jM 87) (jR 87)) := rfl
theorem jm_87 : jmOK 87 = true := by decide +kernel
set_option maxRecDepth 100000 in
theorem jmc_88 : lw_tbl[826]? = some (.code (jY 88) (jC 88) (jM 88) (jR 88)) := rfl
theorem jm_88 : jmOK 88 = true := by decide +kernel
set_option maxRecDepth 100000 in
theorem jmc_89 : lw_tbl[819]? = some (.code (jY 89) (jC 89) (jM 89) (jR 89)) := rfl
theorem jm_89 : jmOK 89 = true := by decide +kernel
set_option maxRecDepth 100000 in
theorem jmc_90 : lw_tbl[835]? = some (.code (jY 90) (jC 90) (jM 90) (jR 90)) := rfl
theorem jm_90 : jmOK 90 = true := by decide +kernel
set_option maxRecDepth 100000 in
theorem jmc_91 : lw_tbl[914]? = some (.code (jY 91) (jC 91) (jM 91) (jR 91)) := rfl
theorem jm_91 : jmOK 91 = true := by decide +kernel
set_option maxRecDepth 100000 in
theorem jmc_92 : lw_tbl[891]? = some (.code (jY 92) (jC 92) (jM 92) (jR 92)) := rfl
theorem jm_92 : jmOK 92 = true := by decide +kernel
set_option maxRecDepth 100000 in
theorem jmc_93 : lw_tbl[933]? = some (.code (jY 93) (jC 93) (jM 93) (jR 93)) := rfl
theorem jm_93 : jmOK 93 = true := by decide +kernel
set_option maxRecDepth 100000 in
theorem jmc_94 : lw_tbl[966]? = some (.code (jY 94) (jC 94) (jM 94) (jR 94)) := rfl
theorem jm_94 : jmOK 94 = true := by decide +kernel
set_option maxRecDepth 100000 in
theorem jmc_95 : lw_tbl[937]? = some (.code (jY 95) (jC 95) (jM 95) (jR 95)) := rfl
theorem jm_95 : jmOK 95 = true := by decide +kernel
set_option maxRecDepth 100000 in
theorem jmc_96 : lw_tbl[941]? = some (.code (jY 96) (jC 96) (jM 96) (jR 96)) := rfl
theorem jm_96 : jmOK 96 = true := by decide +kernel
set_option maxRecDepth 100000 in
theorem jmc_97 : lw_tbl[945]? = some (.code (jY 97) (jC 97) (jM 97) (jR 97)) := rfl
theorem jm_97 : jmOK 97 = true := by decide +kernel
set_option maxRecDepth 100000 in
theorem jmc_98 : lw_tbl[201]? = some (.code (jY 98) (jC 98) (jM 98) (jR 98)) := rfl
theorem jm_98 : jmOK 98 = true := by decide +kernel
set_option maxRecDepth 100000 in
theorem jmc_99 : lw_tbl[719]? = some (.code (jY 99) (jC 99) (jM 99) (jR 99)) := rfl
theorem jm_99 : jmOK 99 = true := by decide +kernel
set_option maxRecDepth 100000 in
theorem jmc_100 : lw_tbl[762]? = some (.code (jY 100) (jC 100) (jM 100) (jR 100)) := rfl
theorem jm_100 : jmOK 100 = true := by decide +kernel
set_option maxRecDepth 100000 in
theorem jmc_101 : lw_tbl[1219]? = some (.code (jY 101) (jC 101) (jM 101) (jR 101)) := rfl
theorem jm_101 : jmOK 101 = true := by decide +kernel
set_option maxRecDepth 100000 in
theorem jmc_102 : lw_tbl[1029]? = some (.code (jY 102) (jC 102) (jM 102) (jR 102)) := rfl
theorem jm_102 : jmOK 102 = true := by decide +kernel
set_option maxRecDepth 100000 in
theorem jmc_103 : lw_tbl[1068]? = some (.code (jY 103) (jC 103) (jM 103) (jR 103)) := rfl
theorem jm_103 : jmOK 103 = true := by decide +kernel
set_option maxRecDepth 100000 in
theorem jmc_104 : lw_tbl[1088]? = some (.code (jY 104) (jC 104) (jM 104) (jR 104)) := rfl
theorem jm_104 : jmOK 104 = true := by decide +kernel
set_option maxRecDepth 100000 in
theorem jmc_105 : lw_tbl[1080]? = some (.code (jY 105) (jC 105) (jM 105) (jR 105)) := rfl
theorem jm_105 : jmOK 105 = true := by decide +kernel
set_option maxRecDepth 100000 in
theorem jmc_106 : lw_tbl[786]? = some (.code (jY 106) (jC 106) (jM 106) (jR 106)) := rfl
theorem jm_106 : jmOK 106 = true := by decide +kernel
set_option maxRecDepth 100000 in
theorem jmc_107 : lw_tbl[980]? = some (.code (jY 107) (jC 107) (jM 107) (jR 107)) := rfl
theorem jm_107 : jmOK 107 = true := by decide +kernel
set_option maxRecDepth 100000 in
theorem jmc_108 : lw_tbl[976]? = some (.code (jY 108) (jC 108) (jM 108) (jR 108)) := rfl
theorem jm_108 : jmOK 108 = true := by decide +kernel
set_option maxRecDepth 100000 in
theorem jmc_109 : lw_tbl[1096]? = some (.code (jY 109) (jC 109) (jM 109) (jR 109)) := rfl
theorem jm_109 : jmOK 109 = true := by decide +kernel
set_option maxRecDepth 100000 in
theorem jmc_110 : lw_tbl[195]? = some (.code (jY 110) (jC 110) (jM 110) (jR 110)) := rfl
theorem jm_110 : jmOK 110 = true := by decide +kernel
set_option maxRecDepth 100000 in
theorem jmc_111 : lw_tbl[782]? = some (.code (jY 111) (jC 111) (jM 111) (jR 111)) := rfl
theorem jm_111 : jmOK 111 = true := by decide +kernel
set_option maxRecDepth 100000 in
theorem jmc_112 : lw_tbl[711]? = some (.code (jY 112) (jC 112) (jM 112) (jR 112)) := rfl
theorem jm_112 : jmOK 112 = true := by decide +kernel
set_option maxRecDepth 100000 in
theorem jmc_113 : lw_tbl[806]? = some (.code (jY 113) (jC 113) (jM 113) (jR 113)) := rfl
theorem jm_113 : jmOK 113 = true := by decide +kernel
set_option maxRecDepth 100000 in
theorem jmc_114 : lw_tbl[1121]? = some (.code (jY 114) (jC 114) (jM 114) (jR 114)) := rfl
theorem jm_114 : jmOK 114 = true := by decide +kernel
set_option maxRecDepth 100000 in
theorem jmc_115 : lw_tbl[1117]? = some (.code (jY 115) (jC 115) (jM 115) (jR 115)) := rfl
theorem jm_115 : jmOK 115 = true := by decide +kernel
set_option maxRecDepth 100000 in
theorem jmc_116 : lw_tbl[774]? = some (.code (jY 116) (jC 116) (jM 116) (jR 116)) := rfl
theorem jm_116 : jmOK 116 = true := by decide +kernel
set_option maxRecDepth 100000 in
theorem jmc_117 : lw_tbl[1334]? = some (.code (jY 117) (jC 117) (jM 117) (jR 117)) := rfl
theorem jm_117 : jmOK 117 = true := by decide +kernel
set_option maxRecDepth 100000 in
theorem jmc_118 : lw_tbl[1348]? = some (.code (jY 118) (jC 118) (jM 118) (jR 118)) := rfl
theorem jm_118 : jmOK 118 = true := by decide +kernel
set_option maxRecDepth 100000 in
theorem jmc_119 : lw_tbl[1339]? = some (.code (jY 119) (jC 119) (jM 119) (jR 119)) := rfl
theorem jm_119 : jmOK 119 = true := by decide +kernel
