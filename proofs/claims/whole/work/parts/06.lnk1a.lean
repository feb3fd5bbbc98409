set_option maxRecDepth 100000 in
theorem jmc_0 : lw_tbl[315]? = some (.code (jY 0) (jC 0) (jM 0) (jR 0)) := rfl
theorem jm_0 : jmOK 0 = true := by decide +kernel
set_option maxRecDepth 100000 in
theorem jmc_1 : lw_tbl[1126]? = some (.code (jY 1) (jC 1) (jM 1) (jR 1)) := rfl
theorem jm_1 : jmOK 1 = true := by decide +kernel
set_option maxRecDepth 100000 in
theorem jmc_2 : lw_tbl[1134]? = some (.code (jY 2) (jC 2) (jM 2) (jR 2)) := rfl
theorem jm_2 : jmOK 2 = true := by decide +kernel
set_option maxRecDepth 100000 in
theorem jmc_3 : lw_tbl[1130]? = some (.code (jY 3) (jC 3) (jM 3) (jR 3)) := rfl
theorem jm_3 : jmOK 3 = true := by decide +kernel
set_option maxRecDepth 100000 in
theorem jmc_4 : lw_tbl[1138]? = some (.code (jY 4) (jC 4) (jM 4) (jR 4)) := rfl
theorem jm_4 : jmOK 4 = true := by decide +kernel
set_option maxRecDepth 100000 in
theorem jmc_5 : lw_tbl[1148]? = some (.code (jY 5) (jC 5) (jM 5) (jR 5)) := rfl
theorem jm_5 : jmOK 5 = true := by decide +kernel
set_option maxRecDepth 100000 in
theorem jmc_6 : lw_tbl[1143]? = some (.code (jY 6) (jC 6) (jM 6) (jR 6)) := rfl
theorem jm_6 : jmOK 6 = true := by decide +kernel
set_option maxRecDepth 100000 in
theorem jmc_7 : lw_tbl[1152]? = some (.code (jY 7) (jC 7) (jM 7) (jR 7)) := rfl
theorem jm_7 : jmOK 7 = true := by decide +kernel
set_option maxRecDepth 100000 in
theorem jmc_8 : lw_tbl[1156]? = some (.code (jY 8) (jC 8) (jM 8) (jR 8)) := rfl
theorem jm_8 : jmOK 8 = true := by decide +kernel
set_option maxRecDepth 100000 in
theorem jmc_9 : lw_tbl[1160]? = some (.code (jY 9) (jC 9) (jM 9) (jR 9)) := rfl
theorem jm_9 : jmOK 9 = true := by decide +kernel
set_option maxRecDepth 100000 in
theorem jmc_10 : lw_tbl[494]? = some (.code (jY 10) (jC 10) (jM 10) (jR 10)) := rfl
theorem jm_10 : jmOK 10 = true := by decide +kernel
set_option maxRecDepth 100000 in
theorem jmc_11 : lw_tbl[1289]? = some (.code (jY 11) (jC 11) (jM 11) (jR 11)) := rfl
theorem jm_11 : jmOK 11 = true := by decide +kernel
set_option maxRecDepth 100000 in
theorem jmc_12 : lw_tbl[1293]? = some (.code (jY 12) (jC 12) (jM 12) (jR 12)) := rfl
theorem jm_12 : jmOK 12 = true := by decide +kernel
set_option maxRecDepth 100000 in
theorem jmc_13 : lw_tbl[1296]? = some (.code (jY 13) (jC 13) (jM 13) (jR 13)) := rfl
theorem jm_13 : jmOK 13 = true := by decide +kernel
set_option maxRecDepth 100000 in
theorem jmc_14 : lw_tbl[1300]? = some (.code (jY 14) (jC 14) (jM 14) (jR 14)) := rfl
theorem jm_14 : jmOK 14 = true := by decide +kernel
set_option maxRecDepth 100000 in
theorem jmc_15 : lw_tbl[1304]? = some (.code (jY 15) (jC 15) (jM 15) (jR 15)) := rfl
theorem jm_15 : jmOK 15 = true := by decide +kernel
set_option maxRecDepth 100000 in
theorem jmc_16 : lw_tbl[1308]? = some (.code (jY 16) (jC 16) (jM 16) (jR 16)) := rfl
theorem jm_16 : jmOK 16 = true := by decide +kernel
set_option maxRecDepth 100000 in
theorem jmc_17 : lw_tbl[1312]? = some (.code (jY 17) (jC 17) (jM 17) (jR 17)) := rfl
theorem jm_17 : jmOK 17 = true := by decide +kernel
set_option maxRecDepth 100000 in
theorem jmc_18 : lw_tbl[1316]? = some (.code (jY 18) (jC 18) (jM 18) (jR 18)) := rfl
theorem jm_18 : jmOK 18 = true := by decide +kernel
set_option maxRecDepth 100000 in
theorem jmc_19 : lw_tbl[1320]? = some (.code (jY 19) (jC 19) (jM 19) (jR 19)) := rfl
theorem jm_19 : jmOK 19 = true := by decide +kernel
set_option maxRecDepth 100000 in
theorem jmc_20 : lw_tbl[1329]? = some (.code (jY 20) (jC 20) (jM 20) (jR 20)) := rfl
theorem jm_20 : jmOK 20 = true := by decide +kernel
set_option maxRecDepth 100000 in
theorem jmc_21 : lw_tbl[1325]? = some (.code (jY 21) (jC 21) (jM 21) (jR 21)) := rfl
theorem jm_21 : jmOK 21 = true := by decide +kernel
set_option maxRecDepth 100000 in
theorem jmc_22 : lw_tbl[1263]? = some (.code (jY 22) (jC 22) (jM 22) (jR 22)) := rfl
theorem jm_22 : jmOK 22 = true := by decide +kernel
set_option maxRecDepth 100000 in
theorem jmc_23 : lw_tbl[1268]? = some (.code (jY 23) (jC 23) (jM 23) (jR 23)) := rfl
theorem jm_23 : jmOK 23 = true := by decide +kernel
set_option maxRecDepth 100000 in
theorem jmc_24 : lw_tbl[1272]? = some (.code (jY 24) (jC 24) (jM 24) (jR 24)) := rfl
theorem jm_24 : jmOK 24 = true := by decide +kernel
set_option maxRecDepth 100000 in
theorem jmc_25 : lw_tbl[602]? = some (.code (jY 25) (jC 25) (jM 25) (jR 25)) := rfl
theorem jm_25 : jmOK 25 = true := by decide +kernel
set_option maxRecDepth 100000 in
theorem jmc_26 : lw_tbl[1536]? = some (.code (jY 26) (jC 26) (jM 26) (jR 26)) := rfl
theorem jm_26 : jmOK 26 = true := by decide +kernel
set_option maxRecDepth 100000 in
theorem jmc_27 : lw_tbl[1540]? = some (.code (jY 27) (jC 27) (jM 27) (jR 27)) := rfl
theorem jm_27 : jmOK 27 = true := by decide +kernel
set_option maxRecDepth 100000 in
theorem jmc_28 : lw_tbl[1564]? = some (.code (jY 28) (jC 28) (jM 28) (jR 28)) := rfl
theorem jm_28 : jmOK 28 = true := by decide +kernel
set_option maxRecDepth 100000 in
theorem jmc_29 : lw_tbl[1546]? = some (.code (jY 29) (jC 29) (jM 29) (jR 29)) := rfl
theorem jm_29 : jmOK 29 = true := by decide +kernel
set_option maxRecDepth 100000 in
theorem jmc_30 : lw_tbl[1551]? = some (.code (jY 30) (jC 30) (jM 30) (jR 30)) := rfl
theorem jm_30 : jmOK 30 = true := by decide +kernel
set_option maxRecDepth 100000 in
theorem jmc_31 : lw_tbl[1557]? = some (.code (jY 31) (jC 31) (jM 31) (jR 31)) := rfl
theorem jm_31 : jmOK 31 = true := by decide +kernel
set_option maxRecDepth 100000 in
theorem jmc_32 : lw_tbl[321]? = some (.code (jY 32) (jC 32) (jM 32) (jR 32)) := rfl
theorem jm_32 : jmOK 32 = true := by decide +kernel
set_option maxRecDepth 100000 in
theorem jmc_33 : lw_tbl[949]? = some (.code (jY 33) (jC 33) (jM 33) (jR 33)) := rfl
theorem jm_33 : jmOK 33 = true := by decide +kernel
set_option maxRecDepth 100000 in
theorem jmc_34 : lw_tbl[953]? = some (.code (jY 34) (jC 34) (jM 34) (jR 34)) := rfl
theorem jm_34 : jmOK 34 = true := by decide +kernel
set_option maxRecDepth 100000 in
theorem jmc_35 : lw_tbl[1166]? = some (.code (jY 35) (jC 35) (jM 35) (jR 35)) := rfl
theorem jm_35 : jmOK 35 = true := by decide +kernel
set_option maxRecDepth 100000 in
theorem jmc_36 : lw_tbl[957]? = some (.code (jY 36) (jC 36) (jM 36) (jR 36)) := rfl
theorem jm_36 : jmOK 36 = true := by decide +kernel
set_option maxRecDepth 100000 in
theorem jmc_37 : lw_tbl[961]? = some (.code (jY 37) (jC 37) (jM 37) (jR 37)) := rfl
theorem jm_37 : jmOK 37 = true := by decide +kernel
set_option maxRecDepth 100000 in
theorem jmc_38 : lw_tbl[1237]? = some (.code (jY 38) (jC 38) (jM 38) (jR 38)) := rfl
theorem jm_38 : jmOK 38 = true := by decide +kernel
set_option maxRecDepth 100000 in
theorem jmc_39 : lw_tbl[1000]? = some (.code (jY 39) (jC 39) (jM 39) (jR 39)) := rfl
theorem jm_39 : jmOK 39 = true := by decide +kernel
set_option maxRecDepth 100000 in
theorem jmc_40 : lw_tbl[996]? = some (.code (jY 40) (jC 40) (jM 40) (jR 40)) := rfl
theorem jm_40 : jmOK 40 = true := by decide +kernel
set_option maxRecDepth 100000 in
theorem jmc_41 : lw_tbl[992]? = some (.code (jY 41) (jC 41) (jM 41) (jR 41)) := rfl
theorem jm_41 : jmOK 41 = true := by decide +kernel
set_option maxRecDepth 100000 in
theorem jmc_42 : lw_tbl[1008]? = some (.code (jY 42) (jC 42) (jM 42) (jR 42)) := rfl
theorem jm_42 : jmOK 42 = true := by decide +kernel
set_option maxRecDepth 100000 in
theorem jmc_43 : lw_tbl[1013]? = some (.code (jY 43) (jC 43) (jM 43) (jR 43)) := rfl
theorem jm_43 : jmOK 43 = true := by decide +kernel
set_option maxRecDepth 100000 in
theorem jmc_44 : lw_tbl[970]? = some (.code (jY 44) (jC 44) (jM 44) (jR 44)) := rfl
theorem jm_44 : jmOK 44 = true := by decide +kernel
set_option maxRecDepth 100000 in
theorem jmc_45 : lw_tbl[1242]? = some (.code (jY 45) (jC 45) (jM 45) (jR 45)) := rfl
theorem jm_45 : jmOK 45 = true := by decide +kernel
set_option maxRecDepth 100000 in
theorem jmc_46 : lw_tbl[1255]? = some (.code (jY 46) (jC 46) (jM 46) (jR 46)) := rfl
theorem jm_46 : jmOK 46 = true := by decide +kernel
set_option maxRecDepth 100000 in
theorem jmc_47 : lw_tbl[379]? = some (.code (jY 47) (jC 47) (jM 47) (jR 47)) := rfl
theorem jm_47 : jmOK 47 = true := by decide +kernel
set_option maxRecDepth 100000 in
theorem jmc_48 : lw_tbl[984]? = some (.code (jY 48) (jC 48) (jM 48) (jR 48)) := rfl
theorem jm_48 : jmOK 48 = true := by decide +kernel
set_option maxRecDepth 100000 in
theorem jmc_49 : lw_tbl[987]? = some (.code (jY 49) (jC 49) (jM 49) (jR 49)) := rfl
theorem jm_49 : jmOK 49 = true := by decide +kernel
set_option maxRecDepth 100000 in
theorem jmc_50 : lw_tbl[1003]? = some (.code (jY 50) (jC 50) (jM 50) (jR 50)) := rfl
theorem jm_50 : jmOK 50 = true := by decide +kernel
set_option maxRecDepth 100000 in
theorem jmc_51 : lw_tbl[1017]? = some (.code (jY 51) (jC 51) (jM 51) (jR 51)) := rfl
theorem jm_51 : jmOK 51 = true := by decide +kernel
set_option maxRecDepth 100000 in
theorem jmc_52 : lw_tbl[1022]? = some (.code (jY 52) (jC 52) (jM 52) (jR 52)) := rfl
theorem jm_52 : jmOK 52 = true := by decide +kernel
set_option maxRecDepth 100000 in
theorem jmc_53 : lw_tbl[1039]? = some (.code (jY 53) (jC 53) (jM 53) (jR 53)) := rfl
theorem jm_53 : jmOK 53 = true := by decide +kernel
set_option maxRecDepth 100000 in
theorem jmc_54 : lw_tbl[1025]? = some (.code (jY 54) (jC 54) (jM 54) (jR 54)) := rfl
theorem jm_54 : jmOK 54 = true := by decide +kernel
set_option maxRecDepth 100000 in
theorem jmc_55 : lw_tbl[1034]? = some (.code (jY 55) (jC 55) (jM 55) (jR 55)) := rfl
theorem jm_55 : jmOK 55 = true := by decide +kernel
set_option maxRecDepth 100000 in
theorem jmc_56 : lw_tbl[1043]? = some (.code (jY 56) (jC 56) (jM 56) (jR 56)) := rfl
theorem jm_56 : jmOK 56 = true := by decide +kernel
set_option maxRecDepth 100000 in
theorem jmc_57 : lw_tbl[615]? = some (.code (jY 57) (jC 57) (jM 57) (jR 57)) := rfl
theorem jm_57 : jmOK 57 = true := by decide +kernel
set_option maxRecDepth 100000 in
theorem jmc_58 : lw_tbl[1488]? = some (.code (jY 58) (jC 58) (jM 58) (jR 58)) := rfl
theorem jm_58 : jmOK 58 = true := by decide +kernel
set_option maxRecDepth 100000 in
theorem jmc_59 : lw_tbl[1480]? = some (.code (jY 59) (jC 59) (jM 59) (jR 59)) := rfl
theorem jm_59 : jmOK 59 = true := by decide +kernel
