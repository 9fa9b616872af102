/-! ===== the methods' code words, by their places ===== -/
set_option maxRecDepth 100000 in
theorem jb_cw0 : lw_tbl[113]? = some (.code (jb_y 0) (jb_b 0) (jb_ml 0) (jb_ret 0)) := rfl
set_option maxRecDepth 100000 in
theorem jb_cw1 : lw_tbl[133]? = some (.code (jb_y 1) (jb_b 1) (jb_ml 1) (jb_ret 1)) := rfl
set_option maxRecDepth 100000 in
theorem jb_cw2 : lw_tbl[257]? = some (.code (jb_y 2) (jb_b 2) (jb_ml 2) (jb_ret 2)) := rfl
set_option maxRecDepth 100000 in
theorem jb_cw3 : lw_tbl[384]? = some (.code (jb_y 3) (jb_b 3) (jb_ml 3) (jb_ret 3)) := rfl
set_option maxRecDepth 100000 in
theorem jb_cw4 : lw_tbl[407]? = some (.code (jb_y 4) (jb_b 4) (jb_ml 4) (jb_ret 4)) := rfl
set_option maxRecDepth 100000 in
theorem jb_cw5 : lw_tbl[410]? = some (.code (jb_y 5) (jb_b 5) (jb_ml 5) (jb_ret 5)) := rfl
set_option maxRecDepth 100000 in
theorem jb_cw6 : lw_tbl[414]? = some (.code (jb_y 6) (jb_b 6) (jb_ml 6) (jb_ret 6)) := rfl
set_option maxRecDepth 100000 in
theorem jb_cw7 : lw_tbl[418]? = some (.code (jb_y 7) (jb_b 7) (jb_ml 7) (jb_ret 7)) := rfl
set_option maxRecDepth 100000 in
theorem jb_cw8 : lw_tbl[422]? = some (.code (jb_y 8) (jb_b 8) (jb_ml 8) (jb_ret 8)) := rfl
set_option maxRecDepth 100000 in
theorem jb_cw9 : lw_tbl[434]? = some (.code (jb_y 9) (jb_b 9) (jb_ml 9) (jb_ret 9)) := rfl
set_option maxRecDepth 100000 in
theorem jb_cw10 : lw_tbl[450]? = some (.code (jb_y 10) (jb_b 10) (jb_ml 10) (jb_ret 10)) := rfl
set_option maxRecDepth 100000 in
theorem jb_cw11 : lw_tbl[454]? = some (.code (jb_y 11) (jb_b 11) (jb_ml 11) (jb_ret 11)) := rfl
set_option maxRecDepth 100000 in
theorem jb_cw12 : lw_tbl[459]? = some (.code (jb_y 12) (jb_b 12) (jb_ml 12) (jb_ret 12)) := rfl
set_option maxRecDepth 100000 in
theorem jb_cw13 : lw_tbl[488]? = some (.code (jb_y 13) (jb_b 13) (jb_ml 13) (jb_ret 13)) := rfl
set_option maxRecDepth 100000 in
theorem jb_cw14 : lw_tbl[607]? = some (.code (jb_y 14) (jb_b 14) (jb_ml 14) (jb_ret 14)) := rfl
set_option maxRecDepth 100000 in
theorem jb_cw15 : lw_tbl[657]? = some (.code (jb_y 15) (jb_b 15) (jb_ml 15) (jb_ret 15)) := rfl
set_option maxRecDepth 100000 in
theorem jb_cw16 : lw_tbl[666]? = some (.code (jb_y 16) (jb_b 16) (jb_ml 16) (jb_ret 16)) := rfl
set_option maxRecDepth 100000 in
theorem jb_cw17 : lw_tbl[680]? = some (.code (jb_y 17) (jb_b 17) (jb_ml 17) (jb_ret 17)) := rfl
set_option maxRecDepth 100000 in
theorem jb_cw18 : lw_tbl[796]? = some (.code (jb_y 18) (jb_b 18) (jb_ml 18) (jb_ret 18)) := rfl
set_option maxRecDepth 100000 in
theorem jb_cw19 : lw_tbl[799]? = some (.code (jb_y 19) (jb_b 19) (jb_ml 19) (jb_ret 19)) := rfl
set_option maxRecDepth 100000 in
theorem jb_cw20 : lw_tbl[832]? = some (.code (jb_y 20) (jb_b 20) (jb_ml 20) (jb_ret 20)) := rfl
set_option maxRecDepth 100000 in
theorem jb_cw21 : lw_tbl[849]? = some (.code (jb_y 21) (jb_b 21) (jb_ml 21) (jb_ret 21)) := rfl
set_option maxRecDepth 100000 in
theorem jb_cw22 : lw_tbl[859]? = some (.code (jb_y 22) (jb_b 22) (jb_ml 22) (jb_ret 22)) := rfl
set_option maxRecDepth 100000 in
theorem jb_cw23 : lw_tbl[870]? = some (.code (jb_y 23) (jb_b 23) (jb_ml 23) (jb_ret 23)) := rfl
set_option maxRecDepth 100000 in
theorem jb_cw24 : lw_tbl[897]? = some (.code (jb_y 24) (jb_b 24) (jb_ml 24) (jb_ret 24)) := rfl
set_option maxRecDepth 100000 in
theorem jb_cw25 : lw_tbl[935]? = some (.code (jb_y 25) (jb_b 25) (jb_ml 25) (jb_ret 25)) := rfl
set_option maxRecDepth 100000 in
theorem jb_cw26 : lw_tbl[940]? = some (.code (jb_y 26) (jb_b 26) (jb_ml 26) (jb_ret 26)) := rfl
set_option maxRecDepth 100000 in
theorem jb_cw27 : lw_tbl[989]? = some (.code (jb_y 27) (jb_b 27) (jb_ml 27) (jb_ret 27)) := rfl
set_option maxRecDepth 100000 in
theorem jb_cw28 : lw_tbl[993]? = some (.code (jb_y 28) (jb_b 28) (jb_ml 28) (jb_ret 28)) := rfl
set_option maxRecDepth 100000 in
theorem jb_cw29 : lw_tbl[1013]? = some (.code (jb_y 29) (jb_b 29) (jb_ml 29) (jb_ret 29)) := rfl
set_option maxRecDepth 100000 in
theorem jb_cw30 : lw_tbl[1018]? = some (.code (jb_y 30) (jb_b 30) (jb_ml 30) (jb_ret 30)) := rfl
set_option maxRecDepth 100000 in
theorem jb_cw31 : lw_tbl[1120]? = some (.code (jb_y 31) (jb_b 31) (jb_ml 31) (jb_ret 31)) := rfl
set_option maxRecDepth 100000 in
theorem jb_cw32 : lw_tbl[1127]? = some (.code (jb_y 32) (jb_b 32) (jb_ml 32) (jb_ret 32)) := rfl
set_option maxRecDepth 100000 in
theorem jb_cw33 : lw_tbl[1152]? = some (.code (jb_y 33) (jb_b 33) (jb_ml 33) (jb_ret 33)) := rfl
set_option maxRecDepth 100000 in
theorem jb_cw34 : lw_tbl[1160]? = some (.code (jb_y 34) (jb_b 34) (jb_ml 34) (jb_ret 34)) := rfl
set_option maxRecDepth 100000 in
theorem jb_cw35 : lw_tbl[1195]? = some (.code (jb_y 35) (jb_b 35) (jb_ml 35) (jb_ret 35)) := rfl
set_option maxRecDepth 100000 in
theorem jb_cw36 : lw_tbl[1206]? = some (.code (jb_y 36) (jb_b 36) (jb_ml 36) (jb_ret 36)) := rfl
set_option maxRecDepth 100000 in
theorem jb_cw37 : lw_tbl[1236]? = some (.code (jb_y 37) (jb_b 37) (jb_ml 37) (jb_ret 37)) := rfl
set_option maxRecDepth 100000 in
theorem jb_cw38 : lw_tbl[1264]? = some (.code (jb_y 38) (jb_b 38) (jb_ml 38) (jb_ret 38)) := rfl
set_option maxRecDepth 100000 in
theorem jb_cw39 : lw_tbl[1280]? = some (.code (jb_y 39) (jb_b 39) (jb_ml 39) (jb_ret 39)) := rfl
set_option maxRecDepth 100000 in
theorem jb_cw40 : lw_tbl[1287]? = some (.code (jb_y 40) (jb_b 40) (jb_ml 40) (jb_ret 40)) := rfl
set_option maxRecDepth 100000 in
theorem jb_cw41 : lw_tbl[1291]? = some (.code (jb_y 41) (jb_b 41) (jb_ml 41) (jb_ret 41)) := rfl
set_option maxRecDepth 100000 in
theorem jb_cw42 : lw_tbl[1396]? = some (.code (jb_y 42) (jb_b 42) (jb_ml 42) (jb_ret 42)) := rfl
set_option maxRecDepth 100000 in
theorem jb_cw43 : lw_tbl[1425]? = some (.code (jb_y 43) (jb_b 43) (jb_ml 43) (jb_ret 43)) := rfl
set_option maxRecDepth 100000 in
theorem jb_cw44 : lw_tbl[1445]? = some (.code (jb_y 44) (jb_b 44) (jb_ml 44) (jb_ret 44)) := rfl
set_option maxRecDepth 100000 in
theorem jb_cw45 : lw_tbl[1464]? = some (.code (jb_y 45) (jb_b 45) (jb_ml 45) (jb_ret 45)) := rfl
set_option maxRecDepth 100000 in
theorem jb_cw46 : lw_tbl[1479]? = some (.code (jb_y 46) (jb_b 46) (jb_ml 46) (jb_ret 46)) := rfl
set_option maxRecDepth 100000 in
theorem jb_cw47 : lw_tbl[1511]? = some (.code (jb_y 47) (jb_b 47) (jb_ml 47) (jb_ret 47)) := rfl
set_option maxRecDepth 100000 in
theorem jb_cw48 : lw_tbl[129]? = some (.code (jb_y 48) (jb_b 48) (jb_ml 48) (jb_ret 48)) := rfl
set_option maxRecDepth 100000 in
theorem jb_cw49 : lw_tbl[151]? = some (.code (jb_y 49) (jb_b 49) (jb_ml 49) (jb_ret 49)) := rfl
set_option maxRecDepth 100000 in
theorem jb_cw50 : lw_tbl[174]? = some (.code (jb_y 50) (jb_b 50) (jb_ml 50) (jb_ret 50)) := rfl
set_option maxRecDepth 100000 in
theorem jb_cw51 : lw_tbl[280]? = some (.code (jb_y 51) (jb_b 51) (jb_ml 51) (jb_ret 51)) := rfl
set_option maxRecDepth 100000 in
theorem jb_cw52 : lw_tbl[296]? = some (.code (jb_y 52) (jb_b 52) (jb_ml 52) (jb_ret 52)) := rfl
set_option maxRecDepth 100000 in
theorem jb_cw53 : lw_tbl[380]? = some (.code (jb_y 53) (jb_b 53) (jb_ml 53) (jb_ret 53)) := rfl
set_option maxRecDepth 100000 in
theorem jb_cw54 : lw_tbl[388]? = some (.code (jb_y 54) (jb_b 54) (jb_ml 54) (jb_ret 54)) := rfl
set_option maxRecDepth 100000 in
theorem jb_cw55 : lw_tbl[393]? = some (.code (jb_y 55) (jb_b 55) (jb_ml 55) (jb_ret 55)) := rfl
set_option maxRecDepth 100000 in
theorem jb_cw56 : lw_tbl[398]? = some (.code (jb_y 56) (jb_b 56) (jb_ml 56) (jb_ret 56)) := rfl
set_option maxRecDepth 100000 in
theorem jb_cw57 : lw_tbl[403]? = some (.code (jb_y 57) (jb_b 57) (jb_ml 57) (jb_ret 57)) := rfl
set_option maxRecDepth 100000 in
theorem jb_cw58 : lw_tbl[443]? = some (.code (jb_y 58) (jb_b 58) (jb_ml 58) (jb_ret 58)) := rfl
set_option maxRecDepth 100000 in
theorem jb_cw59 : lw_tbl[447]? = some (.code (jb_y 59) (jb_b 59) (jb_ml 59) (jb_ret 59)) := rfl
set_option maxRecDepth 100000 in
theorem jb_cw60 : lw_tbl[473]? = some (.code (jb_y 60) (jb_b 60) (jb_ml 60) (jb_ret 60)) := rfl
set_option maxRecDepth 100000 in
theorem jb_cw61 : lw_tbl[478]? = some (.code (jb_y 61) (jb_b 61) (jb_ml 61) (jb_ret 61)) := rfl
set_option maxRecDepth 100000 in
theorem jb_cw62 : lw_tbl[500]? = some (.code (jb_y 62) (jb_b 62) (jb_ml 62) (jb_ret 62)) := rfl
set_option maxRecDepth 100000 in
theorem jb_cw63 : lw_tbl[511]? = some (.code (jb_y 63) (jb_b 63) (jb_ml 63) (jb_ret 63)) := rfl
set_option maxRecDepth 100000 in
theorem jb_cw64 : lw_tbl[524]? = some (.code (jb_y 64) (jb_b 64) (jb_ml 64) (jb_ret 64)) := rfl
set_option maxRecDepth 100000 in
theorem jb_cw65 : lw_tbl[555]? = some (.code (jb_y 65) (jb_b 65) (jb_ml 65) (jb_ret 65)) := rfl
set_option maxRecDepth 100000 in
theorem jb_cw66 : lw_tbl[563]? = some (.code (jb_y 66) (jb_b 66) (jb_ml 66) (jb_ret 66)) := rfl
set_option maxRecDepth 100000 in
theorem jb_cw67 : lw_tbl[575]? = some (.code (jb_y 67) (jb_b 67) (jb_ml 67) (jb_ret 67)) := rfl
set_option maxRecDepth 100000 in
theorem jb_cw68 : lw_tbl[589]? = some (.code (jb_y 68) (jb_b 68) (jb_ml 68) (jb_ret 68)) := rfl
set_option maxRecDepth 100000 in
theorem jb_cw69 : lw_tbl[604]? = some (.code (jb_y 69) (jb_b 69) (jb_ml 69) (jb_ret 69)) := rfl
set_option maxRecDepth 100000 in
theorem jb_cw70 : lw_tbl[637]? = some (.code (jb_y 70) (jb_b 70) (jb_ml 70) (jb_ret 70)) := rfl
set_option maxRecDepth 100000 in
theorem jb_cw71 : lw_tbl[652]? = some (.code (jb_y 71) (jb_b 71) (jb_ml 71) (jb_ret 71)) := rfl
set_option maxRecDepth 100000 in
theorem jb_cw72 : lw_tbl[662]? = some (.code (jb_y 72) (jb_b 72) (jb_ml 72) (jb_ret 72)) := rfl
set_option maxRecDepth 100000 in
theorem jb_cw73 : lw_tbl[673]? = some (.code (jb_y 73) (jb_b 73) (jb_ml 73) (jb_ret 73)) := rfl
set_option maxRecDepth 100000 in
theorem jb_cw74 : lw_tbl[677]? = some (.code (jb_y 74) (jb_b 74) (jb_ml 74) (jb_ret 74)) := rfl
set_option maxRecDepth 100000 in
theorem jb_cw75 : lw_tbl[690]? = some (.code (jb_y 75) (jb_b 75) (jb_ml 75) (jb_ret 75)) := rfl
set_option maxRecDepth 100000 in
theorem jb_cw76 : lw_tbl[698]? = some (.code (jb_y 76) (jb_b 76) (jb_ml 76) (jb_ret 76)) := rfl
set_option maxRecDepth 100000 in
theorem jb_cw77 : lw_tbl[748]? = some (.code (jb_y 77) (jb_b 77) (jb_ml 77) (jb_ret 77)) := rfl
set_option maxRecDepth 100000 in
theorem jb_cw78 : lw_tbl[756]? = some (.code (jb_y 78) (jb_b 78) (jb_ml 78) (jb_ret 78)) := rfl
set_option maxRecDepth 100000 in
theorem jb_cw79 : lw_tbl[776]? = some (.code (jb_y 79) (jb_b 79) (jb_ml 79) (jb_ret 79)) := rfl
set_option maxRecDepth 100000 in
theorem jb_cw80 : lw_tbl[808]? = some (.code (jb_y 80) (jb_b 80) (jb_ml 80) (jb_ret 80)) := rfl
set_option maxRecDepth 100000 in
theorem jb_cw81 : lw_tbl[812]? = some (.code (jb_y 81) (jb_b 81) (jb_ml 81) (jb_ret 81)) := rfl
set_option maxRecDepth 100000 in
theorem jb_cw82 : lw_tbl[845]? = some (.code (jb_y 82) (jb_b 82) (jb_ml 82) (jb_ret 82)) := rfl
set_option maxRecDepth 100000 in
theorem jb_cw83 : lw_tbl[865]? = some (.code (jb_y 83) (jb_b 83) (jb_ml 83) (jb_ret 83)) := rfl
set_option maxRecDepth 100000 in
theorem jb_cw84 : lw_tbl[893]? = some (.code (jb_y 84) (jb_b 84) (jb_ml 84) (jb_ret 84)) := rfl
set_option maxRecDepth 100000 in
theorem jb_cw85 : lw_tbl[932]? = some (.code (jb_y 85) (jb_b 85) (jb_ml 85) (jb_ret 85)) := rfl
set_option maxRecDepth 100000 in
theorem jb_cw86 : lw_tbl[983]? = some (.code (jb_y 86) (jb_b 86) (jb_ml 86) (jb_ret 86)) := rfl
set_option maxRecDepth 100000 in
theorem jb_cw87 : lw_tbl[1117]? = some (.code (jb_y 87) (jb_b 87) (jb_ml 87) (jb_ret 87)) := rfl
set_option maxRecDepth 100000 in
theorem jb_cw88 : lw_tbl[1124]? = some (.code (jb_y 88) (jb_b 88) (jb_ml 88) (jb_ret 88)) := rfl
set_option maxRecDepth 100000 in
theorem jb_cw89 : lw_tbl[1131]? = some (.code (jb_y 89) (jb_b 89) (jb_ml 89) (jb_ret 89)) := rfl
set_option maxRecDepth 100000 in
theorem jb_cw90 : lw_tbl[1135]? = some (.code (jb_y 90) (jb_b 90) (jb_ml 90) (jb_ret 90)) := rfl
set_option maxRecDepth 100000 in
theorem jb_cw91 : lw_tbl[1142]? = some (.code (jb_y 91) (jb_b 91) (jb_ml 91) (jb_ret 91)) := rfl
set_option maxRecDepth 100000 in
theorem jb_cw92 : lw_tbl[1145]? = some (.code (jb_y 92) (jb_b 92) (jb_ml 92) (jb_ret 92)) := rfl
set_option maxRecDepth 100000 in
theorem jb_cw93 : lw_tbl[1149]? = some (.code (jb_y 93) (jb_b 93) (jb_ml 93) (jb_ret 93)) := rfl
set_option maxRecDepth 100000 in
theorem jb_cw94 : lw_tbl[1156]? = some (.code (jb_y 94) (jb_b 94) (jb_ml 94) (jb_ret 94)) := rfl
set_option maxRecDepth 100000 in
theorem jb_cw95 : lw_tbl[1168]? = some (.code (jb_y 95) (jb_b 95) (jb_ml 95) (jb_ret 95)) := rfl
set_option maxRecDepth 100000 in
theorem jb_cw96 : lw_tbl[1172]? = some (.code (jb_y 96) (jb_b 96) (jb_ml 96) (jb_ret 96)) := rfl
set_option maxRecDepth 100000 in
theorem jb_cw97 : lw_tbl[1180]? = some (.code (jb_y 97) (jb_b 97) (jb_ml 97) (jb_ret 97)) := rfl
set_option maxRecDepth 100000 in
theorem jb_cw98 : lw_tbl[1184]? = some (.code (jb_y 98) (jb_b 98) (jb_ml 98) (jb_ret 98)) := rfl
set_option maxRecDepth 100000 in
theorem jb_cw99 : lw_tbl[1191]? = some (.code (jb_y 99) (jb_b 99) (jb_ml 99) (jb_ret 99)) := rfl
set_option maxRecDepth 100000 in
theorem jb_cw100 : lw_tbl[1210]? = some (.code (jb_y 100) (jb_b 100) (jb_ml 100) (jb_ret 100)) := rfl
set_option maxRecDepth 100000 in
theorem jb_cw101 : lw_tbl[1218]? = some (.code (jb_y 101) (jb_b 101) (jb_ml 101) (jb_ret 101)) := rfl
set_option maxRecDepth 100000 in
theorem jb_cw102 : lw_tbl[1222]? = some (.code (jb_y 102) (jb_b 102) (jb_ml 102) (jb_ret 102)) := rfl
set_option maxRecDepth 100000 in
theorem jb_cw103 : lw_tbl[1229]? = some (.code (jb_y 103) (jb_b 103) (jb_ml 103) (jb_ret 103)) := rfl
set_option maxRecDepth 100000 in
theorem jb_cw104 : lw_tbl[1233]? = some (.code (jb_y 104) (jb_b 104) (jb_ml 104) (jb_ret 104)) := rfl
set_option maxRecDepth 100000 in
theorem jb_cw105 : lw_tbl[1244]? = some (.code (jb_y 105) (jb_b 105) (jb_ml 105) (jb_ret 105)) := rfl
set_option maxRecDepth 100000 in
theorem jb_cw106 : lw_tbl[1252]? = some (.code (jb_y 106) (jb_b 106) (jb_ml 106) (jb_ret 106)) := rfl
set_option maxRecDepth 100000 in
theorem jb_cw107 : lw_tbl[1260]? = some (.code (jb_y 107) (jb_b 107) (jb_ml 107) (jb_ret 107)) := rfl
set_option maxRecDepth 100000 in
theorem jb_cw108 : lw_tbl[1273]? = some (.code (jb_y 108) (jb_b 108) (jb_ml 108) (jb_ret 108)) := rfl
set_option maxRecDepth 100000 in
theorem jb_cw109 : lw_tbl[1277]? = some (.code (jb_y 109) (jb_b 109) (jb_ml 109) (jb_ret 109)) := rfl
set_option maxRecDepth 100000 in
theorem jb_cw110 : lw_tbl[1323]? = some (.code (jb_y 110) (jb_b 110) (jb_ml 110) (jb_ret 110)) := rfl
set_option maxRecDepth 100000 in
theorem jb_cw111 : lw_tbl[1360]? = some (.code (jb_y 111) (jb_b 111) (jb_ml 111) (jb_ret 111)) := rfl
set_option maxRecDepth 100000 in
theorem jb_cw112 : lw_tbl[1384]? = some (.code (jb_y 112) (jb_b 112) (jb_ml 112) (jb_ret 112)) := rfl
set_option maxRecDepth 100000 in
theorem jb_cw113 : lw_tbl[1392]? = some (.code (jb_y 113) (jb_b 113) (jb_ml 113) (jb_ret 113)) := rfl
set_option maxRecDepth 100000 in
theorem jb_cw114 : lw_tbl[1404]? = some (.code (jb_y 114) (jb_b 114) (jb_ml 114) (jb_ret 114)) := rfl
set_option maxRecDepth 100000 in
theorem jb_cw115 : lw_tbl[1421]? = some (.code (jb_y 115) (jb_b 115) (jb_ml 115) (jb_ret 115)) := rfl
set_option maxRecDepth 100000 in
theorem jb_cw116 : lw_tbl[1429]? = some (.code (jb_y 116) (jb_b 116) (jb_ml 116) (jb_ret 116)) := rfl
set_option maxRecDepth 100000 in
theorem jb_cw117 : lw_tbl[1437]? = some (.code (jb_y 117) (jb_b 117) (jb_ml 117) (jb_ret 117)) := rfl
set_option maxRecDepth 100000 in
theorem jb_cw118 : lw_tbl[1441]? = some (.code (jb_y 118) (jb_b 118) (jb_ml 118) (jb_ret 118)) := rfl
set_option maxRecDepth 100000 in
theorem jb_cw119 : lw_tbl[1475]? = some (.code (jb_y 119) (jb_b 119) (jb_ml 119) (jb_ret 119)) := rfl
set_option maxRecDepth 100000 in
theorem jb_cw120 : lw_tbl[1499]? = some (.code (jb_y 120) (jb_b 120) (jb_ml 120) (jb_ret 120)) := rfl
set_option maxRecDepth 100000 in
theorem jb_cw121 : lw_tbl[107]? = some (.code (jb_y 121) (jb_b 121) (jb_ml 121) (jb_ret 121)) := rfl
set_option maxRecDepth 100000 in
theorem jb_cw122 : lw_tbl[191]? = some (.code (jb_y 122) (jb_b 122) (jb_ml 122) (jb_ret 122)) := rfl
set_option maxRecDepth 100000 in
theorem jb_cw123 : lw_tbl[376]? = some (.code (jb_y 123) (jb_b 123) (jb_ml 123) (jb_ret 123)) := rfl
set_option maxRecDepth 100000 in
theorem jb_cw124 : lw_tbl[467]? = some (.code (jb_y 124) (jb_b 124) (jb_ml 124) (jb_ret 124)) := rfl
set_option maxRecDepth 100000 in
theorem jb_cw125 : lw_tbl[496]? = some (.code (jb_y 125) (jb_b 125) (jb_ml 125) (jb_ret 125)) := rfl
set_option maxRecDepth 100000 in
theorem jb_cw126 : lw_tbl[535]? = some (.code (jb_y 126) (jb_b 126) (jb_ml 126) (jb_ret 126)) := rfl
set_option maxRecDepth 100000 in
theorem jb_cw127 : lw_tbl[550]? = some (.code (jb_y 127) (jb_b 127) (jb_ml 127) (jb_ret 127)) := rfl
set_option maxRecDepth 100000 in
theorem jb_cw128 : lw_tbl[559]? = some (.code (jb_y 128) (jb_b 128) (jb_ml 128) (jb_ret 128)) := rfl
set_option maxRecDepth 100000 in
theorem jb_cw129 : lw_tbl[571]? = some (.code (jb_y 129) (jb_b 129) (jb_ml 129) (jb_ret 129)) := rfl
set_option maxRecDepth 100000 in
theorem jb_cw130 : lw_tbl[585]? = some (.code (jb_y 130) (jb_b 130) (jb_ml 130) (jb_ret 130)) := rfl
set_option maxRecDepth 100000 in
theorem jb_cw131 : lw_tbl[600]? = some (.code (jb_y 131) (jb_b 131) (jb_ml 131) (jb_ret 131)) := rfl
set_option maxRecDepth 100000 in
theorem jb_cw132 : lw_tbl[620]? = some (.code (jb_y 132) (jb_b 132) (jb_ml 132) (jb_ret 132)) := rfl
set_option maxRecDepth 100000 in
theorem jb_cw133 : lw_tbl[632]? = some (.code (jb_y 133) (jb_b 133) (jb_ml 133) (jb_ret 133)) := rfl
set_option maxRecDepth 100000 in
theorem jb_cw134 : lw_tbl[648]? = some (.code (jb_y 134) (jb_b 134) (jb_ml 134) (jb_ret 134)) := rfl
set_option maxRecDepth 100000 in
theorem jb_cw135 : lw_tbl[685]? = some (.code (jb_y 135) (jb_b 135) (jb_ml 135) (jb_ret 135)) := rfl
set_option maxRecDepth 100000 in
theorem jb_cw136 : lw_tbl[702]? = some (.code (jb_y 136) (jb_b 136) (jb_ml 136) (jb_ret 136)) := rfl
set_option maxRecDepth 100000 in
theorem jb_cw137 : lw_tbl[727]? = some (.code (jb_y 137) (jb_b 137) (jb_ml 137) (jb_ret 137)) := rfl
set_option maxRecDepth 100000 in
theorem jb_cw138 : lw_tbl[732]? = some (.code (jb_y 138) (jb_b 138) (jb_ml 138) (jb_ret 138)) := rfl
set_option maxRecDepth 100000 in
theorem jb_cw139 : lw_tbl[760]? = some (.code (jb_y 139) (jb_b 139) (jb_ml 139) (jb_ret 139)) := rfl
set_option maxRecDepth 100000 in
theorem jb_cw140 : lw_tbl[764]? = some (.code (jb_y 140) (jb_b 140) (jb_ml 140) (jb_ret 140)) := rfl
set_option maxRecDepth 100000 in
theorem jb_cw141 : lw_tbl[772]? = some (.code (jb_y 141) (jb_b 141) (jb_ml 141) (jb_ret 141)) := rfl
set_option maxRecDepth 100000 in
theorem jb_cw142 : lw_tbl[780]? = some (.code (jb_y 142) (jb_b 142) (jb_ml 142) (jb_ret 142)) := rfl
set_option maxRecDepth 100000 in
theorem jb_cw143 : lw_tbl[789]? = some (.code (jb_y 143) (jb_b 143) (jb_ml 143) (jb_ret 143)) := rfl
set_option maxRecDepth 100000 in
theorem jb_cw144 : lw_tbl[803]? = some (.code (jb_y 144) (jb_b 144) (jb_ml 144) (jb_ret 144)) := rfl
set_option maxRecDepth 100000 in
theorem jb_cw145 : lw_tbl[862]? = some (.code (jb_y 145) (jb_b 145) (jb_ml 145) (jb_ret 145)) := rfl
set_option maxRecDepth 100000 in
theorem jb_cw146 : lw_tbl[906]? = some (.code (jb_y 146) (jb_b 146) (jb_ml 146) (jb_ret 146)) := rfl
set_option maxRecDepth 100000 in
theorem jb_cw147 : lw_tbl[928]? = some (.code (jb_y 147) (jb_b 147) (jb_ml 147) (jb_ret 147)) := rfl
set_option maxRecDepth 100000 in
theorem jb_cw148 : lw_tbl[979]? = some (.code (jb_y 148) (jb_b 148) (jb_ml 148) (jb_ret 148)) := rfl
set_option maxRecDepth 100000 in
theorem jb_cw149 : lw_tbl[1164]? = some (.code (jb_y 149) (jb_b 149) (jb_ml 149) (jb_ret 149)) := rfl
set_option maxRecDepth 100000 in
theorem jb_cw150 : lw_tbl[1203]? = some (.code (jb_y 150) (jb_b 150) (jb_ml 150) (jb_ret 150)) := rfl
set_option maxRecDepth 100000 in
theorem jb_cw151 : lw_tbl[1284]? = some (.code (jb_y 151) (jb_b 151) (jb_ml 151) (jb_ret 151)) := rfl
set_option maxRecDepth 100000 in
theorem jb_cw152 : lw_tbl[1315]? = some (.code (jb_y 152) (jb_b 152) (jb_ml 152) (jb_ret 152)) := rfl
set_option maxRecDepth 100000 in
theorem jb_cw153 : lw_tbl[1319]? = some (.code (jb_y 153) (jb_b 153) (jb_ml 153) (jb_ret 153)) := rfl
set_option maxRecDepth 100000 in
theorem jb_cw154 : lw_tbl[1352]? = some (.code (jb_y 154) (jb_b 154) (jb_ml 154) (jb_ret 154)) := rfl
set_option maxRecDepth 100000 in
theorem jb_cw155 : lw_tbl[1356]? = some (.code (jb_y 155) (jb_b 155) (jb_ml 155) (jb_ret 155)) := rfl
set_option maxRecDepth 100000 in
theorem jb_cw156 : lw_tbl[1364]? = some (.code (jb_y 156) (jb_b 156) (jb_ml 156) (jb_ret 156)) := rfl
set_option maxRecDepth 100000 in
theorem jb_cw157 : lw_tbl[1372]? = some (.code (jb_y 157) (jb_b 157) (jb_ml 157) (jb_ret 157)) := rfl
set_option maxRecDepth 100000 in
theorem jb_cw158 : lw_tbl[1388]? = some (.code (jb_y 158) (jb_b 158) (jb_ml 158) (jb_ret 158)) := rfl
set_option maxRecDepth 100000 in
theorem jb_cw159 : lw_tbl[1400]? = some (.code (jb_y 159) (jb_b 159) (jb_ml 159) (jb_ret 159)) := rfl
set_option maxRecDepth 100000 in
theorem jb_cw160 : lw_tbl[1413]? = some (.code (jb_y 160) (jb_b 160) (jb_ml 160) (jb_ret 160)) := rfl
set_option maxRecDepth 100000 in
theorem jb_cw161 : lw_tbl[1433]? = some (.code (jb_y 161) (jb_b 161) (jb_ml 161) (jb_ret 161)) := rfl
set_option maxRecDepth 100000 in
theorem jb_cw162 : lw_tbl[1483]? = some (.code (jb_y 162) (jb_b 162) (jb_ml 162) (jb_ret 162)) := rfl
set_option maxRecDepth 100000 in
theorem jb_cw163 : lw_tbl[1487]? = some (.code (jb_y 163) (jb_b 163) (jb_ml 163) (jb_ret 163)) := rfl
set_option maxRecDepth 100000 in
theorem jb_cw164 : lw_tbl[1491]? = some (.code (jb_y 164) (jb_b 164) (jb_ml 164) (jb_ret 164)) := rfl
set_option maxRecDepth 100000 in
theorem jb_cw165 : lw_tbl[1495]? = some (.code (jb_y 165) (jb_b 165) (jb_ml 165) (jb_ret 165)) := rfl
set_option maxRecDepth 100000 in
theorem jb_cw166 : lw_tbl[1503]? = some (.code (jb_y 166) (jb_b 166) (jb_ml 166) (jb_ret 166)) := rfl
set_option maxRecDepth 100000 in
theorem jb_cw167 : lw_tbl[101]? = some (.code (jb_y 167) (jb_b 167) (jb_ml 167) (jb_ret 167)) := rfl
set_option maxRecDepth 100000 in
theorem jb_cw168 : lw_tbl[430]? = some (.code (jb_y 168) (jb_b 168) (jb_ml 168) (jb_ret 168)) := rfl
set_option maxRecDepth 100000 in
theorem jb_cw169 : lw_tbl[544]? = some (.code (jb_y 169) (jb_b 169) (jb_ml 169) (jb_ret 169)) := rfl
set_option maxRecDepth 100000 in
theorem jb_cw170 : lw_tbl[596]? = some (.code (jb_y 170) (jb_b 170) (jb_ml 170) (jb_ret 170)) := rfl
set_option maxRecDepth 100000 in
theorem jb_cw171 : lw_tbl[611]? = some (.code (jb_y 171) (jb_b 171) (jb_ml 171) (jb_ret 171)) := rfl
set_option maxRecDepth 100000 in
theorem jb_cw172 : lw_tbl[643]? = some (.code (jb_y 172) (jb_b 172) (jb_ml 172) (jb_ret 172)) := rfl
set_option maxRecDepth 100000 in
theorem jb_cw173 : lw_tbl[694]? = some (.code (jb_y 173) (jb_b 173) (jb_ml 173) (jb_ret 173)) := rfl
set_option maxRecDepth 100000 in
theorem jb_cw174 : lw_tbl[706]? = some (.code (jb_y 174) (jb_b 174) (jb_ml 174) (jb_ret 174)) := rfl
set_option maxRecDepth 100000 in
theorem jb_cw175 : lw_tbl[711]? = some (.code (jb_y 175) (jb_b 175) (jb_ml 175) (jb_ret 175)) := rfl
set_option maxRecDepth 100000 in
theorem jb_cw176 : lw_tbl[744]? = some (.code (jb_y 176) (jb_b 176) (jb_ml 176) (jb_ret 176)) := rfl
set_option maxRecDepth 100000 in
theorem jb_cw177 : lw_tbl[768]? = some (.code (jb_y 177) (jb_b 177) (jb_ml 177) (jb_ret 177)) := rfl
set_option maxRecDepth 100000 in
theorem jb_cw178 : lw_tbl[855]? = some (.code (jb_y 178) (jb_b 178) (jb_ml 178) (jb_ret 178)) := rfl
set_option maxRecDepth 100000 in
theorem jb_cw179 : lw_tbl[924]? = some (.code (jb_y 179) (jb_b 179) (jb_ml 179) (jb_ret 179)) := rfl
set_option maxRecDepth 100000 in
theorem jb_cw180 : lw_tbl[1001]? = some (.code (jb_y 180) (jb_b 180) (jb_ml 180) (jb_ret 180)) := rfl
set_option maxRecDepth 100000 in
theorem jb_cw181 : lw_tbl[1005]? = some (.code (jb_y 181) (jb_b 181) (jb_ml 181) (jb_ret 181)) := rfl
set_option maxRecDepth 100000 in
theorem jb_cw182 : lw_tbl[1009]? = some (.code (jb_y 182) (jb_b 182) (jb_ml 182) (jb_ret 182)) := rfl
set_option maxRecDepth 100000 in
theorem jb_cw183 : lw_tbl[1139]? = some (.code (jb_y 183) (jb_b 183) (jb_ml 183) (jb_ret 183)) := rfl
set_option maxRecDepth 100000 in
theorem jb_cw184 : lw_tbl[1176]? = some (.code (jb_y 184) (jb_b 184) (jb_ml 184) (jb_ret 184)) := rfl
set_option maxRecDepth 100000 in
theorem jb_cw185 : lw_tbl[1199]? = some (.code (jb_y 185) (jb_b 185) (jb_ml 185) (jb_ret 185)) := rfl
set_option maxRecDepth 100000 in
theorem jb_cw186 : lw_tbl[1214]? = some (.code (jb_y 186) (jb_b 186) (jb_ml 186) (jb_ret 186)) := rfl
set_option maxRecDepth 100000 in
theorem jb_cw187 : lw_tbl[1226]? = some (.code (jb_y 187) (jb_b 187) (jb_ml 187) (jb_ret 187)) := rfl
set_option maxRecDepth 100000 in
theorem jb_cw188 : lw_tbl[1240]? = some (.code (jb_y 188) (jb_b 188) (jb_ml 188) (jb_ret 188)) := rfl
set_option maxRecDepth 100000 in
theorem jb_cw189 : lw_tbl[1248]? = some (.code (jb_y 189) (jb_b 189) (jb_ml 189) (jb_ret 189)) := rfl
set_option maxRecDepth 100000 in
theorem jb_cw190 : lw_tbl[1256]? = some (.code (jb_y 190) (jb_b 190) (jb_ml 190) (jb_ret 190)) := rfl
set_option maxRecDepth 100000 in
theorem jb_cw191 : lw_tbl[1269]? = some (.code (jb_y 191) (jb_b 191) (jb_ml 191) (jb_ret 191)) := rfl
set_option maxRecDepth 100000 in
theorem jb_cw192 : lw_tbl[1295]? = some (.code (jb_y 192) (jb_b 192) (jb_ml 192) (jb_ret 192)) := rfl
set_option maxRecDepth 100000 in
theorem jb_cw193 : lw_tbl[1299]? = some (.code (jb_y 193) (jb_b 193) (jb_ml 193) (jb_ret 193)) := rfl
set_option maxRecDepth 100000 in
theorem jb_cw194 : lw_tbl[1307]? = some (.code (jb_y 194) (jb_b 194) (jb_ml 194) (jb_ret 194)) := rfl
set_option maxRecDepth 100000 in
theorem jb_cw195 : lw_tbl[1344]? = some (.code (jb_y 195) (jb_b 195) (jb_ml 195) (jb_ret 195)) := rfl
set_option maxRecDepth 100000 in
theorem jb_cw196 : lw_tbl[1348]? = some (.code (jb_y 196) (jb_b 196) (jb_ml 196) (jb_ret 196)) := rfl
set_option maxRecDepth 100000 in
theorem jb_cw197 : lw_tbl[1409]? = some (.code (jb_y 197) (jb_b 197) (jb_ml 197) (jb_ret 197)) := rfl
set_option maxRecDepth 100000 in
theorem jb_cw198 : lw_tbl[1471]? = some (.code (jb_y 198) (jb_b 198) (jb_ml 198) (jb_ret 198)) := rfl
set_option maxRecDepth 100000 in
theorem jb_cw199 : lw_tbl[237]? = some (.code (jb_y 199) (jb_b 199) (jb_ml 199) (jb_ret 199)) := rfl
set_option maxRecDepth 100000 in
theorem jb_cw200 : lw_tbl[426]? = some (.code (jb_y 200) (jb_b 200) (jb_ml 200) (jb_ret 200)) := rfl
set_option maxRecDepth 100000 in
theorem jb_cw201 : lw_tbl[579]? = some (.code (jb_y 201) (jb_b 201) (jb_ml 201) (jb_ret 201)) := rfl
set_option maxRecDepth 100000 in
theorem jb_cw202 : lw_tbl[628]? = some (.code (jb_y 202) (jb_b 202) (jb_ml 202) (jb_ret 202)) := rfl
set_option maxRecDepth 100000 in
theorem jb_cw203 : lw_tbl[719]? = some (.code (jb_y 203) (jb_b 203) (jb_ml 203) (jb_ret 203)) := rfl
set_option maxRecDepth 100000 in
theorem jb_cw204 : lw_tbl[829]? = some (.code (jb_y 204) (jb_b 204) (jb_ml 204) (jb_ret 204)) := rfl
set_option maxRecDepth 100000 in
theorem jb_cw205 : lw_tbl[920]? = some (.code (jb_y 205) (jb_b 205) (jb_ml 205) (jb_ret 205)) := rfl
set_option maxRecDepth 100000 in
theorem jb_cw206 : lw_tbl[997]? = some (.code (jb_y 206) (jb_b 206) (jb_ml 206) (jb_ret 206)) := rfl
set_option maxRecDepth 100000 in
theorem jb_cw207 : lw_tbl[1188]? = some (.code (jb_y 207) (jb_b 207) (jb_ml 207) (jb_ret 207)) := rfl
set_option maxRecDepth 100000 in
theorem jb_cw208 : lw_tbl[1303]? = some (.code (jb_y 208) (jb_b 208) (jb_ml 208) (jb_ret 208)) := rfl
set_option maxRecDepth 100000 in
theorem jb_cw209 : lw_tbl[1311]? = some (.code (jb_y 209) (jb_b 209) (jb_ml 209) (jb_ret 209)) := rfl
set_option maxRecDepth 100000 in
theorem jb_cw210 : lw_tbl[1336]? = some (.code (jb_y 210) (jb_b 210) (jb_ml 210) (jb_ret 210)) := rfl
set_option maxRecDepth 100000 in
theorem jb_cw211 : lw_tbl[1417]? = some (.code (jb_y 211) (jb_b 211) (jb_ml 211) (jb_ret 211)) := rfl
set_option maxRecDepth 100000 in
theorem jb_cw212 : lw_tbl[1461]? = some (.code (jb_y 212) (jb_b 212) (jb_ml 212) (jb_ret 212)) := rfl
set_option maxRecDepth 100000 in
theorem jb_cw213 : lw_tbl[1507]? = some (.code (jb_y 213) (jb_b 213) (jb_ml 213) (jb_ret 213)) := rfl
set_option maxRecDepth 100000 in
theorem jb_cw214 : lw_tbl[93]? = some (.code (jb_y 214) (jb_b 214) (jb_ml 214) (jb_ret 214)) := rfl
set_option maxRecDepth 100000 in
theorem jb_cw215 : lw_tbl[372]? = some (.code (jb_y 215) (jb_b 215) (jb_ml 215) (jb_ret 215)) := rfl
set_option maxRecDepth 100000 in
theorem jb_cw216 : lw_tbl[439]? = some (.code (jb_y 216) (jb_b 216) (jb_ml 216) (jb_ret 216)) := rfl
set_option maxRecDepth 100000 in
theorem jb_cw217 : lw_tbl[484]? = some (.code (jb_y 217) (jb_b 217) (jb_ml 217) (jb_ret 217)) := rfl
set_option maxRecDepth 100000 in
theorem jb_cw218 : lw_tbl[492]? = some (.code (jb_y 218) (jb_b 218) (jb_ml 218) (jb_ret 218)) := rfl
set_option maxRecDepth 100000 in
theorem jb_cw219 : lw_tbl[507]? = some (.code (jb_y 219) (jb_b 219) (jb_ml 219) (jb_ret 219)) := rfl
set_option maxRecDepth 100000 in
theorem jb_cw220 : lw_tbl[520]? = some (.code (jb_y 220) (jb_b 220) (jb_ml 220) (jb_ret 220)) := rfl
set_option maxRecDepth 100000 in
theorem jb_cw221 : lw_tbl[531]? = some (.code (jb_y 221) (jb_b 221) (jb_ml 221) (jb_ret 221)) := rfl
set_option maxRecDepth 100000 in
theorem jb_cw222 : lw_tbl[624]? = some (.code (jb_y 222) (jb_b 222) (jb_ml 222) (jb_ret 222)) := rfl
set_option maxRecDepth 100000 in
theorem jb_cw223 : lw_tbl[715]? = some (.code (jb_y 223) (jb_b 223) (jb_ml 223) (jb_ret 223)) := rfl
set_option maxRecDepth 100000 in
theorem jb_cw224 : lw_tbl[723]? = some (.code (jb_y 224) (jb_b 224) (jb_ml 224) (jb_ret 224)) := rfl
set_option maxRecDepth 100000 in
theorem jb_cw225 : lw_tbl[736]? = some (.code (jb_y 225) (jb_b 225) (jb_ml 225) (jb_ret 225)) := rfl
set_option maxRecDepth 100000 in
theorem jb_cw226 : lw_tbl[740]? = some (.code (jb_y 226) (jb_b 226) (jb_ml 226) (jb_ret 226)) := rfl
set_option maxRecDepth 100000 in
theorem jb_cw227 : lw_tbl[785]? = some (.code (jb_y 227) (jb_b 227) (jb_ml 227) (jb_ret 227)) := rfl
set_option maxRecDepth 100000 in
theorem jb_cw228 : lw_tbl[793]? = some (.code (jb_y 228) (jb_b 228) (jb_ml 228) (jb_ret 228)) := rfl
set_option maxRecDepth 100000 in
theorem jb_cw229 : lw_tbl[825]? = some (.code (jb_y 229) (jb_b 229) (jb_ml 229) (jb_ret 229)) := rfl
set_option maxRecDepth 100000 in
theorem jb_cw230 : lw_tbl[901]? = some (.code (jb_y 230) (jb_b 230) (jb_ml 230) (jb_ret 230)) := rfl
set_option maxRecDepth 100000 in
theorem jb_cw231 : lw_tbl[916]? = some (.code (jb_y 231) (jb_b 231) (jb_ml 231) (jb_ret 231)) := rfl
set_option maxRecDepth 100000 in
theorem jb_cw232 : lw_tbl[1332]? = some (.code (jb_y 232) (jb_b 232) (jb_ml 232) (jb_ret 232)) := rfl
set_option maxRecDepth 100000 in
theorem jb_cw233 : lw_tbl[1340]? = some (.code (jb_y 233) (jb_b 233) (jb_ml 233) (jb_ret 233)) := rfl
set_option maxRecDepth 100000 in
theorem jb_cw234 : lw_tbl[1457]? = some (.code (jb_y 234) (jb_b 234) (jb_ml 234) (jb_ret 234)) := rfl
set_option maxRecDepth 100000 in
theorem jb_cw235 : lw_tbl[463]? = some (.code (jb_y 235) (jb_b 235) (jb_ml 235) (jb_ret 235)) := rfl
set_option maxRecDepth 100000 in
theorem jb_cw236 : lw_tbl[540]? = some (.code (jb_y 236) (jb_b 236) (jb_ml 236) (jb_ret 236)) := rfl
set_option maxRecDepth 100000 in
theorem jb_cw237 : lw_tbl[616]? = some (.code (jb_y 237) (jb_b 237) (jb_ml 237) (jb_ret 237)) := rfl
set_option maxRecDepth 100000 in
theorem jb_cw238 : lw_tbl[752]? = some (.code (jb_y 238) (jb_b 238) (jb_ml 238) (jb_ret 238)) := rfl
set_option maxRecDepth 100000 in
theorem jb_cw239 : lw_tbl[820]? = some (.code (jb_y 239) (jb_b 239) (jb_ml 239) (jb_ret 239)) := rfl
set_option maxRecDepth 100000 in
theorem jb_cw240 : lw_tbl[912]? = some (.code (jb_y 240) (jb_b 240) (jb_ml 240) (jb_ret 240)) := rfl
set_option maxRecDepth 100000 in
theorem jb_cw241 : lw_tbl[1328]? = some (.code (jb_y 241) (jb_b 241) (jb_ml 241) (jb_ret 241)) := rfl
set_option maxRecDepth 100000 in
theorem jb_cw242 : lw_tbl[1376]? = some (.code (jb_y 242) (jb_b 242) (jb_ml 242) (jb_ret 242)) := rfl
set_option maxRecDepth 100000 in
theorem jb_cw243 : lw_tbl[1453]? = some (.code (jb_y 243) (jb_b 243) (jb_ml 243) (jb_ret 243)) := rfl
set_option maxRecDepth 100000 in
theorem jb_cw244 : lw_tbl[816]? = some (.code (jb_y 244) (jb_b 244) (jb_ml 244) (jb_ret 244)) := rfl
set_option maxRecDepth 100000 in
theorem jb_cw245 : lw_tbl[1368]? = some (.code (jb_y 245) (jb_b 245) (jb_ml 245) (jb_ret 245)) := rfl
set_option maxRecDepth 100000 in
theorem jb_cw246 : lw_tbl[1380]? = some (.code (jb_y 246) (jb_b 246) (jb_ml 246) (jb_ret 246)) := rfl
set_option maxRecDepth 100000 in
theorem jb_cw247 : lw_tbl[1449]? = some (.code (jb_y 247) (jb_b 247) (jb_ml 247) (jb_ret 247)) := rfl
set_option maxRecDepth 100000 in
theorem jb_cw (i : Nat) (h : i < 248) : Cond.code (jb_y i) (jb_b i) (jb_ml i) (jb_ret i) ∈ jb_W := by
  match i, h with
  | 0, _ => exact jb_inW jb_cw0 rfl
  | 1, _ => exact jb_inW jb_cw1 rfl
  | 2, _ => exact jb_inW jb_cw2 rfl
  | 3, _ => exact jb_inW jb_cw3 rfl
  | 4, _ => exact jb_inW jb_cw4 rfl
  | 5, _ => exact jb_inW jb_cw5 rfl
  | 6, _ => exact jb_inW jb_cw6 rfl
  | 7, _ => exact jb_inW jb_cw7 rfl
  | 8, _ => exact jb_inW jb_cw8 rfl
  | 9, _ => exact jb_inW jb_cw9 rfl
  | 10, _ => exact jb_inW jb_cw10 rfl
  | 11, _ => exact jb_inW jb_cw11 rfl
  | 12, _ => exact jb_inW jb_cw12 rfl
  | 13, _ => exact jb_inW jb_cw13 rfl
  | 14, _ => exact jb_inW jb_cw14 rfl
  | 15, _ => exact jb_inW jb_cw15 rfl
  | 16, _ => exact jb_inW jb_cw16 rfl
  | 17, _ => exact jb_inW jb_cw17 rfl
  | 18, _ => exact jb_inW jb_cw18 rfl
  | 19, _ => exact jb_inW jb_cw19 rfl
  | 20, _ => exact jb_inW jb_cw20 rfl
  | 21, _ => exact jb_inW jb_cw21 rfl
  | 22, _ => exact jb_inW jb_cw22 rfl
  | 23, _ => exact jb_inW jb_cw23 rfl
  | 24, _ => exact jb_inW jb_cw24 rfl
  | 25, _ => exact jb_inW jb_cw25 rfl
  | 26, _ => exact jb_inW jb_cw26 rfl
  | 27, _ => exact jb_inW jb_cw27 rfl
  | 28, _ => exact jb_inW jb_cw28 rfl
  | 29, _ => exact jb_inW jb_cw29 rfl
  | 30, _ => exact jb_inW jb_cw30 rfl
  | 31, _ => exact jb_inW jb_cw31 rfl
  | 32, _ => exact jb_inW jb_cw32 rfl
  | 33, _ => exact jb_inW jb_cw33 rfl
  | 34, _ => exact jb_inW jb_cw34 rfl
  | 35, _ => exact jb_inW jb_cw35 rfl
  | 36, _ => exact jb_inW jb_cw36 rfl
  | 37, _ => exact jb_inW jb_cw37 rfl
  | 38, _ => exact jb_inW jb_cw38 rfl
  | 39, _ => exact jb_inW jb_cw39 rfl
  | 40, _ => exact jb_inW jb_cw40 rfl
  | 41, _ => exact jb_inW jb_cw41 rfl
  | 42, _ => exact jb_inW jb_cw42 rfl
  | 43, _ => exact jb_inW jb_cw43 rfl
  | 44, _ => exact jb_inW jb_cw44 rfl
  | 45, _ => exact jb_inW jb_cw45 rfl
  | 46, _ => exact jb_inW jb_cw46 rfl
  | 47, _ => exact jb_inW jb_cw47 rfl
  | 48, _ => exact jb_inW jb_cw48 rfl
  | 49, _ => exact jb_inW jb_cw49 rfl
  | 50, _ => exact jb_inW jb_cw50 rfl
  | 51, _ => exact jb_inW jb_cw51 rfl
  | 52, _ => exact jb_inW jb_cw52 rfl
  | 53, _ => exact jb_inW jb_cw53 rfl
  | 54, _ => exact jb_inW jb_cw54 rfl
  | 55, _ => exact jb_inW jb_cw55 rfl
  | 56, _ => exact jb_inW jb_cw56 rfl
  | 57, _ => exact jb_inW jb_cw57 rfl
  | 58, _ => exact jb_inW jb_cw58 rfl
  | 59, _ => exact jb_inW jb_cw59 rfl
  | 60, _ => exact jb_inW jb_cw60 rfl
  | 61, _ => exact jb_inW jb_cw61 rfl
  | 62, _ => exact jb_inW jb_cw62 rfl
  | 63, _ => exact jb_inW jb_cw63 rfl
  | 64, _ => exact jb_inW jb_cw64 rfl
  | 65, _ => exact jb_inW jb_cw65 rfl
  | 66, _ => exact jb_inW jb_cw66 rfl
  | 67, _ => exact jb_inW jb_cw67 rfl
  | 68, _ => exact jb_inW jb_cw68 rfl
  | 69, _ => exact jb_inW jb_cw69 rfl
  | 70, _ => exact jb_inW jb_cw70 rfl
  | 71, _ => exact jb_inW jb_cw71 rfl
  | 72, _ => exact jb_inW jb_cw72 rfl
  | 73, _ => exact jb_inW jb_cw73 rfl
  | 74, _ => exact jb_inW jb_cw74 rfl
  | 75, _ => exact jb_inW jb_cw75 rfl
  | 76, _ => exact jb_inW jb_cw76 rfl
  | 77, _ => exact jb_inW jb_cw77 rfl
  | 78, _ => exact jb_inW jb_cw78 rfl
  | 79, _ => exact jb_inW jb_cw79 rfl
  | 80, _ => exact jb_inW jb_cw80 rfl
  | 81, _ => exact jb_inW jb_cw81 rfl
  | 82, _ => exact jb_inW jb_cw82 rfl
  | 83, _ => exact jb_inW jb_cw83 rfl
  | 84, _ => exact jb_inW jb_cw84 rfl
  | 85, _ => exact jb_inW jb_cw85 rfl
  | 86, _ => exact jb_inW jb_cw86 rfl
  | 87, _ => exact jb_inW jb_cw87 rfl
  | 88, _ => exact jb_inW jb_cw88 rfl
  | 89, _ => exact jb_inW jb_cw89 rfl
  | 90, _ => exact jb_inW jb_cw90 rfl
  | 91, _ => exact jb_inW jb_cw91 rfl
  | 92, _ => exact jb_inW jb_cw92 rfl
  | 93, _ => exact jb_inW jb_cw93 rfl
  | 94, _ => exact jb_inW jb_cw94 rfl
  | 95, _ => exact jb_inW jb_cw95 rfl
  | 96, _ => exact jb_inW jb_cw96 rfl
  | 97, _ => exact jb_inW jb_cw97 rfl
  | 98, _ => exact jb_inW jb_cw98 rfl
  | 99, _ => exact jb_inW jb_cw99 rfl
  | 100, _ => exact jb_inW jb_cw100 rfl
  | 101, _ => exact jb_inW jb_cw101 rfl
  | 102, _ => exact jb_inW jb_cw102 rfl
  | 103, _ => exact jb_inW jb_cw103 rfl
  | 104, _ => exact jb_inW jb_cw104 rfl
  | 105, _ => exact jb_inW jb_cw105 rfl
  | 106, _ => exact jb_inW jb_cw106 rfl
  | 107, _ => exact jb_inW jb_cw107 rfl
  | 108, _ => exact jb_inW jb_cw108 rfl
  | 109, _ => exact jb_inW jb_cw109 rfl
  | 110, _ => exact jb_inW jb_cw110 rfl
  | 111, _ => exact jb_inW jb_cw111 rfl
  | 112, _ => exact jb_inW jb_cw112 rfl
  | 113, _ => exact jb_inW jb_cw113 rfl
  | 114, _ => exact jb_inW jb_cw114 rfl
  | 115, _ => exact jb_inW jb_cw115 rfl
  | 116, _ => exact jb_inW jb_cw116 rfl
  | 117, _ => exact jb_inW jb_cw117 rfl
  | 118, _ => exact jb_inW jb_cw118 rfl
  | 119, _ => exact jb_inW jb_cw119 rfl
  | 120, _ => exact jb_inW jb_cw120 rfl
  | 121, _ => exact jb_inW jb_cw121 rfl
  | 122, _ => exact jb_inW jb_cw122 rfl
  | 123, _ => exact jb_inW jb_cw123 rfl
  | 124, _ => exact jb_inW jb_cw124 rfl
  | 125, _ => exact jb_inW jb_cw125 rfl
  | 126, _ => exact jb_inW jb_cw126 rfl
  | 127, _ => exact jb_inW jb_cw127 rfl
  | 128, _ => exact jb_inW jb_cw128 rfl
  | 129, _ => exact jb_inW jb_cw129 rfl
  | 130, _ => exact jb_inW jb_cw130 rfl
  | 131, _ => exact jb_inW jb_cw131 rfl
  | 132, _ => exact jb_inW jb_cw132 rfl
  | 133, _ => exact jb_inW jb_cw133 rfl
  | 134, _ => exact jb_inW jb_cw134 rfl
  | 135, _ => exact jb_inW jb_cw135 rfl
  | 136, _ => exact jb_inW jb_cw136 rfl
  | 137, _ => exact jb_inW jb_cw137 rfl
  | 138, _ => exact jb_inW jb_cw138 rfl
  | 139, _ => exact jb_inW jb_cw139 rfl
  | 140, _ => exact jb_inW jb_cw140 rfl
  | 141, _ => exact jb_inW jb_cw141 rfl
  | 142, _ => exact jb_inW jb_cw142 rfl
  | 143, _ => exact jb_inW jb_cw143 rfl
  | 144, _ => exact jb_inW jb_cw144 rfl
  | 145, _ => exact jb_inW jb_cw145 rfl
  | 146, _ => exact jb_inW jb_cw146 rfl
  | 147, _ => exact jb_inW jb_cw147 rfl
  | 148, _ => exact jb_inW jb_cw148 rfl
  | 149, _ => exact jb_inW jb_cw149 rfl
  | 150, _ => exact jb_inW jb_cw150 rfl
  | 151, _ => exact jb_inW jb_cw151 rfl
  | 152, _ => exact jb_inW jb_cw152 rfl
  | 153, _ => exact jb_inW jb_cw153 rfl
  | 154, _ => exact jb_inW jb_cw154 rfl
  | 155, _ => exact jb_inW jb_cw155 rfl
  | 156, _ => exact jb_inW jb_cw156 rfl
  | 157, _ => exact jb_inW jb_cw157 rfl
  | 158, _ => exact jb_inW jb_cw158 rfl
  | 159, _ => exact jb_inW jb_cw159 rfl
  | 160, _ => exact jb_inW jb_cw160 rfl
  | 161, _ => exact jb_inW jb_cw161 rfl
  | 162, _ => exact jb_inW jb_cw162 rfl
  | 163, _ => exact jb_inW jb_cw163 rfl
  | 164, _ => exact jb_inW jb_cw164 rfl
  | 165, _ => exact jb_inW jb_cw165 rfl
  | 166, _ => exact jb_inW jb_cw166 rfl
  | 167, _ => exact jb_inW jb_cw167 rfl
  | 168, _ => exact jb_inW jb_cw168 rfl
  | 169, _ => exact jb_inW jb_cw169 rfl
  | 170, _ => exact jb_inW jb_cw170 rfl
  | 171, _ => exact jb_inW jb_cw171 rfl
  | 172, _ => exact jb_inW jb_cw172 rfl
  | 173, _ => exact jb_inW jb_cw173 rfl
  | 174, _ => exact jb_inW jb_cw174 rfl
  | 175, _ => exact jb_inW jb_cw175 rfl
  | 176, _ => exact jb_inW jb_cw176 rfl
  | 177, _ => exact jb_inW jb_cw177 rfl
  | 178, _ => exact jb_inW jb_cw178 rfl
  | 179, _ => exact jb_inW jb_cw179 rfl
  | 180, _ => exact jb_inW jb_cw180 rfl
  | 181, _ => exact jb_inW jb_cw181 rfl
  | 182, _ => exact jb_inW jb_cw182 rfl
  | 183, _ => exact jb_inW jb_cw183 rfl
  | 184, _ => exact jb_inW jb_cw184 rfl
  | 185, _ => exact jb_inW jb_cw185 rfl
  | 186, _ => exact jb_inW jb_cw186 rfl
  | 187, _ => exact jb_inW jb_cw187 rfl
  | 188, _ => exact jb_inW jb_cw188 rfl
  | 189, _ => exact jb_inW jb_cw189 rfl
  | 190, _ => exact jb_inW jb_cw190 rfl
  | 191, _ => exact jb_inW jb_cw191 rfl
  | 192, _ => exact jb_inW jb_cw192 rfl
  | 193, _ => exact jb_inW jb_cw193 rfl
  | 194, _ => exact jb_inW jb_cw194 rfl
  | 195, _ => exact jb_inW jb_cw195 rfl
  | 196, _ => exact jb_inW jb_cw196 rfl
  | 197, _ => exact jb_inW jb_cw197 rfl
  | 198, _ => exact jb_inW jb_cw198 rfl
  | 199, _ => exact jb_inW jb_cw199 rfl
  | 200, _ => exact jb_inW jb_cw200 rfl
  | 201, _ => exact jb_inW jb_cw201 rfl
  | 202, _ => exact jb_inW jb_cw202 rfl
  | 203, _ => exact jb_inW jb_cw203 rfl
  | 204, _ => exact jb_inW jb_cw204 rfl
  | 205, _ => exact jb_inW jb_cw205 rfl
  | 206, _ => exact jb_inW jb_cw206 rfl
  | 207, _ => exact jb_inW jb_cw207 rfl
  | 208, _ => exact jb_inW jb_cw208 rfl
  | 209, _ => exact jb_inW jb_cw209 rfl
  | 210, _ => exact jb_inW jb_cw210 rfl
  | 211, _ => exact jb_inW jb_cw211 rfl
  | 212, _ => exact jb_inW jb_cw212 rfl
  | 213, _ => exact jb_inW jb_cw213 rfl
  | 214, _ => exact jb_inW jb_cw214 rfl
  | 215, _ => exact jb_inW jb_cw215 rfl
  | 216, _ => exact jb_inW jb_cw216 rfl
  | 217, _ => exact jb_inW jb_cw217 rfl
  | 218, _ => exact jb_inW jb_cw218 rfl
  | 219, _ => exact jb_inW jb_cw219 rfl
  | 220, _ => exact jb_inW jb_cw220 rfl
  | 221, _ => exact jb_inW jb_cw221 rfl
  | 222, _ => exact jb_inW jb_cw222 rfl
  | 223, _ => exact jb_inW jb_cw223 rfl
  | 224, _ => exact jb_inW jb_cw224 rfl
  | 225, _ => exact jb_inW jb_cw225 rfl
  | 226, _ => exact jb_inW jb_cw226 rfl
  | 227, _ => exact jb_inW jb_cw227 rfl
  | 228, _ => exact jb_inW jb_cw228 rfl
  | 229, _ => exact jb_inW jb_cw229 rfl
  | 230, _ => exact jb_inW jb_cw230 rfl
  | 231, _ => exact jb_inW jb_cw231 rfl
  | 232, _ => exact jb_inW jb_cw232 rfl
  | 233, _ => exact jb_inW jb_cw233 rfl
  | 234, _ => exact jb_inW jb_cw234 rfl
  | 235, _ => exact jb_inW jb_cw235 rfl
  | 236, _ => exact jb_inW jb_cw236 rfl
  | 237, _ => exact jb_inW jb_cw237 rfl
  | 238, _ => exact jb_inW jb_cw238 rfl
  | 239, _ => exact jb_inW jb_cw239 rfl
  | 240, _ => exact jb_inW jb_cw240 rfl
  | 241, _ => exact jb_inW jb_cw241 rfl
  | 242, _ => exact jb_inW jb_cw242 rfl
  | 243, _ => exact jb_inW jb_cw243 rfl
  | 244, _ => exact jb_inW jb_cw244 rfl
  | 245, _ => exact jb_inW jb_cw245 rfl
  | 246, _ => exact jb_inW jb_cw246 rfl
  | 247, _ => exact jb_inW jb_cw247 rfl
  | n + 248, h => exact absurd h (by omega)
