set_option maxRecDepth 100000 in
theorem mm_cw_0 : lw_tbl[mm_wp 0]? = some (.code (mm_nm 0) (mm_by 0) (mm_mx 0) (mm_rt 0)) := rfl
set_option maxRecDepth 100000 in
theorem mm_cw_1 : lw_tbl[mm_wp 1]? = some (.code (mm_nm 1) (mm_by 1) (mm_mx 1) (mm_rt 1)) := rfl
set_option maxRecDepth 100000 in
theorem mm_cw_2 : lw_tbl[mm_wp 2]? = some (.code (mm_nm 2) (mm_by 2) (mm_mx 2) (mm_rt 2)) := rfl
set_option maxRecDepth 100000 in
theorem mm_cw_3 : lw_tbl[mm_wp 3]? = some (.code (mm_nm 3) (mm_by 3) (mm_mx 3) (mm_rt 3)) := rfl
set_option maxRecDepth 100000 in
theorem mm_cw_4 : lw_tbl[mm_wp 4]? = some (.code (mm_nm 4) (mm_by 4) (mm_mx 4) (mm_rt 4)) := rfl
set_option maxRecDepth 100000 in
theorem mm_cw_5 : lw_tbl[mm_wp 5]? = some (.code (mm_nm 5) (mm_by 5) (mm_mx 5) (mm_rt 5)) := rfl
set_option maxRecDepth 100000 in
theorem mm_cw_6 : lw_tbl[mm_wp 6]? = some (.code (mm_nm 6) (mm_by 6) (mm_mx 6) (mm_rt 6)) := rfl
set_option maxRecDepth 100000 in
theorem mm_cw_7 : lw_tbl[mm_wp 7]? = some (.code (mm_nm 7) (mm_by 7) (mm_mx 7) (mm_rt 7)) := rfl
set_option maxRecDepth 100000 in
theorem mm_cw_8 : lw_tbl[mm_wp 8]? = some (.code (mm_nm 8) (mm_by 8) (mm_mx 8) (mm_rt 8)) := rfl
set_option maxRecDepth 100000 in
theorem mm_cw_9 : lw_tbl[mm_wp 9]? = some (.code (mm_nm 9) (mm_by 9) (mm_mx 9) (mm_rt 9)) := rfl
set_option maxRecDepth 100000 in
theorem mm_cw_10 : lw_tbl[mm_wp 10]? = some (.code (mm_nm 10) (mm_by 10) (mm_mx 10) (mm_rt 10)) := rfl
set_option maxRecDepth 100000 in
theorem mm_cw_11 : lw_tbl[mm_wp 11]? = some (.code (mm_nm 11) (mm_by 11) (mm_mx 11) (mm_rt 11)) := rfl
set_option maxRecDepth 100000 in
theorem mm_cw_12 : lw_tbl[mm_wp 12]? = some (.code (mm_nm 12) (mm_by 12) (mm_mx 12) (mm_rt 12)) := rfl
set_option maxRecDepth 100000 in
theorem mm_cw_13 : lw_tbl[mm_wp 13]? = some (.code (mm_nm 13) (mm_by 13) (mm_mx 13) (mm_rt 13)) := rfl
set_option maxRecDepth 100000 in
theorem mm_cw_14 : lw_tbl[mm_wp 14]? = some (.code (mm_nm 14) (mm_by 14) (mm_mx 14) (mm_rt 14)) := rfl
set_option maxRecDepth 100000 in
theorem mm_cw_15 : lw_tbl[mm_wp 15]? = some (.code (mm_nm 15) (mm_by 15) (mm_mx 15) (mm_rt 15)) := rfl
set_option maxRecDepth 100000 in
theorem mm_cw_16 : lw_tbl[mm_wp 16]? = some (.code (mm_nm 16) (mm_by 16) (mm_mx 16) (mm_rt 16)) := rfl
set_option maxRecDepth 100000 in
theorem mm_cw_17 : lw_tbl[mm_wp 17]? = some (.code (mm_nm 17) (mm_by 17) (mm_mx 17) (mm_rt 17)) := rfl
set_option maxRecDepth 100000 in
theorem mm_cw_18 : lw_tbl[mm_wp 18]? = some (.code (mm_nm 18) (mm_by 18) (mm_mx 18) (mm_rt 18)) := rfl
set_option maxRecDepth 100000 in
theorem mm_cw_19 : lw_tbl[mm_wp 19]? = some (.code (mm_nm 19) (mm_by 19) (mm_mx 19) (mm_rt 19)) := rfl
set_option maxRecDepth 100000 in
theorem mm_cw_20 : lw_tbl[mm_wp 20]? = some (.code (mm_nm 20) (mm_by 20) (mm_mx 20) (mm_rt 20)) := rfl
set_option maxRecDepth 100000 in
theorem mm_cw_21 : lw_tbl[mm_wp 21]? = some (.code (mm_nm 21) (mm_by 21) (mm_mx 21) (mm_rt 21)) := rfl
set_option maxRecDepth 100000 in
theorem mm_cw_22 : lw_tbl[mm_wp 22]? = some (.code (mm_nm 22) (mm_by 22) (mm_mx 22) (mm_rt 22)) := rfl
set_option maxRecDepth 100000 in
theorem mm_cw_23 : lw_tbl[mm_wp 23]? = some (.code (mm_nm 23) (mm_by 23) (mm_mx 23) (mm_rt 23)) := rfl
set_option maxRecDepth 100000 in
theorem mm_cw_24 : lw_tbl[mm_wp 24]? = some (.code (mm_nm 24) (mm_by 24) (mm_mx 24) (mm_rt 24)) := rfl
set_option maxRecDepth 100000 in
theorem mm_cw_25 : lw_tbl[mm_wp 25]? = some (.code (mm_nm 25) (mm_by 25) (mm_mx 25) (mm_rt 25)) := rfl
set_option maxRecDepth 100000 in
theorem mm_cw_26 : lw_tbl[mm_wp 26]? = some (.code (mm_nm 26) (mm_by 26) (mm_mx 26) (mm_rt 26)) := rfl
set_option maxRecDepth 100000 in
theorem mm_cw_27 : lw_tbl[mm_wp 27]? = some (.code (mm_nm 27) (mm_by 27) (mm_mx 27) (mm_rt 27)) := rfl
set_option maxRecDepth 100000 in
theorem mm_cw_28 : lw_tbl[mm_wp 28]? = some (.code (mm_nm 28) (mm_by 28) (mm_mx 28) (mm_rt 28)) := rfl
set_option maxRecDepth 100000 in
theorem mm_cw_29 : lw_tbl[mm_wp 29]? = some (.code (mm_nm 29) (mm_by 29) (mm_mx 29) (mm_rt 29)) := rfl
set_option maxRecDepth 100000 in
theorem mm_cw_30 : lw_tbl[mm_wp 30]? = some (.code (mm_nm 30) (mm_by 30) (mm_mx 30) (mm_rt 30)) := rfl
set_option maxRecDepth 100000 in
theorem mm_cw_31 : lw_tbl[mm_wp 31]? = some (.code (mm_nm 31) (mm_by 31) (mm_mx 31) (mm_rt 31)) := rfl
set_option maxRecDepth 100000 in
theorem mm_cw_32 : lw_tbl[mm_wp 32]? = some (.code (mm_nm 32) (mm_by 32) (mm_mx 32) (mm_rt 32)) := rfl
set_option maxRecDepth 100000 in
theorem mm_cw_33 : lw_tbl[mm_wp 33]? = some (.code (mm_nm 33) (mm_by 33) (mm_mx 33) (mm_rt 33)) := rfl
set_option maxRecDepth 100000 in
theorem mm_cw_34 : lw_tbl[mm_wp 34]? = some (.code (mm_nm 34) (mm_by 34) (mm_mx 34) (mm_rt 34)) := rfl
set_option maxRecDepth 100000 in
theorem mm_cw_35 : lw_tbl[mm_wp 35]? = some (.code (mm_nm 35) (mm_by 35) (mm_mx 35) (mm_rt 35)) := rfl
set_option maxRecDepth 100000 in
theorem mm_cw_36 : lw_tbl[mm_wp 36]? = some (.code (mm_nm 36) (mm_by 36) (mm_mx 36) (mm_rt 36)) := rfl
set_option maxRecDepth 100000 in
theorem mm_cw_37 : lw_tbl[mm_wp 37]? = some (.code (mm_nm 37) (mm_by 37) (mm_mx 37) (mm_rt 37)) := rfl
set_option maxRecDepth 100000 in
theorem mm_cw_38 : lw_tbl[mm_wp 38]? = some (.code (mm_nm 38) (mm_by 38) (mm_mx 38) (mm_rt 38)) := rfl
set_option maxRecDepth 100000 in
theorem mm_cw_39 : lw_tbl[mm_wp 39]? = some (.code (mm_nm 39) (mm_by 39) (mm_mx 39) (mm_rt 39)) := rfl
set_option maxRecDepth 100000 in
theorem mm_cw_40 : lw_tbl[mm_wp 40]? = some (.code (mm_nm 40) (mm_by 40) (mm_mx 40) (mm_rt 40)) := rfl
set_option maxRecDepth 100000 in
theorem mm_cw_41 : lw_tbl[mm_wp 41]? = some (.code (mm_nm 41) (mm_by 41) (mm_mx 41) (mm_rt 41)) := rfl
set_option maxRecDepth 100000 in
theorem mm_cw_42 : lw_tbl[mm_wp 42]? = some (.code (mm_nm 42) (mm_by 42) (mm_mx 42) (mm_rt 42)) := rfl
set_option maxRecDepth 100000 in
theorem mm_cw_43 : lw_tbl[mm_wp 43]? = some (.code (mm_nm 43) (mm_by 43) (mm_mx 43) (mm_rt 43)) := rfl
set_option maxRecDepth 100000 in
theorem mm_cw_44 : lw_tbl[mm_wp 44]? = some (.code (mm_nm 44) (mm_by 44) (mm_mx 44) (mm_rt 44)) := rfl
set_option maxRecDepth 100000 in
theorem mm_cw_45 : lw_tbl[mm_wp 45]? = some (.code (mm_nm 45) (mm_by 45) (mm_mx 45) (mm_rt 45)) := rfl
set_option maxRecDepth 100000 in
theorem mm_cw_46 : lw_tbl[mm_wp 46]? = some (.code (mm_nm 46) (mm_by 46) (mm_mx 46) (mm_rt 46)) := rfl
set_option maxRecDepth 100000 in
theorem mm_cw_47 : lw_tbl[mm_wp 47]? = some (.code (mm_nm 47) (mm_by 47) (mm_mx 47) (mm_rt 47)) := rfl
set_option maxRecDepth 100000 in
theorem mm_cw_48 : lw_tbl[mm_wp 48]? = some (.code (mm_nm 48) (mm_by 48) (mm_mx 48) (mm_rt 48)) := rfl
set_option maxRecDepth 100000 in
theorem mm_cw_49 : lw_tbl[mm_wp 49]? = some (.code (mm_nm 49) (mm_by 49) (mm_mx 49) (mm_rt 49)) := rfl
set_option maxRecDepth 100000 in
theorem mm_cw_50 : lw_tbl[mm_wp 50]? = some (.code (mm_nm 50) (mm_by 50) (mm_mx 50) (mm_rt 50)) := rfl
set_option maxRecDepth 100000 in
theorem mm_cw_51 : lw_tbl[mm_wp 51]? = some (.code (mm_nm 51) (mm_by 51) (mm_mx 51) (mm_rt 51)) := rfl
set_option maxRecDepth 100000 in
theorem mm_cw_52 : lw_tbl[mm_wp 52]? = some (.code (mm_nm 52) (mm_by 52) (mm_mx 52) (mm_rt 52)) := rfl
set_option maxRecDepth 100000 in
theorem mm_cw_53 : lw_tbl[mm_wp 53]? = some (.code (mm_nm 53) (mm_by 53) (mm_mx 53) (mm_rt 53)) := rfl
set_option maxRecDepth 100000 in
theorem mm_cw_54 : lw_tbl[mm_wp 54]? = some (.code (mm_nm 54) (mm_by 54) (mm_mx 54) (mm_rt 54)) := rfl
set_option maxRecDepth 100000 in
theorem mm_cw_55 : lw_tbl[mm_wp 55]? = some (.code (mm_nm 55) (mm_by 55) (mm_mx 55) (mm_rt 55)) := rfl
set_option maxRecDepth 100000 in
theorem mm_cw_56 : lw_tbl[mm_wp 56]? = some (.code (mm_nm 56) (mm_by 56) (mm_mx 56) (mm_rt 56)) := rfl
set_option maxRecDepth 100000 in
theorem mm_cw_57 : lw_tbl[mm_wp 57]? = some (.code (mm_nm 57) (mm_by 57) (mm_mx 57) (mm_rt 57)) := rfl
set_option maxRecDepth 100000 in
theorem mm_cw_58 : lw_tbl[mm_wp 58]? = some (.code (mm_nm 58) (mm_by 58) (mm_mx 58) (mm_rt 58)) := rfl
set_option maxRecDepth 100000 in
theorem mm_cw_59 : lw_tbl[mm_wp 59]? = some (.code (mm_nm 59) (mm_by 59) (mm_mx 59) (mm_rt 59)) := rfl
set_option maxRecDepth 100000 in
theorem mm_cw_60 : lw_tbl[mm_wp 60]? = some (.code (mm_nm 60) (mm_by 60) (mm_mx 60) (mm_rt 60)) := rfl
set_option maxRecDepth 100000 in
theorem mm_cw_61 : lw_tbl[mm_wp 61]? = some (.code (mm_nm 61) (mm_by 61) (mm_mx 61) (mm_rt 61)) := rfl
set_option maxRecDepth 100000 in
theorem mm_cw_62 : lw_tbl[mm_wp 62]? = some (.code (mm_nm 62) (mm_by 62) (mm_mx 62) (mm_rt 62)) := rfl
set_option maxRecDepth 100000 in
theorem mm_cw_63 : lw_tbl[mm_wp 63]? = some (.code (mm_nm 63) (mm_by 63) (mm_mx 63) (mm_rt 63)) := rfl
set_option maxRecDepth 100000 in
theorem mm_cw_64 : lw_tbl[mm_wp 64]? = some (.code (mm_nm 64) (mm_by 64) (mm_mx 64) (mm_rt 64)) := rfl
set_option maxRecDepth 100000 in
theorem mm_cw_65 : lw_tbl[mm_wp 65]? = some (.code (mm_nm 65) (mm_by 65) (mm_mx 65) (mm_rt 65)) := rfl
set_option maxRecDepth 100000 in
theorem mm_cw_66 : lw_tbl[mm_wp 66]? = some (.code (mm_nm 66) (mm_by 66) (mm_mx 66) (mm_rt 66)) := rfl
set_option maxRecDepth 100000 in
theorem mm_cw_67 : lw_tbl[mm_wp 67]? = some (.code (mm_nm 67) (mm_by 67) (mm_mx 67) (mm_rt 67)) := rfl
set_option maxRecDepth 100000 in
theorem mm_cw_68 : lw_tbl[mm_wp 68]? = some (.code (mm_nm 68) (mm_by 68) (mm_mx 68) (mm_rt 68)) := rfl
set_option maxRecDepth 100000 in
theorem mm_cw_69 : lw_tbl[mm_wp 69]? = some (.code (mm_nm 69) (mm_by 69) (mm_mx 69) (mm_rt 69)) := rfl
set_option maxRecDepth 100000 in
theorem mm_cw_70 : lw_tbl[mm_wp 70]? = some (.code (mm_nm 70) (mm_by 70) (mm_mx 70) (mm_rt 70)) := rfl
set_option maxRecDepth 100000 in
theorem mm_cw_71 : lw_tbl[mm_wp 71]? = some (.code (mm_nm 71) (mm_by 71) (mm_mx 71) (mm_rt 71)) := rfl
set_option maxRecDepth 100000 in
theorem mm_cw_72 : lw_tbl[mm_wp 72]? = some (.code (mm_nm 72) (mm_by 72) (mm_mx 72) (mm_rt 72)) := rfl
set_option maxRecDepth 100000 in
theorem mm_cw_73 : lw_tbl[mm_wp 73]? = some (.code (mm_nm 73) (mm_by 73) (mm_mx 73) (mm_rt 73)) := rfl
set_option maxRecDepth 100000 in
theorem mm_cw_74 : lw_tbl[mm_wp 74]? = some (.code (mm_nm 74) (mm_by 74) (mm_mx 74) (mm_rt 74)) := rfl
set_option maxRecDepth 100000 in
theorem mm_cw_75 : lw_tbl[mm_wp 75]? = some (.code (mm_nm 75) (mm_by 75) (mm_mx 75) (mm_rt 75)) := rfl
set_option maxRecDepth 100000 in
theorem mm_cw_76 : lw_tbl[mm_wp 76]? = some (.code (mm_nm 76) (mm_by 76) (mm_mx 76) (mm_rt 76)) := rfl
set_option maxRecDepth 100000 in
theorem mm_cw_77 : lw_tbl[mm_wp 77]? = some (.code (mm_nm 77) (mm_by 77) (mm_mx 77) (mm_rt 77)) := rfl
set_option maxRecDepth 100000 in
theorem mm_cw_78 : lw_tbl[mm_wp 78]? = some (.code (mm_nm 78) (mm_by 78) (mm_mx 78) (mm_rt 78)) := rfl
set_option maxRecDepth 100000 in
theorem mm_cw_79 : lw_tbl[mm_wp 79]? = some (.code (mm_nm 79) (mm_by 79) (mm_mx 79) (mm_rt 79)) := rfl
set_option maxRecDepth 100000 in
theorem mm_cw_80 : lw_tbl[mm_wp 80]? = some (.code (mm_nm 80) (mm_by 80) (mm_mx 80) (mm_rt 80)) := rfl
set_option maxRecDepth 100000 in
theorem mm_cw_81 : lw_tbl[mm_wp 81]? = some (.code (mm_nm 81) (mm_by 81) (mm_mx 81) (mm_rt 81)) := rfl
set_option maxRecDepth 100000 in
theorem mm_cw_82 : lw_tbl[mm_wp 82]? = some (.code (mm_nm 82) (mm_by 82) (mm_mx 82) (mm_rt 82)) := rfl
set_option maxRecDepth 100000 in
theorem mm_cw_83 : lw_tbl[mm_wp 83]? = some (.code (mm_nm 83) (mm_by 83) (mm_mx 83) (mm_rt 83)) := rfl
set_option maxRecDepth 100000 in
theorem mm_cw_84 : lw_tbl[mm_wp 84]? = some (.code (mm_nm 84) (mm_by 84) (mm_mx 84) (mm_rt 84)) := rfl
set_option maxRecDepth 100000 in
theorem mm_cw_85 : lw_tbl[mm_wp 85]? = some (.code (mm_nm 85) (mm_by 85) (mm_mx 85) (mm_rt 85)) := rfl
set_option maxRecDepth 100000 in
theorem mm_cw_86 : lw_tbl[mm_wp 86]? = some (.code (mm_nm 86) (mm_by 86) (mm_mx 86) (mm_rt 86)) := rfl
set_option maxRecDepth 100000 in
theorem mm_cw_87 : lw_tbl[mm_wp 87]? = some (.code (mm_nm 87) (mm_by 87) (mm_mx 87) (mm_rt 87)) := rfl
set_option maxRecDepth 100000 in
theorem mm_cw_88 : lw_tbl[mm_wp 88]? = some (.code (mm_nm 88) (mm_by 88) (mm_mx 88) (mm_rt 88)) := rfl
set_option maxRecDepth 100000 in
theorem mm_cw_89 : lw_tbl[mm_wp 89]? = some (.code (mm_nm 89) (mm_by 89) (mm_mx 89) (mm_rt 89)) := rfl
set_option maxRecDepth 100000 in
theorem mm_cw_90 : lw_tbl[mm_wp 90]? = some (.code (mm_nm 90) (mm_by 90) (mm_mx 90) (mm_rt 90)) := rfl
set_option maxRecDepth 100000 in
theorem mm_cw_91 : lw_tbl[mm_wp 91]? = some (.code (mm_nm 91) (mm_by 91) (mm_mx 91) (mm_rt 91)) := rfl
set_option maxRecDepth 100000 in
theorem mm_cw_92 : lw_tbl[mm_wp 92]? = some (.code (mm_nm 92) (mm_by 92) (mm_mx 92) (mm_rt 92)) := rfl
set_option maxRecDepth 100000 in
theorem mm_cw_93 : lw_tbl[mm_wp 93]? = some (.code (mm_nm 93) (mm_by 93) (mm_mx 93) (mm_rt 93)) := rfl
set_option maxRecDepth 100000 in
theorem mm_cw_94 : lw_tbl[mm_wp 94]? = some (.code (mm_nm 94) (mm_by 94) (mm_mx 94) (mm_rt 94)) := rfl
set_option maxRecDepth 100000 in
theorem mm_cw_95 : lw_tbl[mm_wp 95]? = some (.code (mm_nm 95) (mm_by 95) (mm_mx 95) (mm_rt 95)) := rfl
set_option maxRecDepth 100000 in
theorem mm_cw_96 : lw_tbl[mm_wp 96]? = some (.code (mm_nm 96) (mm_by 96) (mm_mx 96) (mm_rt 96)) := rfl
set_option maxRecDepth 100000 in
theorem mm_cw_97 : lw_tbl[mm_wp 97]? = some (.code (mm_nm 97) (mm_by 97) (mm_mx 97) (mm_rt 97)) := rfl
set_option maxRecDepth 100000 in
theorem mm_cw_98 : lw_tbl[mm_wp 98]? = some (.code (mm_nm 98) (mm_by 98) (mm_mx 98) (mm_rt 98)) := rfl
set_option maxRecDepth 100000 in
theorem mm_cw_99 : lw_tbl[mm_wp 99]? = some (.code (mm_nm 99) (mm_by 99) (mm_mx 99) (mm_rt 99)) := rfl
set_option maxRecDepth 100000 in
theorem mm_cw_100 : lw_tbl[mm_wp 100]? = some (.code (mm_nm 100) (mm_by 100) (mm_mx 100) (mm_rt 100)) := rfl
set_option maxRecDepth 100000 in
theorem mm_cw_101 : lw_tbl[mm_wp 101]? = some (.code (mm_nm 101) (mm_by 101) (mm_mx 101) (mm_rt 101)) := rfl
set_option maxRecDepth 100000 in
theorem mm_cw_102 : lw_tbl[mm_wp 102]? = some (.code (mm_nm 102) (mm_by 102) (mm_mx 102) (mm_rt 102)) := rfl
set_option maxRecDepth 100000 in
theorem mm_cw_103 : lw_tbl[mm_wp 103]? = some (.code (mm_nm 103) (mm_by 103) (mm_mx 103) (mm_rt 103)) := rfl
set_option maxRecDepth 100000 in
theorem mm_cw_104 : lw_tbl[mm_wp 104]? = some (.code (mm_nm 104) (mm_by 104) (mm_mx 104) (mm_rt 104)) := rfl
set_option maxRecDepth 100000 in
theorem mm_cw_105 : lw_tbl[mm_wp 105]? = some (.code (mm_nm 105) (mm_by 105) (mm_mx 105) (mm_rt 105)) := rfl
set_option maxRecDepth 100000 in
theorem mm_cw_106 : lw_tbl[mm_wp 106]? = some (.code (mm_nm 106) (mm_by 106) (mm_mx 106) (mm_rt 106)) := rfl
set_option maxRecDepth 100000 in
theorem mm_cw_107 : lw_tbl[mm_wp 107]? = some (.code (mm_nm 107) (mm_by 107) (mm_mx 107) (mm_rt 107)) := rfl
set_option maxRecDepth 100000 in
theorem mm_cw_108 : lw_tbl[mm_wp 108]? = some (.code (mm_nm 108) (mm_by 108) (mm_mx 108) (mm_rt 108)) := rfl
set_option maxRecDepth 100000 in
theorem mm_cw_109 : lw_tbl[mm_wp 109]? = some (.code (mm_nm 109) (mm_by 109) (mm_mx 109) (mm_rt 109)) := rfl
set_option maxRecDepth 100000 in
theorem mm_cw_110 : lw_tbl[mm_wp 110]? = some (.code (mm_nm 110) (mm_by 110) (mm_mx 110) (mm_rt 110)) := rfl
set_option maxRecDepth 100000 in
theorem mm_cw_111 : lw_tbl[mm_wp 111]? = some (.code (mm_nm 111) (mm_by 111) (mm_mx 111) (mm_rt 111)) := rfl
set_option maxRecDepth 100000 in
theorem mm_cw_112 : lw_tbl[mm_wp 112]? = some (.code (mm_nm 112) (mm_by 112) (mm_mx 112) (mm_rt 112)) := rfl
set_option maxRecDepth 100000 in
theorem mm_cw_113 : lw_tbl[mm_wp 113]? = some (.code (mm_nm 113) (mm_by 113) (mm_mx 113) (mm_rt 113)) := rfl
set_option maxRecDepth 100000 in
theorem mm_cw_114 : lw_tbl[mm_wp 114]? = some (.code (mm_nm 114) (mm_by 114) (mm_mx 114) (mm_rt 114)) := rfl
set_option maxRecDepth 100000 in
theorem mm_cw_115 : lw_tbl[mm_wp 115]? = some (.code (mm_nm 115) (mm_by 115) (mm_mx 115) (mm_rt 115)) := rfl
set_option maxRecDepth 100000 in
theorem mm_cw_116 : lw_tbl[mm_wp 116]? = some (.code (mm_nm 116) (mm_by 116) (mm_mx 116) (mm_rt 116)) := rfl
set_option maxRecDepth 100000 in
theorem mm_cw_117 : lw_tbl[mm_wp 117]? = some (.code (mm_nm 117) (mm_by 117) (mm_mx 117) (mm_rt 117)) := rfl
set_option maxRecDepth 100000 in
theorem mm_cw_118 : lw_tbl[mm_wp 118]? = some (.code (mm_nm 118) (mm_by 118) (mm_mx 118) (mm_rt 118)) := rfl
set_option maxRecDepth 100000 in
theorem mm_cw_119 : lw_tbl[mm_wp 119]? = some (.code (mm_nm 119) (mm_by 119) (mm_mx 119) (mm_rt 119)) := rfl
set_option maxRecDepth 100000 in
theorem mm_cw_120 : lw_tbl[mm_wp 120]? = some (.code (mm_nm 120) (mm_by 120) (mm_mx 120) (mm_rt 120)) := rfl
set_option maxRecDepth 100000 in
theorem mm_cw_121 : lw_tbl[mm_wp 121]? = some (.code (mm_nm 121) (mm_by 121) (mm_mx 121) (mm_rt 121)) := rfl
set_option maxRecDepth 100000 in
theorem mm_cw_122 : lw_tbl[mm_wp 122]? = some (.code (mm_nm 122) (mm_by 122) (mm_mx 122) (mm_rt 122)) := rfl
set_option maxRecDepth 100000 in
theorem mm_cw_123 : lw_tbl[mm_wp 123]? = some (.code (mm_nm 123) (mm_by 123) (mm_mx 123) (mm_rt 123)) := rfl
set_option maxRecDepth 100000 in
theorem mm_cw_124 : lw_tbl[mm_wp 124]? = some (.code (mm_nm 124) (mm_by 124) (mm_mx 124) (mm_rt 124)) := rfl
set_option maxRecDepth 100000 in
theorem mm_cw_125 : lw_tbl[mm_wp 125]? = some (.code (mm_nm 125) (mm_by 125) (mm_mx 125) (mm_rt 125)) := rfl
set_option maxRecDepth 100000 in
theorem mm_cw_126 : lw_tbl[mm_wp 126]? = some (.code (mm_nm 126) (mm_by 126) (mm_mx 126) (mm_rt 126)) := rfl
set_option maxRecDepth 100000 in
theorem mm_cw_127 : lw_tbl[mm_wp 127]? = some (.code (mm_nm 127) (mm_by 127) (mm_mx 127) (mm_rt 127)) := rfl
set_option maxRecDepth 100000 in
theorem mm_cw_128 : lw_tbl[mm_wp 128]? = some (.code (mm_nm 128) (mm_by 128) (mm_mx 128) (mm_rt 128)) := rfl
set_option maxRecDepth 100000 in
theorem mm_cw_129 : lw_tbl[mm_wp 129]? = some (.code (mm_nm 129) (mm_by 129) (mm_mx 129) (mm_rt 129)) := rfl
set_option maxRecDepth 100000 in
theorem mm_cw_130 : lw_tbl[mm_wp 130]? = some (.code (mm_nm 130) (mm_by 130) (mm_mx 130) (mm_rt 130)) := rfl
set_option maxRecDepth 100000 in
theorem mm_cw_131 : lw_tbl[mm_wp 131]? = some (.code (mm_nm 131) (mm_by 131) (mm_mx 131) (mm_rt 131)) := rfl
set_option maxRecDepth 100000 in
theorem mm_cw_132 : lw_tbl[mm_wp 132]? = some (.code (mm_nm 132) (mm_by 132) (mm_mx 132) (mm_rt 132)) := rfl
set_option maxRecDepth 100000 in
theorem mm_cw_133 : lw_tbl[mm_wp 133]? = some (.code (mm_nm 133) (mm_by 133) (mm_mx 133) (mm_rt 133)) := rfl
set_option maxRecDepth 100000 in
theorem mm_cw_134 : lw_tbl[mm_wp 134]? = some (.code (mm_nm 134) (mm_by 134) (mm_mx 134) (mm_rt 134)) := rfl
set_option maxRecDepth 100000 in
theorem mm_cw_135 : lw_tbl[mm_wp 135]? = some (.code (mm_nm 135) (mm_by 135) (mm_mx 135) (mm_rt 135)) := rfl
set_option maxRecDepth 100000 in
theorem mm_cw_136 : lw_tbl[mm_wp 136]? = some (.code (mm_nm 136) (mm_by 136) (mm_mx 136) (mm_rt 136)) := rfl
set_option maxRecDepth 100000 in
theorem mm_cw_137 : lw_tbl[mm_wp 137]? = some (.code (mm_nm 137) (mm_by 137) (mm_mx 137) (mm_rt 137)) := rfl
set_option maxRecDepth 100000 in
theorem mm_cw_138 : lw_tbl[mm_wp 138]? = some (.code (mm_nm 138) (mm_by 138) (mm_mx 138) (mm_rt 138)) := rfl
set_option maxRecDepth 100000 in
theorem mm_cw_139 : lw_tbl[mm_wp 139]? = some (.code (mm_nm 139) (mm_by 139) (mm_mx 139) (mm_rt 139)) := rfl
set_option maxRecDepth 100000 in
theorem mm_cw_140 : lw_tbl[mm_wp 140]? = some (.code (mm_nm 140) (mm_by 140) (mm_mx 140) (mm_rt 140)) := rfl
set_option maxRecDepth 100000 in
theorem mm_cw_141 : lw_tbl[mm_wp 141]? = some (.code (mm_nm 141) (mm_by 141) (mm_mx 141) (mm_rt 141)) := rfl
set_option maxRecDepth 100000 in
theorem mm_cw_142 : lw_tbl[mm_wp 142]? = some (.code (mm_nm 142) (mm_by 142) (mm_mx 142) (mm_rt 142)) := rfl
set_option maxRecDepth 100000 in
theorem mm_cw_143 : lw_tbl[mm_wp 143]? = some (.code (mm_nm 143) (mm_by 143) (mm_mx 143) (mm_rt 143)) := rfl
set_option maxRecDepth 100000 in
theorem mm_cw_144 : lw_tbl[mm_wp 144]? = some (.code (mm_nm 144) (mm_by 144) (mm_mx 144) (mm_rt 144)) := rfl
set_option maxRecDepth 100000 in
theorem mm_cw_145 : lw_tbl[mm_wp 145]? = some (.code (mm_nm 145) (mm_by 145) (mm_mx 145) (mm_rt 145)) := rfl
set_option maxRecDepth 100000 in
theorem mm_cw_146 : lw_tbl[mm_wp 146]? = some (.code (mm_nm 146) (mm_by 146) (mm_mx 146) (mm_rt 146)) := rfl
set_option maxRecDepth 100000 in
theorem mm_cw_147 : lw_tbl[mm_wp 147]? = some (.code (mm_nm 147) (mm_by 147) (mm_mx 147) (mm_rt 147)) := rfl
set_option maxRecDepth 100000 in
theorem mm_cw_148 : lw_tbl[mm_wp 148]? = some (.code (mm_nm 148) (mm_by 148) (mm_mx 148) (mm_rt 148)) := rfl
set_option maxRecDepth 100000 in
theorem mm_cw_149 : lw_tbl[mm_wp 149]? = some (.code (mm_nm 149) (mm_by 149) (mm_mx 149) (mm_rt 149)) := rfl
set_option maxRecDepth 100000 in
theorem mm_cw_150 : lw_tbl[mm_wp 150]? = some (.code (mm_nm 150) (mm_by 150) (mm_mx 150) (mm_rt 150)) := rfl
set_option maxRecDepth 100000 in
theorem mm_cw_151 : lw_tbl[mm_wp 151]? = some (.code (mm_nm 151) (mm_by 151) (mm_mx 151) (mm_rt 151)) := rfl
set_option maxRecDepth 100000 in
theorem mm_cw_152 : lw_tbl[mm_wp 152]? = some (.code (mm_nm 152) (mm_by 152) (mm_mx 152) (mm_rt 152)) := rfl
set_option maxRecDepth 100000 in
theorem mm_cw_153 : lw_tbl[mm_wp 153]? = some (.code (mm_nm 153) (mm_by 153) (mm_mx 153) (mm_rt 153)) := rfl
set_option maxRecDepth 100000 in
theorem mm_cw_154 : lw_tbl[mm_wp 154]? = some (.code (mm_nm 154) (mm_by 154) (mm_mx 154) (mm_rt 154)) := rfl
set_option maxRecDepth 100000 in
theorem mm_cw_155 : lw_tbl[mm_wp 155]? = some (.code (mm_nm 155) (mm_by 155) (mm_mx 155) (mm_rt 155)) := rfl
set_option maxRecDepth 100000 in
theorem mm_cw_156 : lw_tbl[mm_wp 156]? = some (.code (mm_nm 156) (mm_by 156) (mm_mx 156) (mm_rt 156)) := rfl
set_option maxRecDepth 100000 in
theorem mm_cw_157 : lw_tbl[mm_wp 157]? = some (.code (mm_nm 157) (mm_by 157) (mm_mx 157) (mm_rt 157)) := rfl
set_option maxRecDepth 100000 in
theorem mm_cw_158 : lw_tbl[mm_wp 158]? = some (.code (mm_nm 158) (mm_by 158) (mm_mx 158) (mm_rt 158)) := rfl
set_option maxRecDepth 100000 in
theorem mm_cw_159 : lw_tbl[mm_wp 159]? = some (.code (mm_nm 159) (mm_by 159) (mm_mx 159) (mm_rt 159)) := rfl
set_option maxRecDepth 100000 in
theorem mm_cw_160 : lw_tbl[mm_wp 160]? = some (.code (mm_nm 160) (mm_by 160) (mm_mx 160) (mm_rt 160)) := rfl
set_option maxRecDepth 100000 in
theorem mm_cw_161 : lw_tbl[mm_wp 161]? = some (.code (mm_nm 161) (mm_by 161) (mm_mx 161) (mm_rt 161)) := rfl
set_option maxRecDepth 100000 in
theorem mm_cw_162 : lw_tbl[mm_wp 162]? = some (.code (mm_nm 162) (mm_by 162) (mm_mx 162) (mm_rt 162)) := rfl
set_option maxRecDepth 100000 in
theorem mm_cw_163 : lw_tbl[mm_wp 163]? = some (.code (mm_nm 163) (mm_by 163) (mm_mx 163) (mm_rt 163)) := rfl
set_option maxRecDepth 100000 in
theorem mm_cw_164 : lw_tbl[mm_wp 164]? = some (.code (mm_nm 164) (mm_by 164) (mm_mx 164) (mm_rt 164)) := rfl
set_option maxRecDepth 100000 in
theorem mm_cw_165 : lw_tbl[mm_wp 165]? = some (.code (mm_nm 165) (mm_by 165) (mm_mx 165) (mm_rt 165)) := rfl
set_option maxRecDepth 100000 in
theorem mm_cw_166 : lw_tbl[mm_wp 166]? = some (.code (mm_nm 166) (mm_by 166) (mm_mx 166) (mm_rt 166)) := rfl
set_option maxRecDepth 100000 in
theorem mm_cw_167 : lw_tbl[mm_wp 167]? = some (.code (mm_nm 167) (mm_by 167) (mm_mx 167) (mm_rt 167)) := rfl
set_option maxRecDepth 100000 in
theorem mm_cw_168 : lw_tbl[mm_wp 168]? = some (.code (mm_nm 168) (mm_by 168) (mm_mx 168) (mm_rt 168)) := rfl
set_option maxRecDepth 100000 in
theorem mm_cw_169 : lw_tbl[mm_wp 169]? = some (.code (mm_nm 169) (mm_by 169) (mm_mx 169) (mm_rt 169)) := rfl
set_option maxRecDepth 100000 in
theorem mm_cw_170 : lw_tbl[mm_wp 170]? = some (.code (mm_nm 170) (mm_by 170) (mm_mx 170) (mm_rt 170)) := rfl
set_option maxRecDepth 100000 in
theorem mm_cw_171 : lw_tbl[mm_wp 171]? = some (.code (mm_nm 171) (mm_by 171) (mm_mx 171) (mm_rt 171)) := rfl
set_option maxRecDepth 100000 in
theorem mm_cw_172 : lw_tbl[mm_wp 172]? = some (.code (mm_nm 172) (mm_by 172) (mm_mx 172) (mm_rt 172)) := rfl
set_option maxRecDepth 100000 in
theorem mm_cw_173 : lw_tbl[mm_wp 173]? = some (.code (mm_nm 173) (mm_by 173) (mm_mx 173) (mm_rt 173)) := rfl
set_option maxRecDepth 100000 in
theorem mm_cw_174 : lw_tbl[mm_wp 174]? = some (.code (mm_nm 174) (mm_by 174) (mm_mx 174) (mm_rt 174)) := rfl
theorem mm_cw (y : Nat) (h : y < 175) : lw_tbl[mm_wp y]? = some (.code (mm_nm y) (mm_by y) (mm_mx y) (mm_rt y)) := by
  match y, h with
  | 0, _ => exact mm_cw_0
  | 1, _ => exact mm_cw_1
  | 2, _ => exact mm_cw_2
  | 3, _ => exact mm_cw_3
  | 4, _ => exact mm_cw_4
  | 5, _ => exact mm_cw_5
  | 6, _ => exact mm_cw_6
  | 7, _ => exact mm_cw_7
  | 8, _ => exact mm_cw_8
  | 9, _ => exact mm_cw_9
  | 10, _ => exact mm_cw_10
  | 11, _ => exact mm_cw_11
  | 12, _ => exact mm_cw_12
  | 13, _ => exact mm_cw_13
  | 14, _ => exact mm_cw_14
  | 15, _ => exact mm_cw_15
  | 16, _ => exact mm_cw_16
  | 17, _ => exact mm_cw_17
  | 18, _ => exact mm_cw_18
  | 19, _ => exact mm_cw_19
  | 20, _ => exact mm_cw_20
  | 21, _ => exact mm_cw_21
  | 22, _ => exact mm_cw_22
  | 23, _ => exact mm_cw_23
  | 24, _ => exact mm_cw_24
  | 25, _ => exact mm_cw_25
  | 26, _ => exact mm_cw_26
  | 27, _ => exact mm_cw_27
  | 28, _ => exact mm_cw_28
  | 29, _ => exact mm_cw_29
  | 30, _ => exact mm_cw_30
  | 31, _ => exact mm_cw_31
  | 32, _ => exact mm_cw_32
  | 33, _ => exact mm_cw_33
  | 34, _ => exact mm_cw_34
  | 35, _ => exact mm_cw_35
  | 36, _ => exact mm_cw_36
  | 37, _ => exact mm_cw_37
  | 38, _ => exact mm_cw_38
  | 39, _ => exact mm_cw_39
  | 40, _ => exact mm_cw_40
  | 41, _ => exact mm_cw_41
  | 42, _ => exact mm_cw_42
  | 43, _ => exact mm_cw_43
  | 44, _ => exact mm_cw_44
  | 45, _ => exact mm_cw_45
  | 46, _ => exact mm_cw_46
  | 47, _ => exact mm_cw_47
  | 48, _ => exact mm_cw_48
  | 49, _ => exact mm_cw_49
  | 50, _ => exact mm_cw_50
  | 51, _ => exact mm_cw_51
  | 52, _ => exact mm_cw_52
  | 53, _ => exact mm_cw_53
  | 54, _ => exact mm_cw_54
  | 55, _ => exact mm_cw_55
  | 56, _ => exact mm_cw_56
  | 57, _ => exact mm_cw_57
  | 58, _ => exact mm_cw_58
  | 59, _ => exact mm_cw_59
  | 60, _ => exact mm_cw_60
  | 61, _ => exact mm_cw_61
  | 62, _ => exact mm_cw_62
  | 63, _ => exact mm_cw_63
  | 64, _ => exact mm_cw_64
  | 65, _ => exact mm_cw_65
  | 66, _ => exact mm_cw_66
  | 67, _ => exact mm_cw_67
  | 68, _ => exact mm_cw_68
  | 69, _ => exact mm_cw_69
  | 70, _ => exact mm_cw_70
  | 71, _ => exact mm_cw_71
  | 72, _ => exact mm_cw_72
  | 73, _ => exact mm_cw_73
  | 74, _ => exact mm_cw_74
  | 75, _ => exact mm_cw_75
  | 76, _ => exact mm_cw_76
  | 77, _ => exact mm_cw_77
  | 78, _ => exact mm_cw_78
  | 79, _ => exact mm_cw_79
  | 80, _ => exact mm_cw_80
  | 81, _ => exact mm_cw_81
  | 82, _ => exact mm_cw_82
  | 83, _ => exact mm_cw_83
  | 84, _ => exact mm_cw_84
  | 85, _ => exact mm_cw_85
  | 86, _ => exact mm_cw_86
  | 87, _ => exact mm_cw_87
  | 88, _ => exact mm_cw_88
  | 89, _ => exact mm_cw_89
  | 90, _ => exact mm_cw_90
  | 91, _ => exact mm_cw_91
  | 92, _ => exact mm_cw_92
  | 93, _ => exact mm_cw_93
  | 94, _ => exact mm_cw_94
  | 95, _ => exact mm_cw_95
  | 96, _ => exact mm_cw_96
  | 97, _ => exact mm_cw_97
  | 98, _ => exact mm_cw_98
  | 99, _ => exact mm_cw_99
  | 100, _ => exact mm_cw_100
  | 101, _ => exact mm_cw_101
  | 102, _ => exact mm_cw_102
  | 103, _ => exact mm_cw_103
  | 104, _ => exact mm_cw_104
  | 105, _ => exact mm_cw_105
  | 106, _ => exact mm_cw_106
  | 107, _ => exact mm_cw_107
  | 108, _ => exact mm_cw_108
  | 109, _ => exact mm_cw_109
  | 110, _ => exact mm_cw_110
  | 111, _ => exact mm_cw_111
  | 112, _ => exact mm_cw_112
  | 113, _ => exact mm_cw_113
  | 114, _ => exact mm_cw_114
  | 115, _ => exact mm_cw_115
  | 116, _ => exact mm_cw_116
  | 117, _ => exact mm_cw_117
  | 118, _ => exact mm_cw_118
  | 119, _ => exact mm_cw_119
  | 120, _ => exact mm_cw_120
  | 121, _ => exact mm_cw_121
  | 122, _ => exact mm_cw_122
  | 123, _ => exact mm_cw_123
  | 124, _ => exact mm_cw_124
  | 125, _ => exact mm_cw_125
  | 126, _ => exact mm_cw_126
  | 127, _ => exact mm_cw_127
  | 128, _ => exact mm_cw_128
  | 129, _ => exact mm_cw_129
  | 130, _ => exact mm_cw_130
  | 131, _ => exact mm_cw_131
  | 132, _ => exact mm_cw_132
  | 133, _ => exact mm_cw_133
  | 134, _ => exact mm_cw_134
  | 135, _ => exact mm_cw_135
  | 136, _ => exact mm_cw_136
  | 137, _ => exact mm_cw_137
  | 138, _ => exact mm_cw_138
  | 139, _ => exact mm_cw_139
  | 140, _ => exact mm_cw_140
  | 141, _ => exact mm_cw_141
  | 142, _ => exact mm_cw_142
  | 143, _ => exact mm_cw_143
  | 144, _ => exact mm_cw_144
  | 145, _ => exact mm_cw_145
  | 146, _ => exact mm_cw_146
  | 147, _ => exact mm_cw_147
  | 148, _ => exact mm_cw_148
  | 149, _ => exact mm_cw_149
  | 150, _ => exact mm_cw_150
  | 151, _ => exact mm_cw_151
  | 152, _ => exact mm_cw_152
  | 153, _ => exact mm_cw_153
  | 154, _ => exact mm_cw_154
  | 155, _ => exact mm_cw_155
  | 156, _ => exact mm_cw_156
  | 157, _ => exact mm_cw_157
  | 158, _ => exact mm_cw_158
  | 159, _ => exact mm_cw_159
  | 160, _ => exact mm_cw_160
  | 161, _ => exact mm_cw_161
  | 162, _ => exact mm_cw_162
  | 163, _ => exact mm_cw_163
  | 164, _ => exact mm_cw_164
  | 165, _ => exact mm_cw_165
  | 166, _ => exact mm_cw_166
  | 167, _ => exact mm_cw_167
  | 168, _ => exact mm_cw_168
  | 169, _ => exact mm_cw_169
  | 170, _ => exact mm_cw_170
  | 171, _ => exact mm_cw_171
  | 172, _ => exact mm_cw_172
  | 173, _ => exact mm_cw_173
  | 174, _ => exact mm_cw_174
  | n + 175, h => omega
