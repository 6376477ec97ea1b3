set_option maxRecDepth 20000 in
theorem z_cd_0 : lw_tbl[560]? = some (.code (z_y 0) (z_by 0) (z_mx 0) (z_rt 0)) := rfl
set_option maxRecDepth 20000 in
theorem z_cd_1 : lw_tbl[568]? = some (.code (z_y 1) (z_by 1) (z_mx 1) (z_rt 1)) := rfl
set_option maxRecDepth 20000 in
theorem z_cd_2 : lw_tbl[572]? = some (.code (z_y 2) (z_by 2) (z_mx 2) (z_rt 2)) := rfl
set_option maxRecDepth 20000 in
theorem z_cd_3 : lw_tbl[715]? = some (.code (z_y 3) (z_by 3) (z_mx 3) (z_rt 3)) := rfl
set_option maxRecDepth 20000 in
theorem z_cd_4 : lw_tbl[759]? = some (.code (z_y 4) (z_by 4) (z_mx 4) (z_rt 4)) := rfl
set_option maxRecDepth 20000 in
theorem z_cd_5 : lw_tbl[763]? = some (.code (z_y 5) (z_by 5) (z_mx 5) (z_rt 5)) := rfl
set_option maxRecDepth 20000 in
theorem z_cd_6 : lw_tbl[766]? = some (.code (z_y 6) (z_by 6) (z_mx 6) (z_rt 6)) := rfl
set_option maxRecDepth 20000 in
theorem z_cd_7 : lw_tbl[774]? = some (.code (z_y 7) (z_by 7) (z_mx 7) (z_rt 7)) := rfl
set_option maxRecDepth 20000 in
theorem z_cd_8 : lw_tbl[770]? = some (.code (z_y 8) (z_by 8) (z_mx 8) (z_rt 8)) := rfl
set_option maxRecDepth 20000 in
theorem z_cd_9 : lw_tbl[390]? = some (.code (z_y 9) (z_by 9) (z_mx 9) (z_rt 9)) := rfl
set_option maxRecDepth 20000 in
theorem z_cd_10 : lw_tbl[380]? = some (.code (z_y 10) (z_by 10) (z_mx 10) (z_rt 10)) := rfl
set_option maxRecDepth 20000 in
theorem z_cd_11 : lw_tbl[476]? = some (.code (z_y 11) (z_by 11) (z_mx 11) (z_rt 11)) := rfl
set_option maxRecDepth 20000 in
theorem z_cd_12 : lw_tbl[407]? = some (.code (z_y 12) (z_by 12) (z_mx 12) (z_rt 12)) := rfl
set_option maxRecDepth 20000 in
theorem z_cd_13 : lw_tbl[420]? = some (.code (z_y 13) (z_by 13) (z_mx 13) (z_rt 13)) := rfl
set_option maxRecDepth 20000 in
theorem z_cd_14 : lw_tbl[440]? = some (.code (z_y 14) (z_by 14) (z_mx 14) (z_rt 14)) := rfl
set_option maxRecDepth 20000 in
theorem z_cd_15 : lw_tbl[564]? = some (.code (z_y 15) (z_by 15) (z_mx 15) (z_rt 15)) := rfl
set_option maxRecDepth 20000 in
theorem z_cd_16 : lw_tbl[412]? = some (.code (z_y 16) (z_by 16) (z_mx 16) (z_rt 16)) := rfl
set_option maxRecDepth 20000 in
theorem z_cd_17 : lw_tbl[432]? = some (.code (z_y 17) (z_by 17) (z_mx 17) (z_rt 17)) := rfl
set_option maxRecDepth 20000 in
theorem z_cd_18 : lw_tbl[449]? = some (.code (z_y 18) (z_by 18) (z_mx 18) (z_rt 18)) := rfl
set_option maxRecDepth 20000 in
theorem z_cd_19 : lw_tbl[452]? = some (.code (z_y 19) (z_by 19) (z_mx 19) (z_rt 19)) := rfl
set_option maxRecDepth 20000 in
theorem z_cd_20 : lw_tbl[460]? = some (.code (z_y 20) (z_by 20) (z_mx 20) (z_rt 20)) := rfl
set_option maxRecDepth 20000 in
theorem z_cd_21 : lw_tbl[533]? = some (.code (z_y 21) (z_by 21) (z_mx 21) (z_rt 21)) := rfl
set_option maxRecDepth 20000 in
theorem z_cd_22 : lw_tbl[542]? = some (.code (z_y 22) (z_by 22) (z_mx 22) (z_rt 22)) := rfl
set_option maxRecDepth 20000 in
theorem z_cd_23 : lw_tbl[551]? = some (.code (z_y 23) (z_by 23) (z_mx 23) (z_rt 23)) := rfl
set_option maxRecDepth 20000 in
theorem z_cd_24 : lw_tbl[645]? = some (.code (z_y 24) (z_by 24) (z_mx 24) (z_rt 24)) := rfl
set_option maxRecDepth 20000 in
theorem z_cd_25 : lw_tbl[800]? = some (.code (z_y 25) (z_by 25) (z_mx 25) (z_rt 25)) := rfl
set_option maxRecDepth 20000 in
theorem z_cd_26 : lw_tbl[736]? = some (.code (z_y 26) (z_by 26) (z_mx 26) (z_rt 26)) := rfl
set_option maxRecDepth 20000 in
theorem z_cd_27 : lw_tbl[576]? = some (.code (z_y 27) (z_by 27) (z_mx 27) (z_rt 27)) := rfl
set_option maxRecDepth 20000 in
theorem z_cd_28 : lw_tbl[632]? = some (.code (z_y 28) (z_by 28) (z_mx 28) (z_rt 28)) := rfl
set_option maxRecDepth 20000 in
theorem z_cd_29 : lw_tbl[580]? = some (.code (z_y 29) (z_by 29) (z_mx 29) (z_rt 29)) := rfl
set_option maxRecDepth 20000 in
theorem z_cd_30 : lw_tbl[585]? = some (.code (z_y 30) (z_by 30) (z_mx 30) (z_rt 30)) := rfl
set_option maxRecDepth 20000 in
theorem z_cd_31 : lw_tbl[588]? = some (.code (z_y 31) (z_by 31) (z_mx 31) (z_rt 31)) := rfl
set_option maxRecDepth 20000 in
theorem z_cd_32 : lw_tbl[594]? = some (.code (z_y 32) (z_by 32) (z_mx 32) (z_rt 32)) := rfl
set_option maxRecDepth 20000 in
theorem z_cd_33 : lw_tbl[598]? = some (.code (z_y 33) (z_by 33) (z_mx 33) (z_rt 33)) := rfl
set_option maxRecDepth 20000 in
theorem z_cd_34 : lw_tbl[623]? = some (.code (z_y 34) (z_by 34) (z_mx 34) (z_rt 34)) := rfl
set_option maxRecDepth 20000 in
theorem z_cd_35 : lw_tbl[607]? = some (.code (z_y 35) (z_by 35) (z_mx 35) (z_rt 35)) := rfl
set_option maxRecDepth 20000 in
theorem z_cd_36 : lw_tbl[614]? = some (.code (z_y 36) (z_by 36) (z_mx 36) (z_rt 36)) := rfl
set_option maxRecDepth 20000 in
theorem z_cd_37 : lw_tbl[603]? = some (.code (z_y 37) (z_by 37) (z_mx 37) (z_rt 37)) := rfl
set_option maxRecDepth 20000 in
theorem z_cd_38 : lw_tbl[618]? = some (.code (z_y 38) (z_by 38) (z_mx 38) (z_rt 38)) := rfl
set_option maxRecDepth 20000 in
theorem z_cd_39 : lw_tbl[649]? = some (.code (z_y 39) (z_by 39) (z_mx 39) (z_rt 39)) := rfl
set_option maxRecDepth 20000 in
theorem z_cd_40 : lw_tbl[654]? = some (.code (z_y 40) (z_by 40) (z_mx 40) (z_rt 40)) := rfl
set_option maxRecDepth 20000 in
theorem z_cd_41 : lw_tbl[658]? = some (.code (z_y 41) (z_by 41) (z_mx 41) (z_rt 41)) := rfl
set_option maxRecDepth 20000 in
theorem z_cd_42 : lw_tbl[662]? = some (.code (z_y 42) (z_by 42) (z_mx 42) (z_rt 42)) := rfl
set_option maxRecDepth 20000 in
theorem z_cd_43 : lw_tbl[376]? = some (.code (z_y 43) (z_by 43) (z_mx 43) (z_rt 43)) := rfl
set_option maxRecDepth 20000 in
theorem z_cd_44 : lw_tbl[472]? = some (.code (z_y 44) (z_by 44) (z_mx 44) (z_rt 44)) := rfl
set_option maxRecDepth 20000 in
theorem z_cd_45 : lw_tbl[488]? = some (.code (z_y 45) (z_by 45) (z_mx 45) (z_rt 45)) := rfl
set_option maxRecDepth 20000 in
theorem z_cd_46 : lw_tbl[496]? = some (.code (z_y 46) (z_by 46) (z_mx 46) (z_rt 46)) := rfl
set_option maxRecDepth 20000 in
theorem z_cd_47 : lw_tbl[501]? = some (.code (z_y 47) (z_by 47) (z_mx 47) (z_rt 47)) := rfl
set_option maxRecDepth 20000 in
theorem z_cd_48 : lw_tbl[505]? = some (.code (z_y 48) (z_by 48) (z_mx 48) (z_rt 48)) := rfl
set_option maxRecDepth 20000 in
theorem z_cd_49 : lw_tbl[796]? = some (.code (z_y 49) (z_by 49) (z_mx 49) (z_rt 49)) := rfl
set_option maxRecDepth 20000 in
theorem z_cd_50 : lw_tbl[826]? = some (.code (z_y 50) (z_by 50) (z_mx 50) (z_rt 50)) := rfl
set_option maxRecDepth 20000 in
theorem z_cd_51 : lw_tbl[675]? = some (.code (z_y 51) (z_by 51) (z_mx 51) (z_rt 51)) := rfl
set_option maxRecDepth 20000 in
theorem z_cd_52 : lw_tbl[678]? = some (.code (z_y 52) (z_by 52) (z_mx 52) (z_rt 52)) := rfl
set_option maxRecDepth 20000 in
theorem z_cd_53 : lw_tbl[682]? = some (.code (z_y 53) (z_by 53) (z_mx 53) (z_rt 53)) := rfl
set_option maxRecDepth 20000 in
theorem z_cd_54 : lw_tbl[686]? = some (.code (z_y 54) (z_by 54) (z_mx 54) (z_rt 54)) := rfl
set_option maxRecDepth 20000 in
theorem z_cd_55 : lw_tbl[689]? = some (.code (z_y 55) (z_by 55) (z_mx 55) (z_rt 55)) := rfl
set_option maxRecDepth 20000 in
theorem z_cd_56 : lw_tbl[692]? = some (.code (z_y 56) (z_by 56) (z_mx 56) (z_rt 56)) := rfl
set_option maxRecDepth 20000 in
theorem z_cd_57 : lw_tbl[368]? = some (.code (z_y 57) (z_by 57) (z_mx 57) (z_rt 57)) := rfl
set_option maxRecDepth 20000 in
theorem z_cd_58 : lw_tbl[394]? = some (.code (z_y 58) (z_by 58) (z_mx 58) (z_rt 58)) := rfl
set_option maxRecDepth 20000 in
theorem z_cd_59 : lw_tbl[403]? = some (.code (z_y 59) (z_by 59) (z_mx 59) (z_rt 59)) := rfl
set_option maxRecDepth 20000 in
theorem z_cd_60 : lw_tbl[416]? = some (.code (z_y 60) (z_by 60) (z_mx 60) (z_rt 60)) := rfl
set_option maxRecDepth 20000 in
theorem z_cd_61 : lw_tbl[424]? = some (.code (z_y 61) (z_by 61) (z_mx 61) (z_rt 61)) := rfl
set_option maxRecDepth 20000 in
theorem z_cd_62 : lw_tbl[428]? = some (.code (z_y 62) (z_by 62) (z_mx 62) (z_rt 62)) := rfl
set_option maxRecDepth 20000 in
theorem z_cd_63 : lw_tbl[436]? = some (.code (z_y 63) (z_by 63) (z_mx 63) (z_rt 63)) := rfl
set_option maxRecDepth 20000 in
theorem z_cd_64 : lw_tbl[456]? = some (.code (z_y 64) (z_by 64) (z_mx 64) (z_rt 64)) := rfl
set_option maxRecDepth 20000 in
theorem z_cd_65 : lw_tbl[467]? = some (.code (z_y 65) (z_by 65) (z_mx 65) (z_rt 65)) := rfl
set_option maxRecDepth 20000 in
theorem z_cd_66 : lw_tbl[480]? = some (.code (z_y 66) (z_by 66) (z_mx 66) (z_rt 66)) := rfl
set_option maxRecDepth 20000 in
theorem z_cd_67 : lw_tbl[492]? = some (.code (z_y 67) (z_by 67) (z_mx 67) (z_rt 67)) := rfl
set_option maxRecDepth 20000 in
theorem z_cd_68 : lw_tbl[509]? = some (.code (z_y 68) (z_by 68) (z_mx 68) (z_rt 68)) := rfl
set_option maxRecDepth 20000 in
theorem z_cd_69 : lw_tbl[514]? = some (.code (z_y 69) (z_by 69) (z_mx 69) (z_rt 69)) := rfl
set_option maxRecDepth 20000 in
theorem z_cd_70 : lw_tbl[518]? = some (.code (z_y 70) (z_by 70) (z_mx 70) (z_rt 70)) := rfl
set_option maxRecDepth 20000 in
theorem z_cd_71 : lw_tbl[522]? = some (.code (z_y 71) (z_by 71) (z_mx 71) (z_rt 71)) := rfl
set_option maxRecDepth 20000 in
theorem z_cd_72 : lw_tbl[529]? = some (.code (z_y 72) (z_by 72) (z_mx 72) (z_rt 72)) := rfl
set_option maxRecDepth 20000 in
theorem z_cd_73 : lw_tbl[538]? = some (.code (z_y 73) (z_by 73) (z_mx 73) (z_rt 73)) := rfl
set_option maxRecDepth 20000 in
theorem z_cd_74 : lw_tbl[547]? = some (.code (z_y 74) (z_by 74) (z_mx 74) (z_rt 74)) := rfl
set_option maxRecDepth 20000 in
theorem z_cd_75 : lw_tbl[556]? = some (.code (z_y 75) (z_by 75) (z_mx 75) (z_rt 75)) := rfl
set_option maxRecDepth 20000 in
theorem z_cd_76 : lw_tbl[627]? = some (.code (z_y 76) (z_by 76) (z_mx 76) (z_rt 76)) := rfl
set_option maxRecDepth 20000 in
theorem z_cd_77 : lw_tbl[636]? = some (.code (z_y 77) (z_by 77) (z_mx 77) (z_rt 77)) := rfl
set_option maxRecDepth 20000 in
theorem z_cd_78 : lw_tbl[640]? = some (.code (z_y 78) (z_by 78) (z_mx 78) (z_rt 78)) := rfl
set_option maxRecDepth 20000 in
theorem z_cd_79 : lw_tbl[667]? = some (.code (z_y 79) (z_by 79) (z_mx 79) (z_rt 79)) := rfl
set_option maxRecDepth 20000 in
theorem z_cd_80 : lw_tbl[696]? = some (.code (z_y 80) (z_by 80) (z_mx 80) (z_rt 80)) := rfl
set_option maxRecDepth 20000 in
theorem z_cd_81 : lw_tbl[700]? = some (.code (z_y 81) (z_by 81) (z_mx 81) (z_rt 81)) := rfl
set_option maxRecDepth 20000 in
theorem z_cd_82 : lw_tbl[707]? = some (.code (z_y 82) (z_by 82) (z_mx 82) (z_rt 82)) := rfl
set_option maxRecDepth 20000 in
theorem z_cd_83 : lw_tbl[711]? = some (.code (z_y 83) (z_by 83) (z_mx 83) (z_rt 83)) := rfl
set_option maxRecDepth 20000 in
theorem z_cd_84 : lw_tbl[719]? = some (.code (z_y 84) (z_by 84) (z_mx 84) (z_rt 84)) := rfl
set_option maxRecDepth 20000 in
theorem z_cd_85 : lw_tbl[728]? = some (.code (z_y 85) (z_by 85) (z_mx 85) (z_rt 85)) := rfl
set_option maxRecDepth 20000 in
theorem z_cd_86 : lw_tbl[732]? = some (.code (z_y 86) (z_by 86) (z_mx 86) (z_rt 86)) := rfl
set_option maxRecDepth 20000 in
theorem z_cd_87 : lw_tbl[740]? = some (.code (z_y 87) (z_by 87) (z_mx 87) (z_rt 87)) := rfl
set_option maxRecDepth 20000 in
theorem z_cd_88 : lw_tbl[744]? = some (.code (z_y 88) (z_by 88) (z_mx 88) (z_rt 88)) := rfl
set_option maxRecDepth 20000 in
theorem z_cd_89 : lw_tbl[755]? = some (.code (z_y 89) (z_by 89) (z_mx 89) (z_rt 89)) := rfl
set_option maxRecDepth 20000 in
theorem z_cd_90 : lw_tbl[778]? = some (.code (z_y 90) (z_by 90) (z_mx 90) (z_rt 90)) := rfl
set_option maxRecDepth 20000 in
theorem z_cd_91 : lw_tbl[789]? = some (.code (z_y 91) (z_by 91) (z_mx 91) (z_rt 91)) := rfl
set_option maxRecDepth 20000 in
theorem z_cd_92 : lw_tbl[806]? = some (.code (z_y 92) (z_by 92) (z_mx 92) (z_rt 92)) := rfl
set_option maxRecDepth 20000 in
theorem z_cd_93 : lw_tbl[814]? = some (.code (z_y 93) (z_by 93) (z_mx 93) (z_rt 93)) := rfl
set_option maxRecDepth 20000 in
theorem z_cd_94 : lw_tbl[818]? = some (.code (z_y 94) (z_by 94) (z_mx 94) (z_rt 94)) := rfl
set_option maxRecDepth 20000 in
theorem z_cd_95 : lw_tbl[822]? = some (.code (z_y 95) (z_by 95) (z_mx 95) (z_rt 95)) := rfl
set_option maxRecDepth 20000 in
theorem z_cd_96 : lw_tbl[830]? = some (.code (z_y 96) (z_by 96) (z_mx 96) (z_rt 96)) := rfl
set_option maxRecDepth 20000 in
theorem z_cd_97 : lw_tbl[399]? = some (.code (z_y 97) (z_by 97) (z_mx 97) (z_rt 97)) := rfl
set_option maxRecDepth 20000 in
theorem z_cd_98 : lw_tbl[372]? = some (.code (z_y 98) (z_by 98) (z_mx 98) (z_rt 98)) := rfl
set_option maxRecDepth 20000 in
theorem z_cd_99 : lw_tbl[671]? = some (.code (z_y 99) (z_by 99) (z_mx 99) (z_rt 99)) := rfl
set_option maxRecDepth 20000 in
theorem z_cd_100 : lw_tbl[748]? = some (.code (z_y 100) (z_by 100) (z_mx 100) (z_rt 100)) := rfl
set_option maxRecDepth 20000 in
theorem z_cd_101 : lw_tbl[723]? = some (.code (z_y 101) (z_by 101) (z_mx 101) (z_rt 101)) := rfl
set_option maxRecDepth 20000 in
theorem z_cd_102 : lw_tbl[810]? = some (.code (z_y 102) (z_by 102) (z_mx 102) (z_rt 102)) := rfl
set_option maxRecDepth 20000 in
theorem z_cd_103 : lw_tbl[792]? = some (.code (z_y 103) (z_by 103) (z_mx 103) (z_rt 103)) := rfl
set_option maxRecDepth 20000 in
theorem z_cd_104 : lw_tbl[483]? = some (.code (z_y 104) (z_by 104) (z_mx 104) (z_rt 104)) := rfl
set_option maxRecDepth 20000 in
theorem z_cd_105 : lw_tbl[525]? = some (.code (z_y 105) (z_by 105) (z_mx 105) (z_rt 105)) := rfl
set_option maxRecDepth 20000 in
theorem z_cd_106 : lw_tbl[703]? = some (.code (z_y 106) (z_by 106) (z_mx 106) (z_rt 106)) := rfl
set_option maxRecDepth 20000 in
theorem z_cd_107 : lw_tbl[942]? = some (.code (z_y 107) (z_by 107) (z_mx 107) (z_rt 107)) := rfl
set_option maxRecDepth 20000 in
theorem z_cd_108 : lw_tbl[967]? = some (.code (z_y 108) (z_by 108) (z_mx 108) (z_rt 108)) := rfl
set_option maxRecDepth 20000 in
theorem z_cd_109 : lw_tbl[980]? = some (.code (z_y 109) (z_by 109) (z_mx 109) (z_rt 109)) := rfl
set_option maxRecDepth 20000 in
theorem z_cd_110 : lw_tbl[1080]? = some (.code (z_y 110) (z_by 110) (z_mx 110) (z_rt 110)) := rfl
set_option maxRecDepth 20000 in
theorem z_cd_111 : lw_tbl[1106]? = some (.code (z_y 111) (z_by 111) (z_mx 111) (z_rt 111)) := rfl
set_option maxRecDepth 20000 in
theorem z_cd_112 : lw_tbl[1073]? = some (.code (z_y 112) (z_by 112) (z_mx 112) (z_rt 112)) := rfl
set_option maxRecDepth 20000 in
theorem z_cd_113 : lw_tbl[946]? = some (.code (z_y 113) (z_by 113) (z_mx 113) (z_rt 113)) := rfl
set_option maxRecDepth 20000 in
theorem z_cd_114 : lw_tbl[954]? = some (.code (z_y 114) (z_by 114) (z_mx 114) (z_rt 114)) := rfl
set_option maxRecDepth 20000 in
theorem z_cd_115 : lw_tbl[937]? = some (.code (z_y 115) (z_by 115) (z_mx 115) (z_rt 115)) := rfl
set_option maxRecDepth 20000 in
theorem z_cd_116 : lw_tbl[950]? = some (.code (z_y 116) (z_by 116) (z_mx 116) (z_rt 116)) := rfl
set_option maxRecDepth 20000 in
theorem z_cd_117 : lw_tbl[958]? = some (.code (z_y 117) (z_by 117) (z_mx 117) (z_rt 117)) := rfl
set_option maxRecDepth 20000 in
theorem z_cd_118 : lw_tbl[972]? = some (.code (z_y 118) (z_by 118) (z_mx 118) (z_rt 118)) := rfl
set_option maxRecDepth 20000 in
theorem z_cd_119 : lw_tbl[963]? = some (.code (z_y 119) (z_by 119) (z_mx 119) (z_rt 119)) := rfl
set_option maxRecDepth 20000 in
theorem z_cd_120 : lw_tbl[976]? = some (.code (z_y 120) (z_by 120) (z_mx 120) (z_rt 120)) := rfl
set_option maxRecDepth 20000 in
theorem z_cd_121 : lw_tbl[1008]? = some (.code (z_y 121) (z_by 121) (z_mx 121) (z_rt 121)) := rfl
set_option maxRecDepth 20000 in
theorem z_cd_122 : lw_tbl[984]? = some (.code (z_y 122) (z_by 122) (z_mx 122) (z_rt 122)) := rfl
set_option maxRecDepth 20000 in
theorem z_cd_123 : lw_tbl[992]? = some (.code (z_y 123) (z_by 123) (z_mx 123) (z_rt 123)) := rfl
set_option maxRecDepth 20000 in
theorem z_cd_124 : lw_tbl[988]? = some (.code (z_y 124) (z_by 124) (z_mx 124) (z_rt 124)) := rfl
set_option maxRecDepth 20000 in
theorem z_cd_125 : lw_tbl[1000]? = some (.code (z_y 125) (z_by 125) (z_mx 125) (z_rt 125)) := rfl
set_option maxRecDepth 20000 in
theorem z_cd_126 : lw_tbl[996]? = some (.code (z_y 126) (z_by 126) (z_mx 126) (z_rt 126)) := rfl
set_option maxRecDepth 20000 in
theorem z_cd_127 : lw_tbl[1004]? = some (.code (z_y 127) (z_by 127) (z_mx 127) (z_rt 127)) := rfl
set_option maxRecDepth 20000 in
theorem z_cd_128 : lw_tbl[1015]? = some (.code (z_y 128) (z_by 128) (z_mx 128) (z_rt 128)) := rfl
set_option maxRecDepth 20000 in
theorem z_cd_129 : lw_tbl[1012]? = some (.code (z_y 129) (z_by 129) (z_mx 129) (z_rt 129)) := rfl
set_option maxRecDepth 20000 in
theorem z_cd_130 : lw_tbl[1020]? = some (.code (z_y 130) (z_by 130) (z_mx 130) (z_rt 130)) := rfl
set_option maxRecDepth 20000 in
theorem z_cd_131 : lw_tbl[1029]? = some (.code (z_y 131) (z_by 131) (z_mx 131) (z_rt 131)) := rfl
set_option maxRecDepth 20000 in
theorem z_cd_132 : lw_tbl[1025]? = some (.code (z_y 132) (z_by 132) (z_mx 132) (z_rt 132)) := rfl
set_option maxRecDepth 20000 in
theorem z_cd_133 : lw_tbl[1033]? = some (.code (z_y 133) (z_by 133) (z_mx 133) (z_rt 133)) := rfl
set_option maxRecDepth 20000 in
theorem z_cd_134 : lw_tbl[1037]? = some (.code (z_y 134) (z_by 134) (z_mx 134) (z_rt 134)) := rfl
set_option maxRecDepth 20000 in
theorem z_cd_135 : lw_tbl[1044]? = some (.code (z_y 135) (z_by 135) (z_mx 135) (z_rt 135)) := rfl
set_option maxRecDepth 20000 in
theorem z_cd_136 : lw_tbl[1041]? = some (.code (z_y 136) (z_by 136) (z_mx 136) (z_rt 136)) := rfl
set_option maxRecDepth 20000 in
theorem z_cd_137 : lw_tbl[1052]? = some (.code (z_y 137) (z_by 137) (z_mx 137) (z_rt 137)) := rfl
set_option maxRecDepth 20000 in
theorem z_cd_138 : lw_tbl[1048]? = some (.code (z_y 138) (z_by 138) (z_mx 138) (z_rt 138)) := rfl
set_option maxRecDepth 20000 in
theorem z_cd_139 : lw_tbl[1056]? = some (.code (z_y 139) (z_by 139) (z_mx 139) (z_rt 139)) := rfl
set_option maxRecDepth 20000 in
theorem z_cd_140 : lw_tbl[1060]? = some (.code (z_y 140) (z_by 140) (z_mx 140) (z_rt 140)) := rfl
set_option maxRecDepth 20000 in
theorem z_cd_141 : lw_tbl[1087]? = some (.code (z_y 141) (z_by 141) (z_mx 141) (z_rt 141)) := rfl
set_option maxRecDepth 20000 in
theorem z_cd_142 : lw_tbl[1091]? = some (.code (z_y 142) (z_by 142) (z_mx 142) (z_rt 142)) := rfl
set_option maxRecDepth 20000 in
theorem z_cd_143 : lw_tbl[1095]? = some (.code (z_y 143) (z_by 143) (z_mx 143) (z_rt 143)) := rfl
set_option maxRecDepth 20000 in
theorem z_cd_144 : lw_tbl[1084]? = some (.code (z_y 144) (z_by 144) (z_mx 144) (z_rt 144)) := rfl
set_option maxRecDepth 20000 in
theorem z_cd_145 : lw_tbl[1065]? = some (.code (z_y 145) (z_by 145) (z_mx 145) (z_rt 145)) := rfl
set_option maxRecDepth 20000 in
theorem z_cd_146 : lw_tbl[1099]? = some (.code (z_y 146) (z_by 146) (z_mx 146) (z_rt 146)) := rfl
set_option maxRecDepth 20000 in
theorem z_cd_147 : lw_tbl[1112]? = some (.code (z_y 147) (z_by 147) (z_mx 147) (z_rt 147)) := rfl
set_option maxRecDepth 20000 in
theorem z_cd_148 : lw_tbl[1125]? = some (.code (z_y 148) (z_by 148) (z_mx 148) (z_rt 148)) := rfl
set_option maxRecDepth 20000 in
theorem z_cd_149 : lw_tbl[1121]? = some (.code (z_y 149) (z_by 149) (z_mx 149) (z_rt 149)) := rfl
set_option maxRecDepth 20000 in
theorem z_cd_150 : lw_tbl[1116]? = some (.code (z_y 150) (z_by 150) (z_mx 150) (z_rt 150)) := rfl
set_option maxRecDepth 20000 in
theorem z_cd_151 : lw_tbl[1077]? = some (.code (z_y 151) (z_by 151) (z_mx 151) (z_rt 151)) := rfl
set_option maxRecDepth 20000 in
theorem z_cd_152 : lw_tbl[1103]? = some (.code (z_y 152) (z_by 152) (z_mx 152) (z_rt 152)) := rfl
set_option maxRecDepth 20000 in
theorem z_cd_153 : lw_tbl[1133]? = some (.code (z_y 153) (z_by 153) (z_mx 153) (z_rt 153)) := rfl
set_option maxRecDepth 20000 in
theorem z_cd_154 : lw_tbl[1129]? = some (.code (z_y 154) (z_by 154) (z_mx 154) (z_rt 154)) := rfl
set_option maxRecDepth 20000 in
theorem z_cd_155 : lw_tbl[1137]? = some (.code (z_y 155) (z_by 155) (z_mx 155) (z_rt 155)) := rfl
set_option maxRecDepth 20000 in
theorem z_cd_156 : lw_tbl[1141]? = some (.code (z_y 156) (z_by 156) (z_mx 156) (z_rt 156)) := rfl
set_option maxRecDepth 20000 in
theorem z_cd_157 : lw_tbl[1069]? = some (.code (z_y 157) (z_by 157) (z_mx 157) (z_rt 157)) := rfl
set_option maxRecDepth 20000 in
theorem z_cd_158 : lw_tbl[1145]? = some (.code (z_y 158) (z_by 158) (z_mx 158) (z_rt 158)) := rfl
set_option maxRecDepth 20000 in
theorem z_cd_159 : lw_tbl[1153]? = some (.code (z_y 159) (z_by 159) (z_mx 159) (z_rt 159)) := rfl
set_option maxRecDepth 20000 in
theorem z_cd_160 : lw_tbl[1149]? = some (.code (z_y 160) (z_by 160) (z_mx 160) (z_rt 160)) := rfl
set_option maxRecDepth 20000 in
theorem z_cd_161 : lw_tbl[1161]? = some (.code (z_y 161) (z_by 161) (z_mx 161) (z_rt 161)) := rfl
set_option maxRecDepth 20000 in
theorem z_cd_162 : lw_tbl[1157]? = some (.code (z_y 162) (z_by 162) (z_mx 162) (z_rt 162)) := rfl
set_option maxRecDepth 20000 in
theorem z_cd_163 : lw_tbl[1169]? = some (.code (z_y 163) (z_by 163) (z_mx 163) (z_rt 163)) := rfl
set_option maxRecDepth 20000 in
theorem z_cd_164 : lw_tbl[1165]? = some (.code (z_y 164) (z_by 164) (z_mx 164) (z_rt 164)) := rfl
set_option maxRecDepth 20000 in
theorem z_cd_165 : lw_tbl[1173]? = some (.code (z_y 165) (z_by 165) (z_mx 165) (z_rt 165)) := rfl
set_option maxRecDepth 20000 in
theorem z_cd_166 : lw_tbl[1177]? = some (.code (z_y 166) (z_by 166) (z_mx 166) (z_rt 166)) := rfl
set_option maxRecDepth 20000 in
theorem z_cd_167 : lw_tbl[1189]? = some (.code (z_y 167) (z_by 167) (z_mx 167) (z_rt 167)) := rfl
set_option maxRecDepth 20000 in
theorem z_cd_168 : lw_tbl[1185]? = some (.code (z_y 168) (z_by 168) (z_mx 168) (z_rt 168)) := rfl
set_option maxRecDepth 20000 in
theorem z_cd_169 : lw_tbl[1181]? = some (.code (z_y 169) (z_by 169) (z_mx 169) (z_rt 169)) := rfl
set_option maxRecDepth 20000 in
theorem z_cd_170 : lw_tbl[1201]? = some (.code (z_y 170) (z_by 170) (z_mx 170) (z_rt 170)) := rfl
set_option maxRecDepth 20000 in
theorem z_cd_171 : lw_tbl[1197]? = some (.code (z_y 171) (z_by 171) (z_mx 171) (z_rt 171)) := rfl
set_option maxRecDepth 20000 in
theorem z_cd_172 : lw_tbl[1209]? = some (.code (z_y 172) (z_by 172) (z_mx 172) (z_rt 172)) := rfl
set_option maxRecDepth 20000 in
theorem z_cd_173 : lw_tbl[1193]? = some (.code (z_y 173) (z_by 173) (z_mx 173) (z_rt 173)) := rfl
set_option maxRecDepth 20000 in
theorem z_cd_174 : lw_tbl[1205]? = some (.code (z_y 174) (z_by 174) (z_mx 174) (z_rt 174)) := rfl
set_option maxRecDepth 20000 in
theorem z_cd_175 : lw_tbl[1216]? = some (.code (z_y 175) (z_by 175) (z_mx 175) (z_rt 175)) := rfl
set_option maxRecDepth 20000 in
theorem z_cd_176 : lw_tbl[1213]? = some (.code (z_y 176) (z_by 176) (z_mx 176) (z_rt 176)) := rfl
set_option maxRecDepth 20000 in
theorem z_cd_177 : lw_tbl[1225]? = some (.code (z_y 177) (z_by 177) (z_mx 177) (z_rt 177)) := rfl
set_option maxRecDepth 20000 in
theorem z_cd_178 : lw_tbl[1221]? = some (.code (z_y 178) (z_by 178) (z_mx 178) (z_rt 178)) := rfl
set_option maxRecDepth 20000 in
theorem z_cd_179 : lw_tbl[1229]? = some (.code (z_y 179) (z_by 179) (z_mx 179) (z_rt 179)) := rfl
set_option maxRecDepth 20000 in
theorem z_cd_180 : lw_tbl[1233]? = some (.code (z_y 180) (z_by 180) (z_mx 180) (z_rt 180)) := rfl
set_option maxRecDepth 20000 in
theorem z_cd_181 : lw_tbl[1237]? = some (.code (z_y 181) (z_by 181) (z_mx 181) (z_rt 181)) := rfl
set_option maxRecDepth 20000 in
theorem z_cd_182 : lw_tbl[1241]? = some (.code (z_y 182) (z_by 182) (z_mx 182) (z_rt 182)) := rfl
set_option maxRecDepth 20000 in
theorem z_cd_183 : lw_tbl[782]? = some (.code (z_y 183) (z_by 183) (z_mx 183) (z_rt 183)) := rfl
set_option maxRecDepth 20000 in
theorem z_cd_184 : lw_tbl[463]? = some (.code (z_y 184) (z_by 184) (z_mx 184) (z_rt 184)) := rfl
set_option maxRecDepth 20000 in
theorem z_cd_185 : lw_tbl[610]? = some (.code (z_y 185) (z_by 185) (z_mx 185) (z_rt 185)) := rfl
set_option maxRecDepth 20000 in
theorem z_cd_186 : lw_tbl[751]? = some (.code (z_y 186) (z_by 186) (z_mx 186) (z_rt 186)) := rfl
set_option maxRecDepth 20000 in
theorem z_cd_187 : lw_tbl[445]? = some (.code (z_y 187) (z_by 187) (z_mx 187) (z_rt 187)) := rfl
set_option maxRecDepth 20000 in
theorem z_cd_188 : lw_tbl[386]? = some (.code (z_y 188) (z_by 188) (z_mx 188) (z_rt 188)) := rfl
theorem z_cq_0 : ∀ M, M < 0 → ∃ i : Nat, lw_tbl[i]? = some (Cond.code (z_y M) (z_by M) (z_mx M) (z_rt M)) := lt_0
theorem z_cq_1 : ∀ M, M < 1 → ∃ i : Nat, lw_tbl[i]? = some (Cond.code (z_y M) (z_by M) (z_mx M) (z_rt M)) := lt_s z_cq_0 ⟨_, z_cd_0⟩
theorem z_cq_2 : ∀ M, M < 2 → ∃ i : Nat, lw_tbl[i]? = some (Cond.code (z_y M) (z_by M) (z_mx M) (z_rt M)) := lt_s z_cq_1 ⟨_, z_cd_1⟩
theorem z_cq_3 : ∀ M, M < 3 → ∃ i : Nat, lw_tbl[i]? = some (Cond.code (z_y M) (z_by M) (z_mx M) (z_rt M)) := lt_s z_cq_2 ⟨_, z_cd_2⟩
theorem z_cq_4 : ∀ M, M < 4 → ∃ i : Nat, lw_tbl[i]? = some (Cond.code (z_y M) (z_by M) (z_mx M) (z_rt M)) := lt_s z_cq_3 ⟨_, z_cd_3⟩
theorem z_cq_5 : ∀ M, M < 5 → ∃ i : Nat, lw_tbl[i]? = some (Cond.code (z_y M) (z_by M) (z_mx M) (z_rt M)) := lt_s z_cq_4 ⟨_, z_cd_4⟩
theorem z_cq_6 : ∀ M, M < 6 → ∃ i : Nat, lw_tbl[i]? = some (Cond.code (z_y M) (z_by M) (z_mx M) (z_rt M)) := lt_s z_cq_5 ⟨_, z_cd_5⟩
theorem z_cq_7 : ∀ M, M < 7 → ∃ i : Nat, lw_tbl[i]? = some (Cond.code (z_y M) (z_by M) (z_mx M) (z_rt M)) := lt_s z_cq_6 ⟨_, z_cd_6⟩
theorem z_cq_8 : ∀ M, M < 8 → ∃ i : Nat, lw_tbl[i]? = some (Cond.code (z_y M) (z_by M) (z_mx M) (z_rt M)) := lt_s z_cq_7 ⟨_, z_cd_7⟩
theorem z_cq_9 : ∀ M, M < 9 → ∃ i : Nat, lw_tbl[i]? = some (Cond.code (z_y M) (z_by M) (z_mx M) (z_rt M)) := lt_s z_cq_8 ⟨_, z_cd_8⟩
theorem z_cq_10 : ∀ M, M < 10 → ∃ i : Nat, lw_tbl[i]? = some (Cond.code (z_y M) (z_by M) (z_mx M) (z_rt M)) := lt_s z_cq_9 ⟨_, z_cd_9⟩
theorem z_cq_11 : ∀ M, M < 11 → ∃ i : Nat, lw_tbl[i]? = some (Cond.code (z_y M) (z_by M) (z_mx M) (z_rt M)) := lt_s z_cq_10 ⟨_, z_cd_10⟩
theorem z_cq_12 : ∀ M, M < 12 → ∃ i : Nat, lw_tbl[i]? = some (Cond.code (z_y M) (z_by M) (z_mx M) (z_rt M)) := lt_s z_cq_11 ⟨_, z_cd_11⟩
theorem z_cq_13 : ∀ M, M < 13 → ∃ i : Nat, lw_tbl[i]? = some (Cond.code (z_y M) (z_by M) (z_mx M) (z_rt M)) := lt_s z_cq_12 ⟨_, z_cd_12⟩
theorem z_cq_14 : ∀ M, M < 14 → ∃ i : Nat, lw_tbl[i]? = some (Cond.code (z_y M) (z_by M) (z_mx M) (z_rt M)) := lt_s z_cq_13 ⟨_, z_cd_13⟩
theorem z_cq_15 : ∀ M, M < 15 → ∃ i : Nat, lw_tbl[i]? = some (Cond.code (z_y M) (z_by M) (z_mx M) (z_rt M)) := lt_s z_cq_14 ⟨_, z_cd_14⟩
theorem z_cq_16 : ∀ M, M < 16 → ∃ i : Nat, lw_tbl[i]? = some (Cond.code (z_y M) (z_by M) (z_mx M) (z_rt M)) := lt_s z_cq_15 ⟨_, z_cd_15⟩
theorem z_cq_17 : ∀ M, M < 17 → ∃ i : Nat, lw_tbl[i]? = some (Cond.code (z_y M) (z_by M) (z_mx M) (z_rt M)) := lt_s z_cq_16 ⟨_, z_cd_16⟩
theorem z_cq_18 : ∀ M, M < 18 → ∃ i : Nat, lw_tbl[i]? = some (Cond.code (z_y M) (z_by M) (z_mx M) (z_rt M)) := lt_s z_cq_17 ⟨_, z_cd_17⟩
theorem z_cq_19 : ∀ M, M < 19 → ∃ i : Nat, lw_tbl[i]? = some (Cond.code (z_y M) (z_by M) (z_mx M) (z_rt M)) := lt_s z_cq_18 ⟨_, z_cd_18⟩
theorem z_cq_20 : ∀ M, M < 20 → ∃ i : Nat, lw_tbl[i]? = some (Cond.code (z_y M) (z_by M) (z_mx M) (z_rt M)) := lt_s z_cq_19 ⟨_, z_cd_19⟩
theorem z_cq_21 : ∀ M, M < 21 → ∃ i : Nat, lw_tbl[i]? = some (Cond.code (z_y M) (z_by M) (z_mx M) (z_rt M)) := lt_s z_cq_20 ⟨_, z_cd_20⟩
theorem z_cq_22 : ∀ M, M < 22 → ∃ i : Nat, lw_tbl[i]? = some (Cond.code (z_y M) (z_by M) (z_mx M) (z_rt M)) := lt_s z_cq_21 ⟨_, z_cd_21⟩
theorem z_cq_23 : ∀ M, M < 23 → ∃ i : Nat, lw_tbl[i]? = some (Cond.code (z_y M) (z_by M) (z_mx M) (z_rt M)) := lt_s z_cq_22 ⟨_, z_cd_22⟩
theorem z_cq_24 : ∀ M, M < 24 → ∃ i : Nat, lw_tbl[i]? = some (Cond.code (z_y M) (z_by M) (z_mx M) (z_rt M)) := lt_s z_cq_23 ⟨_, z_cd_23⟩
theorem z_cq_25 : ∀ M, M < 25 → ∃ i : Nat, lw_tbl[i]? = some (Cond.code (z_y M) (z_by M) (z_mx M) (z_rt M)) := lt_s z_cq_24 ⟨_, z_cd_24⟩
theorem z_cq_26 : ∀ M, M < 26 → ∃ i : Nat, lw_tbl[i]? = some (Cond.code (z_y M) (z_by M) (z_mx M) (z_rt M)) := lt_s z_cq_25 ⟨_, z_cd_25⟩
theorem z_cq_27 : ∀ M, M < 27 → ∃ i : Nat, lw_tbl[i]? = some (Cond.code (z_y M) (z_by M) (z_mx M) (z_rt M)) := lt_s z_cq_26 ⟨_, z_cd_26⟩
theorem z_cq_28 : ∀ M, M < 28 → ∃ i : Nat, lw_tbl[i]? = some (Cond.code (z_y M) (z_by M) (z_mx M) (z_rt M)) := lt_s z_cq_27 ⟨_, z_cd_27⟩
theorem z_cq_29 : ∀ M, M < 29 → ∃ i : Nat, lw_tbl[i]? = some (Cond.code (z_y M) (z_by M) (z_mx M) (z_rt M)) := lt_s z_cq_28 ⟨_, z_cd_28⟩
theorem z_cq_30 : ∀ M, M < 30 → ∃ i : Nat, lw_tbl[i]? = some (Cond.code (z_y M) (z_by M) (z_mx M) (z_rt M)) := lt_s z_cq_29 ⟨_, z_cd_29⟩
theorem z_cq_31 : ∀ M, M < 31 → ∃ i : Nat, lw_tbl[i]? = some (Cond.code (z_y M) (z_by M) (z_mx M) (z_rt M)) := lt_s z_cq_30 ⟨_, z_cd_30⟩
theorem z_cq_32 : ∀ M, M < 32 → ∃ i : Nat, lw_tbl[i]? = some (Cond.code (z_y M) (z_by M) (z_mx M) (z_rt M)) := lt_s z_cq_31 ⟨_, z_cd_31⟩
theorem z_cq_33 : ∀ M, M < 33 → ∃ i : Nat, lw_tbl[i]? = some (Cond.code (z_y M) (z_by M) (z_mx M) (z_rt M)) := lt_s z_cq_32 ⟨_, z_cd_32⟩
theorem z_cq_34 : ∀ M, M < 34 → ∃ i : Nat, lw_tbl[i]? = some (Cond.code (z_y M) (z_by M) (z_mx M) (z_rt M)) := lt_s z_cq_33 ⟨_, z_cd_33⟩
theorem z_cq_35 : ∀ M, M < 35 → ∃ i : Nat, lw_tbl[i]? = some (Cond.code (z_y M) (z_by M) (z_mx M) (z_rt M)) := lt_s z_cq_34 ⟨_, z_cd_34⟩
theorem z_cq_36 : ∀ M, M < 36 → ∃ i : Nat, lw_tbl[i]? = some (Cond.code (z_y M) (z_by M) (z_mx M) (z_rt M)) := lt_s z_cq_35 ⟨_, z_cd_35⟩
theorem z_cq_37 : ∀ M, M < 37 → ∃ i : Nat, lw_tbl[i]? = some (Cond.code (z_y M) (z_by M) (z_mx M) (z_rt M)) := lt_s z_cq_36 ⟨_, z_cd_36⟩
theorem z_cq_38 : ∀ M, M < 38 → ∃ i : Nat, lw_tbl[i]? = some (Cond.code (z_y M) (z_by M) (z_mx M) (z_rt M)) := lt_s z_cq_37 ⟨_, z_cd_37⟩
theorem z_cq_39 : ∀ M, M < 39 → ∃ i : Nat, lw_tbl[i]? = some (Cond.code (z_y M) (z_by M) (z_mx M) (z_rt M)) := lt_s z_cq_38 ⟨_, z_cd_38⟩
theorem z_cq_40 : ∀ M, M < 40 → ∃ i : Nat, lw_tbl[i]? = some (Cond.code (z_y M) (z_by M) (z_mx M) (z_rt M)) := lt_s z_cq_39 ⟨_, z_cd_39⟩
theorem z_cq_41 : ∀ M, M < 41 → ∃ i : Nat, lw_tbl[i]? = some (Cond.code (z_y M) (z_by M) (z_mx M) (z_rt M)) := lt_s z_cq_40 ⟨_, z_cd_40⟩
theorem z_cq_42 : ∀ M, M < 42 → ∃ i : Nat, lw_tbl[i]? = some (Cond.code (z_y M) (z_by M) (z_mx M) (z_rt M)) := lt_s z_cq_41 ⟨_, z_cd_41⟩
theorem z_cq_43 : ∀ M, M < 43 → ∃ i : Nat, lw_tbl[i]? = some (Cond.code (z_y M) (z_by M) (z_mx M) (z_rt M)) := lt_s z_cq_42 ⟨_, z_cd_42⟩
theorem z_cq_44 : ∀ M, M < 44 → ∃ i : Nat, lw_tbl[i]? = some (Cond.code (z_y M) (z_by M) (z_mx M) (z_rt M)) := lt_s z_cq_43 ⟨_, z_cd_43⟩
theorem z_cq_45 : ∀ M, M < 45 → ∃ i : Nat, lw_tbl[i]? = some (Cond.code (z_y M) (z_by M) (z_mx M) (z_rt M)) := lt_s z_cq_44 ⟨_, z_cd_44⟩
theorem z_cq_46 : ∀ M, M < 46 → ∃ i : Nat, lw_tbl[i]? = some (Cond.code (z_y M) (z_by M) (z_mx M) (z_rt M)) := lt_s z_cq_45 ⟨_, z_cd_45⟩
theorem z_cq_47 : ∀ M, M < 47 → ∃ i : Nat, lw_tbl[i]? = some (Cond.code (z_y M) (z_by M) (z_mx M) (z_rt M)) := lt_s z_cq_46 ⟨_, z_cd_46⟩
theorem z_cq_48 : ∀ M, M < 48 → ∃ i : Nat, lw_tbl[i]? = some (Cond.code (z_y M) (z_by M) (z_mx M) (z_rt M)) := lt_s z_cq_47 ⟨_, z_cd_47⟩
theorem z_cq_49 : ∀ M, M < 49 → ∃ i : Nat, lw_tbl[i]? = some (Cond.code (z_y M) (z_by M) (z_mx M) (z_rt M)) := lt_s z_cq_48 ⟨_, z_cd_48⟩
theorem z_cq_50 : ∀ M, M < 50 → ∃ i : Nat, lw_tbl[i]? = some (Cond.code (z_y M) (z_by M) (z_mx M) (z_rt M)) := lt_s z_cq_49 ⟨_, z_cd_49⟩
theorem z_cq_51 : ∀ M, M < 51 → ∃ i : Nat, lw_tbl[i]? = some (Cond.code (z_y M) (z_by M) (z_mx M) (z_rt M)) := lt_s z_cq_50 ⟨_, z_cd_50⟩
theorem z_cq_52 : ∀ M, M < 52 → ∃ i : Nat, lw_tbl[i]? = some (Cond.code (z_y M) (z_by M) (z_mx M) (z_rt M)) := lt_s z_cq_51 ⟨_, z_cd_51⟩
theorem z_cq_53 : ∀ M, M < 53 → ∃ i : Nat, lw_tbl[i]? = some (Cond.code (z_y M) (z_by M) (z_mx M) (z_rt M)) := lt_s z_cq_52 ⟨_, z_cd_52⟩
theorem z_cq_54 : ∀ M, M < 54 → ∃ i : Nat, lw_tbl[i]? = some (Cond.code (z_y M) (z_by M) (z_mx M) (z_rt M)) := lt_s z_cq_53 ⟨_, z_cd_53⟩
theorem z_cq_55 : ∀ M, M < 55 → ∃ i : Nat, lw_tbl[i]? = some (Cond.code (z_y M) (z_by M) (z_mx M) (z_rt M)) := lt_s z_cq_54 ⟨_, z_cd_54⟩
theorem z_cq_56 : ∀ M, M < 56 → ∃ i : Nat, lw_tbl[i]? = some (Cond.code (z_y M) (z_by M) (z_mx M) (z_rt M)) := lt_s z_cq_55 ⟨_, z_cd_55⟩
theorem z_cq_57 : ∀ M, M < 57 → ∃ i : Nat, lw_tbl[i]? = some (Cond.code (z_y M) (z_by M) (z_mx M) (z_rt M)) := lt_s z_cq_56 ⟨_, z_cd_56⟩
theorem z_cq_58 : ∀ M, M < 58 → ∃ i : Nat, lw_tbl[i]? = some (Cond.code (z_y M) (z_by M) (z_mx M) (z_rt M)) := lt_s z_cq_57 ⟨_, z_cd_57⟩
theorem z_cq_59 : ∀ M, M < 59 → ∃ i : Nat, lw_tbl[i]? = some (Cond.code (z_y M) (z_by M) (z_mx M) (z_rt M)) := lt_s z_cq_58 ⟨_, z_cd_58⟩
theorem z_cq_60 : ∀ M, M < 60 → ∃ i : Nat, lw_tbl[i]? = some (Cond.code (z_y M) (z_by M) (z_mx M) (z_rt M)) := lt_s z_cq_59 ⟨_, z_cd_59⟩
theorem z_cq_61 : ∀ M, M < 61 → ∃ i : Nat, lw_tbl[i]? = some (Cond.code (z_y M) (z_by M) (z_mx M) (z_rt M)) := lt_s z_cq_60 ⟨_, z_cd_60⟩
theorem z_cq_62 : ∀ M, M < 62 → ∃ i : Nat, lw_tbl[i]? = some (Cond.code (z_y M) (z_by M) (z_mx M) (z_rt M)) := lt_s z_cq_61 ⟨_, z_cd_61⟩
theorem z_cq_63 : ∀ M, M < 63 → ∃ i : Nat, lw_tbl[i]? = some (Cond.code (z_y M) (z_by M) (z_mx M) (z_rt M)) := lt_s z_cq_62 ⟨_, z_cd_62⟩
theorem z_cq_64 : ∀ M, M < 64 → ∃ i : Nat, lw_tbl[i]? = some (Cond.code (z_y M) (z_by M) (z_mx M) (z_rt M)) := lt_s z_cq_63 ⟨_, z_cd_63⟩
theorem z_cq_65 : ∀ M, M < 65 → ∃ i : Nat, lw_tbl[i]? = some (Cond.code (z_y M) (z_by M) (z_mx M) (z_rt M)) := lt_s z_cq_64 ⟨_, z_cd_64⟩
theorem z_cq_66 : ∀ M, M < 66 → ∃ i : Nat, lw_tbl[i]? = some (Cond.code (z_y M) (z_by M) (z_mx M) (z_rt M)) := lt_s z_cq_65 ⟨_, z_cd_65⟩
theorem z_cq_67 : ∀ M, M < 67 → ∃ i : Nat, lw_tbl[i]? = some (Cond.code (z_y M) (z_by M) (z_mx M) (z_rt M)) := lt_s z_cq_66 ⟨_, z_cd_66⟩
theorem z_cq_68 : ∀ M, M < 68 → ∃ i : Nat, lw_tbl[i]? = some (Cond.code (z_y M) (z_by M) (z_mx M) (z_rt M)) := lt_s z_cq_67 ⟨_, z_cd_67⟩
theorem z_cq_69 : ∀ M, M < 69 → ∃ i : Nat, lw_tbl[i]? = some (Cond.code (z_y M) (z_by M) (z_mx M) (z_rt M)) := lt_s z_cq_68 ⟨_, z_cd_68⟩
theorem z_cq_70 : ∀ M, M < 70 → ∃ i : Nat, lw_tbl[i]? = some (Cond.code (z_y M) (z_by M) (z_mx M) (z_rt M)) := lt_s z_cq_69 ⟨_, z_cd_69⟩
theorem z_cq_71 : ∀ M, M < 71 → ∃ i : Nat, lw_tbl[i]? = some (Cond.code (z_y M) (z_by M) (z_mx M) (z_rt M)) := lt_s z_cq_70 ⟨_, z_cd_70⟩
theorem z_cq_72 : ∀ M, M < 72 → ∃ i : Nat, lw_tbl[i]? = some (Cond.code (z_y M) (z_by M) (z_mx M) (z_rt M)) := lt_s z_cq_71 ⟨_, z_cd_71⟩
theorem z_cq_73 : ∀ M, M < 73 → ∃ i : Nat, lw_tbl[i]? = some (Cond.code (z_y M) (z_by M) (z_mx M) (z_rt M)) := lt_s z_cq_72 ⟨_, z_cd_72⟩
theorem z_cq_74 : ∀ M, M < 74 → ∃ i : Nat, lw_tbl[i]? = some (Cond.code (z_y M) (z_by M) (z_mx M) (z_rt M)) := lt_s z_cq_73 ⟨_, z_cd_73⟩
theorem z_cq_75 : ∀ M, M < 75 → ∃ i : Nat, lw_tbl[i]? = some (Cond.code (z_y M) (z_by M) (z_mx M) (z_rt M)) := lt_s z_cq_74 ⟨_, z_cd_74⟩
theorem z_cq_76 : ∀ M, M < 76 → ∃ i : Nat, lw_tbl[i]? = some (Cond.code (z_y M) (z_by M) (z_mx M) (z_rt M)) := lt_s z_cq_75 ⟨_, z_cd_75⟩
theorem z_cq_77 : ∀ M, M < 77 → ∃ i : Nat, lw_tbl[i]? = some (Cond.code (z_y M) (z_by M) (z_mx M) (z_rt M)) := lt_s z_cq_76 ⟨_, z_cd_76⟩
theorem z_cq_78 : ∀ M, M < 78 → ∃ i : Nat, lw_tbl[i]? = some (Cond.code (z_y M) (z_by M) (z_mx M) (z_rt M)) := lt_s z_cq_77 ⟨_, z_cd_77⟩
theorem z_cq_79 : ∀ M, M < 79 → ∃ i : Nat, lw_tbl[i]? = some (Cond.code (z_y M) (z_by M) (z_mx M) (z_rt M)) := lt_s z_cq_78 ⟨_, z_cd_78⟩
theorem z_cq_80 : ∀ M, M < 80 → ∃ i : Nat, lw_tbl[i]? = some (Cond.code (z_y M) (z_by M) (z_mx M) (z_rt M)) := lt_s z_cq_79 ⟨_, z_cd_79⟩
theorem z_cq_81 : ∀ M, M < 81 → ∃ i : Nat, lw_tbl[i]? = some (Cond.code (z_y M) (z_by M) (z_mx M) (z_rt M)) := lt_s z_cq_80 ⟨_, z_cd_80⟩
theorem z_cq_82 : ∀ M, M < 82 → ∃ i : Nat, lw_tbl[i]? = some (Cond.code (z_y M) (z_by M) (z_mx M) (z_rt M)) := lt_s z_cq_81 ⟨_, z_cd_81⟩
theorem z_cq_83 : ∀ M, M < 83 → ∃ i : Nat, lw_tbl[i]? = some (Cond.code (z_y M) (z_by M) (z_mx M) (z_rt M)) := lt_s z_cq_82 ⟨_, z_cd_82⟩
theorem z_cq_84 : ∀ M, M < 84 → ∃ i : Nat, lw_tbl[i]? = some (Cond.code (z_y M) (z_by M) (z_mx M) (z_rt M)) := lt_s z_cq_83 ⟨_, z_cd_83⟩
theorem z_cq_85 : ∀ M, M < 85 → ∃ i : Nat, lw_tbl[i]? = some (Cond.code (z_y M) (z_by M) (z_mx M) (z_rt M)) := lt_s z_cq_84 ⟨_, z_cd_84⟩
theorem z_cq_86 : ∀ M, M < 86 → ∃ i : Nat, lw_tbl[i]? = some (Cond.code (z_y M) (z_by M) (z_mx M) (z_rt M)) := lt_s z_cq_85 ⟨_, z_cd_85⟩
theorem z_cq_87 : ∀ M, M < 87 → ∃ i : Nat, lw_tbl[i]? = some (Cond.code (z_y M) (z_by M) (z_mx M) (z_rt M)) := lt_s z_cq_86 ⟨_, z_cd_86⟩
theorem z_cq_88 : ∀ M, M < 88 → ∃ i : Nat, lw_tbl[i]? = some (Cond.code (z_y M) (z_by M) (z_mx M) (z_rt M)) := lt_s z_cq_87 ⟨_, z_cd_87⟩
theorem z_cq_89 : ∀ M, M < 89 → ∃ i : Nat, lw_tbl[i]? = some (Cond.code (z_y M) (z_by M) (z_mx M) (z_rt M)) := lt_s z_cq_88 ⟨_, z_cd_88⟩
theorem z_cq_90 : ∀ M, M < 90 → ∃ i : Nat, lw_tbl[i]? = some (Cond.code (z_y M) (z_by M) (z_mx M) (z_rt M)) := lt_s z_cq_89 ⟨_, z_cd_89⟩
theorem z_cq_91 : ∀ M, M < 91 → ∃ i : Nat, lw_tbl[i]? = some (Cond.code (z_y M) (z_by M) (z_mx M) (z_rt M)) := lt_s z_cq_90 ⟨_, z_cd_90⟩
theorem z_cq_92 : ∀ M, M < 92 → ∃ i : Nat, lw_tbl[i]? = some (Cond.code (z_y M) (z_by M) (z_mx M) (z_rt M)) := lt_s z_cq_91 ⟨_, z_cd_91⟩
theorem z_cq_93 : ∀ M, M < 93 → ∃ i : Nat, lw_tbl[i]? = some (Cond.code (z_y M) (z_by M) (z_mx M) (z_rt M)) := lt_s z_cq_92 ⟨_, z_cd_92⟩
theorem z_cq_94 : ∀ M, M < 94 → ∃ i : Nat, lw_tbl[i]? = some (Cond.code (z_y M) (z_by M) (z_mx M) (z_rt M)) := lt_s z_cq_93 ⟨_, z_cd_93⟩
theorem z_cq_95 : ∀ M, M < 95 → ∃ i : Nat, lw_tbl[i]? = some (Cond.code (z_y M) (z_by M) (z_mx M) (z_rt M)) := lt_s z_cq_94 ⟨_, z_cd_94⟩
theorem z_cq_96 : ∀ M, M < 96 → ∃ i : Nat, lw_tbl[i]? = some (Cond.code (z_y M) (z_by M) (z_mx M) (z_rt M)) := lt_s z_cq_95 ⟨_, z_cd_95⟩
theorem z_cq_97 : ∀ M, M < 97 → ∃ i : Nat, lw_tbl[i]? = some (Cond.code (z_y M) (z_by M) (z_mx M) (z_rt M)) := lt_s z_cq_96 ⟨_, z_cd_96⟩
theorem z_cq_98 : ∀ M, M < 98 → ∃ i : Nat, lw_tbl[i]? = some (Cond.code (z_y M) (z_by M) (z_mx M) (z_rt M)) := lt_s z_cq_97 ⟨_, z_cd_97⟩
theorem z_cq_99 : ∀ M, M < 99 → ∃ i : Nat, lw_tbl[i]? = some (Cond.code (z_y M) (z_by M) (z_mx M) (z_rt M)) := lt_s z_cq_98 ⟨_, z_cd_98⟩
theorem z_cq_100 : ∀ M, M < 100 → ∃ i : Nat, lw_tbl[i]? = some (Cond.code (z_y M) (z_by M) (z_mx M) (z_rt M)) := lt_s z_cq_99 ⟨_, z_cd_99⟩
theorem z_cq_101 : ∀ M, M < 101 → ∃ i : Nat, lw_tbl[i]? = some (Cond.code (z_y M) (z_by M) (z_mx M) (z_rt M)) := lt_s z_cq_100 ⟨_, z_cd_100⟩
theorem z_cq_102 : ∀ M, M < 102 → ∃ i : Nat, lw_tbl[i]? = some (Cond.code (z_y M) (z_by M) (z_mx M) (z_rt M)) := lt_s z_cq_101 ⟨_, z_cd_101⟩
theorem z_cq_103 : ∀ M, M < 103 → ∃ i : Nat, lw_tbl[i]? = some (Cond.code (z_y M) (z_by M) (z_mx M) (z_rt M)) := lt_s z_cq_102 ⟨_, z_cd_102⟩
theorem z_cq_104 : ∀ M, M < 104 → ∃ i : Nat, lw_tbl[i]? = some (Cond.code (z_y M) (z_by M) (z_mx M) (z_rt M)) := lt_s z_cq_103 ⟨_, z_cd_103⟩
theorem z_cq_105 : ∀ M, M < 105 → ∃ i : Nat, lw_tbl[i]? = some (Cond.code (z_y M) (z_by M) (z_mx M) (z_rt M)) := lt_s z_cq_104 ⟨_, z_cd_104⟩
theorem z_cq_106 : ∀ M, M < 106 → ∃ i : Nat, lw_tbl[i]? = some (Cond.code (z_y M) (z_by M) (z_mx M) (z_rt M)) := lt_s z_cq_105 ⟨_, z_cd_105⟩
theorem z_cq_107 : ∀ M, M < 107 → ∃ i : Nat, lw_tbl[i]? = some (Cond.code (z_y M) (z_by M) (z_mx M) (z_rt M)) := lt_s z_cq_106 ⟨_, z_cd_106⟩
theorem z_cq_108 : ∀ M, M < 108 → ∃ i : Nat, lw_tbl[i]? = some (Cond.code (z_y M) (z_by M) (z_mx M) (z_rt M)) := lt_s z_cq_107 ⟨_, z_cd_107⟩
theorem z_cq_109 : ∀ M, M < 109 → ∃ i : Nat, lw_tbl[i]? = some (Cond.code (z_y M) (z_by M) (z_mx M) (z_rt M)) := lt_s z_cq_108 ⟨_, z_cd_108⟩
theorem z_cq_110 : ∀ M, M < 110 → ∃ i : Nat, lw_tbl[i]? = some (Cond.code (z_y M) (z_by M) (z_mx M) (z_rt M)) := lt_s z_cq_109 ⟨_, z_cd_109⟩
theorem z_cq_111 : ∀ M, M < 111 → ∃ i : Nat, lw_tbl[i]? = some (Cond.code (z_y M) (z_by M) (z_mx M) (z_rt M)) := lt_s z_cq_110 ⟨_, z_cd_110⟩
theorem z_cq_112 : ∀ M, M < 112 → ∃ i : Nat, lw_tbl[i]? = some (Cond.code (z_y M) (z_by M) (z_mx M) (z_rt M)) := lt_s z_cq_111 ⟨_, z_cd_111⟩
theorem z_cq_113 : ∀ M, M < 113 → ∃ i : Nat, lw_tbl[i]? = some (Cond.code (z_y M) (z_by M) (z_mx M) (z_rt M)) := lt_s z_cq_112 ⟨_, z_cd_112⟩
theorem z_cq_114 : ∀ M, M < 114 → ∃ i : Nat, lw_tbl[i]? = some (Cond.code (z_y M) (z_by M) (z_mx M) (z_rt M)) := lt_s z_cq_113 ⟨_, z_cd_113⟩
theorem z_cq_115 : ∀ M, M < 115 → ∃ i : Nat, lw_tbl[i]? = some (Cond.code (z_y M) (z_by M) (z_mx M) (z_rt M)) := lt_s z_cq_114 ⟨_, z_cd_114⟩
theorem z_cq_116 : ∀ M, M < 116 → ∃ i : Nat, lw_tbl[i]? = some (Cond.code (z_y M) (z_by M) (z_mx M) (z_rt M)) := lt_s z_cq_115 ⟨_, z_cd_115⟩
theorem z_cq_117 : ∀ M, M < 117 → ∃ i : Nat, lw_tbl[i]? = some (Cond.code (z_y M) (z_by M) (z_mx M) (z_rt M)) := lt_s z_cq_116 ⟨_, z_cd_116⟩
theorem z_cq_118 : ∀ M, M < 118 → ∃ i : Nat, lw_tbl[i]? = some (Cond.code (z_y M) (z_by M) (z_mx M) (z_rt M)) := lt_s z_cq_117 ⟨_, z_cd_117⟩
theorem z_cq_119 : ∀ M, M < 119 → ∃ i : Nat, lw_tbl[i]? = some (Cond.code (z_y M) (z_by M) (z_mx M) (z_rt M)) := lt_s z_cq_118 ⟨_, z_cd_118⟩
theorem z_cq_120 : ∀ M, M < 120 → ∃ i : Nat, lw_tbl[i]? = some (Cond.code (z_y M) (z_by M) (z_mx M) (z_rt M)) := lt_s z_cq_119 ⟨_, z_cd_119⟩
theorem z_cq_121 : ∀ M, M < 121 → ∃ i : Nat, lw_tbl[i]? = some (Cond.code (z_y M) (z_by M) (z_mx M) (z_rt M)) := lt_s z_cq_120 ⟨_, z_cd_120⟩
theorem z_cq_122 : ∀ M, M < 122 → ∃ i : Nat, lw_tbl[i]? = some (Cond.code (z_y M) (z_by M) (z_mx M) (z_rt M)) := lt_s z_cq_121 ⟨_, z_cd_121⟩
theorem z_cq_123 : ∀ M, M < 123 → ∃ i : Nat, lw_tbl[i]? = some (Cond.code (z_y M) (z_by M) (z_mx M) (z_rt M)) := lt_s z_cq_122 ⟨_, z_cd_122⟩
theorem z_cq_124 : ∀ M, M < 124 → ∃ i : Nat, lw_tbl[i]? = some (Cond.code (z_y M) (z_by M) (z_mx M) (z_rt M)) := lt_s z_cq_123 ⟨_, z_cd_123⟩
theorem z_cq_125 : ∀ M, M < 125 → ∃ i : Nat, lw_tbl[i]? = some (Cond.code (z_y M) (z_by M) (z_mx M) (z_rt M)) := lt_s z_cq_124 ⟨_, z_cd_124⟩
theorem z_cq_126 : ∀ M, M < 126 → ∃ i : Nat, lw_tbl[i]? = some (Cond.code (z_y M) (z_by M) (z_mx M) (z_rt M)) := lt_s z_cq_125 ⟨_, z_cd_125⟩
theorem z_cq_127 : ∀ M, M < 127 → ∃ i : Nat, lw_tbl[i]? = some (Cond.code (z_y M) (z_by M) (z_mx M) (z_rt M)) := lt_s z_cq_126 ⟨_, z_cd_126⟩
theorem z_cq_128 : ∀ M, M < 128 → ∃ i : Nat, lw_tbl[i]? = some (Cond.code (z_y M) (z_by M) (z_mx M) (z_rt M)) := lt_s z_cq_127 ⟨_, z_cd_127⟩
theorem z_cq_129 : ∀ M, M < 129 → ∃ i : Nat, lw_tbl[i]? = some (Cond.code (z_y M) (z_by M) (z_mx M) (z_rt M)) := lt_s z_cq_128 ⟨_, z_cd_128⟩
theorem z_cq_130 : ∀ M, M < 130 → ∃ i : Nat, lw_tbl[i]? = some (Cond.code (z_y M) (z_by M) (z_mx M) (z_rt M)) := lt_s z_cq_129 ⟨_, z_cd_129⟩
theorem z_cq_131 : ∀ M, M < 131 → ∃ i : Nat, lw_tbl[i]? = some (Cond.code (z_y M) (z_by M) (z_mx M) (z_rt M)) := lt_s z_cq_130 ⟨_, z_cd_130⟩
theorem z_cq_132 : ∀ M, M < 132 → ∃ i : Nat, lw_tbl[i]? = some (Cond.code (z_y M) (z_by M) (z_mx M) (z_rt M)) := lt_s z_cq_131 ⟨_, z_cd_131⟩
theorem z_cq_133 : ∀ M, M < 133 → ∃ i : Nat, lw_tbl[i]? = some (Cond.code (z_y M) (z_by M) (z_mx M) (z_rt M)) := lt_s z_cq_132 ⟨_, z_cd_132⟩
theorem z_cq_134 : ∀ M, M < 134 → ∃ i : Nat, lw_tbl[i]? = some (Cond.code (z_y M) (z_by M) (z_mx M) (z_rt M)) := lt_s z_cq_133 ⟨_, z_cd_133⟩
theorem z_cq_135 : ∀ M, M < 135 → ∃ i : Nat, lw_tbl[i]? = some (Cond.code (z_y M) (z_by M) (z_mx M) (z_rt M)) := lt_s z_cq_134 ⟨_, z_cd_134⟩
theorem z_cq_136 : ∀ M, M < 136 → ∃ i : Nat, lw_tbl[i]? = some (Cond.code (z_y M) (z_by M) (z_mx M) (z_rt M)) := lt_s z_cq_135 ⟨_, z_cd_135⟩
theorem z_cq_137 : ∀ M, M < 137 → ∃ i : Nat, lw_tbl[i]? = some (Cond.code (z_y M) (z_by M) (z_mx M) (z_rt M)) := lt_s z_cq_136 ⟨_, z_cd_136⟩
theorem z_cq_138 : ∀ M, M < 138 → ∃ i : Nat, lw_tbl[i]? = some (Cond.code (z_y M) (z_by M) (z_mx M) (z_rt M)) := lt_s z_cq_137 ⟨_, z_cd_137⟩
theorem z_cq_139 : ∀ M, M < 139 → ∃ i : Nat, lw_tbl[i]? = some (Cond.code (z_y M) (z_by M) (z_mx M) (z_rt M)) := lt_s z_cq_138 ⟨_, z_cd_138⟩
theorem z_cq_140 : ∀ M, M < 140 → ∃ i : Nat, lw_tbl[i]? = some (Cond.code (z_y M) (z_by M) (z_mx M) (z_rt M)) := lt_s z_cq_139 ⟨_, z_cd_139⟩
theorem z_cq_141 : ∀ M, M < 141 → ∃ i : Nat, lw_tbl[i]? = some (Cond.code (z_y M) (z_by M) (z_mx M) (z_rt M)) := lt_s z_cq_140 ⟨_, z_cd_140⟩
theorem z_cq_142 : ∀ M, M < 142 → ∃ i : Nat, lw_tbl[i]? = some (Cond.code (z_y M) (z_by M) (z_mx M) (z_rt M)) := lt_s z_cq_141 ⟨_, z_cd_141⟩
theorem z_cq_143 : ∀ M, M < 143 → ∃ i : Nat, lw_tbl[i]? = some (Cond.code (z_y M) (z_by M) (z_mx M) (z_rt M)) := lt_s z_cq_142 ⟨_, z_cd_142⟩
theorem z_cq_144 : ∀ M, M < 144 → ∃ i : Nat, lw_tbl[i]? = some (Cond.code (z_y M) (z_by M) (z_mx M) (z_rt M)) := lt_s z_cq_143 ⟨_, z_cd_143⟩
theorem z_cq_145 : ∀ M, M < 145 → ∃ i : Nat, lw_tbl[i]? = some (Cond.code (z_y M) (z_by M) (z_mx M) (z_rt M)) := lt_s z_cq_144 ⟨_, z_cd_144⟩
theorem z_cq_146 : ∀ M, M < 146 → ∃ i : Nat, lw_tbl[i]? = some (Cond.code (z_y M) (z_by M) (z_mx M) (z_rt M)) := lt_s z_cq_145 ⟨_, z_cd_145⟩
theorem z_cq_147 : ∀ M, M < 147 → ∃ i : Nat, lw_tbl[i]? = some (Cond.code (z_y M) (z_by M) (z_mx M) (z_rt M)) := lt_s z_cq_146 ⟨_, z_cd_146⟩
theorem z_cq_148 : ∀ M, M < 148 → ∃ i : Nat, lw_tbl[i]? = some (Cond.code (z_y M) (z_by M) (z_mx M) (z_rt M)) := lt_s z_cq_147 ⟨_, z_cd_147⟩
theorem z_cq_149 : ∀ M, M < 149 → ∃ i : Nat, lw_tbl[i]? = some (Cond.code (z_y M) (z_by M) (z_mx M) (z_rt M)) := lt_s z_cq_148 ⟨_, z_cd_148⟩
theorem z_cq_150 : ∀ M, M < 150 → ∃ i : Nat, lw_tbl[i]? = some (Cond.code (z_y M) (z_by M) (z_mx M) (z_rt M)) := lt_s z_cq_149 ⟨_, z_cd_149⟩
theorem z_cq_151 : ∀ M, M < 151 → ∃ i : Nat, lw_tbl[i]? = some (Cond.code (z_y M) (z_by M) (z_mx M) (z_rt M)) := lt_s z_cq_150 ⟨_, z_cd_150⟩
theorem z_cq_152 : ∀ M, M < 152 → ∃ i : Nat, lw_tbl[i]? = some (Cond.code (z_y M) (z_by M) (z_mx M) (z_rt M)) := lt_s z_cq_151 ⟨_, z_cd_151⟩
theorem z_cq_153 : ∀ M, M < 153 → ∃ i : Nat, lw_tbl[i]? = some (Cond.code (z_y M) (z_by M) (z_mx M) (z_rt M)) := lt_s z_cq_152 ⟨_, z_cd_152⟩
theorem z_cq_154 : ∀ M, M < 154 → ∃ i : Nat, lw_tbl[i]? = some (Cond.code (z_y M) (z_by M) (z_mx M) (z_rt M)) := lt_s z_cq_153 ⟨_, z_cd_153⟩
theorem z_cq_155 : ∀ M, M < 155 → ∃ i : Nat, lw_tbl[i]? = some (Cond.code (z_y M) (z_by M) (z_mx M) (z_rt M)) := lt_s z_cq_154 ⟨_, z_cd_154⟩
theorem z_cq_156 : ∀ M, M < 156 → ∃ i : Nat, lw_tbl[i]? = some (Cond.code (z_y M) (z_by M) (z_mx M) (z_rt M)) := lt_s z_cq_155 ⟨_, z_cd_155⟩
theorem z_cq_157 : ∀ M, M < 157 → ∃ i : Nat, lw_tbl[i]? = some (Cond.code (z_y M) (z_by M) (z_mx M) (z_rt M)) := lt_s z_cq_156 ⟨_, z_cd_156⟩
theorem z_cq_158 : ∀ M, M < 158 → ∃ i : Nat, lw_tbl[i]? = some (Cond.code (z_y M) (z_by M) (z_mx M) (z_rt M)) := lt_s z_cq_157 ⟨_, z_cd_157⟩
theorem z_cq_159 : ∀ M, M < 159 → ∃ i : Nat, lw_tbl[i]? = some (Cond.code (z_y M) (z_by M) (z_mx M) (z_rt M)) := lt_s z_cq_158 ⟨_, z_cd_158⟩
theorem z_cq_160 : ∀ M, M < 160 → ∃ i : Nat, lw_tbl[i]? = some (Cond.code (z_y M) (z_by M) (z_mx M) (z_rt M)) := lt_s z_cq_159 ⟨_, z_cd_159⟩
theorem z_cq_161 : ∀ M, M < 161 → ∃ i : Nat, lw_tbl[i]? = some (Cond.code (z_y M) (z_by M) (z_mx M) (z_rt M)) := lt_s z_cq_160 ⟨_, z_cd_160⟩
theorem z_cq_162 : ∀ M, M < 162 → ∃ i : Nat, lw_tbl[i]? = some (Cond.code (z_y M) (z_by M) (z_mx M) (z_rt M)) := lt_s z_cq_161 ⟨_, z_cd_161⟩
theorem z_cq_163 : ∀ M, M < 163 → ∃ i : Nat, lw_tbl[i]? = some (Cond.code (z_y M) (z_by M) (z_mx M) (z_rt M)) := lt_s z_cq_162 ⟨_, z_cd_162⟩
theorem z_cq_164 : ∀ M, M < 164 → ∃ i : Nat, lw_tbl[i]? = some (Cond.code (z_y M) (z_by M) (z_mx M) (z_rt M)) := lt_s z_cq_163 ⟨_, z_cd_163⟩
theorem z_cq_165 : ∀ M, M < 165 → ∃ i : Nat, lw_tbl[i]? = some (Cond.code (z_y M) (z_by M) (z_mx M) (z_rt M)) := lt_s z_cq_164 ⟨_, z_cd_164⟩
theorem z_cq_166 : ∀ M, M < 166 → ∃ i : Nat, lw_tbl[i]? = some (Cond.code (z_y M) (z_by M) (z_mx M) (z_rt M)) := lt_s z_cq_165 ⟨_, z_cd_165⟩
theorem z_cq_167 : ∀ M, M < 167 → ∃ i : Nat, lw_tbl[i]? = some (Cond.code (z_y M) (z_by M) (z_mx M) (z_rt M)) := lt_s z_cq_166 ⟨_, z_cd_166⟩
theorem z_cq_168 : ∀ M, M < 168 → ∃ i : Nat, lw_tbl[i]? = some (Cond.code (z_y M) (z_by M) (z_mx M) (z_rt M)) := lt_s z_cq_167 ⟨_, z_cd_167⟩
theorem z_cq_169 : ∀ M, M < 169 → ∃ i : Nat, lw_tbl[i]? = some (Cond.code (z_y M) (z_by M) (z_mx M) (z_rt M)) := lt_s z_cq_168 ⟨_, z_cd_168⟩
theorem z_cq_170 : ∀ M, M < 170 → ∃ i : Nat, lw_tbl[i]? = some (Cond.code (z_y M) (z_by M) (z_mx M) (z_rt M)) := lt_s z_cq_169 ⟨_, z_cd_169⟩
theorem z_cq_171 : ∀ M, M < 171 → ∃ i : Nat, lw_tbl[i]? = some (Cond.code (z_y M) (z_by M) (z_mx M) (z_rt M)) := lt_s z_cq_170 ⟨_, z_cd_170⟩
theorem z_cq_172 : ∀ M, M < 172 → ∃ i : Nat, lw_tbl[i]? = some (Cond.code (z_y M) (z_by M) (z_mx M) (z_rt M)) := lt_s z_cq_171 ⟨_, z_cd_171⟩
theorem z_cq_173 : ∀ M, M < 173 → ∃ i : Nat, lw_tbl[i]? = some (Cond.code (z_y M) (z_by M) (z_mx M) (z_rt M)) := lt_s z_cq_172 ⟨_, z_cd_172⟩
theorem z_cq_174 : ∀ M, M < 174 → ∃ i : Nat, lw_tbl[i]? = some (Cond.code (z_y M) (z_by M) (z_mx M) (z_rt M)) := lt_s z_cq_173 ⟨_, z_cd_173⟩
theorem z_cq_175 : ∀ M, M < 175 → ∃ i : Nat, lw_tbl[i]? = some (Cond.code (z_y M) (z_by M) (z_mx M) (z_rt M)) := lt_s z_cq_174 ⟨_, z_cd_174⟩
theorem z_cq_176 : ∀ M, M < 176 → ∃ i : Nat, lw_tbl[i]? = some (Cond.code (z_y M) (z_by M) (z_mx M) (z_rt M)) := lt_s z_cq_175 ⟨_, z_cd_175⟩
theorem z_cq_177 : ∀ M, M < 177 → ∃ i : Nat, lw_tbl[i]? = some (Cond.code (z_y M) (z_by M) (z_mx M) (z_rt M)) := lt_s z_cq_176 ⟨_, z_cd_176⟩
theorem z_cq_178 : ∀ M, M < 178 → ∃ i : Nat, lw_tbl[i]? = some (Cond.code (z_y M) (z_by M) (z_mx M) (z_rt M)) := lt_s z_cq_177 ⟨_, z_cd_177⟩
theorem z_cq_179 : ∀ M, M < 179 → ∃ i : Nat, lw_tbl[i]? = some (Cond.code (z_y M) (z_by M) (z_mx M) (z_rt M)) := lt_s z_cq_178 ⟨_, z_cd_178⟩
theorem z_cq_180 : ∀ M, M < 180 → ∃ i : Nat, lw_tbl[i]? = some (Cond.code (z_y M) (z_by M) (z_mx M) (z_rt M)) := lt_s z_cq_179 ⟨_, z_cd_179⟩
theorem z_cq_181 : ∀ M, M < 181 → ∃ i : Nat, lw_tbl[i]? = some (Cond.code (z_y M) (z_by M) (z_mx M) (z_rt M)) := lt_s z_cq_180 ⟨_, z_cd_180⟩
theorem z_cq_182 : ∀ M, M < 182 → ∃ i : Nat, lw_tbl[i]? = some (Cond.code (z_y M) (z_by M) (z_mx M) (z_rt M)) := lt_s z_cq_181 ⟨_, z_cd_181⟩
theorem z_cq_183 : ∀ M, M < 183 → ∃ i : Nat, lw_tbl[i]? = some (Cond.code (z_y M) (z_by M) (z_mx M) (z_rt M)) := lt_s z_cq_182 ⟨_, z_cd_182⟩
theorem z_cq_184 : ∀ M, M < 184 → ∃ i : Nat, lw_tbl[i]? = some (Cond.code (z_y M) (z_by M) (z_mx M) (z_rt M)) := lt_s z_cq_183 ⟨_, z_cd_183⟩
theorem z_cq_185 : ∀ M, M < 185 → ∃ i : Nat, lw_tbl[i]? = some (Cond.code (z_y M) (z_by M) (z_mx M) (z_rt M)) := lt_s z_cq_184 ⟨_, z_cd_184⟩
theorem z_cq_186 : ∀ M, M < 186 → ∃ i : Nat, lw_tbl[i]? = some (Cond.code (z_y M) (z_by M) (z_mx M) (z_rt M)) := lt_s z_cq_185 ⟨_, z_cd_185⟩
theorem z_cq_187 : ∀ M, M < 187 → ∃ i : Nat, lw_tbl[i]? = some (Cond.code (z_y M) (z_by M) (z_mx M) (z_rt M)) := lt_s z_cq_186 ⟨_, z_cd_186⟩
theorem z_cq_188 : ∀ M, M < 188 → ∃ i : Nat, lw_tbl[i]? = some (Cond.code (z_y M) (z_by M) (z_mx M) (z_rt M)) := lt_s z_cq_187 ⟨_, z_cd_187⟩
theorem z_cq_189 : ∀ M, M < 189 → ∃ i : Nat, lw_tbl[i]? = some (Cond.code (z_y M) (z_by M) (z_mx M) (z_rt M)) := lt_s z_cq_188 ⟨_, z_cd_188⟩
theorem z_pf_184 : Jvm.plainFor (z_y 184) = true := by decide +kernel
theorem z_pf_185 : Jvm.plainFor (z_y 185) = true := by decide +kernel
theorem z_pf_186 : Jvm.plainFor (z_y 186) = true := by decide +kernel
theorem z_pf_187 : Jvm.plainFor (z_y 187) = true := by decide +kernel
theorem z_pf_188 : Jvm.plainFor (z_y 188) = true := by decide +kernel
theorem z_plain_ok : ∀ M, M < 189 → Jvm.plainFor (z_y M) = true := by
  intro M h
  have h1 := z_plain_1 M h
  rw [Bool.or_eq_true] at h1
  rcases h1 with h1 | h1
  · exact plainFor_of_name h1
  · have h2 : ∀ M, M < 189 → ((z_y M).cls == "java/lang/Math") = true → M = 184 ∨ M = 185 ∨ M = 186 ∨ M = 187 ∨ M = 188 := by decide +kernel
    rcases h2 M h h1 with rfl | rfl | rfl | rfl | rfl
    · exact z_pf_184
    · exact z_pf_185
    · exact z_pf_186
    · exact z_pf_187
    · exact z_pf_188
