/-! THE METHODS' CODE WORDS. -/
theorem xcw_0 : xin (xaux 0).1 (.code (xyn 0) (xbt 0) (xmx 0) (xrt 0)) = true := by decide +kernel
theorem xcw_1 : xin (xaux 1).1 (.code (xyn 1) (xbt 1) (xmx 1) (xrt 1)) = true := by decide +kernel
theorem xcw_2 : xin (xaux 2).1 (.code (xyn 2) (xbt 2) (xmx 2) (xrt 2)) = true := by decide +kernel
theorem xcw_3 : xin (xaux 3).1 (.code (xyn 3) (xbt 3) (xmx 3) (xrt 3)) = true := by decide +kernel
theorem xcw_4 : xin (xaux 4).1 (.code (xyn 4) (xbt 4) (xmx 4) (xrt 4)) = true := by decide +kernel
theorem xcw_5 : xin (xaux 5).1 (.code (xyn 5) (xbt 5) (xmx 5) (xrt 5)) = true := by decide +kernel
theorem xcw_6 : xin (xaux 6).1 (.code (xyn 6) (xbt 6) (xmx 6) (xrt 6)) = true := by decide +kernel
theorem xcw_7 : xin (xaux 7).1 (.code (xyn 7) (xbt 7) (xmx 7) (xrt 7)) = true := by decide +kernel
theorem xcw_8 : xin (xaux 8).1 (.code (xyn 8) (xbt 8) (xmx 8) (xrt 8)) = true := by decide +kernel
theorem xcw_9 : xin (xaux 9).1 (.code (xyn 9) (xbt 9) (xmx 9) (xrt 9)) = true := by decide +kernel
theorem xcw_10 : xin (xaux 10).1 (.code (xyn 10) (xbt 10) (xmx 10) (xrt 10)) = true := by decide +kernel
theorem xcw_11 : xin (xaux 11).1 (.code (xyn 11) (xbt 11) (xmx 11) (xrt 11)) = true := by decide +kernel
theorem xcw_12 : xin (xaux 12).1 (.code (xyn 12) (xbt 12) (xmx 12) (xrt 12)) = true := by decide +kernel
theorem xcw_13 : xin (xaux 13).1 (.code (xyn 13) (xbt 13) (xmx 13) (xrt 13)) = true := by decide +kernel
theorem xcw_14 : xin (xaux 14).1 (.code (xyn 14) (xbt 14) (xmx 14) (xrt 14)) = true := by decide +kernel
theorem xcw_15 : xin (xaux 15).1 (.code (xyn 15) (xbt 15) (xmx 15) (xrt 15)) = true := by decide +kernel
theorem xcw_16 : xin (xaux 16).1 (.code (xyn 16) (xbt 16) (xmx 16) (xrt 16)) = true := by decide +kernel
theorem xcw_17 : xin (xaux 17).1 (.code (xyn 17) (xbt 17) (xmx 17) (xrt 17)) = true := by decide +kernel
theorem xcw_18 : xin (xaux 18).1 (.code (xyn 18) (xbt 18) (xmx 18) (xrt 18)) = true := by decide +kernel
theorem xcw_19 : xin (xaux 19).1 (.code (xyn 19) (xbt 19) (xmx 19) (xrt 19)) = true := by decide +kernel
theorem xcw_20 : xin (xaux 20).1 (.code (xyn 20) (xbt 20) (xmx 20) (xrt 20)) = true := by decide +kernel
theorem xcw_21 : xin (xaux 21).1 (.code (xyn 21) (xbt 21) (xmx 21) (xrt 21)) = true := by decide +kernel
theorem xcw_22 : xin (xaux 22).1 (.code (xyn 22) (xbt 22) (xmx 22) (xrt 22)) = true := by decide +kernel
theorem xcw_23 : xin (xaux 23).1 (.code (xyn 23) (xbt 23) (xmx 23) (xrt 23)) = true := by decide +kernel
theorem xcw_24 : xin (xaux 24).1 (.code (xyn 24) (xbt 24) (xmx 24) (xrt 24)) = true := by decide +kernel
theorem xcw_25 : xin (xaux 25).1 (.code (xyn 25) (xbt 25) (xmx 25) (xrt 25)) = true := by decide +kernel
theorem xcw_26 : xin (xaux 26).1 (.code (xyn 26) (xbt 26) (xmx 26) (xrt 26)) = true := by decide +kernel
theorem xcw_27 : xin (xaux 27).1 (.code (xyn 27) (xbt 27) (xmx 27) (xrt 27)) = true := by decide +kernel
theorem xcw_28 : xin (xaux 28).1 (.code (xyn 28) (xbt 28) (xmx 28) (xrt 28)) = true := by decide +kernel
theorem xcw_29 : xin (xaux 29).1 (.code (xyn 29) (xbt 29) (xmx 29) (xrt 29)) = true := by decide +kernel
theorem xcw_30 : xin (xaux 30).1 (.code (xyn 30) (xbt 30) (xmx 30) (xrt 30)) = true := by decide +kernel
theorem xcw_31 : xin (xaux 31).1 (.code (xyn 31) (xbt 31) (xmx 31) (xrt 31)) = true := by decide +kernel
theorem xcw_32 : xin (xaux 32).1 (.code (xyn 32) (xbt 32) (xmx 32) (xrt 32)) = true := by decide +kernel
theorem xcw_33 : xin (xaux 33).1 (.code (xyn 33) (xbt 33) (xmx 33) (xrt 33)) = true := by decide +kernel
theorem xcw_34 : xin (xaux 34).1 (.code (xyn 34) (xbt 34) (xmx 34) (xrt 34)) = true := by decide +kernel
theorem xcw_35 : xin (xaux 35).1 (.code (xyn 35) (xbt 35) (xmx 35) (xrt 35)) = true := by decide +kernel
theorem xcw_36 : xin (xaux 36).1 (.code (xyn 36) (xbt 36) (xmx 36) (xrt 36)) = true := by decide +kernel
theorem xcw_37 : xin (xaux 37).1 (.code (xyn 37) (xbt 37) (xmx 37) (xrt 37)) = true := by decide +kernel
theorem xcw_38 : xin (xaux 38).1 (.code (xyn 38) (xbt 38) (xmx 38) (xrt 38)) = true := by decide +kernel
theorem xcw_39 : xin (xaux 39).1 (.code (xyn 39) (xbt 39) (xmx 39) (xrt 39)) = true := by decide +kernel
theorem xcw_40 : xin (xaux 40).1 (.code (xyn 40) (xbt 40) (xmx 40) (xrt 40)) = true := by decide +kernel
theorem xcw_41 : xin (xaux 41).1 (.code (xyn 41) (xbt 41) (xmx 41) (xrt 41)) = true := by decide +kernel
theorem xcw_42 : xin (xaux 42).1 (.code (xyn 42) (xbt 42) (xmx 42) (xrt 42)) = true := by decide +kernel
theorem xcw_43 : xin (xaux 43).1 (.code (xyn 43) (xbt 43) (xmx 43) (xrt 43)) = true := by decide +kernel
theorem xcw_44 : xin (xaux 44).1 (.code (xyn 44) (xbt 44) (xmx 44) (xrt 44)) = true := by decide +kernel
theorem xcw_45 : xin (xaux 45).1 (.code (xyn 45) (xbt 45) (xmx 45) (xrt 45)) = true := by decide +kernel
theorem xcw_46 : xin (xaux 46).1 (.code (xyn 46) (xbt 46) (xmx 46) (xrt 46)) = true := by decide +kernel
theorem xcw_47 : xin (xaux 47).1 (.code (xyn 47) (xbt 47) (xmx 47) (xrt 47)) = true := by decide +kernel
theorem xcw_48 : xin (xaux 48).1 (.code (xyn 48) (xbt 48) (xmx 48) (xrt 48)) = true := by decide +kernel
theorem xcw_49 : xin (xaux 49).1 (.code (xyn 49) (xbt 49) (xmx 49) (xrt 49)) = true := by decide +kernel
theorem xcw_50 : xin (xaux 50).1 (.code (xyn 50) (xbt 50) (xmx 50) (xrt 50)) = true := by decide +kernel
theorem xcw_51 : xin (xaux 51).1 (.code (xyn 51) (xbt 51) (xmx 51) (xrt 51)) = true := by decide +kernel
theorem xcw_52 : xin (xaux 52).1 (.code (xyn 52) (xbt 52) (xmx 52) (xrt 52)) = true := by decide +kernel
theorem xcw_53 : xin (xaux 53).1 (.code (xyn 53) (xbt 53) (xmx 53) (xrt 53)) = true := by decide +kernel
theorem xcw_54 : xin (xaux 54).1 (.code (xyn 54) (xbt 54) (xmx 54) (xrt 54)) = true := by decide +kernel
theorem xcw_55 : xin (xaux 55).1 (.code (xyn 55) (xbt 55) (xmx 55) (xrt 55)) = true := by decide +kernel
theorem xcw_56 : xin (xaux 56).1 (.code (xyn 56) (xbt 56) (xmx 56) (xrt 56)) = true := by decide +kernel
theorem xcw_57 : xin (xaux 57).1 (.code (xyn 57) (xbt 57) (xmx 57) (xrt 57)) = true := by decide +kernel
theorem xcw_58 : xin (xaux 58).1 (.code (xyn 58) (xbt 58) (xmx 58) (xrt 58)) = true := by decide +kernel
theorem xcw_59 : xin (xaux 59).1 (.code (xyn 59) (xbt 59) (xmx 59) (xrt 59)) = true := by decide +kernel
theorem xcw_60 : xin (xaux 60).1 (.code (xyn 60) (xbt 60) (xmx 60) (xrt 60)) = true := by decide +kernel
theorem xcw_61 : xin (xaux 61).1 (.code (xyn 61) (xbt 61) (xmx 61) (xrt 61)) = true := by decide +kernel
theorem xcw_62 : xin (xaux 62).1 (.code (xyn 62) (xbt 62) (xmx 62) (xrt 62)) = true := by decide +kernel
theorem xcw_63 : xin (xaux 63).1 (.code (xyn 63) (xbt 63) (xmx 63) (xrt 63)) = true := by decide +kernel
theorem xcw_64 : xin (xaux 64).1 (.code (xyn 64) (xbt 64) (xmx 64) (xrt 64)) = true := by decide +kernel
theorem xcw_65 : xin (xaux 65).1 (.code (xyn 65) (xbt 65) (xmx 65) (xrt 65)) = true := by decide +kernel
theorem xcw_66 : xin (xaux 66).1 (.code (xyn 66) (xbt 66) (xmx 66) (xrt 66)) = true := by decide +kernel
theorem xcw_67 : xin (xaux 67).1 (.code (xyn 67) (xbt 67) (xmx 67) (xrt 67)) = true := by decide +kernel
theorem xcw_68 : xin (xaux 68).1 (.code (xyn 68) (xbt 68) (xmx 68) (xrt 68)) = true := by decide +kernel
theorem xcw_69 : xin (xaux 69).1 (.code (xyn 69) (xbt 69) (xmx 69) (xrt 69)) = true := by decide +kernel
theorem xcw_70 : xin (xaux 70).1 (.code (xyn 70) (xbt 70) (xmx 70) (xrt 70)) = true := by decide +kernel
theorem xcw_71 : xin (xaux 71).1 (.code (xyn 71) (xbt 71) (xmx 71) (xrt 71)) = true := by decide +kernel
theorem xcw_72 : xin (xaux 72).1 (.code (xyn 72) (xbt 72) (xmx 72) (xrt 72)) = true := by decide +kernel
theorem xcw_73 : xin (xaux 73).1 (.code (xyn 73) (xbt 73) (xmx 73) (xrt 73)) = true := by decide +kernel
theorem xcw_74 : xin (xaux 74).1 (.code (xyn 74) (xbt 74) (xmx 74) (xrt 74)) = true := by decide +kernel
theorem xcw_75 : xin (xaux 75).1 (.code (xyn 75) (xbt 75) (xmx 75) (xrt 75)) = true := by decide +kernel
theorem xcw_76 : xin (xaux 76).1 (.code (xyn 76) (xbt 76) (xmx 76) (xrt 76)) = true := by decide +kernel
theorem xcw_77 : xin (xaux 77).1 (.code (xyn 77) (xbt 77) (xmx 77) (xrt 77)) = true := by decide +kernel
theorem xcw_78 : xin (xaux 78).1 (.code (xyn 78) (xbt 78) (xmx 78) (xrt 78)) = true := by decide +kernel
theorem xcw_79 : xin (xaux 79).1 (.code (xyn 79) (xbt 79) (xmx 79) (xrt 79)) = true := by decide +kernel
theorem xcw_80 : xin (xaux 80).1 (.code (xyn 80) (xbt 80) (xmx 80) (xrt 80)) = true := by decide +kernel
theorem xcw_81 : xin (xaux 81).1 (.code (xyn 81) (xbt 81) (xmx 81) (xrt 81)) = true := by decide +kernel
theorem xcw_82 : xin (xaux 82).1 (.code (xyn 82) (xbt 82) (xmx 82) (xrt 82)) = true := by decide +kernel
theorem xcw_83 : xin (xaux 83).1 (.code (xyn 83) (xbt 83) (xmx 83) (xrt 83)) = true := by decide +kernel
theorem xcw_84 : xin (xaux 84).1 (.code (xyn 84) (xbt 84) (xmx 84) (xrt 84)) = true := by decide +kernel
theorem xcw_85 : xin (xaux 85).1 (.code (xyn 85) (xbt 85) (xmx 85) (xrt 85)) = true := by decide +kernel
theorem xcw_86 : xin (xaux 86).1 (.code (xyn 86) (xbt 86) (xmx 86) (xrt 86)) = true := by decide +kernel
theorem xcw_87 : xin (xaux 87).1 (.code (xyn 87) (xbt 87) (xmx 87) (xrt 87)) = true := by decide +kernel
theorem xcw_88 : xin (xaux 88).1 (.code (xyn 88) (xbt 88) (xmx 88) (xrt 88)) = true := by decide +kernel
theorem xcw_89 : xin (xaux 89).1 (.code (xyn 89) (xbt 89) (xmx 89) (xrt 89)) = true := by decide +kernel
theorem xcw_90 : xin (xaux 90).1 (.code (xyn 90) (xbt 90) (xmx 90) (xrt 90)) = true := by decide +kernel
theorem xcw_91 : xin (xaux 91).1 (.code (xyn 91) (xbt 91) (xmx 91) (xrt 91)) = true := by decide +kernel
theorem xcw_92 : xin (xaux 92).1 (.code (xyn 92) (xbt 92) (xmx 92) (xrt 92)) = true := by decide +kernel
theorem xcw_93 : xin (xaux 93).1 (.code (xyn 93) (xbt 93) (xmx 93) (xrt 93)) = true := by decide +kernel
theorem xcw_94 : xin (xaux 94).1 (.code (xyn 94) (xbt 94) (xmx 94) (xrt 94)) = true := by decide +kernel
theorem xcw_95 : xin (xaux 95).1 (.code (xyn 95) (xbt 95) (xmx 95) (xrt 95)) = true := by decide +kernel
theorem xcw_96 : xin (xaux 96).1 (.code (xyn 96) (xbt 96) (xmx 96) (xrt 96)) = true := by decide +kernel
theorem xcw_97 : xin (xaux 97).1 (.code (xyn 97) (xbt 97) (xmx 97) (xrt 97)) = true := by decide +kernel
theorem xcw_98 : xin (xaux 98).1 (.code (xyn 98) (xbt 98) (xmx 98) (xrt 98)) = true := by decide +kernel
theorem xcw_99 : xin (xaux 99).1 (.code (xyn 99) (xbt 99) (xmx 99) (xrt 99)) = true := by decide +kernel
theorem xcw_100 : xin (xaux 100).1 (.code (xyn 100) (xbt 100) (xmx 100) (xrt 100)) = true := by decide +kernel
theorem xcw_101 : xin (xaux 101).1 (.code (xyn 101) (xbt 101) (xmx 101) (xrt 101)) = true := by decide +kernel
theorem xcw_102 : xin (xaux 102).1 (.code (xyn 102) (xbt 102) (xmx 102) (xrt 102)) = true := by decide +kernel
theorem xcw_103 : xin (xaux 103).1 (.code (xyn 103) (xbt 103) (xmx 103) (xrt 103)) = true := by decide +kernel
theorem xcw_104 : xin (xaux 104).1 (.code (xyn 104) (xbt 104) (xmx 104) (xrt 104)) = true := by decide +kernel
theorem xcw_105 : xin (xaux 105).1 (.code (xyn 105) (xbt 105) (xmx 105) (xrt 105)) = true := by decide +kernel
theorem xcw_106 : xin (xaux 106).1 (.code (xyn 106) (xbt 106) (xmx 106) (xrt 106)) = true := by decide +kernel
theorem xcw_107 : xin (xaux 107).1 (.code (xyn 107) (xbt 107) (xmx 107) (xrt 107)) = true := by decide +kernel
theorem xcw_108 : xin (xaux 108).1 (.code (xyn 108) (xbt 108) (xmx 108) (xrt 108)) = true := by decide +kernel
theorem xcw_109 : xin (xaux 109).1 (.code (xyn 109) (xbt 109) (xmx 109) (xrt 109)) = true := by decide +kernel
theorem xcw_110 : xin (xaux 110).1 (.code (xyn 110) (xbt 110) (xmx 110) (xrt 110)) = true := by decide +kernel
theorem xcw_111 : xin (xaux 111).1 (.code (xyn 111) (xbt 111) (xmx 111) (xrt 111)) = true := by decide +kernel
theorem xcw_112 : xin (xaux 112).1 (.code (xyn 112) (xbt 112) (xmx 112) (xrt 112)) = true := by decide +kernel
theorem xcw_113 : xin (xaux 113).1 (.code (xyn 113) (xbt 113) (xmx 113) (xrt 113)) = true := by decide +kernel
theorem xcw_114 : xin (xaux 114).1 (.code (xyn 114) (xbt 114) (xmx 114) (xrt 114)) = true := by decide +kernel
theorem xcw_115 : xin (xaux 115).1 (.code (xyn 115) (xbt 115) (xmx 115) (xrt 115)) = true := by decide +kernel
theorem xcw_116 : xin (xaux 116).1 (.code (xyn 116) (xbt 116) (xmx 116) (xrt 116)) = true := by decide +kernel
theorem xcw_117 : xin (xaux 117).1 (.code (xyn 117) (xbt 117) (xmx 117) (xrt 117)) = true := by decide +kernel
theorem xcw_118 : xin (xaux 118).1 (.code (xyn 118) (xbt 118) (xmx 118) (xrt 118)) = true := by decide +kernel
theorem xcw_119 : xin (xaux 119).1 (.code (xyn 119) (xbt 119) (xmx 119) (xrt 119)) = true := by decide +kernel
theorem xcw_120 : xin (xaux 120).1 (.code (xyn 120) (xbt 120) (xmx 120) (xrt 120)) = true := by decide +kernel
theorem xcw_121 : xin (xaux 121).1 (.code (xyn 121) (xbt 121) (xmx 121) (xrt 121)) = true := by decide +kernel
theorem xcw_122 : xin (xaux 122).1 (.code (xyn 122) (xbt 122) (xmx 122) (xrt 122)) = true := by decide +kernel
theorem xcw_123 : xin (xaux 123).1 (.code (xyn 123) (xbt 123) (xmx 123) (xrt 123)) = true := by decide +kernel
theorem xcw_124 : xin (xaux 124).1 (.code (xyn 124) (xbt 124) (xmx 124) (xrt 124)) = true := by decide +kernel
theorem xcw_125 : xin (xaux 125).1 (.code (xyn 125) (xbt 125) (xmx 125) (xrt 125)) = true := by decide +kernel
theorem xcw_126 : xin (xaux 126).1 (.code (xyn 126) (xbt 126) (xmx 126) (xrt 126)) = true := by decide +kernel
theorem xcw_127 : xin (xaux 127).1 (.code (xyn 127) (xbt 127) (xmx 127) (xrt 127)) = true := by decide +kernel
theorem xcw_128 : xin (xaux 128).1 (.code (xyn 128) (xbt 128) (xmx 128) (xrt 128)) = true := by decide +kernel
theorem xcw_129 : xin (xaux 129).1 (.code (xyn 129) (xbt 129) (xmx 129) (xrt 129)) = true := by decide +kernel
theorem xcw_130 : xin (xaux 130).1 (.code (xyn 130) (xbt 130) (xmx 130) (xrt 130)) = true := by decide +kernel
theorem xcw_131 : xin (xaux 131).1 (.code (xyn 131) (xbt 131) (xmx 131) (xrt 131)) = true := by decide +kernel
theorem xcw_132 : xin (xaux 132).1 (.code (xyn 132) (xbt 132) (xmx 132) (xrt 132)) = true := by decide +kernel
theorem xcw_133 : xin (xaux 133).1 (.code (xyn 133) (xbt 133) (xmx 133) (xrt 133)) = true := by decide +kernel
theorem xcw_134 : xin (xaux 134).1 (.code (xyn 134) (xbt 134) (xmx 134) (xrt 134)) = true := by decide +kernel
theorem xcw_135 : xin (xaux 135).1 (.code (xyn 135) (xbt 135) (xmx 135) (xrt 135)) = true := by decide +kernel
theorem xcw_136 : xin (xaux 136).1 (.code (xyn 136) (xbt 136) (xmx 136) (xrt 136)) = true := by decide +kernel
theorem xcw_137 : xin (xaux 137).1 (.code (xyn 137) (xbt 137) (xmx 137) (xrt 137)) = true := by decide +kernel
theorem xcw_138 : xin (xaux 138).1 (.code (xyn 138) (xbt 138) (xmx 138) (xrt 138)) = true := by decide +kernel
theorem xcw_139 : xin (xaux 139).1 (.code (xyn 139) (xbt 139) (xmx 139) (xrt 139)) = true := by decide +kernel
theorem xcw_140 : xin (xaux 140).1 (.code (xyn 140) (xbt 140) (xmx 140) (xrt 140)) = true := by decide +kernel
theorem xcw_141 : xin (xaux 141).1 (.code (xyn 141) (xbt 141) (xmx 141) (xrt 141)) = true := by decide +kernel
theorem xcw_142 : xin (xaux 142).1 (.code (xyn 142) (xbt 142) (xmx 142) (xrt 142)) = true := by decide +kernel
theorem xcw_143 : xin (xaux 143).1 (.code (xyn 143) (xbt 143) (xmx 143) (xrt 143)) = true := by decide +kernel
theorem xcw_144 : xin (xaux 144).1 (.code (xyn 144) (xbt 144) (xmx 144) (xrt 144)) = true := by decide +kernel
theorem xcw_145 : xin (xaux 145).1 (.code (xyn 145) (xbt 145) (xmx 145) (xrt 145)) = true := by decide +kernel
theorem xcw_146 : xin (xaux 146).1 (.code (xyn 146) (xbt 146) (xmx 146) (xrt 146)) = true := by decide +kernel
theorem xcw_147 : xin (xaux 147).1 (.code (xyn 147) (xbt 147) (xmx 147) (xrt 147)) = true := by decide +kernel
theorem xcw_148 : xin (xaux 148).1 (.code (xyn 148) (xbt 148) (xmx 148) (xrt 148)) = true := by decide +kernel
theorem xcw_149 : xin (xaux 149).1 (.code (xyn 149) (xbt 149) (xmx 149) (xrt 149)) = true := by decide +kernel
theorem xcw_150 : xin (xaux 150).1 (.code (xyn 150) (xbt 150) (xmx 150) (xrt 150)) = true := by decide +kernel
theorem xcw_151 : xin (xaux 151).1 (.code (xyn 151) (xbt 151) (xmx 151) (xrt 151)) = true := by decide +kernel
theorem xcw_152 : xin (xaux 152).1 (.code (xyn 152) (xbt 152) (xmx 152) (xrt 152)) = true := by decide +kernel
theorem xcw_153 : xin (xaux 153).1 (.code (xyn 153) (xbt 153) (xmx 153) (xrt 153)) = true := by decide +kernel
theorem xcw_154 : xin (xaux 154).1 (.code (xyn 154) (xbt 154) (xmx 154) (xrt 154)) = true := by decide +kernel
theorem xcw_155 : xin (xaux 155).1 (.code (xyn 155) (xbt 155) (xmx 155) (xrt 155)) = true := by decide +kernel
theorem xcw_156 : xin (xaux 156).1 (.code (xyn 156) (xbt 156) (xmx 156) (xrt 156)) = true := by decide +kernel
theorem xcw_157 : xin (xaux 157).1 (.code (xyn 157) (xbt 157) (xmx 157) (xrt 157)) = true := by decide +kernel
theorem xcw_158 : xin (xaux 158).1 (.code (xyn 158) (xbt 158) (xmx 158) (xrt 158)) = true := by decide +kernel
theorem xcw_159 : xin (xaux 159).1 (.code (xyn 159) (xbt 159) (xmx 159) (xrt 159)) = true := by decide +kernel
theorem xcw_160 : xin (xaux 160).1 (.code (xyn 160) (xbt 160) (xmx 160) (xrt 160)) = true := by decide +kernel
theorem xcw_161 : xin (xaux 161).1 (.code (xyn 161) (xbt 161) (xmx 161) (xrt 161)) = true := by decide +kernel
theorem xcw_162 : xin (xaux 162).1 (.code (xyn 162) (xbt 162) (xmx 162) (xrt 162)) = true := by decide +kernel
theorem xcw_163 : xin (xaux 163).1 (.code (xyn 163) (xbt 163) (xmx 163) (xrt 163)) = true := by decide +kernel
theorem xcw_164 : xin (xaux 164).1 (.code (xyn 164) (xbt 164) (xmx 164) (xrt 164)) = true := by decide +kernel
theorem xcw_165 : xin (xaux 165).1 (.code (xyn 165) (xbt 165) (xmx 165) (xrt 165)) = true := by decide +kernel
theorem xcw_166 : xin (xaux 166).1 (.code (xyn 166) (xbt 166) (xmx 166) (xrt 166)) = true := by decide +kernel
theorem xcw_167 : xin (xaux 167).1 (.code (xyn 167) (xbt 167) (xmx 167) (xrt 167)) = true := by decide +kernel
theorem xcw_168 : xin (xaux 168).1 (.code (xyn 168) (xbt 168) (xmx 168) (xrt 168)) = true := by decide +kernel
theorem xcw_169 : xin (xaux 169).1 (.code (xyn 169) (xbt 169) (xmx 169) (xrt 169)) = true := by decide +kernel
theorem xcw_170 : xin (xaux 170).1 (.code (xyn 170) (xbt 170) (xmx 170) (xrt 170)) = true := by decide +kernel
theorem xcw_171 : xin (xaux 171).1 (.code (xyn 171) (xbt 171) (xmx 171) (xrt 171)) = true := by decide +kernel
theorem xcw_172 : xin (xaux 172).1 (.code (xyn 172) (xbt 172) (xmx 172) (xrt 172)) = true := by decide +kernel
theorem xcw_173 : xin (xaux 173).1 (.code (xyn 173) (xbt 173) (xmx 173) (xrt 173)) = true := by decide +kernel
theorem xcw_174 : xin (xaux 174).1 (.code (xyn 174) (xbt 174) (xmx 174) (xrt 174)) = true := by decide +kernel
theorem xcw_175 : xin (xaux 175).1 (.code (xyn 175) (xbt 175) (xmx 175) (xrt 175)) = true := by decide +kernel
theorem xcw_176 : xin (xaux 176).1 (.code (xyn 176) (xbt 176) (xmx 176) (xrt 176)) = true := by decide +kernel
theorem xcw_177 : xin (xaux 177).1 (.code (xyn 177) (xbt 177) (xmx 177) (xrt 177)) = true := by decide +kernel
theorem xcw_178 : xin (xaux 178).1 (.code (xyn 178) (xbt 178) (xmx 178) (xrt 178)) = true := by decide +kernel
theorem xcw_179 : xin (xaux 179).1 (.code (xyn 179) (xbt 179) (xmx 179) (xrt 179)) = true := by decide +kernel
theorem xcw_180 : xin (xaux 180).1 (.code (xyn 180) (xbt 180) (xmx 180) (xrt 180)) = true := by decide +kernel
theorem xcw_181 : xin (xaux 181).1 (.code (xyn 181) (xbt 181) (xmx 181) (xrt 181)) = true := by decide +kernel
theorem xcw_182 : xin (xaux 182).1 (.code (xyn 182) (xbt 182) (xmx 182) (xrt 182)) = true := by decide +kernel
theorem xcw_183 : xin (xaux 183).1 (.code (xyn 183) (xbt 183) (xmx 183) (xrt 183)) = true := by decide +kernel
theorem xcw_184 : xin (xaux 184).1 (.code (xyn 184) (xbt 184) (xmx 184) (xrt 184)) = true := by decide +kernel
theorem xcw_185 : xin (xaux 185).1 (.code (xyn 185) (xbt 185) (xmx 185) (xrt 185)) = true := by decide +kernel
theorem xcw_186 : xin (xaux 186).1 (.code (xyn 186) (xbt 186) (xmx 186) (xrt 186)) = true := by decide +kernel
theorem xcw_187 : xin (xaux 187).1 (.code (xyn 187) (xbt 187) (xmx 187) (xrt 187)) = true := by decide +kernel
theorem xcw_188 : xin (xaux 188).1 (.code (xyn 188) (xbt 188) (xmx 188) (xrt 188)) = true := by decide +kernel
theorem xcw_189 : xin (xaux 189).1 (.code (xyn 189) (xbt 189) (xmx 189) (xrt 189)) = true := by decide +kernel
theorem xcw_190 : xin (xaux 190).1 (.code (xyn 190) (xbt 190) (xmx 190) (xrt 190)) = true := by decide +kernel
theorem xcw_191 : xin (xaux 191).1 (.code (xyn 191) (xbt 191) (xmx 191) (xrt 191)) = true := by decide +kernel
theorem xcw_192 : xin (xaux 192).1 (.code (xyn 192) (xbt 192) (xmx 192) (xrt 192)) = true := by decide +kernel
theorem xcw_193 : xin (xaux 193).1 (.code (xyn 193) (xbt 193) (xmx 193) (xrt 193)) = true := by decide +kernel
theorem xcw_194 : xin (xaux 194).1 (.code (xyn 194) (xbt 194) (xmx 194) (xrt 194)) = true := by decide +kernel
theorem xcw_195 : xin (xaux 195).1 (.code (xyn 195) (xbt 195) (xmx 195) (xrt 195)) = true := by decide +kernel
theorem xcw_196 : xin (xaux 196).1 (.code (xyn 196) (xbt 196) (xmx 196) (xrt 196)) = true := by decide +kernel
theorem xcw_197 : xin (xaux 197).1 (.code (xyn 197) (xbt 197) (xmx 197) (xrt 197)) = true := by decide +kernel
theorem xcw_198 : xin (xaux 198).1 (.code (xyn 198) (xbt 198) (xmx 198) (xrt 198)) = true := by decide +kernel
theorem xcw_199 : xin (xaux 199).1 (.code (xyn 199) (xbt 199) (xmx 199) (xrt 199)) = true := by decide +kernel
theorem xcw_200 : xin (xaux 200).1 (.code (xyn 200) (xbt 200) (xmx 200) (xrt 200)) = true := by decide +kernel
theorem xcw_201 : xin (xaux 201).1 (.code (xyn 201) (xbt 201) (xmx 201) (xrt 201)) = true := by decide +kernel
theorem xcw_202 : xin (xaux 202).1 (.code (xyn 202) (xbt 202) (xmx 202) (xrt 202)) = true := by decide +kernel
theorem xcw_203 : xin (xaux 203).1 (.code (xyn 203) (xbt 203) (xmx 203) (xrt 203)) = true := by decide +kernel
theorem xcw_204 : xin (xaux 204).1 (.code (xyn 204) (xbt 204) (xmx 204) (xrt 204)) = true := by decide +kernel
theorem xcw_205 : xin (xaux 205).1 (.code (xyn 205) (xbt 205) (xmx 205) (xrt 205)) = true := by decide +kernel
theorem xcw_206 : xin (xaux 206).1 (.code (xyn 206) (xbt 206) (xmx 206) (xrt 206)) = true := by decide +kernel
theorem xcw_207 : xin (xaux 207).1 (.code (xyn 207) (xbt 207) (xmx 207) (xrt 207)) = true := by decide +kernel
theorem xcw_208 : xin (xaux 208).1 (.code (xyn 208) (xbt 208) (xmx 208) (xrt 208)) = true := by decide +kernel
theorem xcw_209 : xin (xaux 209).1 (.code (xyn 209) (xbt 209) (xmx 209) (xrt 209)) = true := by decide +kernel
theorem xcw_210 : xin (xaux 210).1 (.code (xyn 210) (xbt 210) (xmx 210) (xrt 210)) = true := by decide +kernel
theorem xcw_211 : xin (xaux 211).1 (.code (xyn 211) (xbt 211) (xmx 211) (xrt 211)) = true := by decide +kernel
theorem xcw_212 : xin (xaux 212).1 (.code (xyn 212) (xbt 212) (xmx 212) (xrt 212)) = true := by decide +kernel
theorem xcw_213 : xin (xaux 213).1 (.code (xyn 213) (xbt 213) (xmx 213) (xrt 213)) = true := by decide +kernel
theorem xcw_214 : xin (xaux 214).1 (.code (xyn 214) (xbt 214) (xmx 214) (xrt 214)) = true := by decide +kernel
theorem xcw_215 : xin (xaux 215).1 (.code (xyn 215) (xbt 215) (xmx 215) (xrt 215)) = true := by decide +kernel
theorem xcw_216 : xin (xaux 216).1 (.code (xyn 216) (xbt 216) (xmx 216) (xrt 216)) = true := by decide +kernel
theorem xcw_217 : xin (xaux 217).1 (.code (xyn 217) (xbt 217) (xmx 217) (xrt 217)) = true := by decide +kernel
theorem xcw_218 : xin (xaux 218).1 (.code (xyn 218) (xbt 218) (xmx 218) (xrt 218)) = true := by decide +kernel
theorem xcw_219 : xin (xaux 219).1 (.code (xyn 219) (xbt 219) (xmx 219) (xrt 219)) = true := by decide +kernel
theorem xcw_220 : xin (xaux 220).1 (.code (xyn 220) (xbt 220) (xmx 220) (xrt 220)) = true := by decide +kernel
theorem xcw_221 : xin (xaux 221).1 (.code (xyn 221) (xbt 221) (xmx 221) (xrt 221)) = true := by decide +kernel
theorem xcw_222 : xin (xaux 222).1 (.code (xyn 222) (xbt 222) (xmx 222) (xrt 222)) = true := by decide +kernel
theorem xcw_223 : xin (xaux 223).1 (.code (xyn 223) (xbt 223) (xmx 223) (xrt 223)) = true := by decide +kernel
theorem xcw_224 : xin (xaux 224).1 (.code (xyn 224) (xbt 224) (xmx 224) (xrt 224)) = true := by decide +kernel
theorem xcw_225 : xin (xaux 225).1 (.code (xyn 225) (xbt 225) (xmx 225) (xrt 225)) = true := by decide +kernel
theorem xcw_226 : xin (xaux 226).1 (.code (xyn 226) (xbt 226) (xmx 226) (xrt 226)) = true := by decide +kernel
theorem xcw_227 : xin (xaux 227).1 (.code (xyn 227) (xbt 227) (xmx 227) (xrt 227)) = true := by decide +kernel
theorem xcw_228 : xin (xaux 228).1 (.code (xyn 228) (xbt 228) (xmx 228) (xrt 228)) = true := by decide +kernel
theorem xcw_229 : xin (xaux 229).1 (.code (xyn 229) (xbt 229) (xmx 229) (xrt 229)) = true := by decide +kernel
theorem xcw_230 : xin (xaux 230).1 (.code (xyn 230) (xbt 230) (xmx 230) (xrt 230)) = true := by decide +kernel
theorem xcw_231 : xin (xaux 231).1 (.code (xyn 231) (xbt 231) (xmx 231) (xrt 231)) = true := by decide +kernel
theorem xcw_232 : xin (xaux 232).1 (.code (xyn 232) (xbt 232) (xmx 232) (xrt 232)) = true := by decide +kernel
theorem xcw_233 : xin (xaux 233).1 (.code (xyn 233) (xbt 233) (xmx 233) (xrt 233)) = true := by decide +kernel
theorem xcw_234 : xin (xaux 234).1 (.code (xyn 234) (xbt 234) (xmx 234) (xrt 234)) = true := by decide +kernel
theorem xcw_235 : xin (xaux 235).1 (.code (xyn 235) (xbt 235) (xmx 235) (xrt 235)) = true := by decide +kernel
theorem xcw_236 : xin (xaux 236).1 (.code (xyn 236) (xbt 236) (xmx 236) (xrt 236)) = true := by decide +kernel
theorem xcw_237 : xin (xaux 237).1 (.code (xyn 237) (xbt 237) (xmx 237) (xrt 237)) = true := by decide +kernel
theorem xcw_238 : xin (xaux 238).1 (.code (xyn 238) (xbt 238) (xmx 238) (xrt 238)) = true := by decide +kernel
theorem xcw_239 : xin (xaux 239).1 (.code (xyn 239) (xbt 239) (xmx 239) (xrt 239)) = true := by decide +kernel
theorem xcw_240 : xin (xaux 240).1 (.code (xyn 240) (xbt 240) (xmx 240) (xrt 240)) = true := by decide +kernel
theorem xcw_241 : xin (xaux 241).1 (.code (xyn 241) (xbt 241) (xmx 241) (xrt 241)) = true := by decide +kernel
theorem xcw_242 : xin (xaux 242).1 (.code (xyn 242) (xbt 242) (xmx 242) (xrt 242)) = true := by decide +kernel
theorem xcw_243 : xin (xaux 243).1 (.code (xyn 243) (xbt 243) (xmx 243) (xrt 243)) = true := by decide +kernel
theorem xcw_244 : xin (xaux 244).1 (.code (xyn 244) (xbt 244) (xmx 244) (xrt 244)) = true := by decide +kernel
theorem xcw_245 : xin (xaux 245).1 (.code (xyn 245) (xbt 245) (xmx 245) (xrt 245)) = true := by decide +kernel
theorem xcw_246 : xin (xaux 246).1 (.code (xyn 246) (xbt 246) (xmx 246) (xrt 246)) = true := by decide +kernel
theorem xcw_247 : xin (xaux 247).1 (.code (xyn 247) (xbt 247) (xmx 247) (xrt 247)) = true := by decide +kernel
theorem xcw_248 : xin (xaux 248).1 (.code (xyn 248) (xbt 248) (xmx 248) (xrt 248)) = true := by decide +kernel
theorem xcw_249 : xin (xaux 249).1 (.code (xyn 249) (xbt 249) (xmx 249) (xrt 249)) = true := by decide +kernel
theorem xcw_250 : xin (xaux 250).1 (.code (xyn 250) (xbt 250) (xmx 250) (xrt 250)) = true := by decide +kernel
theorem xcw_251 : xin (xaux 251).1 (.code (xyn 251) (xbt 251) (xmx 251) (xrt 251)) = true := by decide +kernel
theorem xcw_252 : xin (xaux 252).1 (.code (xyn 252) (xbt 252) (xmx 252) (xrt 252)) = true := by decide +kernel
theorem xcw_253 : xin (xaux 253).1 (.code (xyn 253) (xbt 253) (xmx 253) (xrt 253)) = true := by decide +kernel
theorem xcw_254 : xin (xaux 254).1 (.code (xyn 254) (xbt 254) (xmx 254) (xrt 254)) = true := by decide +kernel
theorem xcw_255 : xin (xaux 255).1 (.code (xyn 255) (xbt 255) (xmx 255) (xrt 255)) = true := by decide +kernel
theorem xcw_256 : xin (xaux 256).1 (.code (xyn 256) (xbt 256) (xmx 256) (xrt 256)) = true := by decide +kernel
theorem xcw_257 : xin (xaux 257).1 (.code (xyn 257) (xbt 257) (xmx 257) (xrt 257)) = true := by decide +kernel
theorem xcw_all : ∀ j, j < xnC → xin (xaux j).1 (.code (xyn j) (xbt j) (xmx j) (xrt j)) = true := by
  intro j hj
  match j, hj with
  | 0, _ => exact xcw_0
  | 1, _ => exact xcw_1
  | 2, _ => exact xcw_2
  | 3, _ => exact xcw_3
  | 4, _ => exact xcw_4
  | 5, _ => exact xcw_5
  | 6, _ => exact xcw_6
  | 7, _ => exact xcw_7
  | 8, _ => exact xcw_8
  | 9, _ => exact xcw_9
  | 10, _ => exact xcw_10
  | 11, _ => exact xcw_11
  | 12, _ => exact xcw_12
  | 13, _ => exact xcw_13
  | 14, _ => exact xcw_14
  | 15, _ => exact xcw_15
  | 16, _ => exact xcw_16
  | 17, _ => exact xcw_17
  | 18, _ => exact xcw_18
  | 19, _ => exact xcw_19
  | 20, _ => exact xcw_20
  | 21, _ => exact xcw_21
  | 22, _ => exact xcw_22
  | 23, _ => exact xcw_23
  | 24, _ => exact xcw_24
  | 25, _ => exact xcw_25
  | 26, _ => exact xcw_26
  | 27, _ => exact xcw_27
  | 28, _ => exact xcw_28
  | 29, _ => exact xcw_29
  | 30, _ => exact xcw_30
  | 31, _ => exact xcw_31
  | 32, _ => exact xcw_32
  | 33, _ => exact xcw_33
  | 34, _ => exact xcw_34
  | 35, _ => exact xcw_35
  | 36, _ => exact xcw_36
  | 37, _ => exact xcw_37
  | 38, _ => exact xcw_38
  | 39, _ => exact xcw_39
  | 40, _ => exact xcw_40
  | 41, _ => exact xcw_41
  | 42, _ => exact xcw_42
  | 43, _ => exact xcw_43
  | 44, _ => exact xcw_44
  | 45, _ => exact xcw_45
  | 46, _ => exact xcw_46
  | 47, _ => exact xcw_47
  | 48, _ => exact xcw_48
  | 49, _ => exact xcw_49
  | 50, _ => exact xcw_50
  | 51, _ => exact xcw_51
  | 52, _ => exact xcw_52
  | 53, _ => exact xcw_53
  | 54, _ => exact xcw_54
  | 55, _ => exact xcw_55
  | 56, _ => exact xcw_56
  | 57, _ => exact xcw_57
  | 58, _ => exact xcw_58
  | 59, _ => exact xcw_59
  | 60, _ => exact xcw_60
  | 61, _ => exact xcw_61
  | 62, _ => exact xcw_62
  | 63, _ => exact xcw_63
  | 64, _ => exact xcw_64
  | 65, _ => exact xcw_65
  | 66, _ => exact xcw_66
  | 67, _ => exact xcw_67
  | 68, _ => exact xcw_68
  | 69, _ => exact xcw_69
  | 70, _ => exact xcw_70
  | 71, _ => exact xcw_71
  | 72, _ => exact xcw_72
  | 73, _ => exact xcw_73
  | 74, _ => exact xcw_74
  | 75, _ => exact xcw_75
  | 76, _ => exact xcw_76
  | 77, _ => exact xcw_77
  | 78, _ => exact xcw_78
  | 79, _ => exact xcw_79
  | 80, _ => exact xcw_80
  | 81, _ => exact xcw_81
  | 82, _ => exact xcw_82
  | 83, _ => exact xcw_83
  | 84, _ => exact xcw_84
  | 85, _ => exact xcw_85
  | 86, _ => exact xcw_86
  | 87, _ => exact xcw_87
  | 88, _ => exact xcw_88
  | 89, _ => exact xcw_89
  | 90, _ => exact xcw_90
  | 91, _ => exact xcw_91
  | 92, _ => exact xcw_92
  | 93, _ => exact xcw_93
  | 94, _ => exact xcw_94
  | 95, _ => exact xcw_95
  | 96, _ => exact xcw_96
  | 97, _ => exact xcw_97
  | 98, _ => exact xcw_98
  | 99, _ => exact xcw_99
  | 100, _ => exact xcw_100
  | 101, _ => exact xcw_101
  | 102, _ => exact xcw_102
  | 103, _ => exact xcw_103
  | 104, _ => exact xcw_104
  | 105, _ => exact xcw_105
  | 106, _ => exact xcw_106
  | 107, _ => exact xcw_107
  | 108, _ => exact xcw_108
  | 109, _ => exact xcw_109
  | 110, _ => exact xcw_110
  | 111, _ => exact xcw_111
  | 112, _ => exact xcw_112
  | 113, _ => exact xcw_113
  | 114, _ => exact xcw_114
  | 115, _ => exact xcw_115
  | 116, _ => exact xcw_116
  | 117, _ => exact xcw_117
  | 118, _ => exact xcw_118
  | 119, _ => exact xcw_119
  | 120, _ => exact xcw_120
  | 121, _ => exact xcw_121
  | 122, _ => exact xcw_122
  | 123, _ => exact xcw_123
  | 124, _ => exact xcw_124
  | 125, _ => exact xcw_125
  | 126, _ => exact xcw_126
  | 127, _ => exact xcw_127
  | 128, _ => exact xcw_128
  | 129, _ => exact xcw_129
  | 130, _ => exact xcw_130
  | 131, _ => exact xcw_131
  | 132, _ => exact xcw_132
  | 133, _ => exact xcw_133
  | 134, _ => exact xcw_134
  | 135, _ => exact xcw_135
  | 136, _ => exact xcw_136
  | 137, _ => exact xcw_137
  | 138, _ => exact xcw_138
  | 139, _ => exact xcw_139
  | 140, _ => exact xcw_140
  | 141, _ => exact xcw_141
  | 142, _ => exact xcw_142
  | 143, _ => exact xcw_143
  | 144, _ => exact xcw_144
  | 145, _ => exact xcw_145
  | 146, _ => exact xcw_146
  | 147, _ => exact xcw_147
  | 148, _ => exact xcw_148
  | 149, _ => exact xcw_149
  | 150, _ => exact xcw_150
  | 151, _ => exact xcw_151
  | 152, _ => exact xcw_152
  | 153, _ => exact xcw_153
  | 154, _ => exact xcw_154
  | 155, _ => exact xcw_155
  | 156, _ => exact xcw_156
  | 157, _ => exact xcw_157
  | 158, _ => exact xcw_158
  | 159, _ => exact xcw_159
  | 160, _ => exact xcw_160
  | 161, _ => exact xcw_161
  | 162, _ => exact xcw_162
  | 163, _ => exact xcw_163
  | 164, _ => exact xcw_164
  | 165, _ => exact xcw_165
  | 166, _ => exact xcw_166
  | 167, _ => exact xcw_167
  | 168, _ => exact xcw_168
  | 169, _ => exact xcw_169
  | 170, _ => exact xcw_170
  | 171, _ => exact xcw_171
  | 172, _ => exact xcw_172
  | 173, _ => exact xcw_173
  | 174, _ => exact xcw_174
  | 175, _ => exact xcw_175
  | 176, _ => exact xcw_176
  | 177, _ => exact xcw_177
  | 178, _ => exact xcw_178
  | 179, _ => exact xcw_179
  | 180, _ => exact xcw_180
  | 181, _ => exact xcw_181
  | 182, _ => exact xcw_182
  | 183, _ => exact xcw_183
  | 184, _ => exact xcw_184
  | 185, _ => exact xcw_185
  | 186, _ => exact xcw_186
  | 187, _ => exact xcw_187
  | 188, _ => exact xcw_188
  | 189, _ => exact xcw_189
  | 190, _ => exact xcw_190
  | 191, _ => exact xcw_191
  | 192, _ => exact xcw_192
  | 193, _ => exact xcw_193
  | 194, _ => exact xcw_194
  | 195, _ => exact xcw_195
  | 196, _ => exact xcw_196
  | 197, _ => exact xcw_197
  | 198, _ => exact xcw_198
  | 199, _ => exact xcw_199
  | 200, _ => exact xcw_200
  | 201, _ => exact xcw_201
  | 202, _ => exact xcw_202
  | 203, _ => exact xcw_203
  | 204, _ => exact xcw_204
  | 205, _ => exact xcw_205
  | 206, _ => exact xcw_206
  | 207, _ => exact xcw_207
  | 208, _ => exact xcw_208
  | 209, _ => exact xcw_209
  | 210, _ => exact xcw_210
  | 211, _ => exact xcw_211
  | 212, _ => exact xcw_212
  | 213, _ => exact xcw_213
  | 214, _ => exact xcw_214
  | 215, _ => exact xcw_215
  | 216, _ => exact xcw_216
  | 217, _ => exact xcw_217
  | 218, _ => exact xcw_218
  | 219, _ => exact xcw_219
  | 220, _ => exact xcw_220
  | 221, _ => exact xcw_221
  | 222, _ => exact xcw_222
  | 223, _ => exact xcw_223
  | 224, _ => exact xcw_224
  | 225, _ => exact xcw_225
  | 226, _ => exact xcw_226
  | 227, _ => exact xcw_227
  | 228, _ => exact xcw_228
  | 229, _ => exact xcw_229
  | 230, _ => exact xcw_230
  | 231, _ => exact xcw_231
  | 232, _ => exact xcw_232
  | 233, _ => exact xcw_233
  | 234, _ => exact xcw_234
  | 235, _ => exact xcw_235
  | 236, _ => exact xcw_236
  | 237, _ => exact xcw_237
  | 238, _ => exact xcw_238
  | 239, _ => exact xcw_239
  | 240, _ => exact xcw_240
  | 241, _ => exact xcw_241
  | 242, _ => exact xcw_242
  | 243, _ => exact xcw_243
  | 244, _ => exact xcw_244
  | 245, _ => exact xcw_245
  | 246, _ => exact xcw_246
  | 247, _ => exact xcw_247
  | 248, _ => exact xcw_248
  | 249, _ => exact xcw_249
  | 250, _ => exact xcw_250
  | 251, _ => exact xcw_251
  | 252, _ => exact xcw_252
  | 253, _ => exact xcw_253
  | 254, _ => exact xcw_254
  | 255, _ => exact xcw_255
  | 256, _ => exact xcw_256
  | 257, _ => exact xcw_257
  | j + 258, hj => exact absurd hj (by simp only [xnC]; omega)
