theorem z_okb_0 : z_okB (z_m 0).2.1 "SlipRoom$Law" z_b0 = true := by decide +kernel
theorem z_okb_1 : z_okB (z_m 1).2.1 "SlipRoom$Law" z_b1 = true := by decide +kernel
theorem z_okb_2 : z_okB (z_m 2).2.1 "SlipRoom$Law" z_b2 = true := by decide +kernel
theorem z_okb_3 : z_okB (z_m 3).2.1 "SlipRoom$Law" z_b3 = true := by decide +kernel
theorem z_okb_4 : z_okB (z_m 4).2.1 "SlipRoom$Law" z_b4 = true := by decide +kernel
theorem z_okb_5 : z_okB (z_m 5).2.1 "SlipRoom$Ledger" z_b5 = true := by decide +kernel
theorem z_okb_6 : z_okB (z_m 6).2.1 "SlipRoom$Ledger" z_b6 = true := by decide +kernel
theorem z_okb_7 : z_okB (z_m 7).2.1 "SlipRoom$Ledger" z_b7 = true := by decide +kernel
theorem z_okb_8 : z_okB (z_m 8).2.1 "SlipRoom$Ledger" z_b8 = true := by decide +kernel
theorem z_okb_9 : z_okB (z_m 9).2.1 "SlipRoom$Ledger" z_b9 = true := by decide +kernel
theorem z_okb_10 : z_okB (z_m 10).2.1 "SlipRoom$Ledger" z_b10 = true := by decide +kernel
theorem z_okb_11 : z_okB (z_m 11).2.1 "SlipRoom$Ledger" z_b11 = true := by decide +kernel
theorem z_okb_12 : z_okB (z_m 12).2.1 "SlipRoom$Ledger" z_b12 = true := by decide +kernel
theorem z_okb_13 : z_okB (z_m 13).2.1 "SlipRoom$Ledger" z_b13 = true := by decide +kernel
theorem z_okb_14 : z_okB (z_m 14).2.1 "SlipRoom$Ledger" z_b14 = true := by decide +kernel
theorem z_okb_15 : z_okB (z_m 15).2.1 "SlipRoom$Ledger" z_b15 = true := by decide +kernel
theorem z_okb_16 : z_okB (z_m 16).2.1 "SlipRoom$Ledger" z_b16 = true := by decide +kernel
theorem z_okb_17 : z_okB (z_m 17).2.1 "SlipRoom$Ledger" z_b17 = true := by decide +kernel
theorem z_okb_18 : z_okB (z_m 18).2.1 "SlipRoom$Ledger" z_b18 = true := by decide +kernel
theorem z_okb_19 : z_okB (z_m 19).2.1 "SlipRoom$Ledger" z_b19 = true := by decide +kernel
theorem z_okb_20 : z_okB (z_m 20).2.1 "SlipRoom$Ledger" z_b20 = true := by decide +kernel
theorem z_okb_21 : z_okB (z_m 21).2.1 "SlipRoom$Ledger" z_b21 = true := by decide +kernel
theorem z_okb_22 : z_okB (z_m 22).2.1 "SlipRoom$Parser" z_b22 = true := by decide +kernel
theorem z_okb_23 : z_okB (z_m 23).2.1 "SlipRoom$Parser" z_b23 = true := by decide +kernel
theorem z_okb_24 : z_okB (z_m 24).2.1 "SlipRoom$Parser" z_b24 = true := by decide +kernel
theorem z_okb_25 : z_okB (z_m 25).2.1 "SlipRoom$Parser" z_b25 = true := by decide +kernel
theorem z_okb_26 : z_okB (z_m 26).2.1 "SlipRoom$Parser" z_b26 = true := by decide +kernel
theorem z_okb_27 : z_okB (z_m 27).2.1 "SlipRoom$Parser" z_b27 = true := by decide +kernel
theorem z_okb_28 : z_okB (z_m 28).2.1 "SlipRoom$Parser" z_b28 = true := by decide +kernel
theorem z_okb_29 : z_okB (z_m 29).2.1 "SlipRoom$Parser" z_b29 = true := by decide +kernel
theorem z_okb_30 : z_okB (z_m 30).2.1 "SlipRoom$Parser" z_b30 = true := by decide +kernel
theorem z_okb_31 : z_okB (z_m 31).2.1 "SlipRoom$Parser" z_b31 = true := by decide +kernel
theorem z_okb_32 : z_okB (z_m 32).2.1 "SlipRoom$Parser" z_b32 = true := by decide +kernel
theorem z_okb_33 : z_okB (z_m 33).2.1 "SlipRoom$Parser" z_b33 = true := by decide +kernel
theorem z_okb_34 : z_okB (z_m 34).2.1 "SlipRoom$Parser" z_b34 = true := by decide +kernel
theorem z_okb_35 : z_okB (z_m 35).2.1 "SlipRoom$Plan" z_b35 = true := by decide +kernel
theorem z_okb_36 : z_okB (z_m 36).2.1 "SlipRoom$Plan" z_b36 = true := by decide +kernel
theorem z_okb_37 : z_okB (z_m 37).2.1 "SlipRoom$Plan" z_b37 = true := by decide +kernel
theorem z_okb_38 : z_okB (z_m 38).2.1 "SlipRoom$Settling" z_b38 = true := by decide +kernel
theorem z_okb_39 : z_okB (z_m 39).2.1 "SlipRoom$Settling" z_b39 = true := by decide +kernel
theorem z_okb_40 : z_okB (z_m 40).2.1 "SlipRoom$Settling" z_b40 = true := by decide +kernel
theorem z_okb_41 : z_okB (z_m 41).2.1 "SlipRoom$Settling" z_b41 = true := by decide +kernel
theorem z_okb_42 : z_okB (z_m 42).2.1 "SlipRoom$Sharing" z_b42 = true := by decide +kernel
theorem z_okb_43 : z_okB (z_m 43).2.1 "SlipRoom$Sharing" z_b43 = true := by decide +kernel
theorem z_okb_44 : z_okB (z_m 44).2.1 "SlipRoom$Sharing" z_b44 = true := by decide +kernel
theorem z_okb_45 : z_okB (z_m 45).2.1 "SlipRoom$Sharing" z_b45 = true := by decide +kernel
theorem z_okb_46 : z_okB (z_m 46).2.1 "SlipRoom$Sharing" z_b46 = true := by decide +kernel
theorem z_okb_47 : z_okB (z_m 47).2.1 "SlipRoom$Sharing" z_b47 = true := by decide +kernel
theorem z_okb_48 : z_okB (z_m 48).2.1 "SlipRoom$Sharing" z_b48 = true := by decide +kernel
theorem z_okb_49 : z_okB (z_m 49).2.1 "SlipRoom$Sharing" z_b49 = true := by decide +kernel
theorem z_okb_50 : z_okB (z_m 50).2.1 "SlipRoom$Sharing" z_b50 = true := by decide +kernel
theorem z_okb_51 : z_okB (z_m 51).2.1 "SlipRoom$Sharing" z_b51 = true := by decide +kernel
theorem z_okb_52 : z_okB (z_m 52).2.1 "SlipRoom$Sharing" z_b52 = true := by decide +kernel
theorem z_okb_53 : z_okB (z_m 53).2.1 "SlipRoom$Sharing" z_b53 = true := by decide +kernel
theorem z_okb_54 : z_okB (z_m 54).2.1 "SlipRoom$Sharing" z_b54 = true := by decide +kernel
theorem z_okb_55 : z_okB (z_m 55).2.1 "SlipRoom$Sharing" z_b55 = true := by decide +kernel
theorem z_okb_56 : z_okB (z_m 56).2.1 "SlipRoom$Sharing" z_b56 = true := by decide +kernel
theorem z_okb_57 : z_okB (z_m 57).2.1 "SlipRoom$Sharing" z_b57 = true := by decide +kernel
theorem z_okb_58 : z_okB (z_m 58).2.1 "SlipRoom$Sharing" z_b58 = true := by decide +kernel
theorem z_okb_59 : z_okB (z_m 59).2.1 "SlipRoom$Tokens" z_b59 = true := by decide +kernel
theorem z_okb_60 : z_okB (z_m 60).2.1 "SlipRoom$Tokens" z_b60 = true := by decide +kernel
theorem z_okb_61 : z_okB (z_m 61).2.1 "SlipRoom$Tokens" z_b61 = true := by decide +kernel
theorem z_okb_62 : z_okB (z_m 62).2.1 "SlipRoom$Tokens" z_b62 = true := by decide +kernel
theorem z_okb_63 : z_okB (z_m 63).2.1 "SlipRoom$Tokens" z_b63 = true := by decide +kernel
theorem z_okb_64 : z_okB (z_m 64).2.1 "SlipRoom$Tokens" z_b64 = true := by decide +kernel
theorem z_okb_65 : z_okB (z_m 65).2.1 "SlipRoom$Tokens" z_b65 = true := by decide +kernel
theorem z_okb_66 : z_okB (z_m 66).2.1 "SlipRoom$Tokens" z_b66 = true := by decide +kernel
theorem z_okb_67 : z_okB (z_m 67).2.1 "SlipRoom$Tokens" z_b67 = true := by decide +kernel
theorem z_okb_68 : z_okB (z_m 68).2.1 "SlipRoom$Tokens" z_b68 = true := by decide +kernel
theorem z_okb_69 : z_okB (z_m 69).2.1 "SlipRoom$Tokens" z_b69 = true := by decide +kernel
theorem z_okb_70 : z_okB (z_m 70).2.1 "SlipRoom$Turns" z_b70 = true := by decide +kernel
theorem z_okb_71 : z_okB (z_m 71).2.1 "SlipRoom$Turns" z_b71 = true := by decide +kernel
theorem z_okb_72 : z_okB (z_m 72).2.1 "SlipRoom$Turns" z_b72 = true := by decide +kernel
theorem z_okb_73 : z_okB (z_m 73).2.1 "SlipRoom$Word" z_b73 = true := by decide +kernel
theorem z_okb_74 : z_okB (z_m 74).2.1 "SlipRoom" z_b74 = true := by decide +kernel
theorem z_okb_75 : z_okB (z_m 75).2.1 "SlipRoom" z_b75 = true := by decide +kernel
theorem z_okb_76 : z_okB (z_m 76).2.1 "SlipRoom" z_b76 = true := by decide +kernel
theorem z_okb_77 : z_okB (z_m 77).2.1 "SlipRoom" z_b77 = true := by decide +kernel
theorem z_okb_78 : z_okB (z_m 78).2.1 "SlipRoom" z_b78 = true := by decide +kernel
theorem z_okb_79 : z_okB (z_m 79).2.1 "SlipRoom" z_b79 = true := by decide +kernel
theorem z_okb_80 : z_okB (z_m 80).2.1 "SlipRoom" z_b80 = true := by decide +kernel
theorem z_okb_81 : z_okB (z_m 81).2.1 "SlipRoom" z_b81 = true := by decide +kernel
theorem z_okb_82 : z_okB (z_m 82).2.1 "SlipRoom" z_b82 = true := by decide +kernel
theorem z_okb_83 : z_okB (z_m 83).2.1 "SlipRoom" z_b83 = true := by decide +kernel
theorem z_okb_84 : z_okB (z_m 84).2.1 "SlipRoom" z_b84 = true := by decide +kernel
theorem z_okb_85 : z_okB (z_m 85).2.1 "SlipRoom" z_b85 = true := by decide +kernel
theorem z_okb_86 : z_okB (z_m 86).2.1 "SlipRoom" z_b86 = true := by decide +kernel
theorem z_okb_87 : z_okB (z_m 87).2.1 "SlipRoom" z_b87 = true := by decide +kernel
theorem z_okb_88 : z_okB (z_m 88).2.1 "SlipRoom" z_b88 = true := by decide +kernel
theorem z_okb_89 : z_okB (z_m 89).2.1 "SlipRoom" z_b89 = true := by decide +kernel
theorem z_okb_90 : z_okB (z_m 90).2.1 "SlipRoom" z_b90 = true := by decide +kernel
theorem z_okb_91 : z_okB (z_m 91).2.1 "SlipRoom" z_b91 = true := by decide +kernel
theorem z_okb_92 : z_okB (z_m 92).2.1 "SlipRoom" z_b92 = true := by decide +kernel
theorem z_okb_93 : z_okB (z_m 93).2.1 "SlipRoom" z_b93 = true := by decide +kernel
theorem z_okb_94 : z_okB (z_m 94).2.1 "SlipRoom" z_b94 = true := by decide +kernel
theorem z_okb_95 : z_okB (z_m 95).2.1 "SlipRoom" z_b95 = true := by decide +kernel
theorem z_okb_96 : z_okB (z_m 96).2.1 "SlipRoom" z_b96 = true := by decide +kernel
theorem z_okb_97 : z_okB (z_m 97).2.1 "SlipRoom" z_b97 = true := by decide +kernel
theorem z_okb_98 : z_okB (z_m 98).2.1 "SlipRoom" z_b98 = true := by decide +kernel
theorem z_okb_99 : z_okB (z_m 99).2.1 "SlipRoom" z_b99 = true := by decide +kernel
theorem z_okb_100 : z_okB (z_m 100).2.1 "SlipRoom" z_b100 = true := by decide +kernel
theorem z_okb_101 : z_okB (z_m 101).2.1 "SlipRoom" z_b101 = true := by decide +kernel
theorem z_okb_102 : z_okB (z_m 102).2.1 "SlipRoom" z_b102 = true := by decide +kernel
theorem z_okb_103 : z_okB (z_m 103).2.1 "SlipRoom" z_b103 = true := by decide +kernel
theorem z_okb_104 : z_okB (z_m 104).2.1 "SlipRoom" z_b104 = true := by decide +kernel
theorem z_okb_105 : z_okB (z_m 105).2.1 "SlipRoom" z_b105 = true := by decide +kernel
theorem z_okb_106 : z_okB (z_m 106).2.1 "SlipRoom" z_b106 = true := by decide +kernel
theorem z_okb_107 : z_okB (z_m 107).2.1 "SlipRoom" z_b107 = true := by decide +kernel
theorem z_okb_108 : z_okB (z_m 108).2.1 "SlipRoom" z_b108 = true := by decide +kernel
theorem z_okb_109 : z_okB (z_m 109).2.1 "SlipRoom" z_b109 = true := by decide +kernel
theorem z_okb_110 : z_okB (z_m 110).2.1 "SlipRoomModel" z_b110 = true := by decide +kernel
theorem z_okb_111 : z_okB (z_m 111).2.1 "SlipRoomModel" z_b111 = true := by decide +kernel
theorem z_okb_112 : z_okB (z_m 112).2.1 "SlipRoomModel" z_b112 = true := by decide +kernel
theorem z_okb_113 : z_okB (z_m 113).2.1 "SlipRoomModel" z_b113 = true := by decide +kernel
theorem z_okb_114 : z_okB (z_m 114).2.1 "SlipRoomModel" z_b114 = true := by decide +kernel
theorem z_okb_115 : z_okB (z_m 115).2.1 "SlipRoomModel" z_b115 = true := by decide +kernel
theorem z_okb_116 : z_okB (z_m 116).2.1 "SlipRoomModel" z_b116 = true := by decide +kernel
theorem z_okb_117 : z_okB (z_m 117).2.1 "SlipRoomModel" z_b117 = true := by decide +kernel
theorem z_okb_118 : z_okB (z_m 118).2.1 "SlipRoomModel" z_b118 = true := by decide +kernel
theorem z_okb_119 : z_okB (z_m 119).2.1 "SlipRoomModel" z_b119 = true := by decide +kernel
theorem z_okb_120 : z_okB (z_m 120).2.1 "SlipRoomModel" z_b120 = true := by decide +kernel
theorem z_okb_121 : z_okB (z_m 121).2.1 "SlipRoomModel" z_b121 = true := by decide +kernel
theorem z_okb_122 : z_okB (z_m 122).2.1 "SlipRoomModel" z_b122 = true := by decide +kernel
theorem z_okb_123 : z_okB (z_m 123).2.1 "SlipRoomModel" z_b123 = true := by decide +kernel
theorem z_okb_124 : z_okB (z_m 124).2.1 "SlipRoomModel" z_b124 = true := by decide +kernel
theorem z_okb_125 : z_okB (z_m 125).2.1 "SlipRoomModel" z_b125 = true := by decide +kernel
theorem z_okb_126 : z_okB (z_m 126).2.1 "SlipRoomModel" z_b126 = true := by decide +kernel
theorem z_okb_127 : z_okB (z_m 127).2.1 "SlipRoomModel" z_b127 = true := by decide +kernel
theorem z_okb_128 : z_okB (z_m 128).2.1 "SlipRoomModel" z_b128 = true := by decide +kernel
theorem z_okb_129 : z_okB (z_m 129).2.1 "SlipRoomModel" z_b129 = true := by decide +kernel
theorem z_okb_130 : z_okB (z_m 130).2.1 "SlipRoomModel" z_b130 = true := by decide +kernel
theorem z_okb_131 : z_okB (z_m 131).2.1 "SlipRoomModel" z_b131 = true := by decide +kernel
theorem z_okb_132 : z_okB (z_m 132).2.1 "SlipRoomModel" z_b132 = true := by decide +kernel
theorem z_okb_133 : z_okB (z_m 133).2.1 "SlipRoomModel" z_b133 = true := by decide +kernel
theorem z_okb_134 : z_okB (z_m 134).2.1 "SlipRoomModel" z_b134 = true := by decide +kernel
theorem z_okb_135 : z_okB (z_m 135).2.1 "SlipRoomModel" z_b135 = true := by decide +kernel
theorem z_okb_136 : z_okB (z_m 136).2.1 "SlipRoomModel" z_b136 = true := by decide +kernel
theorem z_okb_137 : z_okB (z_m 137).2.1 "SlipRoomModel" z_b137 = true := by decide +kernel
theorem z_okb_138_0 : z_okB (z_m 138).2.1 "SlipRoomModel" ((z_b138.drop (3 * 0)).take 3) = true := by decide +kernel
theorem z_okb_138_1 : z_okB (z_m 138).2.1 "SlipRoomModel" ((z_b138.drop (3 * 1)).take 3) = true := by decide +kernel
theorem z_okb_138_2 : z_okB (z_m 138).2.1 "SlipRoomModel" ((z_b138.drop (3 * 2)).take 3) = true := by decide +kernel
theorem z_okb_138_3 : z_okB (z_m 138).2.1 "SlipRoomModel" ((z_b138.drop (3 * 3)).take 3) = true := by decide +kernel
theorem z_okb_138_4 : z_okB (z_m 138).2.1 "SlipRoomModel" ((z_b138.drop (3 * 4)).take 3) = true := by decide +kernel
theorem z_okb_138_5 : z_okB (z_m 138).2.1 "SlipRoomModel" ((z_b138.drop (3 * 5)).take 3) = true := by decide +kernel
theorem z_okb_138 : z_okB (z_m 138).2.1 "SlipRoomModel" z_b138 = true := by
  refine z_okB_of 3 6 (by decide) (by decide +kernel) (fun i hi => ?_)
  have hc : i = 0 ∨ i = 1 ∨ i = 2 ∨ i = 3 ∨ i = 4 ∨ i = 5 := by omega
  rcases hc with rfl | rfl | rfl | rfl | rfl | rfl
  · exact z_okb_138_0
  · exact z_okb_138_1
  · exact z_okb_138_2
  · exact z_okb_138_3
  · exact z_okb_138_4
  · exact z_okb_138_5
theorem z_okb_139 : z_okB (z_m 139).2.1 "SlipRoomModel" z_b139 = true := by decide +kernel
theorem z_okb_140 : z_okB (z_m 140).2.1 "SlipRoomModel" z_b140 = true := by decide +kernel
theorem z_okb_141 : z_okB (z_m 141).2.1 "SlipRoomModel" z_b141 = true := by decide +kernel
theorem z_okb_142 : z_okB (z_m 142).2.1 "SlipRoomModel" z_b142 = true := by decide +kernel
theorem z_okb_143 : z_okB (z_m 143).2.1 "SlipRoomModel" z_b143 = true := by decide +kernel
theorem z_okb_144 : z_okB (z_m 144).2.1 "SlipRoomModel" z_b144 = true := by decide +kernel
theorem z_okb_145 : z_okB (z_m 145).2.1 "SlipRoomModel" z_b145 = true := by decide +kernel
theorem z_okb_146 : z_okB (z_m 146).2.1 "SlipRoomModel" z_b146 = true := by decide +kernel
theorem z_okb_147 : z_okB (z_m 147).2.1 "SlipRoomModel" z_b147 = true := by decide +kernel
theorem z_okb_148 : z_okB (z_m 148).2.1 "SlipRoomModel" z_b148 = true := by decide +kernel
theorem z_okb_149 : z_okB (z_m 149).2.1 "SlipRoomModel" z_b149 = true := by decide +kernel
theorem z_okb_150 : z_okB (z_m 150).2.1 "SlipRoomModel" z_b150 = true := by decide +kernel
theorem z_okb_151 : z_okB (z_m 151).2.1 "SlipRoomModel" z_b151 = true := by decide +kernel
theorem z_okb_152_0 : z_okB (z_m 152).2.1 "SlipRoomModel" ((z_b152.drop (3 * 0)).take 3) = true := by decide +kernel
theorem z_okb_152_1 : z_okB (z_m 152).2.1 "SlipRoomModel" ((z_b152.drop (3 * 1)).take 3) = true := by decide +kernel
theorem z_okb_152_2 : z_okB (z_m 152).2.1 "SlipRoomModel" ((z_b152.drop (3 * 2)).take 3) = true := by decide +kernel
theorem z_okb_152_3 : z_okB (z_m 152).2.1 "SlipRoomModel" ((z_b152.drop (3 * 3)).take 3) = true := by decide +kernel
theorem z_okb_152_4 : z_okB (z_m 152).2.1 "SlipRoomModel" ((z_b152.drop (3 * 4)).take 3) = true := by decide +kernel
theorem z_okb_152 : z_okB (z_m 152).2.1 "SlipRoomModel" z_b152 = true := by
  refine z_okB_of 3 5 (by decide) (by decide +kernel) (fun i hi => ?_)
  have hc : i = 0 ∨ i = 1 ∨ i = 2 ∨ i = 3 ∨ i = 4 := by omega
  rcases hc with rfl | rfl | rfl | rfl | rfl
  · exact z_okb_152_0
  · exact z_okb_152_1
  · exact z_okb_152_2
  · exact z_okb_152_3
  · exact z_okb_152_4
theorem z_okb_153 : z_okB (z_m 153).2.1 "SlipRoomModel" z_b153 = true := by decide +kernel
theorem z_okb_154 : z_okB (z_m 154).2.1 "SlipRoomModel" z_b154 = true := by decide +kernel
theorem z_okb_155 : z_okB (z_m 155).2.1 "SlipRoomModel" z_b155 = true := by decide +kernel
theorem z_okb_156 : z_okB (z_m 156).2.1 "SlipRoomModel" z_b156 = true := by decide +kernel
theorem z_okb_157 : z_okB (z_m 157).2.1 "SlipRoomModel" z_b157 = true := by decide +kernel
theorem z_okb_158 : z_okB (z_m 158).2.1 "SlipRoomModel" z_b158 = true := by decide +kernel
theorem z_okb_159 : z_okB (z_m 159).2.1 "SlipRoomModel" z_b159 = true := by decide +kernel
theorem z_okb_160 : z_okB (z_m 160).2.1 "SlipRoomModel" z_b160 = true := by decide +kernel
theorem z_okb_161 : z_okB (z_m 161).2.1 "SlipRoomModel" z_b161 = true := by decide +kernel
theorem z_okb_162 : z_okB (z_m 162).2.1 "SlipRoomModel" z_b162 = true := by decide +kernel
theorem z_okb_163 : z_okB (z_m 163).2.1 "SlipRoomModel" z_b163 = true := by decide +kernel
theorem z_okb_164 : z_okB (z_m 164).2.1 "SlipRoomModel" z_b164 = true := by decide +kernel
theorem z_okb_165 : z_okB (z_m 165).2.1 "SlipRoomModel" z_b165 = true := by decide +kernel
theorem z_okb_166 : z_okB (z_m 166).2.1 "SlipRoomModel" z_b166 = true := by decide +kernel
theorem z_okb_167 : z_okB (z_m 167).2.1 "SlipRoomModel" z_b167 = true := by decide +kernel
theorem z_okb_168 : z_okB (z_m 168).2.1 "SlipRoomModel" z_b168 = true := by decide +kernel
theorem z_okb_169 : z_okB (z_m 169).2.1 "SlipRoomModel" z_b169 = true := by decide +kernel
theorem z_okb_170 : z_okB (z_m 170).2.1 "SlipRoomModel" z_b170 = true := by decide +kernel
theorem z_okb_171 : z_okB (z_m 171).2.1 "SlipRoomModel" z_b171 = true := by decide +kernel
theorem z_okb_172 : z_okB (z_m 172).2.1 "SlipRoomModel" z_b172 = true := by decide +kernel
theorem z_okb_173 : z_okB (z_m 173).2.1 "SlipRoomModel" z_b173 = true := by decide +kernel
theorem z_okb_174 : z_okB (z_m 174).2.1 "SlipRoomModel" z_b174 = true := by decide +kernel
theorem z_okb_175 : z_okB (z_m 175).2.1 "SlipRoomModel" z_b175 = true := by decide +kernel
theorem z_okb_176 : z_okB (z_m 176).2.1 "SlipRoomModel" z_b176 = true := by decide +kernel
theorem z_okb_177 : z_okB (z_m 177).2.1 "SlipRoomModel" z_b177 = true := by decide +kernel
theorem z_okb_178 : z_okB (z_m 178).2.1 "SlipRoomModel" z_b178 = true := by decide +kernel
theorem z_okb_179 : z_okB (z_m 179).2.1 "SlipRoomModel" z_b179 = true := by decide +kernel
theorem z_okb_180 : z_okB (z_m 180).2.1 "SlipRoomModel" z_b180 = true := by decide +kernel
theorem z_okb_181 : z_okB (z_m 181).2.1 "SlipRoomModel" z_b181 = true := by decide +kernel
theorem z_okb_182 : z_okB (z_m 182).2.1 "SlipRoomModel" z_b182 = true := by decide +kernel
theorem z_okb_183 : z_okB (z_m 183).2.1 "SlipRoomModel" z_b183 = true := by decide +kernel
theorem z_okb_184 : z_okB (z_m 184).2.1 "SlipRoomModel" z_b184 = true := by decide +kernel
theorem z_okb_185 : z_okB (z_m 185).2.1 "java/lang/Integer" z_b185 = true := by decide +kernel
theorem z_okb_186 : z_okB (z_m 186).2.1 "java/lang/Long" z_b186 = true := by decide +kernel
theorem z_okb_187 : z_okB (z_m 187).2.1 "java/lang/Math" z_b187 = true := by decide +kernel
theorem z_okb_188 : z_okB (z_m 188).2.1 "java/lang/Math" z_b188 = true := by decide +kernel
theorem z_okb_189 : z_okB (z_m 189).2.1 "java/util/Arrays" z_b189 = true := by decide +kernel
theorem z_okb_190 : z_okB (z_m 190).2.1 "java/util/Arrays" z_b190 = true := by decide +kernel
theorem z_okb_191 : z_okB (z_m 191).2.1 "SlipRoomLaw" z_b191 = true := by decide +kernel
theorem z_okb_192 : z_okB (z_m 192).2.1 "SlipRoomLaw" z_b192 = true := by decide +kernel
theorem z_okb_193 : z_okB (z_m 193).2.1 "SlipRoomLaw" z_b193 = true := by decide +kernel
theorem z_okb_194 : z_okB (z_m 194).2.1 "SlipRoomLaw" z_b194 = true := by decide +kernel
theorem z_okb_195 : z_okB (z_m 195).2.1 "SlipRoomLaw" z_b195 = true := by decide +kernel
theorem z_okb_196 : z_okB (z_m 196).2.1 "SlipRoomLaw" z_b196 = true := by decide +kernel
theorem z_okb_197 : z_okB (z_m 197).2.1 "SlipRoomLaw" z_b197 = true := by decide +kernel
theorem z_okb_198 : z_okB (z_m 198).2.1 "SlipRoomLaw" z_b198 = true := by decide +kernel
theorem z_okb_199 : z_okB (z_m 199).2.1 "SlipRoomLaw" z_b199 = true := by decide +kernel
theorem z_okb_200 : z_okB (z_m 200).2.1 "SlipRoomLaw" z_b200 = true := by decide +kernel
theorem z_okb_201 : z_okB (z_m 201).2.1 "SlipRoomLaw" z_b201 = true := by decide +kernel
theorem z_okb_202 : z_okB (z_m 202).2.1 "SlipRoomLaw" z_b202 = true := by decide +kernel
theorem z_okb_203 : z_okB (z_m 203).2.1 "SlipRoomLaw" z_b203 = true := by decide +kernel
theorem z_okb_204 : z_okB (z_m 204).2.1 "SlipRoomLaw" z_b204 = true := by decide +kernel
theorem z_okb_205 : z_okB (z_m 205).2.1 "SlipRoomLaw" z_b205 = true := by decide +kernel
theorem z_okb_206 : z_okB (z_m 206).2.1 "SlipRoomLaw" z_b206 = true := by decide +kernel
theorem z_okb_207 : z_okB (z_m 207).2.1 "SlipRoomLaw" z_b207 = true := by decide +kernel
theorem z_okb_208 : z_okB (z_m 208).2.1 "SlipRoomLaw" z_b208 = true := by decide +kernel
theorem z_okb_209 : z_okB (z_m 209).2.1 "SlipRoomLaw" z_b209 = true := by decide +kernel
theorem z_okb_210 : z_okB (z_m 210).2.1 "SlipRoomLaw" z_b210 = true := by decide +kernel
