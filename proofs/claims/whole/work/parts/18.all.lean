theorem CK_ok : ∀ y, 1 ≤ y → y ≤ 336 → ∀ pc, blk y pc = [] ∨ chkB (cd y) (ocl y) y pc (blk y pc) = true := by
  intro y h1 h2
  by_cases h1_336 : y ≤ 168
  · by_cases h1_168 : y ≤ 84
    · by_cases h1_84 : y ≤ 42
      · by_cases h1_42 : y ≤ 21
        · by_cases h1_21 : y ≤ 11
          · by_cases h1_11 : y ≤ 6
            · by_cases h1_6 : y ≤ 3
              · by_cases h1_3 : y ≤ 2
                · by_cases h1_2 : y ≤ 1
                  · have e : y = 1 := by omega
                    subst e
                    exact ck1
                  · have e : y = 2 := by omega
                    subst e
                    exact ck2
                · have e : y = 3 := by omega
                  subst e
                  exact ck3
              · by_cases h4_6 : y ≤ 5
                · by_cases h4_5 : y ≤ 4
                  · have e : y = 4 := by omega
                    subst e
                    exact ck4
                  · have e : y = 5 := by omega
                    subst e
                    exact ck5
                · have e : y = 6 := by omega
                  subst e
                  exact ck6
            · by_cases h7_11 : y ≤ 9
              · by_cases h7_9 : y ≤ 8
                · by_cases h7_8 : y ≤ 7
                  · have e : y = 7 := by omega
                    subst e
                    exact ck7
                  · have e : y = 8 := by omega
                    subst e
                    exact ck8
                · have e : y = 9 := by omega
                  subst e
                  exact ck9
              · by_cases h10_11 : y ≤ 10
                · have e : y = 10 := by omega
                  subst e
                  exact ck10
                · have e : y = 11 := by omega
                  subst e
                  exact ck11
          · by_cases h12_21 : y ≤ 16
            · by_cases h12_16 : y ≤ 14
              · by_cases h12_14 : y ≤ 13
                · by_cases h12_13 : y ≤ 12
                  · have e : y = 12 := by omega
                    subst e
                    exact ck12
                  · have e : y = 13 := by omega
                    subst e
                    exact ck13
                · have e : y = 14 := by omega
                  subst e
                  exact ck14
              · by_cases h15_16 : y ≤ 15
                · have e : y = 15 := by omega
                  subst e
                  exact ck15
                · have e : y = 16 := by omega
                  subst e
                  exact ck16
            · by_cases h17_21 : y ≤ 19
              · by_cases h17_19 : y ≤ 18
                · by_cases h17_18 : y ≤ 17
                  · have e : y = 17 := by omega
                    subst e
                    exact ck17
                  · have e : y = 18 := by omega
                    subst e
                    exact ck18
                · have e : y = 19 := by omega
                  subst e
                  exact ck19
              · by_cases h20_21 : y ≤ 20
                · have e : y = 20 := by omega
                  subst e
                  exact ck20
                · have e : y = 21 := by omega
                  subst e
                  exact ck21
        · by_cases h22_42 : y ≤ 32
          · by_cases h22_32 : y ≤ 27
            · by_cases h22_27 : y ≤ 24
              · by_cases h22_24 : y ≤ 23
                · by_cases h22_23 : y ≤ 22
                  · have e : y = 22 := by omega
                    subst e
                    exact ck22
                  · have e : y = 23 := by omega
                    subst e
                    exact ck23
                · have e : y = 24 := by omega
                  subst e
                  exact ck24
              · by_cases h25_27 : y ≤ 26
                · by_cases h25_26 : y ≤ 25
                  · have e : y = 25 := by omega
                    subst e
                    exact ck25
                  · have e : y = 26 := by omega
                    subst e
                    exact ck26
                · have e : y = 27 := by omega
                  subst e
                  exact ck27
            · by_cases h28_32 : y ≤ 30
              · by_cases h28_30 : y ≤ 29
                · by_cases h28_29 : y ≤ 28
                  · have e : y = 28 := by omega
                    subst e
                    exact ck28
                  · have e : y = 29 := by omega
                    subst e
                    exact ck29
                · have e : y = 30 := by omega
                  subst e
                  exact ck30
              · by_cases h31_32 : y ≤ 31
                · have e : y = 31 := by omega
                  subst e
                  exact ck31
                · have e : y = 32 := by omega
                  subst e
                  exact ck32
          · by_cases h33_42 : y ≤ 37
            · by_cases h33_37 : y ≤ 35
              · by_cases h33_35 : y ≤ 34
                · by_cases h33_34 : y ≤ 33
                  · have e : y = 33 := by omega
                    subst e
                    exact ck33
                  · have e : y = 34 := by omega
                    subst e
                    exact ck34
                · have e : y = 35 := by omega
                  subst e
                  exact ck35
              · by_cases h36_37 : y ≤ 36
                · have e : y = 36 := by omega
                  subst e
                  exact ck36
                · have e : y = 37 := by omega
                  subst e
                  exact ck37
            · by_cases h38_42 : y ≤ 40
              · by_cases h38_40 : y ≤ 39
                · by_cases h38_39 : y ≤ 38
                  · have e : y = 38 := by omega
                    subst e
                    exact ck38
                  · have e : y = 39 := by omega
                    subst e
                    exact ck39
                · have e : y = 40 := by omega
                  subst e
                  exact ck40
              · by_cases h41_42 : y ≤ 41
                · have e : y = 41 := by omega
                  subst e
                  exact ck41
                · have e : y = 42 := by omega
                  subst e
                  exact ck42
      · by_cases h43_84 : y ≤ 63
        · by_cases h43_63 : y ≤ 53
          · by_cases h43_53 : y ≤ 48
            · by_cases h43_48 : y ≤ 45
              · by_cases h43_45 : y ≤ 44
                · by_cases h43_44 : y ≤ 43
                  · have e : y = 43 := by omega
                    subst e
                    exact ck43
                  · have e : y = 44 := by omega
                    subst e
                    exact ck44
                · have e : y = 45 := by omega
                  subst e
                  exact ck45
              · by_cases h46_48 : y ≤ 47
                · by_cases h46_47 : y ≤ 46
                  · have e : y = 46 := by omega
                    subst e
                    exact ck46
                  · have e : y = 47 := by omega
                    subst e
                    exact ck47
                · have e : y = 48 := by omega
                  subst e
                  exact ck48
            · by_cases h49_53 : y ≤ 51
              · by_cases h49_51 : y ≤ 50
                · by_cases h49_50 : y ≤ 49
                  · have e : y = 49 := by omega
                    subst e
                    exact ck49
                  · have e : y = 50 := by omega
                    subst e
                    exact ck50
                · have e : y = 51 := by omega
                  subst e
                  exact ck51
              · by_cases h52_53 : y ≤ 52
                · have e : y = 52 := by omega
                  subst e
                  exact ck52
                · have e : y = 53 := by omega
                  subst e
                  exact ck53
          · by_cases h54_63 : y ≤ 58
            · by_cases h54_58 : y ≤ 56
              · by_cases h54_56 : y ≤ 55
                · by_cases h54_55 : y ≤ 54
                  · have e : y = 54 := by omega
                    subst e
                    exact ck54
                  · have e : y = 55 := by omega
                    subst e
                    exact ck55
                · have e : y = 56 := by omega
                  subst e
                  exact ck56
              · by_cases h57_58 : y ≤ 57
                · have e : y = 57 := by omega
                  subst e
                  exact ck57
                · have e : y = 58 := by omega
                  subst e
                  exact ck58
            · by_cases h59_63 : y ≤ 61
              · by_cases h59_61 : y ≤ 60
                · by_cases h59_60 : y ≤ 59
                  · have e : y = 59 := by omega
                    subst e
                    exact ck59
                  · have e : y = 60 := by omega
                    subst e
                    exact ck60
                · have e : y = 61 := by omega
                  subst e
                  exact ck61
              · by_cases h62_63 : y ≤ 62
                · have e : y = 62 := by omega
                  subst e
                  exact ck62
                · have e : y = 63 := by omega
                  subst e
                  exact ck63
        · by_cases h64_84 : y ≤ 74
          · by_cases h64_74 : y ≤ 69
            · by_cases h64_69 : y ≤ 66
              · by_cases h64_66 : y ≤ 65
                · by_cases h64_65 : y ≤ 64
                  · have e : y = 64 := by omega
                    subst e
                    exact ck64
                  · have e : y = 65 := by omega
                    subst e
                    exact ck65
                · have e : y = 66 := by omega
                  subst e
                  exact ck66
              · by_cases h67_69 : y ≤ 68
                · by_cases h67_68 : y ≤ 67
                  · have e : y = 67 := by omega
                    subst e
                    exact ck67
                  · have e : y = 68 := by omega
                    subst e
                    exact ck68
                · have e : y = 69 := by omega
                  subst e
                  exact ck69
            · by_cases h70_74 : y ≤ 72
              · by_cases h70_72 : y ≤ 71
                · by_cases h70_71 : y ≤ 70
                  · have e : y = 70 := by omega
                    subst e
                    exact ck70
                  · have e : y = 71 := by omega
                    subst e
                    exact ck71
                · have e : y = 72 := by omega
                  subst e
                  exact ck72
              · by_cases h73_74 : y ≤ 73
                · have e : y = 73 := by omega
                  subst e
                  exact ck73
                · have e : y = 74 := by omega
                  subst e
                  exact ck74
          · by_cases h75_84 : y ≤ 79
            · by_cases h75_79 : y ≤ 77
              · by_cases h75_77 : y ≤ 76
                · by_cases h75_76 : y ≤ 75
                  · have e : y = 75 := by omega
                    subst e
                    exact ck75
                  · have e : y = 76 := by omega
                    subst e
                    exact ck76
                · have e : y = 77 := by omega
                  subst e
                  exact ck77
              · by_cases h78_79 : y ≤ 78
                · have e : y = 78 := by omega
                  subst e
                  exact ck78
                · have e : y = 79 := by omega
                  subst e
                  exact ck79
            · by_cases h80_84 : y ≤ 82
              · by_cases h80_82 : y ≤ 81
                · by_cases h80_81 : y ≤ 80
                  · have e : y = 80 := by omega
                    subst e
                    exact ck80
                  · have e : y = 81 := by omega
                    subst e
                    exact ck81
                · have e : y = 82 := by omega
                  subst e
                  exact ck82
              · by_cases h83_84 : y ≤ 83
                · have e : y = 83 := by omega
                  subst e
                  exact ck83
                · have e : y = 84 := by omega
                  subst e
                  exact ck84
    · by_cases h85_168 : y ≤ 126
      · by_cases h85_126 : y ≤ 105
        · by_cases h85_105 : y ≤ 95
          · by_cases h85_95 : y ≤ 90
            · by_cases h85_90 : y ≤ 87
              · by_cases h85_87 : y ≤ 86
                · by_cases h85_86 : y ≤ 85
                  · have e : y = 85 := by omega
                    subst e
                    exact ck85
                  · have e : y = 86 := by omega
                    subst e
                    exact ck86
                · have e : y = 87 := by omega
                  subst e
                  exact ck87
              · by_cases h88_90 : y ≤ 89
                · by_cases h88_89 : y ≤ 88
                  · have e : y = 88 := by omega
                    subst e
                    exact ck88
                  · have e : y = 89 := by omega
                    subst e
                    exact ck89
                · have e : y = 90 := by omega
                  subst e
                  exact ck90
            · by_cases h91_95 : y ≤ 93
              · by_cases h91_93 : y ≤ 92
                · by_cases h91_92 : y ≤ 91
                  · have e : y = 91 := by omega
                    subst e
                    exact ck91
                  · have e : y = 92 := by omega
                    subst e
                    exact ck92
                · have e : y = 93 := by omega
                  subst e
                  exact ck93
              · by_cases h94_95 : y ≤ 94
                · have e : y = 94 := by omega
                  subst e
                  exact ck94
                · have e : y = 95 := by omega
                  subst e
                  exact ck95
          · by_cases h96_105 : y ≤ 100
            · by_cases h96_100 : y ≤ 98
              · by_cases h96_98 : y ≤ 97
                · by_cases h96_97 : y ≤ 96
                  · have e : y = 96 := by omega
                    subst e
                    exact ck96
                  · have e : y = 97 := by omega
                    subst e
                    exact ck97
                · have e : y = 98 := by omega
                  subst e
                  exact ck98
              · by_cases h99_100 : y ≤ 99
                · have e : y = 99 := by omega
                  subst e
                  exact ck99
                · have e : y = 100 := by omega
                  subst e
                  exact ck100
            · by_cases h101_105 : y ≤ 103
              · by_cases h101_103 : y ≤ 102
                · by_cases h101_102 : y ≤ 101
                  · have e : y = 101 := by omega
                    subst e
                    exact ck101
                  · have e : y = 102 := by omega
                    subst e
                    exact ck102
                · have e : y = 103 := by omega
                  subst e
                  exact ck103
              · by_cases h104_105 : y ≤ 104
                · have e : y = 104 := by omega
                  subst e
                  exact ck104
                · have e : y = 105 := by omega
                  subst e
                  exact ck105
        · by_cases h106_126 : y ≤ 116
          · by_cases h106_116 : y ≤ 111
            · by_cases h106_111 : y ≤ 108
              · by_cases h106_108 : y ≤ 107
                · by_cases h106_107 : y ≤ 106
                  · have e : y = 106 := by omega
                    subst e
                    exact ck106
                  · have e : y = 107 := by omega
                    subst e
                    exact ck107
                · have e : y = 108 := by omega
                  subst e
                  exact ck108
              · by_cases h109_111 : y ≤ 110
                · by_cases h109_110 : y ≤ 109
                  · have e : y = 109 := by omega
                    subst e
                    exact ck109
                  · have e : y = 110 := by omega
                    subst e
                    exact ck110
                · have e : y = 111 := by omega
                  subst e
                  exact ck111
            · by_cases h112_116 : y ≤ 114
              · by_cases h112_114 : y ≤ 113
                · by_cases h112_113 : y ≤ 112
                  · have e : y = 112 := by omega
                    subst e
                    exact ck112
                  · have e : y = 113 := by omega
                    subst e
                    exact ck113
                · have e : y = 114 := by omega
                  subst e
                  exact ck114
              · by_cases h115_116 : y ≤ 115
                · have e : y = 115 := by omega
                  subst e
                  exact ck115
                · have e : y = 116 := by omega
                  subst e
                  exact ck116
          · by_cases h117_126 : y ≤ 121
            · by_cases h117_121 : y ≤ 119
              · by_cases h117_119 : y ≤ 118
                · by_cases h117_118 : y ≤ 117
                  · have e : y = 117 := by omega
                    subst e
                    exact ck117
                  · have e : y = 118 := by omega
                    subst e
                    exact ck118
                · have e : y = 119 := by omega
                  subst e
                  exact ck119
              · by_cases h120_121 : y ≤ 120
                · have e : y = 120 := by omega
                  subst e
                  exact ck120
                · have e : y = 121 := by omega
                  subst e
                  exact ck121
            · by_cases h122_126 : y ≤ 124
              · by_cases h122_124 : y ≤ 123
                · by_cases h122_123 : y ≤ 122
                  · have e : y = 122 := by omega
                    subst e
                    exact ck122
                  · have e : y = 123 := by omega
                    subst e
                    exact ck123
                · have e : y = 124 := by omega
                  subst e
                  exact ck124
              · by_cases h125_126 : y ≤ 125
                · have e : y = 125 := by omega
                  subst e
                  exact ck125
                · have e : y = 126 := by omega
                  subst e
                  exact ck126
      · by_cases h127_168 : y ≤ 147
        · by_cases h127_147 : y ≤ 137
          · by_cases h127_137 : y ≤ 132
            · by_cases h127_132 : y ≤ 129
              · by_cases h127_129 : y ≤ 128
                · by_cases h127_128 : y ≤ 127
                  · have e : y = 127 := by omega
                    subst e
                    exact ck127
                  · have e : y = 128 := by omega
                    subst e
                    exact ck128
                · have e : y = 129 := by omega
                  subst e
                  exact ck129
              · by_cases h130_132 : y ≤ 131
                · by_cases h130_131 : y ≤ 130
                  · have e : y = 130 := by omega
                    subst e
                    exact ck130
                  · have e : y = 131 := by omega
                    subst e
                    exact ck131
                · have e : y = 132 := by omega
                  subst e
                  exact ck132
            · by_cases h133_137 : y ≤ 135
              · by_cases h133_135 : y ≤ 134
                · by_cases h133_134 : y ≤ 133
                  · have e : y = 133 := by omega
                    subst e
                    exact ck133
                  · have e : y = 134 := by omega
                    subst e
                    exact ck134
                · have e : y = 135 := by omega
                  subst e
                  exact ck135
              · by_cases h136_137 : y ≤ 136
                · have e : y = 136 := by omega
                  subst e
                  exact ck136
                · have e : y = 137 := by omega
                  subst e
                  exact ck137
          · by_cases h138_147 : y ≤ 142
            · by_cases h138_142 : y ≤ 140
              · by_cases h138_140 : y ≤ 139
                · by_cases h138_139 : y ≤ 138
                  · have e : y = 138 := by omega
                    subst e
                    exact ck138
                  · have e : y = 139 := by omega
                    subst e
                    exact ck139
                · have e : y = 140 := by omega
                  subst e
                  exact ck140
              · by_cases h141_142 : y ≤ 141
                · have e : y = 141 := by omega
                  subst e
                  exact ck141
                · have e : y = 142 := by omega
                  subst e
                  exact ck142
            · by_cases h143_147 : y ≤ 145
              · by_cases h143_145 : y ≤ 144
                · by_cases h143_144 : y ≤ 143
                  · have e : y = 143 := by omega
                    subst e
                    exact ck143
                  · have e : y = 144 := by omega
                    subst e
                    exact ck144
                · have e : y = 145 := by omega
                  subst e
                  exact ck145
              · by_cases h146_147 : y ≤ 146
                · have e : y = 146 := by omega
                  subst e
                  exact ck146
                · have e : y = 147 := by omega
                  subst e
                  exact ck147
        · by_cases h148_168 : y ≤ 158
          · by_cases h148_158 : y ≤ 153
            · by_cases h148_153 : y ≤ 150
              · by_cases h148_150 : y ≤ 149
                · by_cases h148_149 : y ≤ 148
                  · have e : y = 148 := by omega
                    subst e
                    exact ck148
                  · have e : y = 149 := by omega
                    subst e
                    exact ck149
                · have e : y = 150 := by omega
                  subst e
                  exact ck150
              · by_cases h151_153 : y ≤ 152
                · by_cases h151_152 : y ≤ 151
                  · have e : y = 151 := by omega
                    subst e
                    exact ck151
                  · have e : y = 152 := by omega
                    subst e
                    exact ck152
                · have e : y = 153 := by omega
                  subst e
                  exact ck153
            · by_cases h154_158 : y ≤ 156
              · by_cases h154_156 : y ≤ 155
                · by_cases h154_155 : y ≤ 154
                  · have e : y = 154 := by omega
                    subst e
                    exact ck154
                  · have e : y = 155 := by omega
                    subst e
                    exact ck155
                · have e : y = 156 := by omega
                  subst e
                  exact ck156
              · by_cases h157_158 : y ≤ 157
                · have e : y = 157 := by omega
                  subst e
                  exact ck157
                · have e : y = 158 := by omega
                  subst e
                  exact ck158
          · by_cases h159_168 : y ≤ 163
            · by_cases h159_163 : y ≤ 161
              · by_cases h159_161 : y ≤ 160
                · by_cases h159_160 : y ≤ 159
                  · have e : y = 159 := by omega
                    subst e
                    exact ck159
                  · have e : y = 160 := by omega
                    subst e
                    exact ck160
                · have e : y = 161 := by omega
                  subst e
                  exact ck161
              · by_cases h162_163 : y ≤ 162
                · have e : y = 162 := by omega
                  subst e
                  exact ck162
                · have e : y = 163 := by omega
                  subst e
                  exact ck163
            · by_cases h164_168 : y ≤ 166
              · by_cases h164_166 : y ≤ 165
                · by_cases h164_165 : y ≤ 164
                  · have e : y = 164 := by omega
                    subst e
                    exact ck164
                  · have e : y = 165 := by omega
                    subst e
                    exact ck165
                · have e : y = 166 := by omega
                  subst e
                  exact ck166
              · by_cases h167_168 : y ≤ 167
                · have e : y = 167 := by omega
                  subst e
                  exact ck167
                · have e : y = 168 := by omega
                  subst e
                  exact ck168
  · by_cases h169_336 : y ≤ 252
    · by_cases h169_252 : y ≤ 210
      · by_cases h169_210 : y ≤ 189
        · by_cases h169_189 : y ≤ 179
          · by_cases h169_179 : y ≤ 174
            · by_cases h169_174 : y ≤ 171
              · by_cases h169_171 : y ≤ 170
                · by_cases h169_170 : y ≤ 169
                  · have e : y = 169 := by omega
                    subst e
                    exact ck169
                  · have e : y = 170 := by omega
                    subst e
                    exact ck170
                · have e : y = 171 := by omega
                  subst e
                  exact ck171
              · by_cases h172_174 : y ≤ 173
                · by_cases h172_173 : y ≤ 172
                  · have e : y = 172 := by omega
                    subst e
                    exact ck172
                  · have e : y = 173 := by omega
                    subst e
                    exact ck173
                · have e : y = 174 := by omega
                  subst e
                  exact ck174
            · by_cases h175_179 : y ≤ 177
              · by_cases h175_177 : y ≤ 176
                · by_cases h175_176 : y ≤ 175
                  · have e : y = 175 := by omega
                    subst e
                    exact ck175
                  · have e : y = 176 := by omega
                    subst e
                    exact ck176
                · have e : y = 177 := by omega
                  subst e
                  exact ck177
              · by_cases h178_179 : y ≤ 178
                · have e : y = 178 := by omega
                  subst e
                  exact ck178
                · have e : y = 179 := by omega
                  subst e
                  exact ck179
          · by_cases h180_189 : y ≤ 184
            · by_cases h180_184 : y ≤ 182
              · by_cases h180_182 : y ≤ 181
                · by_cases h180_181 : y ≤ 180
                  · have e : y = 180 := by omega
                    subst e
                    exact ck180
                  · have e : y = 181 := by omega
                    subst e
                    exact ck181
                · have e : y = 182 := by omega
                  subst e
                  exact ck182
              · by_cases h183_184 : y ≤ 183
                · have e : y = 183 := by omega
                  subst e
                  exact ck183
                · have e : y = 184 := by omega
                  subst e
                  exact ck184
            · by_cases h185_189 : y ≤ 187
              · by_cases h185_187 : y ≤ 186
                · by_cases h185_186 : y ≤ 185
                  · have e : y = 185 := by omega
                    subst e
                    exact ck185
                  · have e : y = 186 := by omega
                    subst e
                    exact ck186
                · have e : y = 187 := by omega
                  subst e
                  exact ck187
              · by_cases h188_189 : y ≤ 188
                · have e : y = 188 := by omega
                  subst e
                  exact ck188
                · have e : y = 189 := by omega
                  subst e
                  exact ck189
        · by_cases h190_210 : y ≤ 200
          · by_cases h190_200 : y ≤ 195
            · by_cases h190_195 : y ≤ 192
              · by_cases h190_192 : y ≤ 191
                · by_cases h190_191 : y ≤ 190
                  · have e : y = 190 := by omega
                    subst e
                    exact ck190
                  · have e : y = 191 := by omega
                    subst e
                    exact ck191
                · have e : y = 192 := by omega
                  subst e
                  exact ck192
              · by_cases h193_195 : y ≤ 194
                · by_cases h193_194 : y ≤ 193
                  · have e : y = 193 := by omega
                    subst e
                    exact ck193
                  · have e : y = 194 := by omega
                    subst e
                    exact ck194
                · have e : y = 195 := by omega
                  subst e
                  exact ck195
            · by_cases h196_200 : y ≤ 198
              · by_cases h196_198 : y ≤ 197
                · by_cases h196_197 : y ≤ 196
                  · have e : y = 196 := by omega
                    subst e
                    exact ck196
                  · have e : y = 197 := by omega
                    subst e
                    exact ck197
                · have e : y = 198 := by omega
                  subst e
                  exact ck198
              · by_cases h199_200 : y ≤ 199
                · have e : y = 199 := by omega
                  subst e
                  exact ck199
                · have e : y = 200 := by omega
                  subst e
                  exact ck200
          · by_cases h201_210 : y ≤ 205
            · by_cases h201_205 : y ≤ 203
              · by_cases h201_203 : y ≤ 202
                · by_cases h201_202 : y ≤ 201
                  · have e : y = 201 := by omega
                    subst e
                    exact ck201
                  · have e : y = 202 := by omega
                    subst e
                    exact ck202
                · have e : y = 203 := by omega
                  subst e
                  exact ck203
              · by_cases h204_205 : y ≤ 204
                · have e : y = 204 := by omega
                  subst e
                  exact ck204
                · have e : y = 205 := by omega
                  subst e
                  exact ck205
            · by_cases h206_210 : y ≤ 208
              · by_cases h206_208 : y ≤ 207
                · by_cases h206_207 : y ≤ 206
                  · have e : y = 206 := by omega
                    subst e
                    exact ck206
                  · have e : y = 207 := by omega
                    subst e
                    exact ck207
                · have e : y = 208 := by omega
                  subst e
                  exact ck208
              · by_cases h209_210 : y ≤ 209
                · have e : y = 209 := by omega
                  subst e
                  exact ck209
                · have e : y = 210 := by omega
                  subst e
                  exact ck210
      · by_cases h211_252 : y ≤ 231
        · by_cases h211_231 : y ≤ 221
          · by_cases h211_221 : y ≤ 216
            · by_cases h211_216 : y ≤ 213
              · by_cases h211_213 : y ≤ 212
                · by_cases h211_212 : y ≤ 211
                  · have e : y = 211 := by omega
                    subst e
                    exact ck211
                  · have e : y = 212 := by omega
                    subst e
                    exact ck212
                · have e : y = 213 := by omega
                  subst e
                  exact ck213
              · by_cases h214_216 : y ≤ 215
                · by_cases h214_215 : y ≤ 214
                  · have e : y = 214 := by omega
                    subst e
                    exact ck214
                  · have e : y = 215 := by omega
                    subst e
                    exact ck215
                · have e : y = 216 := by omega
                  subst e
                  exact ck216
            · by_cases h217_221 : y ≤ 219
              · by_cases h217_219 : y ≤ 218
                · by_cases h217_218 : y ≤ 217
                  · have e : y = 217 := by omega
                    subst e
                    exact ck217
                  · have e : y = 218 := by omega
                    subst e
                    exact ck218
                · have e : y = 219 := by omega
                  subst e
                  exact ck219
              · by_cases h220_221 : y ≤ 220
                · have e : y = 220 := by omega
                  subst e
                  exact ck220
                · have e : y = 221 := by omega
                  subst e
                  exact ck221
          · by_cases h222_231 : y ≤ 226
            · by_cases h222_226 : y ≤ 224
              · by_cases h222_224 : y ≤ 223
                · by_cases h222_223 : y ≤ 222
                  · have e : y = 222 := by omega
                    subst e
                    exact ck222
                  · have e : y = 223 := by omega
                    subst e
                    exact ck223
                · have e : y = 224 := by omega
                  subst e
                  exact ck224
              · by_cases h225_226 : y ≤ 225
                · have e : y = 225 := by omega
                  subst e
                  exact ck225
                · have e : y = 226 := by omega
                  subst e
                  exact ck226
            · by_cases h227_231 : y ≤ 229
              · by_cases h227_229 : y ≤ 228
                · by_cases h227_228 : y ≤ 227
                  · have e : y = 227 := by omega
                    subst e
                    exact ck227
                  · have e : y = 228 := by omega
                    subst e
                    exact ck228
                · have e : y = 229 := by omega
                  subst e
                  exact ck229
              · by_cases h230_231 : y ≤ 230
                · have e : y = 230 := by omega
                  subst e
                  exact ck230
                · have e : y = 231 := by omega
                  subst e
                  exact ck231
        · by_cases h232_252 : y ≤ 242
          · by_cases h232_242 : y ≤ 237
            · by_cases h232_237 : y ≤ 234
              · by_cases h232_234 : y ≤ 233
                · by_cases h232_233 : y ≤ 232
                  · have e : y = 232 := by omega
                    subst e
                    exact ck232
                  · have e : y = 233 := by omega
                    subst e
                    exact ck233
                · have e : y = 234 := by omega
                  subst e
                  exact ck234
              · by_cases h235_237 : y ≤ 236
                · by_cases h235_236 : y ≤ 235
                  · have e : y = 235 := by omega
                    subst e
                    exact ck235
                  · have e : y = 236 := by omega
                    subst e
                    exact ck236
                · have e : y = 237 := by omega
                  subst e
                  exact ck237
            · by_cases h238_242 : y ≤ 240
              · by_cases h238_240 : y ≤ 239
                · by_cases h238_239 : y ≤ 238
                  · have e : y = 238 := by omega
                    subst e
                    exact ck238
                  · have e : y = 239 := by omega
                    subst e
                    exact ck239
                · have e : y = 240 := by omega
                  subst e
                  exact ck240
              · by_cases h241_242 : y ≤ 241
                · have e : y = 241 := by omega
                  subst e
                  exact ck241
                · have e : y = 242 := by omega
                  subst e
                  exact ck242
          · by_cases h243_252 : y ≤ 247
            · by_cases h243_247 : y ≤ 245
              · by_cases h243_245 : y ≤ 244
                · by_cases h243_244 : y ≤ 243
                  · have e : y = 243 := by omega
                    subst e
                    exact ck243
                  · have e : y = 244 := by omega
                    subst e
                    exact ck244
                · have e : y = 245 := by omega
                  subst e
                  exact ck245
              · by_cases h246_247 : y ≤ 246
                · have e : y = 246 := by omega
                  subst e
                  exact ck246
                · have e : y = 247 := by omega
                  subst e
                  exact ck247
            · by_cases h248_252 : y ≤ 250
              · by_cases h248_250 : y ≤ 249
                · by_cases h248_249 : y ≤ 248
                  · have e : y = 248 := by omega
                    subst e
                    exact ck248
                  · have e : y = 249 := by omega
                    subst e
                    exact ck249
                · have e : y = 250 := by omega
                  subst e
                  exact ck250
              · by_cases h251_252 : y ≤ 251
                · have e : y = 251 := by omega
                  subst e
                  exact ck251
                · have e : y = 252 := by omega
                  subst e
                  exact ck252
    · by_cases h253_336 : y ≤ 294
      · by_cases h253_294 : y ≤ 273
        · by_cases h253_273 : y ≤ 263
          · by_cases h253_263 : y ≤ 258
            · by_cases h253_258 : y ≤ 255
              · by_cases h253_255 : y ≤ 254
                · by_cases h253_254 : y ≤ 253
                  · have e : y = 253 := by omega
                    subst e
                    exact ck253
                  · have e : y = 254 := by omega
                    subst e
                    exact ck254
                · have e : y = 255 := by omega
                  subst e
                  exact ck255
              · by_cases h256_258 : y ≤ 257
                · by_cases h256_257 : y ≤ 256
                  · have e : y = 256 := by omega
                    subst e
                    exact ck256
                  · have e : y = 257 := by omega
                    subst e
                    exact ck257
                · have e : y = 258 := by omega
                  subst e
                  exact ck258
            · by_cases h259_263 : y ≤ 261
              · by_cases h259_261 : y ≤ 260
                · by_cases h259_260 : y ≤ 259
                  · have e : y = 259 := by omega
                    subst e
                    exact ck259
                  · have e : y = 260 := by omega
                    subst e
                    exact ck260
                · have e : y = 261 := by omega
                  subst e
                  exact ck261
              · by_cases h262_263 : y ≤ 262
                · have e : y = 262 := by omega
                  subst e
                  exact ck262
                · have e : y = 263 := by omega
                  subst e
                  exact ck263
          · by_cases h264_273 : y ≤ 268
            · by_cases h264_268 : y ≤ 266
              · by_cases h264_266 : y ≤ 265
                · by_cases h264_265 : y ≤ 264
                  · have e : y = 264 := by omega
                    subst e
                    exact ck264
                  · have e : y = 265 := by omega
                    subst e
                    exact ck265
                · have e : y = 266 := by omega
                  subst e
                  exact ck266
              · by_cases h267_268 : y ≤ 267
                · have e : y = 267 := by omega
                  subst e
                  exact ck267
                · have e : y = 268 := by omega
                  subst e
                  exact ck268
            · by_cases h269_273 : y ≤ 271
              · by_cases h269_271 : y ≤ 270
                · by_cases h269_270 : y ≤ 269
                  · have e : y = 269 := by omega
                    subst e
                    exact ck269
                  · have e : y = 270 := by omega
                    subst e
                    exact ck270
                · have e : y = 271 := by omega
                  subst e
                  exact ck271
              · by_cases h272_273 : y ≤ 272
                · have e : y = 272 := by omega
                  subst e
                  exact ck272
                · have e : y = 273 := by omega
                  subst e
                  exact ck273
        · by_cases h274_294 : y ≤ 284
          · by_cases h274_284 : y ≤ 279
            · by_cases h274_279 : y ≤ 276
              · by_cases h274_276 : y ≤ 275
                · by_cases h274_275 : y ≤ 274
                  · have e : y = 274 := by omega
                    subst e
                    exact ck274
                  · have e : y = 275 := by omega
                    subst e
                    exact ck275
                · have e : y = 276 := by omega
                  subst e
                  exact ck276
              · by_cases h277_279 : y ≤ 278
                · by_cases h277_278 : y ≤ 277
                  · have e : y = 277 := by omega
                    subst e
                    exact ck277
                  · have e : y = 278 := by omega
                    subst e
                    exact ck278
                · have e : y = 279 := by omega
                  subst e
                  exact ck279
            · by_cases h280_284 : y ≤ 282
              · by_cases h280_282 : y ≤ 281
                · by_cases h280_281 : y ≤ 280
                  · have e : y = 280 := by omega
                    subst e
                    exact ck280
                  · have e : y = 281 := by omega
                    subst e
                    exact ck281
                · have e : y = 282 := by omega
                  subst e
                  exact ck282
              · by_cases h283_284 : y ≤ 283
                · have e : y = 283 := by omega
                  subst e
                  exact ck283
                · have e : y = 284 := by omega
                  subst e
                  exact ck284
          · by_cases h285_294 : y ≤ 289
            · by_cases h285_289 : y ≤ 287
              · by_cases h285_287 : y ≤ 286
                · by_cases h285_286 : y ≤ 285
                  · have e : y = 285 := by omega
                    subst e
                    exact ck285
                  · have e : y = 286 := by omega
                    subst e
                    exact ck286
                · have e : y = 287 := by omega
                  subst e
                  exact ck287
              · by_cases h288_289 : y ≤ 288
                · have e : y = 288 := by omega
                  subst e
                  exact ck288
                · have e : y = 289 := by omega
                  subst e
                  exact ck289
            · by_cases h290_294 : y ≤ 292
              · by_cases h290_292 : y ≤ 291
                · by_cases h290_291 : y ≤ 290
                  · have e : y = 290 := by omega
                    subst e
                    exact ck290
                  · have e : y = 291 := by omega
                    subst e
                    exact ck291
                · have e : y = 292 := by omega
                  subst e
                  exact ck292
              · by_cases h293_294 : y ≤ 293
                · have e : y = 293 := by omega
                  subst e
                  exact ck293
                · have e : y = 294 := by omega
                  subst e
                  exact ck294
      · by_cases h295_336 : y ≤ 315
        · by_cases h295_315 : y ≤ 305
          · by_cases h295_305 : y ≤ 300
            · by_cases h295_300 : y ≤ 297
              · by_cases h295_297 : y ≤ 296
                · by_cases h295_296 : y ≤ 295
                  · have e : y = 295 := by omega
                    subst e
                    exact ck295
                  · have e : y = 296 := by omega
                    subst e
                    exact ck296
                · have e : y = 297 := by omega
                  subst e
                  exact ck297
              · by_cases h298_300 : y ≤ 299
                · by_cases h298_299 : y ≤ 298
                  · have e : y = 298 := by omega
                    subst e
                    exact ck298
                  · have e : y = 299 := by omega
                    subst e
                    exact ck299
                · have e : y = 300 := by omega
                  subst e
                  exact ck300
            · by_cases h301_305 : y ≤ 303
              · by_cases h301_303 : y ≤ 302
                · by_cases h301_302 : y ≤ 301
                  · have e : y = 301 := by omega
                    subst e
                    exact ck301
                  · have e : y = 302 := by omega
                    subst e
                    exact ck302
                · have e : y = 303 := by omega
                  subst e
                  exact ck303
              · by_cases h304_305 : y ≤ 304
                · have e : y = 304 := by omega
                  subst e
                  exact ck304
                · have e : y = 305 := by omega
                  subst e
                  exact ck305
          · by_cases h306_315 : y ≤ 310
            · by_cases h306_310 : y ≤ 308
              · by_cases h306_308 : y ≤ 307
                · by_cases h306_307 : y ≤ 306
                  · have e : y = 306 := by omega
                    subst e
                    exact ck306
                  · have e : y = 307 := by omega
                    subst e
                    exact ck307
                · have e : y = 308 := by omega
                  subst e
                  exact ck308
              · by_cases h309_310 : y ≤ 309
                · have e : y = 309 := by omega
                  subst e
                  exact ck309
                · have e : y = 310 := by omega
                  subst e
                  exact ck310
            · by_cases h311_315 : y ≤ 313
              · by_cases h311_313 : y ≤ 312
                · by_cases h311_312 : y ≤ 311
                  · have e : y = 311 := by omega
                    subst e
                    exact ck311
                  · have e : y = 312 := by omega
                    subst e
                    exact ck312
                · have e : y = 313 := by omega
                  subst e
                  exact ck313
              · by_cases h314_315 : y ≤ 314
                · have e : y = 314 := by omega
                  subst e
                  exact ck314
                · have e : y = 315 := by omega
                  subst e
                  exact ck315
        · by_cases h316_336 : y ≤ 326
          · by_cases h316_326 : y ≤ 321
            · by_cases h316_321 : y ≤ 318
              · by_cases h316_318 : y ≤ 317
                · by_cases h316_317 : y ≤ 316
                  · have e : y = 316 := by omega
                    subst e
                    exact ck316
                  · have e : y = 317 := by omega
                    subst e
                    exact ck317
                · have e : y = 318 := by omega
                  subst e
                  exact ck318
              · by_cases h319_321 : y ≤ 320
                · by_cases h319_320 : y ≤ 319
                  · have e : y = 319 := by omega
                    subst e
                    exact ck319
                  · have e : y = 320 := by omega
                    subst e
                    exact ck320
                · have e : y = 321 := by omega
                  subst e
                  exact ck321
            · by_cases h322_326 : y ≤ 324
              · by_cases h322_324 : y ≤ 323
                · by_cases h322_323 : y ≤ 322
                  · have e : y = 322 := by omega
                    subst e
                    exact ck322
                  · have e : y = 323 := by omega
                    subst e
                    exact ck323
                · have e : y = 324 := by omega
                  subst e
                  exact ck324
              · by_cases h325_326 : y ≤ 325
                · have e : y = 325 := by omega
                  subst e
                  exact ck325
                · have e : y = 326 := by omega
                  subst e
                  exact ck326
          · by_cases h327_336 : y ≤ 331
            · by_cases h327_331 : y ≤ 329
              · by_cases h327_329 : y ≤ 328
                · by_cases h327_328 : y ≤ 327
                  · have e : y = 327 := by omega
                    subst e
                    exact ck327
                  · have e : y = 328 := by omega
                    subst e
                    exact ck328
                · have e : y = 329 := by omega
                  subst e
                  exact ck329
              · by_cases h330_331 : y ≤ 330
                · have e : y = 330 := by omega
                  subst e
                  exact ck330
                · have e : y = 331 := by omega
                  subst e
                  exact ck331
            · by_cases h332_336 : y ≤ 334
              · by_cases h332_334 : y ≤ 333
                · by_cases h332_333 : y ≤ 332
                  · have e : y = 332 := by omega
                    subst e
                    exact ck332
                  · have e : y = 333 := by omega
                    subst e
                    exact ck333
                · have e : y = 334 := by omega
                  subst e
                  exact ck334
              · by_cases h335_336 : y ≤ 335
                · have e : y = 335 := by omega
                  subst e
                  exact ck335
                · have e : y = 336 := by omega
                  subst e
                  exact ck336
theorem RuleAll_m {l : Launch} {D : va_G} {ad : Nat × Nat → Nat} {cA : Nat → ClassId} (hA : AdOk ad) (hSt : ∀ (p : Program) (e : Env) (s : State) (m : MethodId) (args : Array Value) (below : List Frame) (meth : Method) (c : Code) (K : AV → AM → Prop) (r y0 : Nat), Cx p s m args c (cd y0) D ad cA (mxl y0) (RN (ocl y0)) → StrOk p l e s m args below meth c D ad cA K r y0) : RuleAll (CALLm l D ad cA) :=
  fun _ y _ _ _ h1 h2 h => rule_m hA hSt (YK_ok y h1 h2) (CK_ok y h1 h2) h
