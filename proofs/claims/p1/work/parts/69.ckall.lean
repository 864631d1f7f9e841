theorem ch_all (M : Nat) (h : M < 297) : ckH M = true := by
  · by_cases h148 : M < 148
    · by_cases h74 : M < 74
      · by_cases h37 : M < 37
        · by_cases h18 : M < 18
          · by_cases h9 : M < 9
            · by_cases h4 : M < 4
              · by_cases h2 : M < 2
                · by_cases h1 : M < 1
                  · have e : M = 0 := by omega
                    subst e
                    exact ch_0
                  · have e : M = 1 := by omega
                    subst e
                    exact ch_1
                · by_cases h3 : M < 3
                  · have e : M = 2 := by omega
                    subst e
                    exact ch_2
                  · have e : M = 3 := by omega
                    subst e
                    exact ch_3
              · by_cases h6 : M < 6
                · by_cases h5 : M < 5
                  · have e : M = 4 := by omega
                    subst e
                    exact ch_4
                  · have e : M = 5 := by omega
                    subst e
                    exact ch_5
                · by_cases h7 : M < 7
                  · have e : M = 6 := by omega
                    subst e
                    exact ch_6
                  · by_cases h8 : M < 8
                    · have e : M = 7 := by omega
                      subst e
                      exact ch_7
                    · have e : M = 8 := by omega
                      subst e
                      exact ch_8
            · by_cases h13 : M < 13
              · by_cases h11 : M < 11
                · by_cases h10 : M < 10
                  · have e : M = 9 := by omega
                    subst e
                    exact ch_9
                  · have e : M = 10 := by omega
                    subst e
                    exact ch_10
                · by_cases h12 : M < 12
                  · have e : M = 11 := by omega
                    subst e
                    exact ch_11
                  · have e : M = 12 := by omega
                    subst e
                    exact ch_12
              · by_cases h15 : M < 15
                · by_cases h14 : M < 14
                  · have e : M = 13 := by omega
                    subst e
                    exact ch_13
                  · have e : M = 14 := by omega
                    subst e
                    exact ch_14
                · by_cases h16 : M < 16
                  · have e : M = 15 := by omega
                    subst e
                    exact ch_15
                  · by_cases h17 : M < 17
                    · have e : M = 16 := by omega
                      subst e
                      exact ch_16
                    · have e : M = 17 := by omega
                      subst e
                      exact ch_17
          · by_cases h27 : M < 27
            · by_cases h22 : M < 22
              · by_cases h20 : M < 20
                · by_cases h19 : M < 19
                  · have e : M = 18 := by omega
                    subst e
                    exact ch_18
                  · have e : M = 19 := by omega
                    subst e
                    exact ch_19
                · by_cases h21 : M < 21
                  · have e : M = 20 := by omega
                    subst e
                    exact ch_20
                  · have e : M = 21 := by omega
                    subst e
                    exact ch_21
              · by_cases h24 : M < 24
                · by_cases h23 : M < 23
                  · have e : M = 22 := by omega
                    subst e
                    exact ch_22
                  · have e : M = 23 := by omega
                    subst e
                    exact ch_23
                · by_cases h25 : M < 25
                  · have e : M = 24 := by omega
                    subst e
                    exact ch_24
                  · by_cases h26 : M < 26
                    · have e : M = 25 := by omega
                      subst e
                      exact ch_25
                    · have e : M = 26 := by omega
                      subst e
                      exact ch_26
            · by_cases h32 : M < 32
              · by_cases h29 : M < 29
                · by_cases h28 : M < 28
                  · have e : M = 27 := by omega
                    subst e
                    exact ch_27
                  · have e : M = 28 := by omega
                    subst e
                    exact ch_28
                · by_cases h30 : M < 30
                  · have e : M = 29 := by omega
                    subst e
                    exact ch_29
                  · by_cases h31 : M < 31
                    · have e : M = 30 := by omega
                      subst e
                      exact ch_30
                    · have e : M = 31 := by omega
                      subst e
                      exact ch_31
              · by_cases h34 : M < 34
                · by_cases h33 : M < 33
                  · have e : M = 32 := by omega
                    subst e
                    exact ch_32
                  · have e : M = 33 := by omega
                    subst e
                    exact ch_33
                · by_cases h35 : M < 35
                  · have e : M = 34 := by omega
                    subst e
                    exact ch_34
                  · by_cases h36 : M < 36
                    · have e : M = 35 := by omega
                      subst e
                      exact ch_35
                    · have e : M = 36 := by omega
                      subst e
                      exact ch_36
        · by_cases h55 : M < 55
          · by_cases h46 : M < 46
            · by_cases h41 : M < 41
              · by_cases h39 : M < 39
                · by_cases h38 : M < 38
                  · have e : M = 37 := by omega
                    subst e
                    exact ch_37
                  · have e : M = 38 := by omega
                    subst e
                    exact ch_38
                · by_cases h40 : M < 40
                  · have e : M = 39 := by omega
                    subst e
                    exact ch_39
                  · have e : M = 40 := by omega
                    subst e
                    exact ch_40
              · by_cases h43 : M < 43
                · by_cases h42 : M < 42
                  · have e : M = 41 := by omega
                    subst e
                    exact ch_41
                  · have e : M = 42 := by omega
                    subst e
                    exact ch_42
                · by_cases h44 : M < 44
                  · have e : M = 43 := by omega
                    subst e
                    exact ch_43
                  · by_cases h45 : M < 45
                    · have e : M = 44 := by omega
                      subst e
                      exact ch_44
                    · have e : M = 45 := by omega
                      subst e
                      exact ch_45
            · by_cases h50 : M < 50
              · by_cases h48 : M < 48
                · by_cases h47 : M < 47
                  · have e : M = 46 := by omega
                    subst e
                    exact ch_46
                  · have e : M = 47 := by omega
                    subst e
                    exact ch_47
                · by_cases h49 : M < 49
                  · have e : M = 48 := by omega
                    subst e
                    exact ch_48
                  · have e : M = 49 := by omega
                    subst e
                    exact ch_49
              · by_cases h52 : M < 52
                · by_cases h51 : M < 51
                  · have e : M = 50 := by omega
                    subst e
                    exact ch_50
                  · have e : M = 51 := by omega
                    subst e
                    exact ch_51
                · by_cases h53 : M < 53
                  · have e : M = 52 := by omega
                    subst e
                    exact ch_52
                  · by_cases h54 : M < 54
                    · have e : M = 53 := by omega
                      subst e
                      exact ch_53
                    · have e : M = 54 := by omega
                      subst e
                      exact ch_54
          · by_cases h64 : M < 64
            · by_cases h59 : M < 59
              · by_cases h57 : M < 57
                · by_cases h56 : M < 56
                  · have e : M = 55 := by omega
                    subst e
                    exact ch_55
                  · have e : M = 56 := by omega
                    subst e
                    exact ch_56
                · by_cases h58 : M < 58
                  · have e : M = 57 := by omega
                    subst e
                    exact ch_57
                  · have e : M = 58 := by omega
                    subst e
                    exact ch_58
              · by_cases h61 : M < 61
                · by_cases h60 : M < 60
                  · have e : M = 59 := by omega
                    subst e
                    exact ch_59
                  · have e : M = 60 := by omega
                    subst e
                    exact ch_60
                · by_cases h62 : M < 62
                  · have e : M = 61 := by omega
                    subst e
                    exact ch_61
                  · by_cases h63 : M < 63
                    · have e : M = 62 := by omega
                      subst e
                      exact ch_62
                    · have e : M = 63 := by omega
                      subst e
                      exact ch_63
            · by_cases h69 : M < 69
              · by_cases h66 : M < 66
                · by_cases h65 : M < 65
                  · have e : M = 64 := by omega
                    subst e
                    exact ch_64
                  · have e : M = 65 := by omega
                    subst e
                    exact ch_65
                · by_cases h67 : M < 67
                  · have e : M = 66 := by omega
                    subst e
                    exact ch_66
                  · by_cases h68 : M < 68
                    · have e : M = 67 := by omega
                      subst e
                      exact ch_67
                    · have e : M = 68 := by omega
                      subst e
                      exact ch_68
              · by_cases h71 : M < 71
                · by_cases h70 : M < 70
                  · have e : M = 69 := by omega
                    subst e
                    exact ch_69
                  · have e : M = 70 := by omega
                    subst e
                    exact ch_70
                · by_cases h72 : M < 72
                  · have e : M = 71 := by omega
                    subst e
                    exact ch_71
                  · by_cases h73 : M < 73
                    · have e : M = 72 := by omega
                      subst e
                      exact ch_72
                    · have e : M = 73 := by omega
                      subst e
                      exact ch_73
      · by_cases h111 : M < 111
        · by_cases h92 : M < 92
          · by_cases h83 : M < 83
            · by_cases h78 : M < 78
              · by_cases h76 : M < 76
                · by_cases h75 : M < 75
                  · have e : M = 74 := by omega
                    subst e
                    exact ch_74
                  · have e : M = 75 := by omega
                    subst e
                    exact ch_75
                · by_cases h77 : M < 77
                  · have e : M = 76 := by omega
                    subst e
                    exact ch_76
                  · have e : M = 77 := by omega
                    subst e
                    exact ch_77
              · by_cases h80 : M < 80
                · by_cases h79 : M < 79
                  · have e : M = 78 := by omega
                    subst e
                    exact ch_78
                  · have e : M = 79 := by omega
                    subst e
                    exact ch_79
                · by_cases h81 : M < 81
                  · have e : M = 80 := by omega
                    subst e
                    exact ch_80
                  · by_cases h82 : M < 82
                    · have e : M = 81 := by omega
                      subst e
                      exact ch_81
                    · have e : M = 82 := by omega
                      subst e
                      exact ch_82
            · by_cases h87 : M < 87
              · by_cases h85 : M < 85
                · by_cases h84 : M < 84
                  · have e : M = 83 := by omega
                    subst e
                    exact ch_83
                  · have e : M = 84 := by omega
                    subst e
                    exact ch_84
                · by_cases h86 : M < 86
                  · have e : M = 85 := by omega
                    subst e
                    exact ch_85
                  · have e : M = 86 := by omega
                    subst e
                    exact ch_86
              · by_cases h89 : M < 89
                · by_cases h88 : M < 88
                  · have e : M = 87 := by omega
                    subst e
                    exact ch_87
                  · have e : M = 88 := by omega
                    subst e
                    exact ch_88
                · by_cases h90 : M < 90
                  · have e : M = 89 := by omega
                    subst e
                    exact ch_89
                  · by_cases h91 : M < 91
                    · have e : M = 90 := by omega
                      subst e
                      exact ch_90
                    · have e : M = 91 := by omega
                      subst e
                      exact ch_91
          · by_cases h101 : M < 101
            · by_cases h96 : M < 96
              · by_cases h94 : M < 94
                · by_cases h93 : M < 93
                  · have e : M = 92 := by omega
                    subst e
                    exact ch_92
                  · have e : M = 93 := by omega
                    subst e
                    exact ch_93
                · by_cases h95 : M < 95
                  · have e : M = 94 := by omega
                    subst e
                    exact ch_94
                  · have e : M = 95 := by omega
                    subst e
                    exact ch_95
              · by_cases h98 : M < 98
                · by_cases h97 : M < 97
                  · have e : M = 96 := by omega
                    subst e
                    exact ch_96
                  · have e : M = 97 := by omega
                    subst e
                    exact ch_97
                · by_cases h99 : M < 99
                  · have e : M = 98 := by omega
                    subst e
                    exact ch_98
                  · by_cases h100 : M < 100
                    · have e : M = 99 := by omega
                      subst e
                      exact ch_99
                    · have e : M = 100 := by omega
                      subst e
                      exact ch_100
            · by_cases h106 : M < 106
              · by_cases h103 : M < 103
                · by_cases h102 : M < 102
                  · have e : M = 101 := by omega
                    subst e
                    exact ch_101
                  · have e : M = 102 := by omega
                    subst e
                    exact ch_102
                · by_cases h104 : M < 104
                  · have e : M = 103 := by omega
                    subst e
                    exact ch_103
                  · by_cases h105 : M < 105
                    · have e : M = 104 := by omega
                      subst e
                      exact ch_104
                    · have e : M = 105 := by omega
                      subst e
                      exact ch_105
              · by_cases h108 : M < 108
                · by_cases h107 : M < 107
                  · have e : M = 106 := by omega
                    subst e
                    exact ch_106
                  · have e : M = 107 := by omega
                    subst e
                    exact ch_107
                · by_cases h109 : M < 109
                  · have e : M = 108 := by omega
                    subst e
                    exact ch_108
                  · by_cases h110 : M < 110
                    · have e : M = 109 := by omega
                      subst e
                      exact ch_109
                    · have e : M = 110 := by omega
                      subst e
                      exact ch_110
        · by_cases h129 : M < 129
          · by_cases h120 : M < 120
            · by_cases h115 : M < 115
              · by_cases h113 : M < 113
                · by_cases h112 : M < 112
                  · have e : M = 111 := by omega
                    subst e
                    exact ch_111
                  · have e : M = 112 := by omega
                    subst e
                    exact ch_112
                · by_cases h114 : M < 114
                  · have e : M = 113 := by omega
                    subst e
                    exact ch_113
                  · have e : M = 114 := by omega
                    subst e
                    exact ch_114
              · by_cases h117 : M < 117
                · by_cases h116 : M < 116
                  · have e : M = 115 := by omega
                    subst e
                    exact ch_115
                  · have e : M = 116 := by omega
                    subst e
                    exact ch_116
                · by_cases h118 : M < 118
                  · have e : M = 117 := by omega
                    subst e
                    exact ch_117
                  · by_cases h119 : M < 119
                    · have e : M = 118 := by omega
                      subst e
                      exact ch_118
                    · have e : M = 119 := by omega
                      subst e
                      exact ch_119
            · by_cases h124 : M < 124
              · by_cases h122 : M < 122
                · by_cases h121 : M < 121
                  · have e : M = 120 := by omega
                    subst e
                    exact ch_120
                  · have e : M = 121 := by omega
                    subst e
                    exact ch_121
                · by_cases h123 : M < 123
                  · have e : M = 122 := by omega
                    subst e
                    exact ch_122
                  · have e : M = 123 := by omega
                    subst e
                    exact ch_123
              · by_cases h126 : M < 126
                · by_cases h125 : M < 125
                  · have e : M = 124 := by omega
                    subst e
                    exact ch_124
                  · have e : M = 125 := by omega
                    subst e
                    exact ch_125
                · by_cases h127 : M < 127
                  · have e : M = 126 := by omega
                    subst e
                    exact ch_126
                  · by_cases h128 : M < 128
                    · have e : M = 127 := by omega
                      subst e
                      exact ch_127
                    · have e : M = 128 := by omega
                      subst e
                      exact ch_128
          · by_cases h138 : M < 138
            · by_cases h133 : M < 133
              · by_cases h131 : M < 131
                · by_cases h130 : M < 130
                  · have e : M = 129 := by omega
                    subst e
                    exact ch_129
                  · have e : M = 130 := by omega
                    subst e
                    exact ch_130
                · by_cases h132 : M < 132
                  · have e : M = 131 := by omega
                    subst e
                    exact ch_131
                  · have e : M = 132 := by omega
                    subst e
                    exact ch_132
              · by_cases h135 : M < 135
                · by_cases h134 : M < 134
                  · have e : M = 133 := by omega
                    subst e
                    exact ch_133
                  · have e : M = 134 := by omega
                    subst e
                    exact ch_134
                · by_cases h136 : M < 136
                  · have e : M = 135 := by omega
                    subst e
                    exact ch_135
                  · by_cases h137 : M < 137
                    · have e : M = 136 := by omega
                      subst e
                      exact ch_136
                    · have e : M = 137 := by omega
                      subst e
                      exact ch_137
            · by_cases h143 : M < 143
              · by_cases h140 : M < 140
                · by_cases h139 : M < 139
                  · have e : M = 138 := by omega
                    subst e
                    exact ch_138
                  · have e : M = 139 := by omega
                    subst e
                    exact ch_139
                · by_cases h141 : M < 141
                  · have e : M = 140 := by omega
                    subst e
                    exact ch_140
                  · by_cases h142 : M < 142
                    · have e : M = 141 := by omega
                      subst e
                      exact ch_141
                    · have e : M = 142 := by omega
                      subst e
                      exact ch_142
              · by_cases h145 : M < 145
                · by_cases h144 : M < 144
                  · have e : M = 143 := by omega
                    subst e
                    exact ch_143
                  · have e : M = 144 := by omega
                    subst e
                    exact ch_144
                · by_cases h146 : M < 146
                  · have e : M = 145 := by omega
                    subst e
                    exact ch_145
                  · by_cases h147 : M < 147
                    · have e : M = 146 := by omega
                      subst e
                      exact ch_146
                    · have e : M = 147 := by omega
                      subst e
                      exact ch_147
    · by_cases h222 : M < 222
      · by_cases h185 : M < 185
        · by_cases h166 : M < 166
          · by_cases h157 : M < 157
            · by_cases h152 : M < 152
              · by_cases h150 : M < 150
                · by_cases h149 : M < 149
                  · have e : M = 148 := by omega
                    subst e
                    exact ch_148
                  · have e : M = 149 := by omega
                    subst e
                    exact ch_149
                · by_cases h151 : M < 151
                  · have e : M = 150 := by omega
                    subst e
                    exact ch_150
                  · have e : M = 151 := by omega
                    subst e
                    exact ch_151
              · by_cases h154 : M < 154
                · by_cases h153 : M < 153
                  · have e : M = 152 := by omega
                    subst e
                    exact ch_152
                  · have e : M = 153 := by omega
                    subst e
                    exact ch_153
                · by_cases h155 : M < 155
                  · have e : M = 154 := by omega
                    subst e
                    exact ch_154
                  · by_cases h156 : M < 156
                    · have e : M = 155 := by omega
                      subst e
                      exact ch_155
                    · have e : M = 156 := by omega
                      subst e
                      exact ch_156
            · by_cases h161 : M < 161
              · by_cases h159 : M < 159
                · by_cases h158 : M < 158
                  · have e : M = 157 := by omega
                    subst e
                    exact ch_157
                  · have e : M = 158 := by omega
                    subst e
                    exact ch_158
                · by_cases h160 : M < 160
                  · have e : M = 159 := by omega
                    subst e
                    exact ch_159
                  · have e : M = 160 := by omega
                    subst e
                    exact ch_160
              · by_cases h163 : M < 163
                · by_cases h162 : M < 162
                  · have e : M = 161 := by omega
                    subst e
                    exact ch_161
                  · have e : M = 162 := by omega
                    subst e
                    exact ch_162
                · by_cases h164 : M < 164
                  · have e : M = 163 := by omega
                    subst e
                    exact ch_163
                  · by_cases h165 : M < 165
                    · have e : M = 164 := by omega
                      subst e
                      exact ch_164
                    · have e : M = 165 := by omega
                      subst e
                      exact ch_165
          · by_cases h175 : M < 175
            · by_cases h170 : M < 170
              · by_cases h168 : M < 168
                · by_cases h167 : M < 167
                  · have e : M = 166 := by omega
                    subst e
                    exact ch_166
                  · have e : M = 167 := by omega
                    subst e
                    exact ch_167
                · by_cases h169 : M < 169
                  · have e : M = 168 := by omega
                    subst e
                    exact ch_168
                  · have e : M = 169 := by omega
                    subst e
                    exact ch_169
              · by_cases h172 : M < 172
                · by_cases h171 : M < 171
                  · have e : M = 170 := by omega
                    subst e
                    exact ch_170
                  · have e : M = 171 := by omega
                    subst e
                    exact ch_171
                · by_cases h173 : M < 173
                  · have e : M = 172 := by omega
                    subst e
                    exact ch_172
                  · by_cases h174 : M < 174
                    · have e : M = 173 := by omega
                      subst e
                      exact ch_173
                    · have e : M = 174 := by omega
                      subst e
                      exact ch_174
            · by_cases h180 : M < 180
              · by_cases h177 : M < 177
                · by_cases h176 : M < 176
                  · have e : M = 175 := by omega
                    subst e
                    exact ch_175
                  · have e : M = 176 := by omega
                    subst e
                    exact ch_176
                · by_cases h178 : M < 178
                  · have e : M = 177 := by omega
                    subst e
                    exact ch_177
                  · by_cases h179 : M < 179
                    · have e : M = 178 := by omega
                      subst e
                      exact ch_178
                    · have e : M = 179 := by omega
                      subst e
                      exact ch_179
              · by_cases h182 : M < 182
                · by_cases h181 : M < 181
                  · have e : M = 180 := by omega
                    subst e
                    exact ch_180
                  · have e : M = 181 := by omega
                    subst e
                    exact ch_181
                · by_cases h183 : M < 183
                  · have e : M = 182 := by omega
                    subst e
                    exact ch_182
                  · by_cases h184 : M < 184
                    · have e : M = 183 := by omega
                      subst e
                      exact ch_183
                    · have e : M = 184 := by omega
                      subst e
                      exact ch_184
        · by_cases h203 : M < 203
          · by_cases h194 : M < 194
            · by_cases h189 : M < 189
              · by_cases h187 : M < 187
                · by_cases h186 : M < 186
                  · have e : M = 185 := by omega
                    subst e
                    exact ch_185
                  · have e : M = 186 := by omega
                    subst e
                    exact ch_186
                · by_cases h188 : M < 188
                  · have e : M = 187 := by omega
                    subst e
                    exact ch_187
                  · have e : M = 188 := by omega
                    subst e
                    exact ch_188
              · by_cases h191 : M < 191
                · by_cases h190 : M < 190
                  · have e : M = 189 := by omega
                    subst e
                    exact ch_189
                  · have e : M = 190 := by omega
                    subst e
                    exact ch_190
                · by_cases h192 : M < 192
                  · have e : M = 191 := by omega
                    subst e
                    exact ch_191
                  · by_cases h193 : M < 193
                    · have e : M = 192 := by omega
                      subst e
                      exact ch_192
                    · have e : M = 193 := by omega
                      subst e
                      exact ch_193
            · by_cases h198 : M < 198
              · by_cases h196 : M < 196
                · by_cases h195 : M < 195
                  · have e : M = 194 := by omega
                    subst e
                    exact ch_194
                  · have e : M = 195 := by omega
                    subst e
                    exact ch_195
                · by_cases h197 : M < 197
                  · have e : M = 196 := by omega
                    subst e
                    exact ch_196
                  · have e : M = 197 := by omega
                    subst e
                    exact ch_197
              · by_cases h200 : M < 200
                · by_cases h199 : M < 199
                  · have e : M = 198 := by omega
                    subst e
                    exact ch_198
                  · have e : M = 199 := by omega
                    subst e
                    exact ch_199
                · by_cases h201 : M < 201
                  · have e : M = 200 := by omega
                    subst e
                    exact ch_200
                  · by_cases h202 : M < 202
                    · have e : M = 201 := by omega
                      subst e
                      exact ch_201
                    · have e : M = 202 := by omega
                      subst e
                      exact ch_202
          · by_cases h212 : M < 212
            · by_cases h207 : M < 207
              · by_cases h205 : M < 205
                · by_cases h204 : M < 204
                  · have e : M = 203 := by omega
                    subst e
                    exact ch_203
                  · have e : M = 204 := by omega
                    subst e
                    exact ch_204
                · by_cases h206 : M < 206
                  · have e : M = 205 := by omega
                    subst e
                    exact ch_205
                  · have e : M = 206 := by omega
                    subst e
                    exact ch_206
              · by_cases h209 : M < 209
                · by_cases h208 : M < 208
                  · have e : M = 207 := by omega
                    subst e
                    exact ch_207
                  · have e : M = 208 := by omega
                    subst e
                    exact ch_208
                · by_cases h210 : M < 210
                  · have e : M = 209 := by omega
                    subst e
                    exact ch_209
                  · by_cases h211 : M < 211
                    · have e : M = 210 := by omega
                      subst e
                      exact ch_210
                    · have e : M = 211 := by omega
                      subst e
                      exact ch_211
            · by_cases h217 : M < 217
              · by_cases h214 : M < 214
                · by_cases h213 : M < 213
                  · have e : M = 212 := by omega
                    subst e
                    exact ch_212
                  · have e : M = 213 := by omega
                    subst e
                    exact ch_213
                · by_cases h215 : M < 215
                  · have e : M = 214 := by omega
                    subst e
                    exact ch_214
                  · by_cases h216 : M < 216
                    · have e : M = 215 := by omega
                      subst e
                      exact ch_215
                    · have e : M = 216 := by omega
                      subst e
                      exact ch_216
              · by_cases h219 : M < 219
                · by_cases h218 : M < 218
                  · have e : M = 217 := by omega
                    subst e
                    exact ch_217
                  · have e : M = 218 := by omega
                    subst e
                    exact ch_218
                · by_cases h220 : M < 220
                  · have e : M = 219 := by omega
                    subst e
                    exact ch_219
                  · by_cases h221 : M < 221
                    · have e : M = 220 := by omega
                      subst e
                      exact ch_220
                    · have e : M = 221 := by omega
                      subst e
                      exact ch_221
      · by_cases h259 : M < 259
        · by_cases h240 : M < 240
          · by_cases h231 : M < 231
            · by_cases h226 : M < 226
              · by_cases h224 : M < 224
                · by_cases h223 : M < 223
                  · have e : M = 222 := by omega
                    subst e
                    exact ch_222
                  · have e : M = 223 := by omega
                    subst e
                    exact ch_223
                · by_cases h225 : M < 225
                  · have e : M = 224 := by omega
                    subst e
                    exact ch_224
                  · have e : M = 225 := by omega
                    subst e
                    exact ch_225
              · by_cases h228 : M < 228
                · by_cases h227 : M < 227
                  · have e : M = 226 := by omega
                    subst e
                    exact ch_226
                  · have e : M = 227 := by omega
                    subst e
                    exact ch_227
                · by_cases h229 : M < 229
                  · have e : M = 228 := by omega
                    subst e
                    exact ch_228
                  · by_cases h230 : M < 230
                    · have e : M = 229 := by omega
                      subst e
                      exact ch_229
                    · have e : M = 230 := by omega
                      subst e
                      exact ch_230
            · by_cases h235 : M < 235
              · by_cases h233 : M < 233
                · by_cases h232 : M < 232
                  · have e : M = 231 := by omega
                    subst e
                    exact ch_231
                  · have e : M = 232 := by omega
                    subst e
                    exact ch_232
                · by_cases h234 : M < 234
                  · have e : M = 233 := by omega
                    subst e
                    exact ch_233
                  · have e : M = 234 := by omega
                    subst e
                    exact ch_234
              · by_cases h237 : M < 237
                · by_cases h236 : M < 236
                  · have e : M = 235 := by omega
                    subst e
                    exact ch_235
                  · have e : M = 236 := by omega
                    subst e
                    exact ch_236
                · by_cases h238 : M < 238
                  · have e : M = 237 := by omega
                    subst e
                    exact ch_237
                  · by_cases h239 : M < 239
                    · have e : M = 238 := by omega
                      subst e
                      exact ch_238
                    · have e : M = 239 := by omega
                      subst e
                      exact ch_239
          · by_cases h249 : M < 249
            · by_cases h244 : M < 244
              · by_cases h242 : M < 242
                · by_cases h241 : M < 241
                  · have e : M = 240 := by omega
                    subst e
                    exact ch_240
                  · have e : M = 241 := by omega
                    subst e
                    exact ch_241
                · by_cases h243 : M < 243
                  · have e : M = 242 := by omega
                    subst e
                    exact ch_242
                  · have e : M = 243 := by omega
                    subst e
                    exact ch_243
              · by_cases h246 : M < 246
                · by_cases h245 : M < 245
                  · have e : M = 244 := by omega
                    subst e
                    exact ch_244
                  · have e : M = 245 := by omega
                    subst e
                    exact ch_245
                · by_cases h247 : M < 247
                  · have e : M = 246 := by omega
                    subst e
                    exact ch_246
                  · by_cases h248 : M < 248
                    · have e : M = 247 := by omega
                      subst e
                      exact ch_247
                    · have e : M = 248 := by omega
                      subst e
                      exact ch_248
            · by_cases h254 : M < 254
              · by_cases h251 : M < 251
                · by_cases h250 : M < 250
                  · have e : M = 249 := by omega
                    subst e
                    exact ch_249
                  · have e : M = 250 := by omega
                    subst e
                    exact ch_250
                · by_cases h252 : M < 252
                  · have e : M = 251 := by omega
                    subst e
                    exact ch_251
                  · by_cases h253 : M < 253
                    · have e : M = 252 := by omega
                      subst e
                      exact ch_252
                    · have e : M = 253 := by omega
                      subst e
                      exact ch_253
              · by_cases h256 : M < 256
                · by_cases h255 : M < 255
                  · have e : M = 254 := by omega
                    subst e
                    exact ch_254
                  · have e : M = 255 := by omega
                    subst e
                    exact ch_255
                · by_cases h257 : M < 257
                  · have e : M = 256 := by omega
                    subst e
                    exact ch_256
                  · by_cases h258 : M < 258
                    · have e : M = 257 := by omega
                      subst e
                      exact ch_257
                    · have e : M = 258 := by omega
                      subst e
                      exact ch_258
        · by_cases h278 : M < 278
          · by_cases h268 : M < 268
            · by_cases h263 : M < 263
              · by_cases h261 : M < 261
                · by_cases h260 : M < 260
                  · have e : M = 259 := by omega
                    subst e
                    exact ch_259
                  · have e : M = 260 := by omega
                    subst e
                    exact ch_260
                · by_cases h262 : M < 262
                  · have e : M = 261 := by omega
                    subst e
                    exact ch_261
                  · have e : M = 262 := by omega
                    subst e
                    exact ch_262
              · by_cases h265 : M < 265
                · by_cases h264 : M < 264
                  · have e : M = 263 := by omega
                    subst e
                    exact ch_263
                  · have e : M = 264 := by omega
                    subst e
                    exact ch_264
                · by_cases h266 : M < 266
                  · have e : M = 265 := by omega
                    subst e
                    exact ch_265
                  · by_cases h267 : M < 267
                    · have e : M = 266 := by omega
                      subst e
                      exact ch_266
                    · have e : M = 267 := by omega
                      subst e
                      exact ch_267
            · by_cases h273 : M < 273
              · by_cases h270 : M < 270
                · by_cases h269 : M < 269
                  · have e : M = 268 := by omega
                    subst e
                    exact ch_268
                  · have e : M = 269 := by omega
                    subst e
                    exact ch_269
                · by_cases h271 : M < 271
                  · have e : M = 270 := by omega
                    subst e
                    exact ch_270
                  · by_cases h272 : M < 272
                    · have e : M = 271 := by omega
                      subst e
                      exact ch_271
                    · have e : M = 272 := by omega
                      subst e
                      exact ch_272
              · by_cases h275 : M < 275
                · by_cases h274 : M < 274
                  · have e : M = 273 := by omega
                    subst e
                    exact ch_273
                  · have e : M = 274 := by omega
                    subst e
                    exact ch_274
                · by_cases h276 : M < 276
                  · have e : M = 275 := by omega
                    subst e
                    exact ch_275
                  · by_cases h277 : M < 277
                    · have e : M = 276 := by omega
                      subst e
                      exact ch_276
                    · have e : M = 277 := by omega
                      subst e
                      exact ch_277
          · by_cases h287 : M < 287
            · by_cases h282 : M < 282
              · by_cases h280 : M < 280
                · by_cases h279 : M < 279
                  · have e : M = 278 := by omega
                    subst e
                    exact ch_278
                  · have e : M = 279 := by omega
                    subst e
                    exact ch_279
                · by_cases h281 : M < 281
                  · have e : M = 280 := by omega
                    subst e
                    exact ch_280
                  · have e : M = 281 := by omega
                    subst e
                    exact ch_281
              · by_cases h284 : M < 284
                · by_cases h283 : M < 283
                  · have e : M = 282 := by omega
                    subst e
                    exact ch_282
                  · have e : M = 283 := by omega
                    subst e
                    exact ch_283
                · by_cases h285 : M < 285
                  · have e : M = 284 := by omega
                    subst e
                    exact ch_284
                  · by_cases h286 : M < 286
                    · have e : M = 285 := by omega
                      subst e
                      exact ch_285
                    · have e : M = 286 := by omega
                      subst e
                      exact ch_286
            · by_cases h292 : M < 292
              · by_cases h289 : M < 289
                · by_cases h288 : M < 288
                  · have e : M = 287 := by omega
                    subst e
                    exact ch_287
                  · have e : M = 288 := by omega
                    subst e
                    exact ch_288
                · by_cases h290 : M < 290
                  · have e : M = 289 := by omega
                    subst e
                    exact ch_289
                  · by_cases h291 : M < 291
                    · have e : M = 290 := by omega
                      subst e
                      exact ch_290
                    · have e : M = 291 := by omega
                      subst e
                      exact ch_291
              · by_cases h294 : M < 294
                · by_cases h293 : M < 293
                  · have e : M = 292 := by omega
                    subst e
                    exact ch_292
                  · have e : M = 293 := by omega
                    subst e
                    exact ch_293
                · by_cases h295 : M < 295
                  · have e : M = 294 := by omega
                    subst e
                    exact ch_294
                  · by_cases h296 : M < 296
                    · have e : M = 295 := by omega
                      subst e
                      exact ch_295
                    · have e : M = 296 := by omega
                      subst e
                      exact ch_296
theorem ck_all (M : Nat) (h : M < 297) (pc : Nat) : ckI M pc = true := by
  · by_cases h148 : M < 148
    · by_cases h74 : M < 74
      · by_cases h37 : M < 37
        · by_cases h18 : M < 18
          · by_cases h9 : M < 9
            · by_cases h4 : M < 4
              · by_cases h2 : M < 2
                · by_cases h1 : M < 1
                  · have e : M = 0 := by omega
                    subst e
                    exact ck_0 pc
                  · have e : M = 1 := by omega
                    subst e
                    exact ck_1 pc
                · by_cases h3 : M < 3
                  · have e : M = 2 := by omega
                    subst e
                    exact ck_2 pc
                  · have e : M = 3 := by omega
                    subst e
                    exact ck_3 pc
              · by_cases h6 : M < 6
                · by_cases h5 : M < 5
                  · have e : M = 4 := by omega
                    subst e
                    exact ck_4 pc
                  · have e : M = 5 := by omega
                    subst e
                    exact ck_5 pc
                · by_cases h7 : M < 7
                  · have e : M = 6 := by omega
                    subst e
                    exact ck_6 pc
                  · by_cases h8 : M < 8
                    · have e : M = 7 := by omega
                      subst e
                      exact ck_7 pc
                    · have e : M = 8 := by omega
                      subst e
                      exact ck_8 pc
            · by_cases h13 : M < 13
              · by_cases h11 : M < 11
                · by_cases h10 : M < 10
                  · have e : M = 9 := by omega
                    subst e
                    exact ck_9 pc
                  · have e : M = 10 := by omega
                    subst e
                    exact ck_10 pc
                · by_cases h12 : M < 12
                  · have e : M = 11 := by omega
                    subst e
                    exact ck_11 pc
                  · have e : M = 12 := by omega
                    subst e
                    exact ck_12 pc
              · by_cases h15 : M < 15
                · by_cases h14 : M < 14
                  · have e : M = 13 := by omega
                    subst e
                    exact ck_13 pc
                  · have e : M = 14 := by omega
                    subst e
                    exact ck_14 pc
                · by_cases h16 : M < 16
                  · have e : M = 15 := by omega
                    subst e
                    exact ck_15 pc
                  · by_cases h17 : M < 17
                    · have e : M = 16 := by omega
                      subst e
                      exact ck_16 pc
                    · have e : M = 17 := by omega
                      subst e
                      exact ck_17 pc
          · by_cases h27 : M < 27
            · by_cases h22 : M < 22
              · by_cases h20 : M < 20
                · by_cases h19 : M < 19
                  · have e : M = 18 := by omega
                    subst e
                    exact ck_18 pc
                  · have e : M = 19 := by omega
                    subst e
                    exact ck_19 pc
                · by_cases h21 : M < 21
                  · have e : M = 20 := by omega
                    subst e
                    exact ck_20 pc
                  · have e : M = 21 := by omega
                    subst e
                    exact ck_21 pc
              · by_cases h24 : M < 24
                · by_cases h23 : M < 23
                  · have e : M = 22 := by omega
                    subst e
                    exact ck_22 pc
                  · have e : M = 23 := by omega
                    subst e
                    exact ck_23 pc
                · by_cases h25 : M < 25
                  · have e : M = 24 := by omega
                    subst e
                    exact ck_24 pc
                  · by_cases h26 : M < 26
                    · have e : M = 25 := by omega
                      subst e
                      exact ck_25 pc
                    · have e : M = 26 := by omega
                      subst e
                      exact ck_26 pc
            · by_cases h32 : M < 32
              · by_cases h29 : M < 29
                · by_cases h28 : M < 28
                  · have e : M = 27 := by omega
                    subst e
                    exact ck_27 pc
                  · have e : M = 28 := by omega
                    subst e
                    exact ck_28 pc
                · by_cases h30 : M < 30
                  · have e : M = 29 := by omega
                    subst e
                    exact ck_29 pc
                  · by_cases h31 : M < 31
                    · have e : M = 30 := by omega
                      subst e
                      exact ck_30 pc
                    · have e : M = 31 := by omega
                      subst e
                      exact ck_31 pc
              · by_cases h34 : M < 34
                · by_cases h33 : M < 33
                  · have e : M = 32 := by omega
                    subst e
                    exact ck_32 pc
                  · have e : M = 33 := by omega
                    subst e
                    exact ck_33 pc
                · by_cases h35 : M < 35
                  · have e : M = 34 := by omega
                    subst e
                    exact ck_34 pc
                  · by_cases h36 : M < 36
                    · have e : M = 35 := by omega
                      subst e
                      exact ck_35 pc
                    · have e : M = 36 := by omega
                      subst e
                      exact ck_36 pc
        · by_cases h55 : M < 55
          · by_cases h46 : M < 46
            · by_cases h41 : M < 41
              · by_cases h39 : M < 39
                · by_cases h38 : M < 38
                  · have e : M = 37 := by omega
                    subst e
                    exact ck_37 pc
                  · have e : M = 38 := by omega
                    subst e
                    exact ck_38 pc
                · by_cases h40 : M < 40
                  · have e : M = 39 := by omega
                    subst e
                    exact ck_39 pc
                  · have e : M = 40 := by omega
                    subst e
                    exact ck_40 pc
              · by_cases h43 : M < 43
                · by_cases h42 : M < 42
                  · have e : M = 41 := by omega
                    subst e
                    exact ck_41 pc
                  · have e : M = 42 := by omega
                    subst e
                    exact ck_42 pc
                · by_cases h44 : M < 44
                  · have e : M = 43 := by omega
                    subst e
                    exact ck_43 pc
                  · by_cases h45 : M < 45
                    · have e : M = 44 := by omega
                      subst e
                      exact ck_44 pc
                    · have e : M = 45 := by omega
                      subst e
                      exact ck_45 pc
            · by_cases h50 : M < 50
              · by_cases h48 : M < 48
                · by_cases h47 : M < 47
                  · have e : M = 46 := by omega
                    subst e
                    exact ck_46 pc
                  · have e : M = 47 := by omega
                    subst e
                    exact ck_47 pc
                · by_cases h49 : M < 49
                  · have e : M = 48 := by omega
                    subst e
                    exact ck_48 pc
                  · have e : M = 49 := by omega
                    subst e
                    exact ck_49 pc
              · by_cases h52 : M < 52
                · by_cases h51 : M < 51
                  · have e : M = 50 := by omega
                    subst e
                    exact ck_50 pc
                  · have e : M = 51 := by omega
                    subst e
                    exact ck_51 pc
                · by_cases h53 : M < 53
                  · have e : M = 52 := by omega
                    subst e
                    exact ck_52 pc
                  · by_cases h54 : M < 54
                    · have e : M = 53 := by omega
                      subst e
                      exact ck_53 pc
                    · have e : M = 54 := by omega
                      subst e
                      exact ck_54 pc
          · by_cases h64 : M < 64
            · by_cases h59 : M < 59
              · by_cases h57 : M < 57
                · by_cases h56 : M < 56
                  · have e : M = 55 := by omega
                    subst e
                    exact ck_55 pc
                  · have e : M = 56 := by omega
                    subst e
                    exact ck_56 pc
                · by_cases h58 : M < 58
                  · have e : M = 57 := by omega
                    subst e
                    exact ck_57 pc
                  · have e : M = 58 := by omega
                    subst e
                    exact ck_58 pc
              · by_cases h61 : M < 61
                · by_cases h60 : M < 60
                  · have e : M = 59 := by omega
                    subst e
                    exact ck_59 pc
                  · have e : M = 60 := by omega
                    subst e
                    exact ck_60 pc
                · by_cases h62 : M < 62
                  · have e : M = 61 := by omega
                    subst e
                    exact ck_61 pc
                  · by_cases h63 : M < 63
                    · have e : M = 62 := by omega
                      subst e
                      exact ck_62 pc
                    · have e : M = 63 := by omega
                      subst e
                      exact ck_63 pc
            · by_cases h69 : M < 69
              · by_cases h66 : M < 66
                · by_cases h65 : M < 65
                  · have e : M = 64 := by omega
                    subst e
                    exact ck_64 pc
                  · have e : M = 65 := by omega
                    subst e
                    exact ck_65 pc
                · by_cases h67 : M < 67
                  · have e : M = 66 := by omega
                    subst e
                    exact ck_66 pc
                  · by_cases h68 : M < 68
                    · have e : M = 67 := by omega
                      subst e
                      exact ck_67 pc
                    · have e : M = 68 := by omega
                      subst e
                      exact ck_68 pc
              · by_cases h71 : M < 71
                · by_cases h70 : M < 70
                  · have e : M = 69 := by omega
                    subst e
                    exact ck_69 pc
                  · have e : M = 70 := by omega
                    subst e
                    exact ck_70 pc
                · by_cases h72 : M < 72
                  · have e : M = 71 := by omega
                    subst e
                    exact ck_71 pc
                  · by_cases h73 : M < 73
                    · have e : M = 72 := by omega
                      subst e
                      exact ck_72 pc
                    · have e : M = 73 := by omega
                      subst e
                      exact ck_73 pc
      · by_cases h111 : M < 111
        · by_cases h92 : M < 92
          · by_cases h83 : M < 83
            · by_cases h78 : M < 78
              · by_cases h76 : M < 76
                · by_cases h75 : M < 75
                  · have e : M = 74 := by omega
                    subst e
                    exact ck_74 pc
                  · have e : M = 75 := by omega
                    subst e
                    exact ck_75 pc
                · by_cases h77 : M < 77
                  · have e : M = 76 := by omega
                    subst e
                    exact ck_76 pc
                  · have e : M = 77 := by omega
                    subst e
                    exact ck_77 pc
              · by_cases h80 : M < 80
                · by_cases h79 : M < 79
                  · have e : M = 78 := by omega
                    subst e
                    exact ck_78 pc
                  · have e : M = 79 := by omega
                    subst e
                    exact ck_79 pc
                · by_cases h81 : M < 81
                  · have e : M = 80 := by omega
                    subst e
                    exact ck_80 pc
                  · by_cases h82 : M < 82
                    · have e : M = 81 := by omega
                      subst e
                      exact ck_81 pc
                    · have e : M = 82 := by omega
                      subst e
                      exact ck_82 pc
            · by_cases h87 : M < 87
              · by_cases h85 : M < 85
                · by_cases h84 : M < 84
                  · have e : M = 83 := by omega
                    subst e
                    exact ck_83 pc
                  · have e : M = 84 := by omega
                    subst e
                    exact ck_84 pc
                · by_cases h86 : M < 86
                  · have e : M = 85 := by omega
                    subst e
                    exact ck_85 pc
                  · have e : M = 86 := by omega
                    subst e
                    exact ck_86 pc
              · by_cases h89 : M < 89
                · by_cases h88 : M < 88
                  · have e : M = 87 := by omega
                    subst e
                    exact ck_87 pc
                  · have e : M = 88 := by omega
                    subst e
                    exact ck_88 pc
                · by_cases h90 : M < 90
                  · have e : M = 89 := by omega
                    subst e
                    exact ck_89 pc
                  · by_cases h91 : M < 91
                    · have e : M = 90 := by omega
                      subst e
                      exact ck_90 pc
                    · have e : M = 91 := by omega
                      subst e
                      exact ck_91 pc
          · by_cases h101 : M < 101
            · by_cases h96 : M < 96
              · by_cases h94 : M < 94
                · by_cases h93 : M < 93
                  · have e : M = 92 := by omega
                    subst e
                    exact ck_92 pc
                  · have e : M = 93 := by omega
                    subst e
                    exact ck_93 pc
                · by_cases h95 : M < 95
                  · have e : M = 94 := by omega
                    subst e
                    exact ck_94 pc
                  · have e : M = 95 := by omega
                    subst e
                    exact ck_95 pc
              · by_cases h98 : M < 98
                · by_cases h97 : M < 97
                  · have e : M = 96 := by omega
                    subst e
                    exact ck_96 pc
                  · have e : M = 97 := by omega
                    subst e
                    exact ck_97 pc
                · by_cases h99 : M < 99
                  · have e : M = 98 := by omega
                    subst e
                    exact ck_98 pc
                  · by_cases h100 : M < 100
                    · have e : M = 99 := by omega
                      subst e
                      exact ck_99 pc
                    · have e : M = 100 := by omega
                      subst e
                      exact ck_100 pc
            · by_cases h106 : M < 106
              · by_cases h103 : M < 103
                · by_cases h102 : M < 102
                  · have e : M = 101 := by omega
                    subst e
                    exact ck_101 pc
                  · have e : M = 102 := by omega
                    subst e
                    exact ck_102 pc
                · by_cases h104 : M < 104
                  · have e : M = 103 := by omega
                    subst e
                    exact ck_103 pc
                  · by_cases h105 : M < 105
                    · have e : M = 104 := by omega
                      subst e
                      exact ck_104 pc
                    · have e : M = 105 := by omega
                      subst e
                      exact ck_105 pc
              · by_cases h108 : M < 108
                · by_cases h107 : M < 107
                  · have e : M = 106 := by omega
                    subst e
                    exact ck_106 pc
                  · have e : M = 107 := by omega
                    subst e
                    exact ck_107 pc
                · by_cases h109 : M < 109
                  · have e : M = 108 := by omega
                    subst e
                    exact ck_108 pc
                  · by_cases h110 : M < 110
                    · have e : M = 109 := by omega
                      subst e
                      exact ck_109 pc
                    · have e : M = 110 := by omega
                      subst e
                      exact ck_110 pc
        · by_cases h129 : M < 129
          · by_cases h120 : M < 120
            · by_cases h115 : M < 115
              · by_cases h113 : M < 113
                · by_cases h112 : M < 112
                  · have e : M = 111 := by omega
                    subst e
                    exact ck_111 pc
                  · have e : M = 112 := by omega
                    subst e
                    exact ck_112 pc
                · by_cases h114 : M < 114
                  · have e : M = 113 := by omega
                    subst e
                    exact ck_113 pc
                  · have e : M = 114 := by omega
                    subst e
                    exact ck_114 pc
              · by_cases h117 : M < 117
                · by_cases h116 : M < 116
                  · have e : M = 115 := by omega
                    subst e
                    exact ck_115 pc
                  · have e : M = 116 := by omega
                    subst e
                    exact ck_116 pc
                · by_cases h118 : M < 118
                  · have e : M = 117 := by omega
                    subst e
                    exact ck_117 pc
                  · by_cases h119 : M < 119
                    · have e : M = 118 := by omega
                      subst e
                      exact ck_118 pc
                    · have e : M = 119 := by omega
                      subst e
                      exact ck_119 pc
            · by_cases h124 : M < 124
              · by_cases h122 : M < 122
                · by_cases h121 : M < 121
                  · have e : M = 120 := by omega
                    subst e
                    exact ck_120 pc
                  · have e : M = 121 := by omega
                    subst e
                    exact ck_121 pc
                · by_cases h123 : M < 123
                  · have e : M = 122 := by omega
                    subst e
                    exact ck_122 pc
                  · have e : M = 123 := by omega
                    subst e
                    exact ck_123 pc
              · by_cases h126 : M < 126
                · by_cases h125 : M < 125
                  · have e : M = 124 := by omega
                    subst e
                    exact ck_124 pc
                  · have e : M = 125 := by omega
                    subst e
                    exact ck_125 pc
                · by_cases h127 : M < 127
                  · have e : M = 126 := by omega
                    subst e
                    exact ck_126 pc
                  · by_cases h128 : M < 128
                    · have e : M = 127 := by omega
                      subst e
                      exact ck_127 pc
                    · have e : M = 128 := by omega
                      subst e
                      exact ck_128 pc
          · by_cases h138 : M < 138
            · by_cases h133 : M < 133
              · by_cases h131 : M < 131
                · by_cases h130 : M < 130
                  · have e : M = 129 := by omega
                    subst e
                    exact ck_129 pc
                  · have e : M = 130 := by omega
                    subst e
                    exact ck_130 pc
                · by_cases h132 : M < 132
                  · have e : M = 131 := by omega
                    subst e
                    exact ck_131 pc
                  · have e : M = 132 := by omega
                    subst e
                    exact ck_132 pc
              · by_cases h135 : M < 135
                · by_cases h134 : M < 134
                  · have e : M = 133 := by omega
                    subst e
                    exact ck_133 pc
                  · have e : M = 134 := by omega
                    subst e
                    exact ck_134 pc
                · by_cases h136 : M < 136
                  · have e : M = 135 := by omega
                    subst e
                    exact ck_135 pc
                  · by_cases h137 : M < 137
                    · have e : M = 136 := by omega
                      subst e
                      exact ck_136 pc
                    · have e : M = 137 := by omega
                      subst e
                      exact ck_137 pc
            · by_cases h143 : M < 143
              · by_cases h140 : M < 140
                · by_cases h139 : M < 139
                  · have e : M = 138 := by omega
                    subst e
                    exact ck_138 pc
                  · have e : M = 139 := by omega
                    subst e
                    exact ck_139 pc
                · by_cases h141 : M < 141
                  · have e : M = 140 := by omega
                    subst e
                    exact ck_140 pc
                  · by_cases h142 : M < 142
                    · have e : M = 141 := by omega
                      subst e
                      exact ck_141 pc
                    · have e : M = 142 := by omega
                      subst e
                      exact ck_142 pc
              · by_cases h145 : M < 145
                · by_cases h144 : M < 144
                  · have e : M = 143 := by omega
                    subst e
                    exact ck_143 pc
                  · have e : M = 144 := by omega
                    subst e
                    exact ck_144 pc
                · by_cases h146 : M < 146
                  · have e : M = 145 := by omega
                    subst e
                    exact ck_145 pc
                  · by_cases h147 : M < 147
                    · have e : M = 146 := by omega
                      subst e
                      exact ck_146 pc
                    · have e : M = 147 := by omega
                      subst e
                      exact ck_147 pc
    · by_cases h222 : M < 222
      · by_cases h185 : M < 185
        · by_cases h166 : M < 166
          · by_cases h157 : M < 157
            · by_cases h152 : M < 152
              · by_cases h150 : M < 150
                · by_cases h149 : M < 149
                  · have e : M = 148 := by omega
                    subst e
                    exact ck_148 pc
                  · have e : M = 149 := by omega
                    subst e
                    exact ck_149 pc
                · by_cases h151 : M < 151
                  · have e : M = 150 := by omega
                    subst e
                    exact ck_150 pc
                  · have e : M = 151 := by omega
                    subst e
                    exact ck_151 pc
              · by_cases h154 : M < 154
                · by_cases h153 : M < 153
                  · have e : M = 152 := by omega
                    subst e
                    exact ck_152 pc
                  · have e : M = 153 := by omega
                    subst e
                    exact ck_153 pc
                · by_cases h155 : M < 155
                  · have e : M = 154 := by omega
                    subst e
                    exact ck_154 pc
                  · by_cases h156 : M < 156
                    · have e : M = 155 := by omega
                      subst e
                      exact ck_155 pc
                    · have e : M = 156 := by omega
                      subst e
                      exact ck_156 pc
            · by_cases h161 : M < 161
              · by_cases h159 : M < 159
                · by_cases h158 : M < 158
                  · have e : M = 157 := by omega
                    subst e
                    exact ck_157 pc
                  · have e : M = 158 := by omega
                    subst e
                    exact ck_158 pc
                · by_cases h160 : M < 160
                  · have e : M = 159 := by omega
                    subst e
                    exact ck_159 pc
                  · have e : M = 160 := by omega
                    subst e
                    exact ck_160 pc
              · by_cases h163 : M < 163
                · by_cases h162 : M < 162
                  · have e : M = 161 := by omega
                    subst e
                    exact ck_161 pc
                  · have e : M = 162 := by omega
                    subst e
                    exact ck_162 pc
                · by_cases h164 : M < 164
                  · have e : M = 163 := by omega
                    subst e
                    exact ck_163 pc
                  · by_cases h165 : M < 165
                    · have e : M = 164 := by omega
                      subst e
                      exact ck_164 pc
                    · have e : M = 165 := by omega
                      subst e
                      exact ck_165 pc
          · by_cases h175 : M < 175
            · by_cases h170 : M < 170
              · by_cases h168 : M < 168
                · by_cases h167 : M < 167
                  · have e : M = 166 := by omega
                    subst e
                    exact ck_166 pc
                  · have e : M = 167 := by omega
                    subst e
                    exact ck_167 pc
                · by_cases h169 : M < 169
                  · have e : M = 168 := by omega
                    subst e
                    exact ck_168 pc
                  · have e : M = 169 := by omega
                    subst e
                    exact ck_169 pc
              · by_cases h172 : M < 172
                · by_cases h171 : M < 171
                  · have e : M = 170 := by omega
                    subst e
                    exact ck_170 pc
                  · have e : M = 171 := by omega
                    subst e
                    exact ck_171 pc
                · by_cases h173 : M < 173
                  · have e : M = 172 := by omega
                    subst e
                    exact ck_172 pc
                  · by_cases h174 : M < 174
                    · have e : M = 173 := by omega
                      subst e
                      exact ck_173 pc
                    · have e : M = 174 := by omega
                      subst e
                      exact ck_174 pc
            · by_cases h180 : M < 180
              · by_cases h177 : M < 177
                · by_cases h176 : M < 176
                  · have e : M = 175 := by omega
                    subst e
                    exact ck_175 pc
                  · have e : M = 176 := by omega
                    subst e
                    exact ck_176 pc
                · by_cases h178 : M < 178
                  · have e : M = 177 := by omega
                    subst e
                    exact ck_177 pc
                  · by_cases h179 : M < 179
                    · have e : M = 178 := by omega
                      subst e
                      exact ck_178 pc
                    · have e : M = 179 := by omega
                      subst e
                      exact ck_179 pc
              · by_cases h182 : M < 182
                · by_cases h181 : M < 181
                  · have e : M = 180 := by omega
                    subst e
                    exact ck_180 pc
                  · have e : M = 181 := by omega
                    subst e
                    exact ck_181 pc
                · by_cases h183 : M < 183
                  · have e : M = 182 := by omega
                    subst e
                    exact ck_182 pc
                  · by_cases h184 : M < 184
                    · have e : M = 183 := by omega
                      subst e
                      exact ck_183 pc
                    · have e : M = 184 := by omega
                      subst e
                      exact ck_184 pc
        · by_cases h203 : M < 203
          · by_cases h194 : M < 194
            · by_cases h189 : M < 189
              · by_cases h187 : M < 187
                · by_cases h186 : M < 186
                  · have e : M = 185 := by omega
                    subst e
                    exact ck_185 pc
                  · have e : M = 186 := by omega
                    subst e
                    exact ck_186 pc
                · by_cases h188 : M < 188
                  · have e : M = 187 := by omega
                    subst e
                    exact ck_187 pc
                  · have e : M = 188 := by omega
                    subst e
                    exact ck_188 pc
              · by_cases h191 : M < 191
                · by_cases h190 : M < 190
                  · have e : M = 189 := by omega
                    subst e
                    exact ck_189 pc
                  · have e : M = 190 := by omega
                    subst e
                    exact ck_190 pc
                · by_cases h192 : M < 192
                  · have e : M = 191 := by omega
                    subst e
                    exact ck_191 pc
                  · by_cases h193 : M < 193
                    · have e : M = 192 := by omega
                      subst e
                      exact ck_192 pc
                    · have e : M = 193 := by omega
                      subst e
                      exact ck_193 pc
            · by_cases h198 : M < 198
              · by_cases h196 : M < 196
                · by_cases h195 : M < 195
                  · have e : M = 194 := by omega
                    subst e
                    exact ck_194 pc
                  · have e : M = 195 := by omega
                    subst e
                    exact ck_195 pc
                · by_cases h197 : M < 197
                  · have e : M = 196 := by omega
                    subst e
                    exact ck_196 pc
                  · have e : M = 197 := by omega
                    subst e
                    exact ck_197 pc
              · by_cases h200 : M < 200
                · by_cases h199 : M < 199
                  · have e : M = 198 := by omega
                    subst e
                    exact ck_198 pc
                  · have e : M = 199 := by omega
                    subst e
                    exact ck_199 pc
                · by_cases h201 : M < 201
                  · have e : M = 200 := by omega
                    subst e
                    exact ck_200 pc
                  · by_cases h202 : M < 202
                    · have e : M = 201 := by omega
                      subst e
                      exact ck_201 pc
                    · have e : M = 202 := by omega
                      subst e
                      exact ck_202 pc
          · by_cases h212 : M < 212
            · by_cases h207 : M < 207
              · by_cases h205 : M < 205
                · by_cases h204 : M < 204
                  · have e : M = 203 := by omega
                    subst e
                    exact ck_203 pc
                  · have e : M = 204 := by omega
                    subst e
                    exact ck_204 pc
                · by_cases h206 : M < 206
                  · have e : M = 205 := by omega
                    subst e
                    exact ck_205 pc
                  · have e : M = 206 := by omega
                    subst e
                    exact ck_206 pc
              · by_cases h209 : M < 209
                · by_cases h208 : M < 208
                  · have e : M = 207 := by omega
                    subst e
                    exact ck_207 pc
                  · have e : M = 208 := by omega
                    subst e
                    exact ck_208 pc
                · by_cases h210 : M < 210
                  · have e : M = 209 := by omega
                    subst e
                    exact ck_209 pc
                  · by_cases h211 : M < 211
                    · have e : M = 210 := by omega
                      subst e
                      exact ck_210 pc
                    · have e : M = 211 := by omega
                      subst e
                      exact ck_211 pc
            · by_cases h217 : M < 217
              · by_cases h214 : M < 214
                · by_cases h213 : M < 213
                  · have e : M = 212 := by omega
                    subst e
                    exact ck_212 pc
                  · have e : M = 213 := by omega
                    subst e
                    exact ck_213 pc
                · by_cases h215 : M < 215
                  · have e : M = 214 := by omega
                    subst e
                    exact ck_214 pc
                  · by_cases h216 : M < 216
                    · have e : M = 215 := by omega
                      subst e
                      exact ck_215 pc
                    · have e : M = 216 := by omega
                      subst e
                      exact ck_216 pc
              · by_cases h219 : M < 219
                · by_cases h218 : M < 218
                  · have e : M = 217 := by omega
                    subst e
                    exact ck_217 pc
                  · have e : M = 218 := by omega
                    subst e
                    exact ck_218 pc
                · by_cases h220 : M < 220
                  · have e : M = 219 := by omega
                    subst e
                    exact ck_219 pc
                  · by_cases h221 : M < 221
                    · have e : M = 220 := by omega
                      subst e
                      exact ck_220 pc
                    · have e : M = 221 := by omega
                      subst e
                      exact ck_221 pc
      · by_cases h259 : M < 259
        · by_cases h240 : M < 240
          · by_cases h231 : M < 231
            · by_cases h226 : M < 226
              · by_cases h224 : M < 224
                · by_cases h223 : M < 223
                  · have e : M = 222 := by omega
                    subst e
                    exact ck_222 pc
                  · have e : M = 223 := by omega
                    subst e
                    exact ck_223 pc
                · by_cases h225 : M < 225
                  · have e : M = 224 := by omega
                    subst e
                    exact ck_224 pc
                  · have e : M = 225 := by omega
                    subst e
                    exact ck_225 pc
              · by_cases h228 : M < 228
                · by_cases h227 : M < 227
                  · have e : M = 226 := by omega
                    subst e
                    exact ck_226 pc
                  · have e : M = 227 := by omega
                    subst e
                    exact ck_227 pc
                · by_cases h229 : M < 229
                  · have e : M = 228 := by omega
                    subst e
                    exact ck_228 pc
                  · by_cases h230 : M < 230
                    · have e : M = 229 := by omega
                      subst e
                      exact ck_229 pc
                    · have e : M = 230 := by omega
                      subst e
                      exact ck_230 pc
            · by_cases h235 : M < 235
              · by_cases h233 : M < 233
                · by_cases h232 : M < 232
                  · have e : M = 231 := by omega
                    subst e
                    exact ck_231 pc
                  · have e : M = 232 := by omega
                    subst e
                    exact ck_232 pc
                · by_cases h234 : M < 234
                  · have e : M = 233 := by omega
                    subst e
                    exact ck_233 pc
                  · have e : M = 234 := by omega
                    subst e
                    exact ck_234 pc
              · by_cases h237 : M < 237
                · by_cases h236 : M < 236
                  · have e : M = 235 := by omega
                    subst e
                    exact ck_235 pc
                  · have e : M = 236 := by omega
                    subst e
                    exact ck_236 pc
                · by_cases h238 : M < 238
                  · have e : M = 237 := by omega
                    subst e
                    exact ck_237 pc
                  · by_cases h239 : M < 239
                    · have e : M = 238 := by omega
                      subst e
                      exact ck_238 pc
                    · have e : M = 239 := by omega
                      subst e
                      exact ck_239 pc
          · by_cases h249 : M < 249
            · by_cases h244 : M < 244
              · by_cases h242 : M < 242
                · by_cases h241 : M < 241
                  · have e : M = 240 := by omega
                    subst e
                    exact ck_240 pc
                  · have e : M = 241 := by omega
                    subst e
                    exact ck_241 pc
                · by_cases h243 : M < 243
                  · have e : M = 242 := by omega
                    subst e
                    exact ck_242 pc
                  · have e : M = 243 := by omega
                    subst e
                    exact ck_243 pc
              · by_cases h246 : M < 246
                · by_cases h245 : M < 245
                  · have e : M = 244 := by omega
                    subst e
                    exact ck_244 pc
                  · have e : M = 245 := by omega
                    subst e
                    exact ck_245 pc
                · by_cases h247 : M < 247
                  · have e : M = 246 := by omega
                    subst e
                    exact ck_246 pc
                  · by_cases h248 : M < 248
                    · have e : M = 247 := by omega
                      subst e
                      exact ck_247 pc
                    · have e : M = 248 := by omega
                      subst e
                      exact ck_248 pc
            · by_cases h254 : M < 254
              · by_cases h251 : M < 251
                · by_cases h250 : M < 250
                  · have e : M = 249 := by omega
                    subst e
                    exact ck_249 pc
                  · have e : M = 250 := by omega
                    subst e
                    exact ck_250 pc
                · by_cases h252 : M < 252
                  · have e : M = 251 := by omega
                    subst e
                    exact ck_251 pc
                  · by_cases h253 : M < 253
                    · have e : M = 252 := by omega
                      subst e
                      exact ck_252 pc
                    · have e : M = 253 := by omega
                      subst e
                      exact ck_253 pc
              · by_cases h256 : M < 256
                · by_cases h255 : M < 255
                  · have e : M = 254 := by omega
                    subst e
                    exact ck_254 pc
                  · have e : M = 255 := by omega
                    subst e
                    exact ck_255 pc
                · by_cases h257 : M < 257
                  · have e : M = 256 := by omega
                    subst e
                    exact ck_256 pc
                  · by_cases h258 : M < 258
                    · have e : M = 257 := by omega
                      subst e
                      exact ck_257 pc
                    · have e : M = 258 := by omega
                      subst e
                      exact ck_258 pc
        · by_cases h278 : M < 278
          · by_cases h268 : M < 268
            · by_cases h263 : M < 263
              · by_cases h261 : M < 261
                · by_cases h260 : M < 260
                  · have e : M = 259 := by omega
                    subst e
                    exact ck_259 pc
                  · have e : M = 260 := by omega
                    subst e
                    exact ck_260 pc
                · by_cases h262 : M < 262
                  · have e : M = 261 := by omega
                    subst e
                    exact ck_261 pc
                  · have e : M = 262 := by omega
                    subst e
                    exact ck_262 pc
              · by_cases h265 : M < 265
                · by_cases h264 : M < 264
                  · have e : M = 263 := by omega
                    subst e
                    exact ck_263 pc
                  · have e : M = 264 := by omega
                    subst e
                    exact ck_264 pc
                · by_cases h266 : M < 266
                  · have e : M = 265 := by omega
                    subst e
                    exact ck_265 pc
                  · by_cases h267 : M < 267
                    · have e : M = 266 := by omega
                      subst e
                      exact ck_266 pc
                    · have e : M = 267 := by omega
                      subst e
                      exact ck_267 pc
            · by_cases h273 : M < 273
              · by_cases h270 : M < 270
                · by_cases h269 : M < 269
                  · have e : M = 268 := by omega
                    subst e
                    exact ck_268 pc
                  · have e : M = 269 := by omega
                    subst e
                    exact ck_269 pc
                · by_cases h271 : M < 271
                  · have e : M = 270 := by omega
                    subst e
                    exact ck_270 pc
                  · by_cases h272 : M < 272
                    · have e : M = 271 := by omega
                      subst e
                      exact ck_271 pc
                    · have e : M = 272 := by omega
                      subst e
                      exact ck_272 pc
              · by_cases h275 : M < 275
                · by_cases h274 : M < 274
                  · have e : M = 273 := by omega
                    subst e
                    exact ck_273 pc
                  · have e : M = 274 := by omega
                    subst e
                    exact ck_274 pc
                · by_cases h276 : M < 276
                  · have e : M = 275 := by omega
                    subst e
                    exact ck_275 pc
                  · by_cases h277 : M < 277
                    · have e : M = 276 := by omega
                      subst e
                      exact ck_276 pc
                    · have e : M = 277 := by omega
                      subst e
                      exact ck_277 pc
          · by_cases h287 : M < 287
            · by_cases h282 : M < 282
              · by_cases h280 : M < 280
                · by_cases h279 : M < 279
                  · have e : M = 278 := by omega
                    subst e
                    exact ck_278 pc
                  · have e : M = 279 := by omega
                    subst e
                    exact ck_279 pc
                · by_cases h281 : M < 281
                  · have e : M = 280 := by omega
                    subst e
                    exact ck_280 pc
                  · have e : M = 281 := by omega
                    subst e
                    exact ck_281 pc
              · by_cases h284 : M < 284
                · by_cases h283 : M < 283
                  · have e : M = 282 := by omega
                    subst e
                    exact ck_282 pc
                  · have e : M = 283 := by omega
                    subst e
                    exact ck_283 pc
                · by_cases h285 : M < 285
                  · have e : M = 284 := by omega
                    subst e
                    exact ck_284 pc
                  · by_cases h286 : M < 286
                    · have e : M = 285 := by omega
                      subst e
                      exact ck_285 pc
                    · have e : M = 286 := by omega
                      subst e
                      exact ck_286 pc
            · by_cases h292 : M < 292
              · by_cases h289 : M < 289
                · by_cases h288 : M < 288
                  · have e : M = 287 := by omega
                    subst e
                    exact ck_287 pc
                  · have e : M = 288 := by omega
                    subst e
                    exact ck_288 pc
                · by_cases h290 : M < 290
                  · have e : M = 289 := by omega
                    subst e
                    exact ck_289 pc
                  · by_cases h291 : M < 291
                    · have e : M = 290 := by omega
                      subst e
                      exact ck_290 pc
                    · have e : M = 291 := by omega
                      subst e
                      exact ck_291 pc
              · by_cases h294 : M < 294
                · by_cases h293 : M < 293
                  · have e : M = 292 := by omega
                    subst e
                    exact ck_292 pc
                  · have e : M = 293 := by omega
                    subst e
                    exact ck_293 pc
                · by_cases h295 : M < 295
                  · have e : M = 294 := by omega
                    subst e
                    exact ck_294 pc
                  · by_cases h296 : M < 296
                    · have e : M = 295 := by omega
                      subst e
                      exact ck_295 pc
                    · have e : M = 296 := by omega
                      subst e
                      exact ck_296 pc
theorem ch7l : (List.range 297).all (fun M => ! Nat.beq (rtg (mR M)) 7) = true := by decide +kernel
theorem ch7 (M : Nat) (h : M < 297) : rtg (mR M) ≠ 7 := fun h7 => by
  have := List.all_eq_true.mp ch7l M (List.mem_range.mpr h)
  rw [h7] at this
  exact absurd this (by decide)
