/-! EVERY METHOD BUT TWO, and those without a table -/
set_option maxRecDepth 100000 in
theorem okg_0 {m : Nat} (h1 : 0 ≤ m) (h2 : m < 20) (h8 : m ≠ 8) (h9 : m ≠ 9) (hne : qq_tab.getD m [] ≠ []) : qq_okm m = true := by
  by_cases e0 : m = 0
  · subst e0; exact t_a0
  by_cases e1 : m = 1
  · subst e1; exact t_a1
  by_cases e2 : m = 2
  · subst e2; exact t_a2
  by_cases e3 : m = 3
  · subst e3; exact t_a3
  by_cases e4 : m = 4
  · subst e4; exact t_a4
  by_cases e5 : m = 5
  · subst e5; exact t_a5
  by_cases e6 : m = 6
  · subst e6; exact t_a6
  by_cases e7 : m = 7
  · subst e7; exact t_a7
  by_cases e10 : m = 10
  · subst e10; exact t_a10
  by_cases e11 : m = 11
  · subst e11; exact t_a11
  by_cases e12 : m = 12
  · subst e12; exact t_a12
  by_cases e13 : m = 13
  · subst e13; exact t_a13
  by_cases e14 : m = 14
  · subst e14; exact t_a14
  by_cases e15 : m = 15
  · subst e15; exact t_a15
  by_cases e16 : m = 16
  · subst e16; exact t_a16
  by_cases e17 : m = 17
  · subst e17; exact t_a17
  by_cases e18 : m = 18
  · subst e18; exact t_a18
  by_cases e19 : m = 19
  · subst e19; exact t_a19
  omega
set_option maxRecDepth 100000 in
theorem okg_20 {m : Nat} (h1 : 20 ≤ m) (h2 : m < 40) (h8 : m ≠ 8) (h9 : m ≠ 9) (hne : qq_tab.getD m [] ≠ []) : qq_okm m = true := by
  by_cases e20 : m = 20
  · subst e20; exact t_a20
  by_cases e21 : m = 21
  · subst e21; exact t_a21
  by_cases e22 : m = 22
  · subst e22; exact t_a22
  by_cases e23 : m = 23
  · subst e23; exact t_a23
  by_cases e24 : m = 24
  · subst e24; exact t_a24
  by_cases e25 : m = 25
  · subst e25; exact t_a25
  by_cases e26 : m = 26
  · subst e26; exact t_a26
  by_cases e27 : m = 27
  · subst e27; exact t_a27
  by_cases e28 : m = 28
  · subst e28; exact t_a28
  by_cases e29 : m = 29
  · subst e29; exact t_a29
  by_cases e30 : m = 30
  · subst e30; exact t_a30
  by_cases e31 : m = 31
  · subst e31; exact t_a31
  by_cases e32 : m = 32
  · subst e32; exact t_a32
  by_cases e33 : m = 33
  · subst e33; exact t_a33
  by_cases e34 : m = 34
  · subst e34; exact t_a34
  by_cases e35 : m = 35
  · subst e35; exact t_a35
  by_cases e36 : m = 36
  · subst e36; exact t_a36
  by_cases e37 : m = 37
  · subst e37; exact t_a37
  by_cases e38 : m = 38
  · subst e38; exact t_a38
  by_cases e39 : m = 39
  · subst e39; exact t_a39
  omega
set_option maxRecDepth 100000 in
theorem okg_40 {m : Nat} (h1 : 40 ≤ m) (h2 : m < 60) (h8 : m ≠ 8) (h9 : m ≠ 9) (hne : qq_tab.getD m [] ≠ []) : qq_okm m = true := by
  by_cases e40 : m = 40
  · subst e40; exact t_a40
  by_cases e41 : m = 41
  · subst e41; exact t_a41
  by_cases e42 : m = 42
  · subst e42; exact t_a42
  by_cases e43 : m = 43
  · subst e43; exact t_a43
  by_cases e44 : m = 44
  · subst e44; exact t_a44
  by_cases e45 : m = 45
  · subst e45; exact t_a45
  by_cases e46 : m = 46
  · subst e46; exact t_a46
  by_cases e47 : m = 47
  · subst e47; exact t_a47
  by_cases e48 : m = 48
  · subst e48; exact t_a48
  by_cases e49 : m = 49
  · subst e49; exact t_a49
  by_cases e50 : m = 50
  · subst e50; exact t_a50
  by_cases e51 : m = 51
  · subst e51; exact t_a51
  by_cases e52 : m = 52
  · subst e52; exact t_a52
  by_cases e53 : m = 53
  · subst e53; exact t_a53
  by_cases e54 : m = 54
  · subst e54; exact t_a54
  by_cases e55 : m = 55
  · subst e55; exact t_a55
  by_cases e56 : m = 56
  · subst e56; exact t_a56
  by_cases e57 : m = 57
  · subst e57; exact t_a57
  by_cases e58 : m = 58
  · subst e58; exact t_a58
  by_cases e59 : m = 59
  · subst e59; exact t_a59
  omega
set_option maxRecDepth 100000 in
theorem okg_60 {m : Nat} (h1 : 60 ≤ m) (h2 : m < 80) (h8 : m ≠ 8) (h9 : m ≠ 9) (hne : qq_tab.getD m [] ≠ []) : qq_okm m = true := by
  by_cases e60 : m = 60
  · subst e60; exact t_a60
  by_cases e61 : m = 61
  · subst e61; exact t_a61
  by_cases e62 : m = 62
  · subst e62; exact t_a62
  by_cases e63 : m = 63
  · subst e63; exact t_a63
  by_cases e64 : m = 64
  · subst e64; exact t_a64
  by_cases e65 : m = 65
  · subst e65; exact t_a65
  by_cases e66 : m = 66
  · subst e66; exact t_a66
  by_cases e67 : m = 67
  · subst e67; exact t_a67
  by_cases e68 : m = 68
  · subst e68; exact t_a68
  by_cases e69 : m = 69
  · subst e69; exact t_a69
  by_cases e70 : m = 70
  · subst e70; exact t_a70
  by_cases e71 : m = 71
  · subst e71; exact absurd (show qq_tab.getD 71 [] = [] from rfl) hne
  by_cases e72 : m = 72
  · subst e72; exact absurd (show qq_tab.getD 72 [] = [] from rfl) hne
  by_cases e73 : m = 73
  · subst e73; exact t_a73
  by_cases e74 : m = 74
  · subst e74; exact t_a74
  by_cases e75 : m = 75
  · subst e75; exact t_a75
  by_cases e76 : m = 76
  · subst e76; exact t_a76
  by_cases e77 : m = 77
  · subst e77; exact t_a77
  by_cases e78 : m = 78
  · subst e78; exact t_a78
  by_cases e79 : m = 79
  · subst e79; exact t_a79
  omega
set_option maxRecDepth 100000 in
theorem okg_80 {m : Nat} (h1 : 80 ≤ m) (h2 : m < 100) (h8 : m ≠ 8) (h9 : m ≠ 9) (hne : qq_tab.getD m [] ≠ []) : qq_okm m = true := by
  by_cases e80 : m = 80
  · subst e80; exact t_a80
  by_cases e81 : m = 81
  · subst e81; exact t_a81
  by_cases e82 : m = 82
  · subst e82; exact t_a82
  by_cases e83 : m = 83
  · subst e83; exact t_a83
  by_cases e84 : m = 84
  · subst e84; exact t_a84
  by_cases e85 : m = 85
  · subst e85; exact t_a85
  by_cases e86 : m = 86
  · subst e86; exact t_a86
  by_cases e87 : m = 87
  · subst e87; exact t_a87
  by_cases e88 : m = 88
  · subst e88; exact t_a88
  by_cases e89 : m = 89
  · subst e89; exact t_a89
  by_cases e90 : m = 90
  · subst e90; exact t_a90
  by_cases e91 : m = 91
  · subst e91; exact t_a91
  by_cases e92 : m = 92
  · subst e92; exact t_a92
  by_cases e93 : m = 93
  · subst e93; exact t_a93
  by_cases e94 : m = 94
  · subst e94; exact t_a94
  by_cases e95 : m = 95
  · subst e95; exact t_a95
  by_cases e96 : m = 96
  · subst e96; exact t_a96
  by_cases e97 : m = 97
  · subst e97; exact t_a97
  by_cases e98 : m = 98
  · subst e98; exact t_a98
  by_cases e99 : m = 99
  · subst e99; exact t_a99
  omega
set_option maxRecDepth 100000 in
theorem okg_100 {m : Nat} (h1 : 100 ≤ m) (h2 : m < 120) (h8 : m ≠ 8) (h9 : m ≠ 9) (hne : qq_tab.getD m [] ≠ []) : qq_okm m = true := by
  by_cases e100 : m = 100
  · subst e100; exact t_a100
  by_cases e101 : m = 101
  · subst e101; exact t_a101
  by_cases e102 : m = 102
  · subst e102; exact t_a102
  by_cases e103 : m = 103
  · subst e103; exact t_a103
  by_cases e104 : m = 104
  · subst e104; exact t_a104
  by_cases e105 : m = 105
  · subst e105; exact t_a105
  by_cases e106 : m = 106
  · subst e106; exact t_a106
  by_cases e107 : m = 107
  · subst e107; exact t_a107
  by_cases e108 : m = 108
  · subst e108; exact t_a108
  by_cases e109 : m = 109
  · subst e109; exact t_a109
  by_cases e110 : m = 110
  · subst e110; exact t_a110
  by_cases e111 : m = 111
  · subst e111; exact t_a111
  by_cases e112 : m = 112
  · subst e112; exact t_a112
  by_cases e113 : m = 113
  · subst e113; exact t_a113
  by_cases e114 : m = 114
  · subst e114; exact t_a114
  by_cases e115 : m = 115
  · subst e115; exact t_a115
  by_cases e116 : m = 116
  · subst e116; exact t_a116
  by_cases e117 : m = 117
  · subst e117; exact t_a117
  by_cases e118 : m = 118
  · subst e118; exact t_a118
  by_cases e119 : m = 119
  · subst e119; exact t_a119
  omega
set_option maxRecDepth 100000 in
theorem okg_120 {m : Nat} (h1 : 120 ≤ m) (h2 : m < 140) (h8 : m ≠ 8) (h9 : m ≠ 9) (hne : qq_tab.getD m [] ≠ []) : qq_okm m = true := by
  by_cases e120 : m = 120
  · subst e120; exact t_a120
  by_cases e121 : m = 121
  · subst e121; exact t_a121
  by_cases e122 : m = 122
  · subst e122; exact t_a122
  by_cases e123 : m = 123
  · subst e123; exact t_a123
  by_cases e124 : m = 124
  · subst e124; exact t_a124
  by_cases e125 : m = 125
  · subst e125; exact t_a125
  by_cases e126 : m = 126
  · subst e126; exact t_a126
  by_cases e127 : m = 127
  · subst e127; exact t_a127
  by_cases e128 : m = 128
  · subst e128; exact t_a128
  by_cases e129 : m = 129
  · subst e129; exact t_a129
  by_cases e130 : m = 130
  · subst e130; exact t_a130
  by_cases e131 : m = 131
  · subst e131; exact t_a131
  by_cases e132 : m = 132
  · subst e132; exact t_a132
  by_cases e133 : m = 133
  · subst e133; exact t_a133
  by_cases e134 : m = 134
  · subst e134; exact t_a134
  by_cases e135 : m = 135
  · subst e135; exact t_a135
  by_cases e136 : m = 136
  · subst e136; exact t_a136
  by_cases e137 : m = 137
  · subst e137; exact t_a137
  by_cases e138 : m = 138
  · subst e138; exact t_a138
  by_cases e139 : m = 139
  · subst e139; exact t_a139
  omega
set_option maxRecDepth 100000 in
theorem okg_140 {m : Nat} (h1 : 140 ≤ m) (h2 : m < 160) (h8 : m ≠ 8) (h9 : m ≠ 9) (hne : qq_tab.getD m [] ≠ []) : qq_okm m = true := by
  by_cases e140 : m = 140
  · subst e140; exact t_a140
  by_cases e141 : m = 141
  · subst e141; exact t_a141
  by_cases e142 : m = 142
  · subst e142; exact t_a142
  by_cases e143 : m = 143
  · subst e143; exact t_a143
  by_cases e144 : m = 144
  · subst e144; exact t_a144
  by_cases e145 : m = 145
  · subst e145; exact t_a145
  by_cases e146 : m = 146
  · subst e146; exact t_a146
  by_cases e147 : m = 147
  · subst e147; exact t_a147
  by_cases e148 : m = 148
  · subst e148; exact t_a148
  by_cases e149 : m = 149
  · subst e149; exact t_a149
  by_cases e150 : m = 150
  · subst e150; exact t_a150
  by_cases e151 : m = 151
  · subst e151; exact t_a151
  by_cases e152 : m = 152
  · subst e152; exact t_a152
  by_cases e153 : m = 153
  · subst e153; exact t_a153
  by_cases e154 : m = 154
  · subst e154; exact t_a154
  by_cases e155 : m = 155
  · subst e155; exact t_a155
  by_cases e156 : m = 156
  · subst e156; exact t_a156
  by_cases e157 : m = 157
  · subst e157; exact t_a157
  by_cases e158 : m = 158
  · subst e158; exact t_a158
  by_cases e159 : m = 159
  · subst e159; exact t_a159
  omega
set_option maxRecDepth 100000 in
theorem okg_160 {m : Nat} (h1 : 160 ≤ m) (h2 : m < 180) (h8 : m ≠ 8) (h9 : m ≠ 9) (hne : qq_tab.getD m [] ≠ []) : qq_okm m = true := by
  by_cases e160 : m = 160
  · subst e160; exact t_a160
  by_cases e161 : m = 161
  · subst e161; exact t_a161
  by_cases e162 : m = 162
  · subst e162; exact t_a162
  by_cases e163 : m = 163
  · subst e163; exact t_a163
  by_cases e164 : m = 164
  · subst e164; exact t_a164
  by_cases e165 : m = 165
  · subst e165; exact t_a165
  by_cases e166 : m = 166
  · subst e166; exact t_a166
  by_cases e167 : m = 167
  · subst e167; exact t_a167
  by_cases e168 : m = 168
  · subst e168; exact t_a168
  by_cases e169 : m = 169
  · subst e169; exact t_a169
  by_cases e170 : m = 170
  · subst e170; exact t_a170
  by_cases e171 : m = 171
  · subst e171; exact t_a171
  by_cases e172 : m = 172
  · subst e172; exact t_a172
  by_cases e173 : m = 173
  · subst e173; exact t_a173
  by_cases e174 : m = 174
  · subst e174; exact t_a174
  by_cases e175 : m = 175
  · subst e175; exact t_a175
  by_cases e176 : m = 176
  · subst e176; exact t_a176
  by_cases e177 : m = 177
  · subst e177; exact absurd (show qq_tab.getD 177 [] = [] from rfl) hne
  by_cases e178 : m = 178
  · subst e178; exact absurd (show qq_tab.getD 178 [] = [] from rfl) hne
  by_cases e179 : m = 179
  · subst e179; exact t_a179
  omega
set_option maxRecDepth 100000 in
theorem okg_180 {m : Nat} (h1 : 180 ≤ m) (h2 : m < 200) (h8 : m ≠ 8) (h9 : m ≠ 9) (hne : qq_tab.getD m [] ≠ []) : qq_okm m = true := by
  by_cases e180 : m = 180
  · subst e180; exact absurd (show qq_tab.getD 180 [] = [] from rfl) hne
  by_cases e181 : m = 181
  · subst e181; exact absurd (show qq_tab.getD 181 [] = [] from rfl) hne
  by_cases e182 : m = 182
  · subst e182; exact absurd (show qq_tab.getD 182 [] = [] from rfl) hne
  by_cases e183 : m = 183
  · subst e183; exact t_a183
  by_cases e184 : m = 184
  · subst e184; exact t_a184
  by_cases e185 : m = 185
  · subst e185; exact absurd (show qq_tab.getD 185 [] = [] from rfl) hne
  by_cases e186 : m = 186
  · subst e186; exact absurd (show qq_tab.getD 186 [] = [] from rfl) hne
  by_cases e187 : m = 187
  · subst e187; exact absurd (show qq_tab.getD 187 [] = [] from rfl) hne
  by_cases e188 : m = 188
  · subst e188; exact t_a188
  by_cases e189 : m = 189
  · subst e189; exact t_a189
  by_cases e190 : m = 190
  · subst e190; exact t_a190
  by_cases e191 : m = 191
  · subst e191; exact t_a191
  by_cases e192 : m = 192
  · subst e192; exact t_a192
  by_cases e193 : m = 193
  · subst e193; exact t_a193
  by_cases e194 : m = 194
  · subst e194; exact absurd (show qq_tab.getD 194 [] = [] from rfl) hne
  by_cases e195 : m = 195
  · subst e195; exact t_a195
  by_cases e196 : m = 196
  · subst e196; exact t_a196
  by_cases e197 : m = 197
  · subst e197; exact t_a197
  by_cases e198 : m = 198
  · subst e198; exact t_a198
  by_cases e199 : m = 199
  · subst e199; exact t_a199
  omega
set_option maxRecDepth 100000 in
theorem okg_200 {m : Nat} (h1 : 200 ≤ m) (h2 : m < 220) (h8 : m ≠ 8) (h9 : m ≠ 9) (hne : qq_tab.getD m [] ≠ []) : qq_okm m = true := by
  by_cases e200 : m = 200
  · subst e200; exact t_a200
  by_cases e201 : m = 201
  · subst e201; exact t_a201
  by_cases e202 : m = 202
  · subst e202; exact t_a202
  by_cases e203 : m = 203
  · subst e203; exact t_a203
  by_cases e204 : m = 204
  · subst e204; exact t_a204
  by_cases e205 : m = 205
  · subst e205; exact t_a205
  by_cases e206 : m = 206
  · subst e206; exact t_a206
  by_cases e207 : m = 207
  · subst e207; exact t_a207
  by_cases e208 : m = 208
  · subst e208; exact t_a208
  by_cases e209 : m = 209
  · subst e209; exact t_a209
  by_cases e210 : m = 210
  · subst e210; exact t_a210
  by_cases e211 : m = 211
  · subst e211; exact t_a211
  by_cases e212 : m = 212
  · subst e212; exact t_a212
  by_cases e213 : m = 213
  · subst e213; exact t_a213
  by_cases e214 : m = 214
  · subst e214; exact t_a214
  by_cases e215 : m = 215
  · subst e215; exact t_a215
  by_cases e216 : m = 216
  · subst e216; exact t_a216
  by_cases e217 : m = 217
  · subst e217; exact t_a217
  by_cases e218 : m = 218
  · subst e218; exact t_a218
  by_cases e219 : m = 219
  · subst e219; exact t_a219
  omega
set_option maxRecDepth 100000 in
theorem okg_220 {m : Nat} (h1 : 220 ≤ m) (h2 : m < 240) (h8 : m ≠ 8) (h9 : m ≠ 9) (hne : qq_tab.getD m [] ≠ []) : qq_okm m = true := by
  by_cases e220 : m = 220
  · subst e220; exact t_a220
  by_cases e221 : m = 221
  · subst e221; exact t_a221
  by_cases e222 : m = 222
  · subst e222; exact t_a222
  by_cases e223 : m = 223
  · subst e223; exact t_a223
  by_cases e224 : m = 224
  · subst e224; exact t_a224
  by_cases e225 : m = 225
  · subst e225; exact t_a225
  by_cases e226 : m = 226
  · subst e226; exact t_a226
  by_cases e227 : m = 227
  · subst e227; exact t_a227
  by_cases e228 : m = 228
  · subst e228; exact t_a228
  by_cases e229 : m = 229
  · subst e229; exact t_a229
  by_cases e230 : m = 230
  · subst e230; exact t_a230
  by_cases e231 : m = 231
  · subst e231; exact t_a231
  by_cases e232 : m = 232
  · subst e232; exact t_a232
  by_cases e233 : m = 233
  · subst e233; exact t_a233
  by_cases e234 : m = 234
  · subst e234; exact t_a234
  by_cases e235 : m = 235
  · subst e235; exact t_a235
  by_cases e236 : m = 236
  · subst e236; exact t_a236
  by_cases e237 : m = 237
  · subst e237; exact t_a237
  by_cases e238 : m = 238
  · subst e238; exact t_a238
  by_cases e239 : m = 239
  · subst e239; exact t_a239
  omega
set_option maxRecDepth 100000 in
theorem okg_240 {m : Nat} (h1 : 240 ≤ m) (h2 : m < 246) (h8 : m ≠ 8) (h9 : m ≠ 9) (hne : qq_tab.getD m [] ≠ []) : qq_okm m = true := by
  by_cases e240 : m = 240
  · subst e240; exact t_a240
  by_cases e241 : m = 241
  · subst e241; exact t_a241
  by_cases e242 : m = 242
  · subst e242; exact t_a242
  by_cases e243 : m = 243
  · subst e243; exact t_a243
  by_cases e244 : m = 244
  · subst e244; exact t_a244
  by_cases e245 : m = 245
  · subst e245; exact t_a245
  omega
theorem okg {m : Nat} (h : m < 246) (h8 : m ≠ 8) (h9 : m ≠ 9) (hne : qq_tab.getD m [] ≠ []) : qq_okm m = true := by
  by_cases c0 : m < 20
  · exact okg_0 (by omega) c0 h8 h9 hne
  by_cases c20 : m < 40
  · exact okg_20 (by omega) c20 h8 h9 hne
  by_cases c40 : m < 60
  · exact okg_40 (by omega) c40 h8 h9 hne
  by_cases c60 : m < 80
  · exact okg_60 (by omega) c60 h8 h9 hne
  by_cases c80 : m < 100
  · exact okg_80 (by omega) c80 h8 h9 hne
  by_cases c100 : m < 120
  · exact okg_100 (by omega) c100 h8 h9 hne
  by_cases c120 : m < 140
  · exact okg_120 (by omega) c120 h8 h9 hne
  by_cases c140 : m < 160
  · exact okg_140 (by omega) c140 h8 h9 hne
  by_cases c160 : m < 180
  · exact okg_160 (by omega) c160 h8 h9 hne
  by_cases c180 : m < 200
  · exact okg_180 (by omega) c180 h8 h9 hne
  by_cases c200 : m < 220
  · exact okg_200 (by omega) c200 h8 h9 hne
  by_cases c220 : m < 240
  · exact okg_220 (by omega) c220 h8 h9 hne
  by_cases c240 : m < 246
  · exact okg_240 (by omega) c240 h8 h9 hne
  omega
theorem tab_len : qq_tab.length = 246 := by decide +kernel
theorem okm_0 {m : Nat} {e : qq_E} (h : qq_okm m = true) (he : qq_T m 0 = some e) : e.1 = 0 := by
  simp only [qq_okm, qq_okd, Bool.and_eq_true, decide_eq_true_eq] at h
  have h3 := h.1.1.1.1.2
  unfold qq_T at he
  cases hl : qq_tab.getD m [] with
  | nil => rw [hl] at he; cases he
  | cons a l =>
    rw [hl] at he h3
    cases he
    simp only [qq_ps, Bool.and_eq_true, decide_eq_true_eq] at h3
    exact h3.1
theorem all_ok (m : Nat) (e : qq_E) (he : qq_T m 0 = some e) (h8 : m ≠ 8) (h9 : m ≠ 9) : qq_Ok m ∧ e.1 = 0 := by
  have hne : qq_tab.getD m [] ≠ [] := fun z => by
    unfold qq_T at he
    rw [z] at he
    cases he
  by_cases c : m < 246
  · exact ⟨okm_Ok (okg c h8 h9 hne), okm_0 (okg c h8 h9 hne) he⟩
  · exfalso
    unfold qq_T at he
    have hn : qq_tab[m]? = none := List.getElem?_eq_none (by rw [tab_len]; omega)
    rw [List.getD_eq_getElem?_getD, hn] at he
    simp at he
def qq_nc (e : qq_E) : Bool := match e.2.2.2 with
  | _ :: c :: _ => decide (qq_grp e.2.1 e.2.2.2 ≠ 10) || (decide (c ≠ 8) && decide (c ≠ 9))
  | _ => true
theorem nc_all : qq_tab.all (fun L => L.all qq_nc) = true := by decide +kernel
theorem all_nc (m j : Nat) (e : qq_E) (he : qq_T m j = some e) (hg : qq_grp e.2.1 e.2.2.2 = 10) (k9 c9 : Nat) (tl9 : List Nat) (h : e.2.2.2 = k9 :: c9 :: tl9) : c9 ≠ 8 ∧ c9 ≠ 9 := by
  unfold qq_T at he
  have hm : qq_tab.getD m [] ∈ qq_tab := by
    rw [List.getD_eq_getElem?_getD] at he ⊢
    cases h : qq_tab[m]? with
    | none => rw [h] at he; simp at he
    | some l => exact List.mem_of_getElem? h
  have h1 := List.all_eq_true.mp (List.all_eq_true.mp nc_all _ hm) e (List.mem_of_getElem? he)
  unfold qq_nc at h1
  rw [hg, h] at h1
  simp only [ne_eq, not_true_eq_false, decide_false, Bool.false_or, Bool.and_eq_true, decide_eq_true_eq] at h1
  exact h1
theorem xw_all : qq_ex.all qq_xw = true := by decide +kernel
theorem hn_all : qq_me.all (fun x => x.2.2.2.2.2.length == x.2.2.2.2.1.length) = true := by decide +kernel
theorem hn_len (m : Nat) : (qq_hn m).length = (qq_hh m).length := by
  unfold qq_hn qq_hh
  cases h : qq_me[m]? with
  | none => rfl
  | some x => exact beq_iff_eq.mp (List.all_eq_true.mp hn_all x (List.mem_of_getElem? h))
