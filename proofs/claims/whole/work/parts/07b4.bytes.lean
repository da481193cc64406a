/-! THE ROWS ARE THE BYTES DECODED, 4. -/
theorem pm_dcc_96 : (List.range' 262 1).all (fun k => (pm_code k).all (pm_dc k)) = true := by decide +kernel
theorem pm_dcc_97 : (List.range' 263 1).all (fun k => (pm_code k).all (pm_dc k)) = true := by decide +kernel
theorem pm_dcc_98 : (List.range' 264 2).all (fun k => (pm_code k).all (pm_dc k)) = true := by decide +kernel
theorem pm_dcc_99 : (List.range' 266 5).all (fun k => (pm_code k).all (pm_dc k)) = true := by decide +kernel
theorem pm_dcc_100 : (List.range' 271 3).all (fun k => (pm_code k).all (pm_dc k)) = true := by decide +kernel
theorem pm_dcc_101 : (List.range' 274 1).all (fun k => (pm_code k).all (pm_dc k)) = true := by decide +kernel
theorem pm_dcc_102 : (List.range' 275 2).all (fun k => (pm_code k).all (pm_dc k)) = true := by decide +kernel
theorem pm_dcc_103 : (List.range' 277 1).all (fun k => (pm_code k).all (pm_dc k)) = true := by decide +kernel
theorem pm_dcc_104 : (List.range' 278 1).all (fun k => (pm_code k).all (pm_dc k)) = true := by decide +kernel
theorem pm_dcc_105 : (List.range' 279 3).all (fun k => (pm_code k).all (pm_dc k)) = true := by decide +kernel
theorem pm_dcc_106 : (List.range' 282 1).all (fun k => (pm_code k).all (pm_dc k)) = true := by decide +kernel
theorem pm_dcc_107 : (List.range' 283 1).all (fun k => (pm_code k).all (pm_dc k)) = true := by decide +kernel
theorem pm_dcc_108 : (List.range' 284 4).all (fun k => (pm_code k).all (pm_dc k)) = true := by decide +kernel
theorem pm_dcc_109 : (List.range' 288 2).all (fun k => (pm_code k).all (pm_dc k)) = true := by decide +kernel
theorem pm_dcc_110 : (List.range' 290 3).all (fun k => (pm_code k).all (pm_dc k)) = true := by decide +kernel
theorem pm_dcc_111 : (List.range' 293 7).all (fun k => (pm_code k).all (pm_dc k)) = true := by decide +kernel
theorem pm_dcc_112 : (List.range' 300 3).all (fun k => (pm_code k).all (pm_dc k)) = true := by decide +kernel
theorem pm_dcc_113 : (List.range' 303 2).all (fun k => (pm_code k).all (pm_dc k)) = true := by decide +kernel
theorem pm_dcc_114 : (List.range' 305 4).all (fun k => (pm_code k).all (pm_dc k)) = true := by decide +kernel
theorem pm_dcc_115 : (List.range' 309 8).all (fun k => (pm_code k).all (pm_dc k)) = true := by decide +kernel
theorem pm_dcl_l0 : pc_law_law_0.all (pm_dc 317) = true := by decide +kernel
theorem pm_dcl_l1 : pc_law_law_1.all (pm_dc 317) = true := by decide +kernel
theorem pm_dcl_l2 : pc_law_law_2.all (pm_dc 317) = true := by decide +kernel
theorem pm_dcl_l3 : pc_law_law_3.all (pm_dc 317) = true := by decide +kernel
theorem pm_dcl_l4 : pc_law_law_4.all (pm_dc 317) = true := by decide +kernel
theorem pm_dcl_l5 : pc_law_law_5.all (pm_dc 317) = true := by decide +kernel
theorem pm_dcl_l6 : pc_law_law_6.all (pm_dc 317) = true := by decide +kernel
theorem pm_dcl_l7 : pc_law_law_7.all (pm_dc 317) = true := by decide +kernel
theorem pm_dcl_l8 : pc_law_law_8.all (pm_dc 317) = true := by decide +kernel
theorem pm_dcl_l9 : pc_law_law_9.all (pm_dc 317) = true := by decide +kernel
theorem pm_dcl_l10 : pc_law_law_10.all (pm_dc 317) = true := by decide +kernel
theorem pm_dcl_l : pc_law_law.all (pm_dc 317) = true := by
  unfold pc_law_law
  simp only [List.all_append, Bool.and_eq_true]
  exact ⟨pm_dcl_l0, ⟨pm_dcl_l1, ⟨pm_dcl_l2, ⟨pm_dcl_l3, ⟨pm_dcl_l4, ⟨pm_dcl_l5, ⟨pm_dcl_l6, ⟨pm_dcl_l7, ⟨pm_dcl_l8, ⟨pm_dcl_l9, pm_dcl_l10⟩⟩⟩⟩⟩⟩⟩⟩⟩⟩
theorem pm_dcall : ∀ k, k < 318 → (pm_code k).all (pm_dc k) = true := by
  intro k hk
  have key : ∀ a n, (List.range' a n).all (fun k => (pm_code k).all (pm_dc k)) = true → a ≤ k → k < a + n → (pm_code k).all (pm_dc k) = true := by
    intro a n h h1 h2
    exact List.all_eq_true.mp h k (List.mem_range'_1.mpr ⟨h1, h2⟩)
  by_cases h0 : k < 2
  · exact key 0 2 pm_dcc_0 (by omega) h0
  by_cases h1 : k < 4
  · exact key 2 2 pm_dcc_1 (by omega) h1
  by_cases h2 : k < 8
  · exact key 4 4 pm_dcc_2 (by omega) h2
  by_cases h3 : k < 9
  · exact key 8 1 pm_dcc_3 (by omega) h3
  by_cases h4 : k < 11
  · exact key 9 2 pm_dcc_4 (by omega) h4
  by_cases h5 : k < 18
  · exact key 11 7 pm_dcc_5 (by omega) h5
  by_cases h6 : k < 23
  · exact key 18 5 pm_dcc_6 (by omega) h6
  by_cases h7 : k < 24
  · exact key 23 1 pm_dcc_7 (by omega) h7
  by_cases h8 : k < 26
  · exact key 24 2 pm_dcc_8 (by omega) h8
  by_cases h9 : k < 31
  · exact key 26 5 pm_dcc_9 (by omega) h9
  by_cases h10 : k < 35
  · exact key 31 4 pm_dcc_10 (by omega) h10
  by_cases h11 : k < 37
  · exact key 35 2 pm_dcc_11 (by omega) h11
  by_cases h12 : k < 39
  · exact key 37 2 pm_dcc_12 (by omega) h12
  by_cases h13 : k < 40
  · exact key 39 1 pm_dcc_13 (by omega) h13
  by_cases h14 : k < 42
  · exact key 40 2 pm_dcc_14 (by omega) h14
  by_cases h15 : k < 44
  · exact key 42 2 pm_dcc_15 (by omega) h15
  by_cases h16 : k < 46
  · exact key 44 2 pm_dcc_16 (by omega) h16
  by_cases h17 : k < 47
  · exact key 46 1 pm_dcc_17 (by omega) h17
  by_cases h18 : k < 52
  · exact key 47 5 pm_dcc_18 (by omega) h18
  by_cases h19 : k < 55
  · exact key 52 3 pm_dcc_19 (by omega) h19
  by_cases h20 : k < 57
  · exact key 55 2 pm_dcc_20 (by omega) h20
  by_cases h21 : k < 58
  · exact key 57 1 pm_dcc_21 (by omega) h21
  by_cases h22 : k < 59
  · exact key 58 1 pm_dcc_22 (by omega) h22
  by_cases h23 : k < 63
  · exact key 59 4 pm_dcc_23 (by omega) h23
  by_cases h24 : k < 66
  · exact key 63 3 pm_dcc_24 (by omega) h24
  by_cases h25 : k < 70
  · exact key 66 4 pm_dcc_25 (by omega) h25
  by_cases h26 : k < 71
  · exact key 70 1 pm_dcc_26 (by omega) h26
  by_cases h27 : k < 74
  · exact key 71 3 pm_dcc_27 (by omega) h27
  by_cases h28 : k < 77
  · exact key 74 3 pm_dcc_28 (by omega) h28
  by_cases h29 : k < 78
  · exact key 77 1 pm_dcc_29 (by omega) h29
  by_cases h30 : k < 85
  · exact key 78 7 pm_dcc_30 (by omega) h30
  by_cases h31 : k < 90
  · exact key 85 5 pm_dcc_31 (by omega) h31
  by_cases h32 : k < 93
  · exact key 90 3 pm_dcc_32 (by omega) h32
  by_cases h33 : k < 98
  · exact key 93 5 pm_dcc_33 (by omega) h33
  by_cases h34 : k < 104
  · exact key 98 6 pm_dcc_34 (by omega) h34
  by_cases h35 : k < 106
  · exact key 104 2 pm_dcc_35 (by omega) h35
  by_cases h36 : k < 108
  · exact key 106 2 pm_dcc_36 (by omega) h36
  by_cases h37 : k < 110
  · exact key 108 2 pm_dcc_37 (by omega) h37
  by_cases h38 : k < 116
  · exact key 110 6 pm_dcc_38 (by omega) h38
  by_cases h39 : k < 119
  · exact key 116 3 pm_dcc_39 (by omega) h39
  by_cases h40 : k < 120
  · exact key 119 1 pm_dcc_40 (by omega) h40
  by_cases h41 : k < 122
  · exact key 120 2 pm_dcc_41 (by omega) h41
  by_cases h42 : k < 125
  · exact key 122 3 pm_dcc_42 (by omega) h42
  by_cases h43 : k < 127
  · exact key 125 2 pm_dcc_43 (by omega) h43
  by_cases h44 : k < 128
  · exact key 127 1 pm_dcc_44 (by omega) h44
  by_cases h45 : k < 131
  · exact key 128 3 pm_dcc_45 (by omega) h45
  by_cases h46 : k < 133
  · exact key 131 2 pm_dcc_46 (by omega) h46
  by_cases h47 : k < 135
  · exact key 133 2 pm_dcc_47 (by omega) h47
  by_cases h48 : k < 139
  · exact key 135 4 pm_dcc_48 (by omega) h48
  by_cases h49 : k < 143
  · exact key 139 4 pm_dcc_49 (by omega) h49
  by_cases h50 : k < 146
  · exact key 143 3 pm_dcc_50 (by omega) h50
  by_cases h51 : k < 150
  · exact key 146 4 pm_dcc_51 (by omega) h51
  by_cases h52 : k < 155
  · exact key 150 5 pm_dcc_52 (by omega) h52
  by_cases h53 : k < 159
  · exact key 155 4 pm_dcc_53 (by omega) h53
  by_cases h54 : k < 162
  · exact key 159 3 pm_dcc_54 (by omega) h54
  by_cases h55 : k < 166
  · exact key 162 4 pm_dcc_55 (by omega) h55
  by_cases h56 : k < 169
  · exact key 166 3 pm_dcc_56 (by omega) h56
  by_cases h57 : k < 173
  · exact key 169 4 pm_dcc_57 (by omega) h57
  by_cases h58 : k < 177
  · exact key 173 4 pm_dcc_58 (by omega) h58
  by_cases h59 : k < 178
  · exact key 177 1 pm_dcc_59 (by omega) h59
  by_cases h60 : k < 179
  · exact key 178 1 pm_dcc_60 (by omega) h60
  by_cases h61 : k < 180
  · exact key 179 1 pm_dcc_61 (by omega) h61
  by_cases h62 : k < 190
  · exact key 180 10 pm_dcc_62 (by omega) h62
  by_cases h63 : k < 192
  · exact key 190 2 pm_dcc_63 (by omega) h63
  by_cases h64 : k < 194
  · exact key 192 2 pm_dcc_64 (by omega) h64
  by_cases h65 : k < 197
  · exact key 194 3 pm_dcc_65 (by omega) h65
  by_cases h66 : k < 198
  · exact key 197 1 pm_dcc_66 (by omega) h66
  by_cases h67 : k < 199
  · exact key 198 1 pm_dcc_67 (by omega) h67
  by_cases h68 : k < 200
  · exact key 199 1 pm_dcc_68 (by omega) h68
  by_cases h69 : k < 203
  · exact key 200 3 pm_dcc_69 (by omega) h69
  by_cases h70 : k < 205
  · exact key 203 2 pm_dcc_70 (by omega) h70
  by_cases h71 : k < 206
  · exact key 205 1 pm_dcc_71 (by omega) h71
  by_cases h72 : k < 207
  · exact key 206 1 pm_dcc_72 (by omega) h72
  by_cases h73 : k < 209
  · exact key 207 2 pm_dcc_73 (by omega) h73
  by_cases h74 : k < 213
  · exact key 209 4 pm_dcc_74 (by omega) h74
  by_cases h75 : k < 216
  · exact key 213 3 pm_dcc_75 (by omega) h75
  by_cases h76 : k < 217
  · exact key 216 1 pm_dcc_76 (by omega) h76
  by_cases h77 : k < 224
  · exact key 217 7 pm_dcc_77 (by omega) h77
  by_cases h78 : k < 228
  · exact key 224 4 pm_dcc_78 (by omega) h78
  by_cases h79 : k < 230
  · exact key 228 2 pm_dcc_79 (by omega) h79
  by_cases h80 : k < 231
  · exact key 230 1 pm_dcc_80 (by omega) h80
  by_cases h81 : k < 233
  · exact key 231 2 pm_dcc_81 (by omega) h81
  by_cases h82 : k < 235
  · exact key 233 2 pm_dcc_82 (by omega) h82
  by_cases h83 : k < 237
  · exact key 235 2 pm_dcc_83 (by omega) h83
  by_cases h84 : k < 239
  · exact key 237 2 pm_dcc_84 (by omega) h84
  by_cases h85 : k < 240
  · exact key 239 1 pm_dcc_85 (by omega) h85
  by_cases h86 : k < 244
  · exact key 240 4 pm_dcc_86 (by omega) h86
  by_cases h87 : k < 247
  · exact key 244 3 pm_dcc_87 (by omega) h87
  by_cases h88 : k < 248
  · exact key 247 1 pm_dcc_88 (by omega) h88
  by_cases h89 : k < 249
  · exact key 248 1 pm_dcc_89 (by omega) h89
  by_cases h90 : k < 251
  · exact key 249 2 pm_dcc_90 (by omega) h90
  by_cases h91 : k < 255
  · exact key 251 4 pm_dcc_91 (by omega) h91
  by_cases h92 : k < 258
  · exact key 255 3 pm_dcc_92 (by omega) h92
  by_cases h93 : k < 259
  · exact key 258 1 pm_dcc_93 (by omega) h93
  by_cases h94 : k < 260
  · exact key 259 1 pm_dcc_94 (by omega) h94
  by_cases h95 : k < 262
  · exact key 260 2 pm_dcc_95 (by omega) h95
  by_cases h96 : k < 263
  · exact key 262 1 pm_dcc_96 (by omega) h96
  by_cases h97 : k < 264
  · exact key 263 1 pm_dcc_97 (by omega) h97
  by_cases h98 : k < 266
  · exact key 264 2 pm_dcc_98 (by omega) h98
  by_cases h99 : k < 271
  · exact key 266 5 pm_dcc_99 (by omega) h99
  by_cases h100 : k < 274
  · exact key 271 3 pm_dcc_100 (by omega) h100
  by_cases h101 : k < 275
  · exact key 274 1 pm_dcc_101 (by omega) h101
  by_cases h102 : k < 277
  · exact key 275 2 pm_dcc_102 (by omega) h102
  by_cases h103 : k < 278
  · exact key 277 1 pm_dcc_103 (by omega) h103
  by_cases h104 : k < 279
  · exact key 278 1 pm_dcc_104 (by omega) h104
  by_cases h105 : k < 282
  · exact key 279 3 pm_dcc_105 (by omega) h105
  by_cases h106 : k < 283
  · exact key 282 1 pm_dcc_106 (by omega) h106
  by_cases h107 : k < 284
  · exact key 283 1 pm_dcc_107 (by omega) h107
  by_cases h108 : k < 288
  · exact key 284 4 pm_dcc_108 (by omega) h108
  by_cases h109 : k < 290
  · exact key 288 2 pm_dcc_109 (by omega) h109
  by_cases h110 : k < 293
  · exact key 290 3 pm_dcc_110 (by omega) h110
  by_cases h111 : k < 300
  · exact key 293 7 pm_dcc_111 (by omega) h111
  by_cases h112 : k < 303
  · exact key 300 3 pm_dcc_112 (by omega) h112
  by_cases h113 : k < 305
  · exact key 303 2 pm_dcc_113 (by omega) h113
  by_cases h114 : k < 309
  · exact key 305 4 pm_dcc_114 (by omega) h114
  by_cases h115 : k < 317
  · exact key 309 8 pm_dcc_115 (by omega) h115
  obtain rfl : k = 317 := by omega
  exact pm_dcl_l
