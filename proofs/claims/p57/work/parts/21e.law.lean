section JS
theorem d_309_0 : decode (js_b 309) 0 = .ok (.lload_n 1, 1) := d_300_0
theorem d_309_1 : decode (js_b 309) 1 = .ok (.lstore_n 3, 1) := d_300_1
theorem d_309_2 : decode (js_b 309) 2 = .ok (.iconst 0, 1) := d_300_2
theorem d_309_3 : decode (js_b 309) 3 = .ok (.istore 5, 2) := d_300_3
theorem d_309_5 : decode (js_b 309) 5 = .ok (.iload 5, 2) := d_300_5
theorem d_309_7 : decode (js_b 309) 7 = .ok (.bipush 64, 2) := d_300_7
theorem d_309_9 : decode (js_b 309) 9 = .ok (.if_icmp .ge 150, 3) := d_300_9
theorem d_309_12 : decode (js_b 309) 12 = .ok (.lload_n 1, 1) := d_300_12
theorem d_309_13 : decode (js_b 309) 13 = .ok (.iload 5, 2) := d_300_13
theorem d_309_15 : decode (js_b 309) 15 = .ok (.lushr, 1) := d_300_15
theorem d_309_16 : decode (js_b 309) 16 = .ok (.lconst 1, 1) := d_300_16
theorem d_309_17 : decode (js_b 309) 17 = .ok (.land, 1) := d_300_17
theorem d_309_18 : decode (js_b 309) 18 = .ok (.lconst 1, 1) := d_300_18
theorem d_309_19 : decode (js_b 309) 19 = .ok (.lcmp, 1) := d_300_19
theorem d_309_20 : decode (js_b 309) 20 = .ok (.ifCond .ne 133, 3) := d_300_20
theorem d_309_23 : decode (js_b 309) 23 = .ok (.lload_n 3, 1) := d_300_23
theorem d_309_24 : decode (js_b 309) 24 = .ok (.aload_n 0, 1) := d_300_24
theorem d_309_25 : decode (js_b 309) 25 = .ok (.iload 5, 2) := d_300_25
theorem d_309_27 : decode (js_b 309) 27 = .ok (.bipush 8, 2) := d_300_27
theorem d_309_29 : decode (js_b 309) 29 = .ok (.idiv, 1) := d_300_29
theorem d_309_30 : decode (js_b 309) 30 = .ok (.iload 5, 2) := d_300_30
theorem d_309_32 : decode (js_b 309) 32 = .ok (.bipush 8, 2) := d_300_32
theorem d_309_34 : decode (js_b 309) 34 = .ok (.irem, 1) := d_300_34
theorem d_309_35 : decode (js_b 309) 35 = .ok (.iconst 0, 1) := d_300_35
theorem d_309_36 : decode (js_b 309) 36 = .ok (.invokestatic 198, 3) := d_300_36
theorem d_309_39 : decode (js_b 309) 39 = .ok (.iconst 1, 1) := d_300_39
theorem d_309_40 : decode (js_b 309) 40 = .ok (.if_icmp .ne 13, 3) := d_300_40
theorem d_309_43 : decode (js_b 309) 43 = .ok (.lconst 1, 1) := d_300_43
theorem d_309_44 : decode (js_b 309) 44 = .ok (.iload 5, 2) := d_300_44
theorem d_309_46 : decode (js_b 309) 46 = .ok (.bipush 8, 2) := d_300_46
theorem d_309_48 : decode (js_b 309) 48 = .ok (.isub, 1) := d_300_48
theorem d_309_49 : decode (js_b 309) 49 = .ok (.lshl, 1) := d_300_49
theorem d_309_50 : decode (js_b 309) 50 = .ok (.goto 4, 3) := d_300_50
theorem d_309_53 : decode (js_b 309) 53 = .ok (.lconst 0, 1) := d_300_53
theorem d_309_54 : decode (js_b 309) 54 = .ok (.lor, 1) := d_300_54
theorem d_309_55 : decode (js_b 309) 55 = .ok (.lstore_n 3, 1) := d_300_55
theorem d_309_56 : decode (js_b 309) 56 = .ok (.lload_n 3, 1) := d_300_56
theorem d_309_57 : decode (js_b 309) 57 = .ok (.aload_n 0, 1) := d_300_57
theorem d_309_58 : decode (js_b 309) 58 = .ok (.iload 5, 2) := d_300_58
theorem d_309_60 : decode (js_b 309) 60 = .ok (.bipush 8, 2) := d_300_60
theorem d_309_62 : decode (js_b 309) 62 = .ok (.idiv, 1) := d_300_62
theorem d_309_63 : decode (js_b 309) 63 = .ok (.iload 5, 2) := d_300_63
theorem d_309_65 : decode (js_b 309) 65 = .ok (.bipush 8, 2) := d_300_65
theorem d_309_67 : decode (js_b 309) 67 = .ok (.irem, 1) := d_300_67
theorem d_309_68 : decode (js_b 309) 68 = .ok (.iconst 1, 1) := d_300_68
theorem d_309_69 : decode (js_b 309) 69 = .ok (.invokestatic 198, 3) := d_300_69
theorem d_309_72 : decode (js_b 309) 72 = .ok (.iconst 1, 1) := d_300_72
theorem d_309_73 : decode (js_b 309) 73 = .ok (.if_icmp .ne 12, 3) := d_300_73
theorem d_309_76 : decode (js_b 309) 76 = .ok (.lconst 1, 1) := d_300_76
theorem d_309_77 : decode (js_b 309) 77 = .ok (.iload 5, 2) := d_300_77
theorem d_309_79 : decode (js_b 309) 79 = .ok (.iconst 1, 1) := d_300_79
theorem d_309_80 : decode (js_b 309) 80 = .ok (.iadd, 1) := d_300_80
theorem d_309_81 : decode (js_b 309) 81 = .ok (.lshl, 1) := d_300_81
theorem d_309_82 : decode (js_b 309) 82 = .ok (.goto 4, 3) := d_300_82
theorem d_309_85 : decode (js_b 309) 85 = .ok (.lconst 0, 1) := d_300_85
theorem d_309_86 : decode (js_b 309) 86 = .ok (.lor, 1) := d_300_86
theorem d_309_87 : decode (js_b 309) 87 = .ok (.lstore_n 3, 1) := d_300_87
theorem d_309_88 : decode (js_b 309) 88 = .ok (.lload_n 3, 1) := d_300_88
theorem d_309_89 : decode (js_b 309) 89 = .ok (.aload_n 0, 1) := d_300_89
theorem d_309_90 : decode (js_b 309) 90 = .ok (.iload 5, 2) := d_300_90
theorem d_309_92 : decode (js_b 309) 92 = .ok (.bipush 8, 2) := d_300_92
theorem d_309_94 : decode (js_b 309) 94 = .ok (.idiv, 1) := d_300_94
theorem d_309_95 : decode (js_b 309) 95 = .ok (.iload 5, 2) := d_300_95
theorem d_309_97 : decode (js_b 309) 97 = .ok (.bipush 8, 2) := d_300_97
theorem d_309_99 : decode (js_b 309) 99 = .ok (.irem, 1) := d_300_99
theorem d_309_100 : decode (js_b 309) 100 = .ok (.iconst 2, 1) := d_300_100
theorem d_309_101 : decode (js_b 309) 101 = .ok (.invokestatic 198, 3) := d_300_101
theorem d_309_104 : decode (js_b 309) 104 = .ok (.iconst 1, 1) := d_300_104
theorem d_309_105 : decode (js_b 309) 105 = .ok (.if_icmp .ne 13, 3) := d_300_105
theorem d_309_108 : decode (js_b 309) 108 = .ok (.lconst 1, 1) := d_300_108
theorem d_309_109 : decode (js_b 309) 109 = .ok (.iload 5, 2) := d_300_109
theorem d_309_111 : decode (js_b 309) 111 = .ok (.bipush 8, 2) := d_300_111
theorem d_309_113 : decode (js_b 309) 113 = .ok (.iadd, 1) := d_300_113
theorem d_309_114 : decode (js_b 309) 114 = .ok (.lshl, 1) := d_300_114
theorem d_309_115 : decode (js_b 309) 115 = .ok (.goto 4, 3) := d_300_115
theorem d_309_118 : decode (js_b 309) 118 = .ok (.lconst 0, 1) := d_300_118
theorem d_309_119 : decode (js_b 309) 119 = .ok (.lor, 1) := d_300_119
theorem d_309_120 : decode (js_b 309) 120 = .ok (.lstore_n 3, 1) := d_300_120
theorem d_309_121 : decode (js_b 309) 121 = .ok (.lload_n 3, 1) := d_300_121
theorem d_309_122 : decode (js_b 309) 122 = .ok (.aload_n 0, 1) := d_300_122
theorem d_309_123 : decode (js_b 309) 123 = .ok (.iload 5, 2) := d_300_123
theorem d_309_125 : decode (js_b 309) 125 = .ok (.bipush 8, 2) := d_300_125
theorem d_309_127 : decode (js_b 309) 127 = .ok (.idiv, 1) := d_300_127
theorem d_309_128 : decode (js_b 309) 128 = .ok (.iload 5, 2) := d_300_128
theorem d_309_130 : decode (js_b 309) 130 = .ok (.bipush 8, 2) := d_300_130
theorem d_309_132 : decode (js_b 309) 132 = .ok (.irem, 1) := d_300_132
theorem d_309_133 : decode (js_b 309) 133 = .ok (.iconst 3, 1) := d_300_133
theorem d_309_134 : decode (js_b 309) 134 = .ok (.invokestatic 198, 3) := d_300_134
theorem d_309_137 : decode (js_b 309) 137 = .ok (.iconst 1, 1) := d_300_137
theorem d_309_138 : decode (js_b 309) 138 = .ok (.if_icmp .ne 12, 3) := d_300_138
theorem d_309_141 : decode (js_b 309) 141 = .ok (.lconst 1, 1) := d_300_141
theorem d_309_142 : decode (js_b 309) 142 = .ok (.iload 5, 2) := d_300_142
theorem d_309_144 : decode (js_b 309) 144 = .ok (.iconst 1, 1) := d_300_144
theorem d_309_145 : decode (js_b 309) 145 = .ok (.isub, 1) := d_300_145
theorem d_309_146 : decode (js_b 309) 146 = .ok (.lshl, 1) := d_300_146
theorem d_309_147 : decode (js_b 309) 147 = .ok (.goto 4, 3) := d_300_147
theorem d_309_150 : decode (js_b 309) 150 = .ok (.lconst 0, 1) := d_300_150
theorem d_309_151 : decode (js_b 309) 151 = .ok (.lor, 1) := d_300_151
theorem d_309_152 : decode (js_b 309) 152 = .ok (.lstore_n 3, 1) := d_300_152
theorem d_309_153 : decode (js_b 309) 153 = .ok (.iinc 5 1, 3) := d_300_153
theorem d_309_156 : decode (js_b 309) 156 = .ok (.goto (-151), 3) := d_300_156
theorem d_309_159 : decode (js_b 309) 159 = .ok (.lload_n 3, 1) := d_300_159
theorem d_309_160 : decode (js_b 309) 160 = .ok (.lload_n 1, 1) := d_300_160
theorem d_309_161 : decode (js_b 309) 161 = .ok (.lcmp, 1) := d_300_161
theorem d_309_162 : decode (js_b 309) 162 = .ok (.ifCond .ne 7, 3) := d_300_162
theorem d_309_165 : decode (js_b 309) 165 = .ok (.lload_n 1, 1) := d_300_165
theorem d_309_166 : decode (js_b 309) 166 = .ok (.goto 8, 3) := d_300_166
theorem d_309_169 : decode (js_b 309) 169 = .ok (.aload_n 0, 1) := d_300_169
theorem d_309_170 : decode (js_b 309) 170 = .ok (.lload_n 3, 1) := d_300_170
theorem d_309_171 : decode (js_b 309) 171 = .ok (.invokestatic 323, 3) := d_300_171
theorem d_309_174 : decode (js_b 309) 174 = .ok (.lreturn, 1) := d_300_174
theorem ki_309_15 : js_OkG 309 15 (o_Sh (fun x y => (x.toUInt64 >>> (y.toInt64.toUInt64 &&& Int64.toUInt64 63)).toInt64) 16) := js_St.okG (st_lushr d_309_15) (fun _ _ _ _ _ => rfl)
theorem ki_309_13 : js_OkG 309 13 (o_il 5 15) := js_St.okG (st_iload d_309_13) (fun _ _ _ _ _ => rfl)
theorem ki_309_12 : js_OkG 309 12 (o_ll 1 13) := js_St.okG (st_lloadn rfl d_309_12) (fun _ _ _ _ _ => rfl)
theorem ki_309_9 : js_OkG 309 9 (o_cge 159 12) := js_St.okG (st_icge (by decide) d_309_9) (fun _ _ _ _ _ => rfl)
theorem ki_309_7 : js_OkG 309 7 (o_ic 64 9) := js_St.okG (st_bipush rfl d_309_7) (fun _ _ _ _ _ => rfl)
theorem ki_309_5 : js_OkG 309 5 (o_il 5 7) := js_St.okG (st_iload d_309_5) (fun _ _ _ _ _ => rfl)
theorem ki_309_3 : js_OkG 309 3 (o_is 5 5) := js_St.okG (st_istore (Nat.le_of_ble_eq_true rfl) d_309_3) (fun _ _ _ _ _ => rfl)
theorem ki_309_2 : js_OkG 309 2 (o_ic 0 3) := js_St.okG (st_iconst rfl d_309_2) (fun _ _ _ _ _ => rfl)
theorem ki_309_1 : js_OkG 309 1 (o_ls 3 2) := js_St.okG (st_lstoren rfl (Nat.le_of_ble_eq_true rfl) d_309_1) (fun _ _ _ _ _ => rfl)
theorem ki_309_0 : js_OkG 309 0 (o_ll 1 1) := js_St.okG (st_lloadn rfl d_309_0) (fun _ _ _ _ _ => rfl)
theorem ki_309_30 : js_OkG 309 30 (o_il 5 32) := js_St.okG (st_iload d_309_30) (fun _ _ _ _ _ => rfl)
theorem ki_309_29 : js_OkG 309 29 (o_div 30) := js_St.okG (st_idiv d_309_29) (fun _ _ _ _ _ => rfl)
theorem ki_309_27 : js_OkG 309 27 (o_ic 8 29) := js_St.okG (st_bipush rfl d_309_27) (fun _ _ _ _ _ => rfl)
theorem ki_309_25 : js_OkG 309 25 (o_il 5 27) := js_St.okG (st_iload d_309_25) (fun _ _ _ _ _ => rfl)
theorem ki_309_24 : js_OkG 309 24 (o_al 0 25) := js_St.okG (st_aloadn rfl d_309_24) (fun _ _ _ _ _ => rfl)
theorem ki_309_23 : js_OkG 309 23 (o_ll 3 24) := js_St.okG (st_lloadn rfl d_309_23) (fun _ _ _ _ _ => rfl)
theorem ki_309_20 : js_OkG 309 20 (o_ne 153 23) := js_St.okG (st_ifne (by decide) d_309_20) (fun _ _ _ _ _ => rfl)
theorem ki_309_19 : js_OkG 309 19 (o_lcmp 20) := js_St.okG (st_lcmp d_309_19) (fun _ _ _ _ _ => rfl)
theorem ki_309_18 : js_OkG 309 18 (o_lc 1 19) := js_St.okG (st_lconst rfl d_309_18) (fun _ _ _ _ _ => rfl)
theorem ki_309_17 : js_OkG 309 17 (o_B2 (fun x y => x &&& y) 18) := js_St.okG (st_land d_309_17) (fun _ _ _ _ _ => rfl)
theorem ki_309_16 : js_OkG 309 16 (o_lc 1 17) := js_St.okG (st_lconst rfl d_309_16) (fun _ _ _ _ _ => rfl)
theorem ki_309_46 : js_OkG 309 46 (o_ic 8 48) := js_St.okG (st_bipush rfl d_309_46) (fun _ _ _ _ _ => rfl)
theorem ki_309_44 : js_OkG 309 44 (o_il 5 46) := js_St.okG (st_iload d_309_44) (fun _ _ _ _ _ => rfl)
theorem ki_309_43 : js_OkG 309 43 (o_lc 1 44) := js_St.okG (st_lconst rfl d_309_43) (fun _ _ _ _ _ => rfl)
theorem ki_309_40 : js_OkG 309 40 (o_cne 53 43) := js_St.okG (st_icne (by decide) d_309_40) (fun _ _ _ _ _ => rfl)
theorem ki_309_39 : js_OkG 309 39 (o_ic 1 40) := js_St.okG (st_iconst rfl d_309_39) (fun _ _ _ _ _ => rfl)
theorem ki_309_36 : js_OkG 309 36 (o_cI 176 4 0 39) := og_sIP rfl rfl kB_309_176 rfl kw_785 kw_786 d_309_36
theorem ki_309_35 : js_OkG 309 35 (o_ic 0 36) := js_St.okG (st_iconst rfl d_309_35) (fun _ _ _ _ _ => rfl)
theorem ki_309_34 : js_OkG 309 34 (o_rem 35) := js_St.okG (st_irem d_309_34) (fun _ _ _ _ _ => rfl)
theorem ki_309_32 : js_OkG 309 32 (o_ic 8 34) := js_St.okG (st_bipush rfl d_309_32) (fun _ _ _ _ _ => rfl)
theorem ki_309_63 : js_OkG 309 63 (o_il 5 65) := js_St.okG (st_iload d_309_63) (fun _ _ _ _ _ => rfl)
theorem ki_309_62 : js_OkG 309 62 (o_div 63) := js_St.okG (st_idiv d_309_62) (fun _ _ _ _ _ => rfl)
theorem ki_309_60 : js_OkG 309 60 (o_ic 8 62) := js_St.okG (st_bipush rfl d_309_60) (fun _ _ _ _ _ => rfl)
theorem ki_309_58 : js_OkG 309 58 (o_il 5 60) := js_St.okG (st_iload d_309_58) (fun _ _ _ _ _ => rfl)
theorem ki_309_57 : js_OkG 309 57 (o_al 0 58) := js_St.okG (st_aloadn rfl d_309_57) (fun _ _ _ _ _ => rfl)
theorem ki_309_56 : js_OkG 309 56 (o_ll 3 57) := js_St.okG (st_lloadn rfl d_309_56) (fun _ _ _ _ _ => rfl)
theorem ki_309_55 : js_OkG 309 55 (o_ls 3 56) := js_St.okG (st_lstoren rfl (Nat.le_of_ble_eq_true rfl) d_309_55) (fun _ _ _ _ _ => rfl)
theorem ki_309_54 : js_OkG 309 54 (o_B2 (fun x y => x ||| y) 55) := js_St.okG (st_lor d_309_54) (fun _ _ _ _ _ => rfl)
theorem ki_309_53 : js_OkG 309 53 (o_lc 0 54) := js_St.okG (st_lconst rfl d_309_53) (fun _ _ _ _ _ => rfl)
theorem ki_309_50 : js_OkG 309 50 (o_go 54) := js_St.okG (st_goto (by decide) d_309_50) (fun _ _ _ _ _ => rfl)
theorem ki_309_49 : js_OkG 309 49 (o_Sh (fun x y => x <<< (y.toInt64 &&& 63)) 50) := js_St.okG (st_lshl d_309_49) (fun _ _ _ _ _ => rfl)
theorem ki_309_48 : js_OkG 309 48 (o_b2 (fun x y => x - y) 49) := js_St.okG (st_isub d_309_48) (fun _ _ _ _ _ => rfl)
theorem ki_309_79 : js_OkG 309 79 (o_ic 1 80) := js_St.okG (st_iconst rfl d_309_79) (fun _ _ _ _ _ => rfl)
theorem ki_309_77 : js_OkG 309 77 (o_il 5 79) := js_St.okG (st_iload d_309_77) (fun _ _ _ _ _ => rfl)
theorem ki_309_76 : js_OkG 309 76 (o_lc 1 77) := js_St.okG (st_lconst rfl d_309_76) (fun _ _ _ _ _ => rfl)
theorem ki_309_73 : js_OkG 309 73 (o_cne 85 76) := js_St.okG (st_icne (by decide) d_309_73) (fun _ _ _ _ _ => rfl)
theorem ki_309_72 : js_OkG 309 72 (o_ic 1 73) := js_St.okG (st_iconst rfl d_309_72) (fun _ _ _ _ _ => rfl)
theorem ki_309_69 : js_OkG 309 69 (o_cI 176 4 0 72) := og_sIP rfl rfl kB_309_176 rfl kw_785 kw_786 d_309_69
theorem ki_309_68 : js_OkG 309 68 (o_ic 1 69) := js_St.okG (st_iconst rfl d_309_68) (fun _ _ _ _ _ => rfl)
theorem ki_309_67 : js_OkG 309 67 (o_rem 68) := js_St.okG (st_irem d_309_67) (fun _ _ _ _ _ => rfl)
theorem ki_309_65 : js_OkG 309 65 (o_ic 8 67) := js_St.okG (st_bipush rfl d_309_65) (fun _ _ _ _ _ => rfl)
theorem ki_309_95 : js_OkG 309 95 (o_il 5 97) := js_St.okG (st_iload d_309_95) (fun _ _ _ _ _ => rfl)
theorem ki_309_94 : js_OkG 309 94 (o_div 95) := js_St.okG (st_idiv d_309_94) (fun _ _ _ _ _ => rfl)
theorem ki_309_92 : js_OkG 309 92 (o_ic 8 94) := js_St.okG (st_bipush rfl d_309_92) (fun _ _ _ _ _ => rfl)
theorem ki_309_90 : js_OkG 309 90 (o_il 5 92) := js_St.okG (st_iload d_309_90) (fun _ _ _ _ _ => rfl)
theorem ki_309_89 : js_OkG 309 89 (o_al 0 90) := js_St.okG (st_aloadn rfl d_309_89) (fun _ _ _ _ _ => rfl)
theorem ki_309_88 : js_OkG 309 88 (o_ll 3 89) := js_St.okG (st_lloadn rfl d_309_88) (fun _ _ _ _ _ => rfl)
theorem ki_309_87 : js_OkG 309 87 (o_ls 3 88) := js_St.okG (st_lstoren rfl (Nat.le_of_ble_eq_true rfl) d_309_87) (fun _ _ _ _ _ => rfl)
theorem ki_309_86 : js_OkG 309 86 (o_B2 (fun x y => x ||| y) 87) := js_St.okG (st_lor d_309_86) (fun _ _ _ _ _ => rfl)
theorem ki_309_85 : js_OkG 309 85 (o_lc 0 86) := js_St.okG (st_lconst rfl d_309_85) (fun _ _ _ _ _ => rfl)
theorem ki_309_82 : js_OkG 309 82 (o_go 86) := js_St.okG (st_goto (by decide) d_309_82) (fun _ _ _ _ _ => rfl)
theorem ki_309_81 : js_OkG 309 81 (o_Sh (fun x y => x <<< (y.toInt64 &&& 63)) 82) := js_St.okG (st_lshl d_309_81) (fun _ _ _ _ _ => rfl)
theorem ki_309_80 : js_OkG 309 80 (o_b2 (fun x y => x + y) 81) := js_St.okG (st_iadd d_309_80) (fun _ _ _ _ _ => rfl)
theorem ki_309_111 : js_OkG 309 111 (o_ic 8 113) := js_St.okG (st_bipush rfl d_309_111) (fun _ _ _ _ _ => rfl)
theorem ki_309_109 : js_OkG 309 109 (o_il 5 111) := js_St.okG (st_iload d_309_109) (fun _ _ _ _ _ => rfl)
theorem ki_309_108 : js_OkG 309 108 (o_lc 1 109) := js_St.okG (st_lconst rfl d_309_108) (fun _ _ _ _ _ => rfl)
theorem ki_309_105 : js_OkG 309 105 (o_cne 118 108) := js_St.okG (st_icne (by decide) d_309_105) (fun _ _ _ _ _ => rfl)
theorem ki_309_104 : js_OkG 309 104 (o_ic 1 105) := js_St.okG (st_iconst rfl d_309_104) (fun _ _ _ _ _ => rfl)
theorem ki_309_101 : js_OkG 309 101 (o_cI 176 4 0 104) := og_sIP rfl rfl kB_309_176 rfl kw_785 kw_786 d_309_101
theorem ki_309_100 : js_OkG 309 100 (o_ic 2 101) := js_St.okG (st_iconst rfl d_309_100) (fun _ _ _ _ _ => rfl)
theorem ki_309_99 : js_OkG 309 99 (o_rem 100) := js_St.okG (st_irem d_309_99) (fun _ _ _ _ _ => rfl)
theorem ki_309_97 : js_OkG 309 97 (o_ic 8 99) := js_St.okG (st_bipush rfl d_309_97) (fun _ _ _ _ _ => rfl)
theorem ki_309_127 : js_OkG 309 127 (o_div 128) := js_St.okG (st_idiv d_309_127) (fun _ _ _ _ _ => rfl)
theorem ki_309_125 : js_OkG 309 125 (o_ic 8 127) := js_St.okG (st_bipush rfl d_309_125) (fun _ _ _ _ _ => rfl)
theorem ki_309_123 : js_OkG 309 123 (o_il 5 125) := js_St.okG (st_iload d_309_123) (fun _ _ _ _ _ => rfl)
theorem ki_309_122 : js_OkG 309 122 (o_al 0 123) := js_St.okG (st_aloadn rfl d_309_122) (fun _ _ _ _ _ => rfl)
theorem ki_309_121 : js_OkG 309 121 (o_ll 3 122) := js_St.okG (st_lloadn rfl d_309_121) (fun _ _ _ _ _ => rfl)
theorem ki_309_120 : js_OkG 309 120 (o_ls 3 121) := js_St.okG (st_lstoren rfl (Nat.le_of_ble_eq_true rfl) d_309_120) (fun _ _ _ _ _ => rfl)
theorem ki_309_119 : js_OkG 309 119 (o_B2 (fun x y => x ||| y) 120) := js_St.okG (st_lor d_309_119) (fun _ _ _ _ _ => rfl)
theorem ki_309_118 : js_OkG 309 118 (o_lc 0 119) := js_St.okG (st_lconst rfl d_309_118) (fun _ _ _ _ _ => rfl)
theorem ki_309_115 : js_OkG 309 115 (o_go 119) := js_St.okG (st_goto (by decide) d_309_115) (fun _ _ _ _ _ => rfl)
theorem ki_309_114 : js_OkG 309 114 (o_Sh (fun x y => x <<< (y.toInt64 &&& 63)) 115) := js_St.okG (st_lshl d_309_114) (fun _ _ _ _ _ => rfl)
theorem ki_309_113 : js_OkG 309 113 (o_b2 (fun x y => x + y) 114) := js_St.okG (st_iadd d_309_113) (fun _ _ _ _ _ => rfl)
theorem ki_309_142 : js_OkG 309 142 (o_il 5 144) := js_St.okG (st_iload d_309_142) (fun _ _ _ _ _ => rfl)
theorem ki_309_141 : js_OkG 309 141 (o_lc 1 142) := js_St.okG (st_lconst rfl d_309_141) (fun _ _ _ _ _ => rfl)
theorem ki_309_138 : js_OkG 309 138 (o_cne 150 141) := js_St.okG (st_icne (by decide) d_309_138) (fun _ _ _ _ _ => rfl)
theorem ki_309_137 : js_OkG 309 137 (o_ic 1 138) := js_St.okG (st_iconst rfl d_309_137) (fun _ _ _ _ _ => rfl)
theorem ki_309_134 : js_OkG 309 134 (o_cI 176 4 0 137) := og_sIP rfl rfl kB_309_176 rfl kw_785 kw_786 d_309_134
theorem ki_309_133 : js_OkG 309 133 (o_ic 3 134) := js_St.okG (st_iconst rfl d_309_133) (fun _ _ _ _ _ => rfl)
theorem ki_309_132 : js_OkG 309 132 (o_rem 133) := js_St.okG (st_irem d_309_132) (fun _ _ _ _ _ => rfl)
theorem ki_309_130 : js_OkG 309 130 (o_ic 8 132) := js_St.okG (st_bipush rfl d_309_130) (fun _ _ _ _ _ => rfl)
theorem ki_309_128 : js_OkG 309 128 (o_il 5 130) := js_St.okG (st_iload d_309_128) (fun _ _ _ _ _ => rfl)
theorem ki_309_159 : js_OkG 309 159 (o_ll 3 160) := js_St.okG (st_lloadn rfl d_309_159) (fun _ _ _ _ _ => rfl)
theorem ki_309_156 : js_OkG 309 156 (o_go 5) := js_St.okG (st_goto (by decide) d_309_156) (fun _ _ _ _ _ => rfl)
theorem ki_309_153 : js_OkG 309 153 (o_inc 5 1 156) := js_St.okG (st_iinc rfl (Nat.le_of_ble_eq_true rfl) d_309_153) (fun _ _ _ _ _ => rfl)
theorem ki_309_152 : js_OkG 309 152 (o_ls 3 153) := js_St.okG (st_lstoren rfl (Nat.le_of_ble_eq_true rfl) d_309_152) (fun _ _ _ _ _ => rfl)
theorem ki_309_151 : js_OkG 309 151 (o_B2 (fun x y => x ||| y) 152) := js_St.okG (st_lor d_309_151) (fun _ _ _ _ _ => rfl)
theorem ki_309_150 : js_OkG 309 150 (o_lc 0 151) := js_St.okG (st_lconst rfl d_309_150) (fun _ _ _ _ _ => rfl)
theorem ki_309_147 : js_OkG 309 147 (o_go 151) := js_St.okG (st_goto (by decide) d_309_147) (fun _ _ _ _ _ => rfl)
theorem ki_309_146 : js_OkG 309 146 (o_Sh (fun x y => x <<< (y.toInt64 &&& 63)) 147) := js_St.okG (st_lshl d_309_146) (fun _ _ _ _ _ => rfl)
theorem ki_309_145 : js_OkG 309 145 (o_b2 (fun x y => x - y) 146) := js_St.okG (st_isub d_309_145) (fun _ _ _ _ _ => rfl)
theorem ki_309_144 : js_OkG 309 144 (o_ic 1 145) := js_St.okG (st_iconst rfl d_309_144) (fun _ _ _ _ _ => rfl)
theorem ki_309_174 : js_OkG 309 174 (o_rL) := og_rL rfl d_309_174
theorem ki_309_171 : js_OkG 309 171 (o_cL 310 2 0 174) := og_sLP rfl rfl kB_309_310 rfl kw_949 kw_950 d_309_171
theorem ki_309_170 : js_OkG 309 170 (o_ll 3 171) := js_St.okG (st_lloadn rfl d_309_170) (fun _ _ _ _ _ => rfl)
theorem ki_309_169 : js_OkG 309 169 (o_al 0 170) := js_St.okG (st_aloadn rfl d_309_169) (fun _ _ _ _ _ => rfl)
theorem ki_309_166 : js_OkG 309 166 (o_go 174) := js_St.okG (st_goto (by decide) d_309_166) (fun _ _ _ _ _ => rfl)
theorem ki_309_165 : js_OkG 309 165 (o_ll 1 166) := js_St.okG (st_lloadn rfl d_309_165) (fun _ _ _ _ _ => rfl)
theorem ki_309_162 : js_OkG 309 162 (o_ne 169 165) := js_St.okG (st_ifne (by decide) d_309_162) (fun _ _ _ _ _ => rfl)
theorem ki_309_161 : js_OkG 309 161 (o_lcmp 162) := js_St.okG (st_lcmp d_309_161) (fun _ _ _ _ _ => rfl)
theorem ki_309_160 : js_OkG 309 160 (o_ll 1 161) := js_St.okG (st_lloadn rfl d_309_160) (fun _ _ _ _ _ => rfl)
set_option maxRecDepth 20000 in
theorem mk_309 : js_mokG 309 := jk_tab (fun _ => js_St.okG st_bad (fun _ _ _ _ _ => rfl)) (show jk_all (js_OkG 309) 0 (tb_G 309) from ⟨⟨ki_309_0, ⟨ki_309_1, ⟨ki_309_2, ⟨ki_309_3, ⟨kbadG, ⟨ki_309_5, ⟨kbadG, ⟨ki_309_7, ⟨kbadG, ⟨ki_309_9, ⟨kbadG, ⟨kbadG, ⟨ki_309_12, ⟨ki_309_13, ⟨kbadG, ⟨ki_309_15, trivial⟩⟩⟩⟩⟩⟩⟩⟩⟩⟩⟩⟩⟩⟩⟩⟩, ⟨⟨ki_309_16, ⟨ki_309_17, ⟨ki_309_18, ⟨ki_309_19, ⟨ki_309_20, ⟨kbadG, ⟨kbadG, ⟨ki_309_23, ⟨ki_309_24, ⟨ki_309_25, ⟨kbadG, ⟨ki_309_27, ⟨kbadG, ⟨ki_309_29, ⟨ki_309_30, ⟨kbadG, trivial⟩⟩⟩⟩⟩⟩⟩⟩⟩⟩⟩⟩⟩⟩⟩⟩, ⟨⟨ki_309_32, ⟨kbadG, ⟨ki_309_34, ⟨ki_309_35, ⟨ki_309_36, ⟨kbadG, ⟨kbadG, ⟨ki_309_39, ⟨ki_309_40, ⟨kbadG, ⟨kbadG, ⟨ki_309_43, ⟨ki_309_44, ⟨kbadG, ⟨ki_309_46, ⟨kbadG, trivial⟩⟩⟩⟩⟩⟩⟩⟩⟩⟩⟩⟩⟩⟩⟩⟩, ⟨⟨ki_309_48, ⟨ki_309_49, ⟨ki_309_50, ⟨kbadG, ⟨kbadG, ⟨ki_309_53, ⟨ki_309_54, ⟨ki_309_55, ⟨ki_309_56, ⟨ki_309_57, ⟨ki_309_58, ⟨kbadG, ⟨ki_309_60, ⟨kbadG, ⟨ki_309_62, ⟨ki_309_63, trivial⟩⟩⟩⟩⟩⟩⟩⟩⟩⟩⟩⟩⟩⟩⟩⟩, ⟨⟨kbadG, ⟨ki_309_65, ⟨kbadG, ⟨ki_309_67, ⟨ki_309_68, ⟨ki_309_69, ⟨kbadG, ⟨kbadG, ⟨ki_309_72, ⟨ki_309_73, ⟨kbadG, ⟨kbadG, ⟨ki_309_76, ⟨ki_309_77, ⟨kbadG, ⟨ki_309_79, trivial⟩⟩⟩⟩⟩⟩⟩⟩⟩⟩⟩⟩⟩⟩⟩⟩, ⟨⟨ki_309_80, ⟨ki_309_81, ⟨ki_309_82, ⟨kbadG, ⟨kbadG, ⟨ki_309_85, ⟨ki_309_86, ⟨ki_309_87, ⟨ki_309_88, ⟨ki_309_89, ⟨ki_309_90, ⟨kbadG, ⟨ki_309_92, ⟨kbadG, ⟨ki_309_94, ⟨ki_309_95, trivial⟩⟩⟩⟩⟩⟩⟩⟩⟩⟩⟩⟩⟩⟩⟩⟩, ⟨⟨kbadG, ⟨ki_309_97, ⟨kbadG, ⟨ki_309_99, ⟨ki_309_100, ⟨ki_309_101, ⟨kbadG, ⟨kbadG, ⟨ki_309_104, ⟨ki_309_105, ⟨kbadG, ⟨kbadG, ⟨ki_309_108, ⟨ki_309_109, ⟨kbadG, ⟨ki_309_111, trivial⟩⟩⟩⟩⟩⟩⟩⟩⟩⟩⟩⟩⟩⟩⟩⟩, ⟨⟨kbadG, ⟨ki_309_113, ⟨ki_309_114, ⟨ki_309_115, ⟨kbadG, ⟨kbadG, ⟨ki_309_118, ⟨ki_309_119, ⟨ki_309_120, ⟨ki_309_121, ⟨ki_309_122, ⟨ki_309_123, ⟨kbadG, ⟨ki_309_125, ⟨kbadG, ⟨ki_309_127, trivial⟩⟩⟩⟩⟩⟩⟩⟩⟩⟩⟩⟩⟩⟩⟩⟩, ⟨⟨ki_309_128, ⟨kbadG, ⟨ki_309_130, ⟨kbadG, ⟨ki_309_132, ⟨ki_309_133, ⟨ki_309_134, ⟨kbadG, ⟨kbadG, ⟨ki_309_137, ⟨ki_309_138, ⟨kbadG, ⟨kbadG, ⟨ki_309_141, ⟨ki_309_142, ⟨kbadG, trivial⟩⟩⟩⟩⟩⟩⟩⟩⟩⟩⟩⟩⟩⟩⟩⟩, ⟨⟨ki_309_144, ⟨ki_309_145, ⟨ki_309_146, ⟨ki_309_147, ⟨kbadG, ⟨kbadG, ⟨ki_309_150, ⟨ki_309_151, ⟨ki_309_152, ⟨ki_309_153, ⟨kbadG, ⟨kbadG, ⟨ki_309_156, ⟨kbadG, ⟨kbadG, ⟨ki_309_159, trivial⟩⟩⟩⟩⟩⟩⟩⟩⟩⟩⟩⟩⟩⟩⟩⟩, ⟨⟨ki_309_160, ⟨ki_309_161, ⟨ki_309_162, ⟨kbadG, ⟨kbadG, ⟨ki_309_165, ⟨ki_309_166, ⟨kbadG, ⟨kbadG, ⟨ki_309_169, ⟨ki_309_170, ⟨ki_309_171, ⟨kbadG, ⟨kbadG, ⟨ki_309_174, trivial⟩⟩⟩⟩⟩⟩⟩⟩⟩⟩⟩⟩⟩⟩⟩, trivial⟩⟩⟩⟩⟩⟩⟩⟩⟩⟩⟩)
theorem d_310_0 : decode (js_b 310) 0 = .ok (.lload_n 1, 1) := d_300_0
theorem d_310_1 : decode (js_b 310) 1 = .ok (.lstore_n 3, 1) := d_300_1
theorem d_310_2 : decode (js_b 310) 2 = .ok (.iconst 0, 1) := d_300_2
theorem d_310_3 : decode (js_b 310) 3 = .ok (.istore 5, 2) := d_300_3
theorem d_310_5 : decode (js_b 310) 5 = .ok (.iload 5, 2) := d_300_5
theorem d_310_7 : decode (js_b 310) 7 = .ok (.bipush 64, 2) := d_300_7
theorem d_310_9 : decode (js_b 310) 9 = .ok (.if_icmp .ge 150, 3) := d_300_9
theorem d_310_12 : decode (js_b 310) 12 = .ok (.lload_n 1, 1) := d_300_12
theorem d_310_13 : decode (js_b 310) 13 = .ok (.iload 5, 2) := d_300_13
theorem d_310_15 : decode (js_b 310) 15 = .ok (.lushr, 1) := d_300_15
theorem d_310_16 : decode (js_b 310) 16 = .ok (.lconst 1, 1) := d_300_16
theorem d_310_17 : decode (js_b 310) 17 = .ok (.land, 1) := d_300_17
theorem d_310_18 : decode (js_b 310) 18 = .ok (.lconst 1, 1) := d_300_18
theorem d_310_19 : decode (js_b 310) 19 = .ok (.lcmp, 1) := d_300_19
theorem d_310_20 : decode (js_b 310) 20 = .ok (.ifCond .ne 133, 3) := d_300_20
theorem d_310_23 : decode (js_b 310) 23 = .ok (.lload_n 3, 1) := d_300_23
theorem d_310_24 : decode (js_b 310) 24 = .ok (.aload_n 0, 1) := d_300_24
theorem d_310_25 : decode (js_b 310) 25 = .ok (.iload 5, 2) := d_300_25
theorem d_310_27 : decode (js_b 310) 27 = .ok (.bipush 8, 2) := d_300_27
theorem d_310_29 : decode (js_b 310) 29 = .ok (.idiv, 1) := d_300_29
theorem d_310_30 : decode (js_b 310) 30 = .ok (.iload 5, 2) := d_300_30
theorem d_310_32 : decode (js_b 310) 32 = .ok (.bipush 8, 2) := d_300_32
theorem d_310_34 : decode (js_b 310) 34 = .ok (.irem, 1) := d_300_34
theorem d_310_35 : decode (js_b 310) 35 = .ok (.iconst 0, 1) := d_300_35
theorem d_310_36 : decode (js_b 310) 36 = .ok (.invokestatic 198, 3) := d_300_36
theorem d_310_39 : decode (js_b 310) 39 = .ok (.iconst 1, 1) := d_300_39
theorem d_310_40 : decode (js_b 310) 40 = .ok (.if_icmp .ne 13, 3) := d_300_40
theorem d_310_43 : decode (js_b 310) 43 = .ok (.lconst 1, 1) := d_300_43
theorem d_310_44 : decode (js_b 310) 44 = .ok (.iload 5, 2) := d_300_44
theorem d_310_46 : decode (js_b 310) 46 = .ok (.bipush 8, 2) := d_300_46
theorem d_310_48 : decode (js_b 310) 48 = .ok (.isub, 1) := d_300_48
theorem d_310_49 : decode (js_b 310) 49 = .ok (.lshl, 1) := d_300_49
theorem d_310_50 : decode (js_b 310) 50 = .ok (.goto 4, 3) := d_300_50
theorem d_310_53 : decode (js_b 310) 53 = .ok (.lconst 0, 1) := d_300_53
theorem d_310_54 : decode (js_b 310) 54 = .ok (.lor, 1) := d_300_54
theorem d_310_55 : decode (js_b 310) 55 = .ok (.lstore_n 3, 1) := d_300_55
theorem d_310_56 : decode (js_b 310) 56 = .ok (.lload_n 3, 1) := d_300_56
theorem d_310_57 : decode (js_b 310) 57 = .ok (.aload_n 0, 1) := d_300_57
theorem d_310_58 : decode (js_b 310) 58 = .ok (.iload 5, 2) := d_300_58
theorem d_310_60 : decode (js_b 310) 60 = .ok (.bipush 8, 2) := d_300_60
theorem d_310_62 : decode (js_b 310) 62 = .ok (.idiv, 1) := d_300_62
theorem d_310_63 : decode (js_b 310) 63 = .ok (.iload 5, 2) := d_300_63
theorem d_310_65 : decode (js_b 310) 65 = .ok (.bipush 8, 2) := d_300_65
theorem d_310_67 : decode (js_b 310) 67 = .ok (.irem, 1) := d_300_67
theorem d_310_68 : decode (js_b 310) 68 = .ok (.iconst 1, 1) := d_300_68
theorem d_310_69 : decode (js_b 310) 69 = .ok (.invokestatic 198, 3) := d_300_69
theorem d_310_72 : decode (js_b 310) 72 = .ok (.iconst 1, 1) := d_300_72
theorem d_310_73 : decode (js_b 310) 73 = .ok (.if_icmp .ne 12, 3) := d_300_73
theorem d_310_76 : decode (js_b 310) 76 = .ok (.lconst 1, 1) := d_300_76
theorem d_310_77 : decode (js_b 310) 77 = .ok (.iload 5, 2) := d_300_77
theorem d_310_79 : decode (js_b 310) 79 = .ok (.iconst 1, 1) := d_300_79
theorem d_310_80 : decode (js_b 310) 80 = .ok (.iadd, 1) := d_300_80
theorem d_310_81 : decode (js_b 310) 81 = .ok (.lshl, 1) := d_300_81
theorem d_310_82 : decode (js_b 310) 82 = .ok (.goto 4, 3) := d_300_82
theorem d_310_85 : decode (js_b 310) 85 = .ok (.lconst 0, 1) := d_300_85
theorem d_310_86 : decode (js_b 310) 86 = .ok (.lor, 1) := d_300_86
theorem d_310_87 : decode (js_b 310) 87 = .ok (.lstore_n 3, 1) := d_300_87
theorem d_310_88 : decode (js_b 310) 88 = .ok (.lload_n 3, 1) := d_300_88
theorem d_310_89 : decode (js_b 310) 89 = .ok (.aload_n 0, 1) := d_300_89
theorem d_310_90 : decode (js_b 310) 90 = .ok (.iload 5, 2) := d_300_90
theorem d_310_92 : decode (js_b 310) 92 = .ok (.bipush 8, 2) := d_300_92
theorem d_310_94 : decode (js_b 310) 94 = .ok (.idiv, 1) := d_300_94
theorem d_310_95 : decode (js_b 310) 95 = .ok (.iload 5, 2) := d_300_95
theorem d_310_97 : decode (js_b 310) 97 = .ok (.bipush 8, 2) := d_300_97
theorem d_310_99 : decode (js_b 310) 99 = .ok (.irem, 1) := d_300_99
theorem d_310_100 : decode (js_b 310) 100 = .ok (.iconst 2, 1) := d_300_100
theorem d_310_101 : decode (js_b 310) 101 = .ok (.invokestatic 198, 3) := d_300_101
theorem d_310_104 : decode (js_b 310) 104 = .ok (.iconst 1, 1) := d_300_104
theorem d_310_105 : decode (js_b 310) 105 = .ok (.if_icmp .ne 13, 3) := d_300_105
theorem d_310_108 : decode (js_b 310) 108 = .ok (.lconst 1, 1) := d_300_108
theorem d_310_109 : decode (js_b 310) 109 = .ok (.iload 5, 2) := d_300_109
theorem d_310_111 : decode (js_b 310) 111 = .ok (.bipush 8, 2) := d_300_111
theorem d_310_113 : decode (js_b 310) 113 = .ok (.iadd, 1) := d_300_113
theorem d_310_114 : decode (js_b 310) 114 = .ok (.lshl, 1) := d_300_114
theorem d_310_115 : decode (js_b 310) 115 = .ok (.goto 4, 3) := d_300_115
theorem d_310_118 : decode (js_b 310) 118 = .ok (.lconst 0, 1) := d_300_118
theorem d_310_119 : decode (js_b 310) 119 = .ok (.lor, 1) := d_300_119
theorem d_310_120 : decode (js_b 310) 120 = .ok (.lstore_n 3, 1) := d_300_120
theorem d_310_121 : decode (js_b 310) 121 = .ok (.lload_n 3, 1) := d_300_121
theorem d_310_122 : decode (js_b 310) 122 = .ok (.aload_n 0, 1) := d_300_122
theorem d_310_123 : decode (js_b 310) 123 = .ok (.iload 5, 2) := d_300_123
theorem d_310_125 : decode (js_b 310) 125 = .ok (.bipush 8, 2) := d_300_125
theorem d_310_127 : decode (js_b 310) 127 = .ok (.idiv, 1) := d_300_127
theorem d_310_128 : decode (js_b 310) 128 = .ok (.iload 5, 2) := d_300_128
theorem d_310_130 : decode (js_b 310) 130 = .ok (.bipush 8, 2) := d_300_130
theorem d_310_132 : decode (js_b 310) 132 = .ok (.irem, 1) := d_300_132
theorem d_310_133 : decode (js_b 310) 133 = .ok (.iconst 3, 1) := d_300_133
theorem d_310_134 : decode (js_b 310) 134 = .ok (.invokestatic 198, 3) := d_300_134
theorem d_310_137 : decode (js_b 310) 137 = .ok (.iconst 1, 1) := d_300_137
theorem d_310_138 : decode (js_b 310) 138 = .ok (.if_icmp .ne 12, 3) := d_300_138
theorem d_310_141 : decode (js_b 310) 141 = .ok (.lconst 1, 1) := d_300_141
theorem d_310_142 : decode (js_b 310) 142 = .ok (.iload 5, 2) := d_300_142
theorem d_310_144 : decode (js_b 310) 144 = .ok (.iconst 1, 1) := d_300_144
theorem d_310_145 : decode (js_b 310) 145 = .ok (.isub, 1) := d_300_145
theorem d_310_146 : decode (js_b 310) 146 = .ok (.lshl, 1) := d_300_146
theorem d_310_147 : decode (js_b 310) 147 = .ok (.goto 4, 3) := d_300_147
theorem d_310_150 : decode (js_b 310) 150 = .ok (.lconst 0, 1) := d_300_150
theorem d_310_151 : decode (js_b 310) 151 = .ok (.lor, 1) := d_300_151
theorem d_310_152 : decode (js_b 310) 152 = .ok (.lstore_n 3, 1) := d_300_152
theorem d_310_153 : decode (js_b 310) 153 = .ok (.iinc 5 1, 3) := d_300_153
theorem d_310_156 : decode (js_b 310) 156 = .ok (.goto (-151), 3) := d_300_156
theorem d_310_159 : decode (js_b 310) 159 = .ok (.lload_n 3, 1) := d_300_159
theorem d_310_160 : decode (js_b 310) 160 = .ok (.lload_n 1, 1) := d_300_160
theorem d_310_161 : decode (js_b 310) 161 = .ok (.lcmp, 1) := d_300_161
theorem d_310_162 : decode (js_b 310) 162 = .ok (.ifCond .ne 7, 3) := d_300_162
theorem d_310_165 : decode (js_b 310) 165 = .ok (.lload_n 1, 1) := d_300_165
theorem d_310_166 : decode (js_b 310) 166 = .ok (.goto 8, 3) := d_300_166
theorem d_310_169 : decode (js_b 310) 169 = .ok (.aload_n 0, 1) := d_300_169
theorem d_310_170 : decode (js_b 310) 170 = .ok (.lload_n 3, 1) := d_300_170
theorem d_310_171 : decode (js_b 310) 171 = .ok (.invokestatic 323, 3) := d_300_171
theorem d_310_174 : decode (js_b 310) 174 = .ok (.lreturn, 1) := d_300_174
theorem ki_310_15 : js_OkG 310 15 (o_Sh (fun x y => (x.toUInt64 >>> (y.toInt64.toUInt64 &&& Int64.toUInt64 63)).toInt64) 16) := js_St.okG (st_lushr d_310_15) (fun _ _ _ _ _ => rfl)
theorem ki_310_13 : js_OkG 310 13 (o_il 5 15) := js_St.okG (st_iload d_310_13) (fun _ _ _ _ _ => rfl)
theorem ki_310_12 : js_OkG 310 12 (o_ll 1 13) := js_St.okG (st_lloadn rfl d_310_12) (fun _ _ _ _ _ => rfl)
theorem ki_310_9 : js_OkG 310 9 (o_cge 159 12) := js_St.okG (st_icge (by decide) d_310_9) (fun _ _ _ _ _ => rfl)
theorem ki_310_7 : js_OkG 310 7 (o_ic 64 9) := js_St.okG (st_bipush rfl d_310_7) (fun _ _ _ _ _ => rfl)
theorem ki_310_5 : js_OkG 310 5 (o_il 5 7) := js_St.okG (st_iload d_310_5) (fun _ _ _ _ _ => rfl)
theorem ki_310_3 : js_OkG 310 3 (o_is 5 5) := js_St.okG (st_istore (Nat.le_of_ble_eq_true rfl) d_310_3) (fun _ _ _ _ _ => rfl)
theorem ki_310_2 : js_OkG 310 2 (o_ic 0 3) := js_St.okG (st_iconst rfl d_310_2) (fun _ _ _ _ _ => rfl)
theorem ki_310_1 : js_OkG 310 1 (o_ls 3 2) := js_St.okG (st_lstoren rfl (Nat.le_of_ble_eq_true rfl) d_310_1) (fun _ _ _ _ _ => rfl)
theorem ki_310_0 : js_OkG 310 0 (o_ll 1 1) := js_St.okG (st_lloadn rfl d_310_0) (fun _ _ _ _ _ => rfl)
theorem ki_310_30 : js_OkG 310 30 (o_il 5 32) := js_St.okG (st_iload d_310_30) (fun _ _ _ _ _ => rfl)
theorem ki_310_29 : js_OkG 310 29 (o_div 30) := js_St.okG (st_idiv d_310_29) (fun _ _ _ _ _ => rfl)
theorem ki_310_27 : js_OkG 310 27 (o_ic 8 29) := js_St.okG (st_bipush rfl d_310_27) (fun _ _ _ _ _ => rfl)
theorem ki_310_25 : js_OkG 310 25 (o_il 5 27) := js_St.okG (st_iload d_310_25) (fun _ _ _ _ _ => rfl)
theorem ki_310_24 : js_OkG 310 24 (o_al 0 25) := js_St.okG (st_aloadn rfl d_310_24) (fun _ _ _ _ _ => rfl)
theorem ki_310_23 : js_OkG 310 23 (o_ll 3 24) := js_St.okG (st_lloadn rfl d_310_23) (fun _ _ _ _ _ => rfl)
theorem ki_310_20 : js_OkG 310 20 (o_ne 153 23) := js_St.okG (st_ifne (by decide) d_310_20) (fun _ _ _ _ _ => rfl)
theorem ki_310_19 : js_OkG 310 19 (o_lcmp 20) := js_St.okG (st_lcmp d_310_19) (fun _ _ _ _ _ => rfl)
theorem ki_310_18 : js_OkG 310 18 (o_lc 1 19) := js_St.okG (st_lconst rfl d_310_18) (fun _ _ _ _ _ => rfl)
theorem ki_310_17 : js_OkG 310 17 (o_B2 (fun x y => x &&& y) 18) := js_St.okG (st_land d_310_17) (fun _ _ _ _ _ => rfl)
theorem ki_310_16 : js_OkG 310 16 (o_lc 1 17) := js_St.okG (st_lconst rfl d_310_16) (fun _ _ _ _ _ => rfl)
theorem ki_310_46 : js_OkG 310 46 (o_ic 8 48) := js_St.okG (st_bipush rfl d_310_46) (fun _ _ _ _ _ => rfl)
theorem ki_310_44 : js_OkG 310 44 (o_il 5 46) := js_St.okG (st_iload d_310_44) (fun _ _ _ _ _ => rfl)
theorem ki_310_43 : js_OkG 310 43 (o_lc 1 44) := js_St.okG (st_lconst rfl d_310_43) (fun _ _ _ _ _ => rfl)
theorem ki_310_40 : js_OkG 310 40 (o_cne 53 43) := js_St.okG (st_icne (by decide) d_310_40) (fun _ _ _ _ _ => rfl)
theorem ki_310_39 : js_OkG 310 39 (o_ic 1 40) := js_St.okG (st_iconst rfl d_310_39) (fun _ _ _ _ _ => rfl)
theorem ki_310_36 : js_OkG 310 36 (o_cI 176 4 0 39) := og_sIP rfl rfl kB_310_176 rfl kw_785 kw_786 d_310_36
theorem ki_310_35 : js_OkG 310 35 (o_ic 0 36) := js_St.okG (st_iconst rfl d_310_35) (fun _ _ _ _ _ => rfl)
theorem ki_310_34 : js_OkG 310 34 (o_rem 35) := js_St.okG (st_irem d_310_34) (fun _ _ _ _ _ => rfl)
theorem ki_310_32 : js_OkG 310 32 (o_ic 8 34) := js_St.okG (st_bipush rfl d_310_32) (fun _ _ _ _ _ => rfl)
theorem ki_310_63 : js_OkG 310 63 (o_il 5 65) := js_St.okG (st_iload d_310_63) (fun _ _ _ _ _ => rfl)
theorem ki_310_62 : js_OkG 310 62 (o_div 63) := js_St.okG (st_idiv d_310_62) (fun _ _ _ _ _ => rfl)
theorem ki_310_60 : js_OkG 310 60 (o_ic 8 62) := js_St.okG (st_bipush rfl d_310_60) (fun _ _ _ _ _ => rfl)
theorem ki_310_58 : js_OkG 310 58 (o_il 5 60) := js_St.okG (st_iload d_310_58) (fun _ _ _ _ _ => rfl)
theorem ki_310_57 : js_OkG 310 57 (o_al 0 58) := js_St.okG (st_aloadn rfl d_310_57) (fun _ _ _ _ _ => rfl)
theorem ki_310_56 : js_OkG 310 56 (o_ll 3 57) := js_St.okG (st_lloadn rfl d_310_56) (fun _ _ _ _ _ => rfl)
theorem ki_310_55 : js_OkG 310 55 (o_ls 3 56) := js_St.okG (st_lstoren rfl (Nat.le_of_ble_eq_true rfl) d_310_55) (fun _ _ _ _ _ => rfl)
theorem ki_310_54 : js_OkG 310 54 (o_B2 (fun x y => x ||| y) 55) := js_St.okG (st_lor d_310_54) (fun _ _ _ _ _ => rfl)
theorem ki_310_53 : js_OkG 310 53 (o_lc 0 54) := js_St.okG (st_lconst rfl d_310_53) (fun _ _ _ _ _ => rfl)
theorem ki_310_50 : js_OkG 310 50 (o_go 54) := js_St.okG (st_goto (by decide) d_310_50) (fun _ _ _ _ _ => rfl)
theorem ki_310_49 : js_OkG 310 49 (o_Sh (fun x y => x <<< (y.toInt64 &&& 63)) 50) := js_St.okG (st_lshl d_310_49) (fun _ _ _ _ _ => rfl)
theorem ki_310_48 : js_OkG 310 48 (o_b2 (fun x y => x - y) 49) := js_St.okG (st_isub d_310_48) (fun _ _ _ _ _ => rfl)
theorem ki_310_79 : js_OkG 310 79 (o_ic 1 80) := js_St.okG (st_iconst rfl d_310_79) (fun _ _ _ _ _ => rfl)
theorem ki_310_77 : js_OkG 310 77 (o_il 5 79) := js_St.okG (st_iload d_310_77) (fun _ _ _ _ _ => rfl)
theorem ki_310_76 : js_OkG 310 76 (o_lc 1 77) := js_St.okG (st_lconst rfl d_310_76) (fun _ _ _ _ _ => rfl)
theorem ki_310_73 : js_OkG 310 73 (o_cne 85 76) := js_St.okG (st_icne (by decide) d_310_73) (fun _ _ _ _ _ => rfl)
theorem ki_310_72 : js_OkG 310 72 (o_ic 1 73) := js_St.okG (st_iconst rfl d_310_72) (fun _ _ _ _ _ => rfl)
theorem ki_310_69 : js_OkG 310 69 (o_cI 176 4 0 72) := og_sIP rfl rfl kB_310_176 rfl kw_785 kw_786 d_310_69
theorem ki_310_68 : js_OkG 310 68 (o_ic 1 69) := js_St.okG (st_iconst rfl d_310_68) (fun _ _ _ _ _ => rfl)
theorem ki_310_67 : js_OkG 310 67 (o_rem 68) := js_St.okG (st_irem d_310_67) (fun _ _ _ _ _ => rfl)
theorem ki_310_65 : js_OkG 310 65 (o_ic 8 67) := js_St.okG (st_bipush rfl d_310_65) (fun _ _ _ _ _ => rfl)
theorem ki_310_95 : js_OkG 310 95 (o_il 5 97) := js_St.okG (st_iload d_310_95) (fun _ _ _ _ _ => rfl)
theorem ki_310_94 : js_OkG 310 94 (o_div 95) := js_St.okG (st_idiv d_310_94) (fun _ _ _ _ _ => rfl)
theorem ki_310_92 : js_OkG 310 92 (o_ic 8 94) := js_St.okG (st_bipush rfl d_310_92) (fun _ _ _ _ _ => rfl)
theorem ki_310_90 : js_OkG 310 90 (o_il 5 92) := js_St.okG (st_iload d_310_90) (fun _ _ _ _ _ => rfl)
theorem ki_310_89 : js_OkG 310 89 (o_al 0 90) := js_St.okG (st_aloadn rfl d_310_89) (fun _ _ _ _ _ => rfl)
theorem ki_310_88 : js_OkG 310 88 (o_ll 3 89) := js_St.okG (st_lloadn rfl d_310_88) (fun _ _ _ _ _ => rfl)
theorem ki_310_87 : js_OkG 310 87 (o_ls 3 88) := js_St.okG (st_lstoren rfl (Nat.le_of_ble_eq_true rfl) d_310_87) (fun _ _ _ _ _ => rfl)
theorem ki_310_86 : js_OkG 310 86 (o_B2 (fun x y => x ||| y) 87) := js_St.okG (st_lor d_310_86) (fun _ _ _ _ _ => rfl)
theorem ki_310_85 : js_OkG 310 85 (o_lc 0 86) := js_St.okG (st_lconst rfl d_310_85) (fun _ _ _ _ _ => rfl)
theorem ki_310_82 : js_OkG 310 82 (o_go 86) := js_St.okG (st_goto (by decide) d_310_82) (fun _ _ _ _ _ => rfl)
theorem ki_310_81 : js_OkG 310 81 (o_Sh (fun x y => x <<< (y.toInt64 &&& 63)) 82) := js_St.okG (st_lshl d_310_81) (fun _ _ _ _ _ => rfl)
theorem ki_310_80 : js_OkG 310 80 (o_b2 (fun x y => x + y) 81) := js_St.okG (st_iadd d_310_80) (fun _ _ _ _ _ => rfl)
theorem ki_310_111 : js_OkG 310 111 (o_ic 8 113) := js_St.okG (st_bipush rfl d_310_111) (fun _ _ _ _ _ => rfl)
theorem ki_310_109 : js_OkG 310 109 (o_il 5 111) := js_St.okG (st_iload d_310_109) (fun _ _ _ _ _ => rfl)
theorem ki_310_108 : js_OkG 310 108 (o_lc 1 109) := js_St.okG (st_lconst rfl d_310_108) (fun _ _ _ _ _ => rfl)
theorem ki_310_105 : js_OkG 310 105 (o_cne 118 108) := js_St.okG (st_icne (by decide) d_310_105) (fun _ _ _ _ _ => rfl)
theorem ki_310_104 : js_OkG 310 104 (o_ic 1 105) := js_St.okG (st_iconst rfl d_310_104) (fun _ _ _ _ _ => rfl)
theorem ki_310_101 : js_OkG 310 101 (o_cI 176 4 0 104) := og_sIP rfl rfl kB_310_176 rfl kw_785 kw_786 d_310_101
theorem ki_310_100 : js_OkG 310 100 (o_ic 2 101) := js_St.okG (st_iconst rfl d_310_100) (fun _ _ _ _ _ => rfl)
theorem ki_310_99 : js_OkG 310 99 (o_rem 100) := js_St.okG (st_irem d_310_99) (fun _ _ _ _ _ => rfl)
theorem ki_310_97 : js_OkG 310 97 (o_ic 8 99) := js_St.okG (st_bipush rfl d_310_97) (fun _ _ _ _ _ => rfl)
theorem ki_310_127 : js_OkG 310 127 (o_div 128) := js_St.okG (st_idiv d_310_127) (fun _ _ _ _ _ => rfl)
theorem ki_310_125 : js_OkG 310 125 (o_ic 8 127) := js_St.okG (st_bipush rfl d_310_125) (fun _ _ _ _ _ => rfl)
theorem ki_310_123 : js_OkG 310 123 (o_il 5 125) := js_St.okG (st_iload d_310_123) (fun _ _ _ _ _ => rfl)
theorem ki_310_122 : js_OkG 310 122 (o_al 0 123) := js_St.okG (st_aloadn rfl d_310_122) (fun _ _ _ _ _ => rfl)
theorem ki_310_121 : js_OkG 310 121 (o_ll 3 122) := js_St.okG (st_lloadn rfl d_310_121) (fun _ _ _ _ _ => rfl)
theorem ki_310_120 : js_OkG 310 120 (o_ls 3 121) := js_St.okG (st_lstoren rfl (Nat.le_of_ble_eq_true rfl) d_310_120) (fun _ _ _ _ _ => rfl)
theorem ki_310_119 : js_OkG 310 119 (o_B2 (fun x y => x ||| y) 120) := js_St.okG (st_lor d_310_119) (fun _ _ _ _ _ => rfl)
theorem ki_310_118 : js_OkG 310 118 (o_lc 0 119) := js_St.okG (st_lconst rfl d_310_118) (fun _ _ _ _ _ => rfl)
theorem ki_310_115 : js_OkG 310 115 (o_go 119) := js_St.okG (st_goto (by decide) d_310_115) (fun _ _ _ _ _ => rfl)
theorem ki_310_114 : js_OkG 310 114 (o_Sh (fun x y => x <<< (y.toInt64 &&& 63)) 115) := js_St.okG (st_lshl d_310_114) (fun _ _ _ _ _ => rfl)
theorem ki_310_113 : js_OkG 310 113 (o_b2 (fun x y => x + y) 114) := js_St.okG (st_iadd d_310_113) (fun _ _ _ _ _ => rfl)
theorem ki_310_142 : js_OkG 310 142 (o_il 5 144) := js_St.okG (st_iload d_310_142) (fun _ _ _ _ _ => rfl)
theorem ki_310_141 : js_OkG 310 141 (o_lc 1 142) := js_St.okG (st_lconst rfl d_310_141) (fun _ _ _ _ _ => rfl)
theorem ki_310_138 : js_OkG 310 138 (o_cne 150 141) := js_St.okG (st_icne (by decide) d_310_138) (fun _ _ _ _ _ => rfl)
theorem ki_310_137 : js_OkG 310 137 (o_ic 1 138) := js_St.okG (st_iconst rfl d_310_137) (fun _ _ _ _ _ => rfl)
theorem ki_310_134 : js_OkG 310 134 (o_cI 176 4 0 137) := og_sIP rfl rfl kB_310_176 rfl kw_785 kw_786 d_310_134
theorem ki_310_133 : js_OkG 310 133 (o_ic 3 134) := js_St.okG (st_iconst rfl d_310_133) (fun _ _ _ _ _ => rfl)
theorem ki_310_132 : js_OkG 310 132 (o_rem 133) := js_St.okG (st_irem d_310_132) (fun _ _ _ _ _ => rfl)
theorem ki_310_130 : js_OkG 310 130 (o_ic 8 132) := js_St.okG (st_bipush rfl d_310_130) (fun _ _ _ _ _ => rfl)
theorem ki_310_128 : js_OkG 310 128 (o_il 5 130) := js_St.okG (st_iload d_310_128) (fun _ _ _ _ _ => rfl)
theorem ki_310_159 : js_OkG 310 159 (o_ll 3 160) := js_St.okG (st_lloadn rfl d_310_159) (fun _ _ _ _ _ => rfl)
theorem ki_310_156 : js_OkG 310 156 (o_go 5) := js_St.okG (st_goto (by decide) d_310_156) (fun _ _ _ _ _ => rfl)
theorem ki_310_153 : js_OkG 310 153 (o_inc 5 1 156) := js_St.okG (st_iinc rfl (Nat.le_of_ble_eq_true rfl) d_310_153) (fun _ _ _ _ _ => rfl)
theorem ki_310_152 : js_OkG 310 152 (o_ls 3 153) := js_St.okG (st_lstoren rfl (Nat.le_of_ble_eq_true rfl) d_310_152) (fun _ _ _ _ _ => rfl)
theorem ki_310_151 : js_OkG 310 151 (o_B2 (fun x y => x ||| y) 152) := js_St.okG (st_lor d_310_151) (fun _ _ _ _ _ => rfl)
theorem ki_310_150 : js_OkG 310 150 (o_lc 0 151) := js_St.okG (st_lconst rfl d_310_150) (fun _ _ _ _ _ => rfl)
theorem ki_310_147 : js_OkG 310 147 (o_go 151) := js_St.okG (st_goto (by decide) d_310_147) (fun _ _ _ _ _ => rfl)
theorem ki_310_146 : js_OkG 310 146 (o_Sh (fun x y => x <<< (y.toInt64 &&& 63)) 147) := js_St.okG (st_lshl d_310_146) (fun _ _ _ _ _ => rfl)
theorem ki_310_145 : js_OkG 310 145 (o_b2 (fun x y => x - y) 146) := js_St.okG (st_isub d_310_145) (fun _ _ _ _ _ => rfl)
theorem ki_310_144 : js_OkG 310 144 (o_ic 1 145) := js_St.okG (st_iconst rfl d_310_144) (fun _ _ _ _ _ => rfl)
theorem ki_310_174 : js_OkG 310 174 (o_rL) := og_rL rfl d_310_174
theorem ki_310_171 : js_OkG 310 171 (o_cL 311 2 0 174) := og_sLP rfl rfl kB_310_311 rfl kw_949 kw_950 d_310_171
theorem ki_310_170 : js_OkG 310 170 (o_ll 3 171) := js_St.okG (st_lloadn rfl d_310_170) (fun _ _ _ _ _ => rfl)
theorem ki_310_169 : js_OkG 310 169 (o_al 0 170) := js_St.okG (st_aloadn rfl d_310_169) (fun _ _ _ _ _ => rfl)
theorem ki_310_166 : js_OkG 310 166 (o_go 174) := js_St.okG (st_goto (by decide) d_310_166) (fun _ _ _ _ _ => rfl)
theorem ki_310_165 : js_OkG 310 165 (o_ll 1 166) := js_St.okG (st_lloadn rfl d_310_165) (fun _ _ _ _ _ => rfl)
theorem ki_310_162 : js_OkG 310 162 (o_ne 169 165) := js_St.okG (st_ifne (by decide) d_310_162) (fun _ _ _ _ _ => rfl)
theorem ki_310_161 : js_OkG 310 161 (o_lcmp 162) := js_St.okG (st_lcmp d_310_161) (fun _ _ _ _ _ => rfl)
theorem ki_310_160 : js_OkG 310 160 (o_ll 1 161) := js_St.okG (st_lloadn rfl d_310_160) (fun _ _ _ _ _ => rfl)
set_option maxRecDepth 20000 in
theorem mk_310 : js_mokG 310 := jk_tab (fun _ => js_St.okG st_bad (fun _ _ _ _ _ => rfl)) (show jk_all (js_OkG 310) 0 (tb_G 310) from ⟨⟨ki_310_0, ⟨ki_310_1, ⟨ki_310_2, ⟨ki_310_3, ⟨kbadG, ⟨ki_310_5, ⟨kbadG, ⟨ki_310_7, ⟨kbadG, ⟨ki_310_9, ⟨kbadG, ⟨kbadG, ⟨ki_310_12, ⟨ki_310_13, ⟨kbadG, ⟨ki_310_15, trivial⟩⟩⟩⟩⟩⟩⟩⟩⟩⟩⟩⟩⟩⟩⟩⟩, ⟨⟨ki_310_16, ⟨ki_310_17, ⟨ki_310_18, ⟨ki_310_19, ⟨ki_310_20, ⟨kbadG, ⟨kbadG, ⟨ki_310_23, ⟨ki_310_24, ⟨ki_310_25, ⟨kbadG, ⟨ki_310_27, ⟨kbadG, ⟨ki_310_29, ⟨ki_310_30, ⟨kbadG, trivial⟩⟩⟩⟩⟩⟩⟩⟩⟩⟩⟩⟩⟩⟩⟩⟩, ⟨⟨ki_310_32, ⟨kbadG, ⟨ki_310_34, ⟨ki_310_35, ⟨ki_310_36, ⟨kbadG, ⟨kbadG, ⟨ki_310_39, ⟨ki_310_40, ⟨kbadG, ⟨kbadG, ⟨ki_310_43, ⟨ki_310_44, ⟨kbadG, ⟨ki_310_46, ⟨kbadG, trivial⟩⟩⟩⟩⟩⟩⟩⟩⟩⟩⟩⟩⟩⟩⟩⟩, ⟨⟨ki_310_48, ⟨ki_310_49, ⟨ki_310_50, ⟨kbadG, ⟨kbadG, ⟨ki_310_53, ⟨ki_310_54, ⟨ki_310_55, ⟨ki_310_56, ⟨ki_310_57, ⟨ki_310_58, ⟨kbadG, ⟨ki_310_60, ⟨kbadG, ⟨ki_310_62, ⟨ki_310_63, trivial⟩⟩⟩⟩⟩⟩⟩⟩⟩⟩⟩⟩⟩⟩⟩⟩, ⟨⟨kbadG, ⟨ki_310_65, ⟨kbadG, ⟨ki_310_67, ⟨ki_310_68, ⟨ki_310_69, ⟨kbadG, ⟨kbadG, ⟨ki_310_72, ⟨ki_310_73, ⟨kbadG, ⟨kbadG, ⟨ki_310_76, ⟨ki_310_77, ⟨kbadG, ⟨ki_310_79, trivial⟩⟩⟩⟩⟩⟩⟩⟩⟩⟩⟩⟩⟩⟩⟩⟩, ⟨⟨ki_310_80, ⟨ki_310_81, ⟨ki_310_82, ⟨kbadG, ⟨kbadG, ⟨ki_310_85, ⟨ki_310_86, ⟨ki_310_87, ⟨ki_310_88, ⟨ki_310_89, ⟨ki_310_90, ⟨kbadG, ⟨ki_310_92, ⟨kbadG, ⟨ki_310_94, ⟨ki_310_95, trivial⟩⟩⟩⟩⟩⟩⟩⟩⟩⟩⟩⟩⟩⟩⟩⟩, ⟨⟨kbadG, ⟨ki_310_97, ⟨kbadG, ⟨ki_310_99, ⟨ki_310_100, ⟨ki_310_101, ⟨kbadG, ⟨kbadG, ⟨ki_310_104, ⟨ki_310_105, ⟨kbadG, ⟨kbadG, ⟨ki_310_108, ⟨ki_310_109, ⟨kbadG, ⟨ki_310_111, trivial⟩⟩⟩⟩⟩⟩⟩⟩⟩⟩⟩⟩⟩⟩⟩⟩, ⟨⟨kbadG, ⟨ki_310_113, ⟨ki_310_114, ⟨ki_310_115, ⟨kbadG, ⟨kbadG, ⟨ki_310_118, ⟨ki_310_119, ⟨ki_310_120, ⟨ki_310_121, ⟨ki_310_122, ⟨ki_310_123, ⟨kbadG, ⟨ki_310_125, ⟨kbadG, ⟨ki_310_127, trivial⟩⟩⟩⟩⟩⟩⟩⟩⟩⟩⟩⟩⟩⟩⟩⟩, ⟨⟨ki_310_128, ⟨kbadG, ⟨ki_310_130, ⟨kbadG, ⟨ki_310_132, ⟨ki_310_133, ⟨ki_310_134, ⟨kbadG, ⟨kbadG, ⟨ki_310_137, ⟨ki_310_138, ⟨kbadG, ⟨kbadG, ⟨ki_310_141, ⟨ki_310_142, ⟨kbadG, trivial⟩⟩⟩⟩⟩⟩⟩⟩⟩⟩⟩⟩⟩⟩⟩⟩, ⟨⟨ki_310_144, ⟨ki_310_145, ⟨ki_310_146, ⟨ki_310_147, ⟨kbadG, ⟨kbadG, ⟨ki_310_150, ⟨ki_310_151, ⟨ki_310_152, ⟨ki_310_153, ⟨kbadG, ⟨kbadG, ⟨ki_310_156, ⟨kbadG, ⟨kbadG, ⟨ki_310_159, trivial⟩⟩⟩⟩⟩⟩⟩⟩⟩⟩⟩⟩⟩⟩⟩⟩, ⟨⟨ki_310_160, ⟨ki_310_161, ⟨ki_310_162, ⟨kbadG, ⟨kbadG, ⟨ki_310_165, ⟨ki_310_166, ⟨kbadG, ⟨kbadG, ⟨ki_310_169, ⟨ki_310_170, ⟨ki_310_171, ⟨kbadG, ⟨kbadG, ⟨ki_310_174, trivial⟩⟩⟩⟩⟩⟩⟩⟩⟩⟩⟩⟩⟩⟩⟩, trivial⟩⟩⟩⟩⟩⟩⟩⟩⟩⟩⟩)
theorem d_311_0 : decode (js_b 311) 0 = .ok (.lload_n 1, 1) := d_300_0
theorem d_311_1 : decode (js_b 311) 1 = .ok (.lstore_n 3, 1) := d_300_1
theorem d_311_2 : decode (js_b 311) 2 = .ok (.iconst 0, 1) := d_300_2
theorem d_311_3 : decode (js_b 311) 3 = .ok (.istore 5, 2) := d_300_3
theorem d_311_5 : decode (js_b 311) 5 = .ok (.iload 5, 2) := d_300_5
theorem d_311_7 : decode (js_b 311) 7 = .ok (.bipush 64, 2) := d_300_7
theorem d_311_9 : decode (js_b 311) 9 = .ok (.if_icmp .ge 150, 3) := d_300_9
theorem d_311_12 : decode (js_b 311) 12 = .ok (.lload_n 1, 1) := d_300_12
theorem d_311_13 : decode (js_b 311) 13 = .ok (.iload 5, 2) := d_300_13
theorem d_311_15 : decode (js_b 311) 15 = .ok (.lushr, 1) := d_300_15
theorem d_311_16 : decode (js_b 311) 16 = .ok (.lconst 1, 1) := d_300_16
theorem d_311_17 : decode (js_b 311) 17 = .ok (.land, 1) := d_300_17
theorem d_311_18 : decode (js_b 311) 18 = .ok (.lconst 1, 1) := d_300_18
theorem d_311_19 : decode (js_b 311) 19 = .ok (.lcmp, 1) := d_300_19
theorem d_311_20 : decode (js_b 311) 20 = .ok (.ifCond .ne 133, 3) := d_300_20
theorem d_311_23 : decode (js_b 311) 23 = .ok (.lload_n 3, 1) := d_300_23
theorem d_311_24 : decode (js_b 311) 24 = .ok (.aload_n 0, 1) := d_300_24
theorem d_311_25 : decode (js_b 311) 25 = .ok (.iload 5, 2) := d_300_25
theorem d_311_27 : decode (js_b 311) 27 = .ok (.bipush 8, 2) := d_300_27
theorem d_311_29 : decode (js_b 311) 29 = .ok (.idiv, 1) := d_300_29
theorem d_311_30 : decode (js_b 311) 30 = .ok (.iload 5, 2) := d_300_30
theorem d_311_32 : decode (js_b 311) 32 = .ok (.bipush 8, 2) := d_300_32
theorem d_311_34 : decode (js_b 311) 34 = .ok (.irem, 1) := d_300_34
theorem d_311_35 : decode (js_b 311) 35 = .ok (.iconst 0, 1) := d_300_35
theorem d_311_36 : decode (js_b 311) 36 = .ok (.invokestatic 198, 3) := d_300_36
theorem d_311_39 : decode (js_b 311) 39 = .ok (.iconst 1, 1) := d_300_39
theorem d_311_40 : decode (js_b 311) 40 = .ok (.if_icmp .ne 13, 3) := d_300_40
theorem d_311_43 : decode (js_b 311) 43 = .ok (.lconst 1, 1) := d_300_43
theorem d_311_44 : decode (js_b 311) 44 = .ok (.iload 5, 2) := d_300_44
theorem d_311_46 : decode (js_b 311) 46 = .ok (.bipush 8, 2) := d_300_46
theorem d_311_48 : decode (js_b 311) 48 = .ok (.isub, 1) := d_300_48
theorem d_311_49 : decode (js_b 311) 49 = .ok (.lshl, 1) := d_300_49
theorem d_311_50 : decode (js_b 311) 50 = .ok (.goto 4, 3) := d_300_50
theorem d_311_53 : decode (js_b 311) 53 = .ok (.lconst 0, 1) := d_300_53
theorem d_311_54 : decode (js_b 311) 54 = .ok (.lor, 1) := d_300_54
theorem d_311_55 : decode (js_b 311) 55 = .ok (.lstore_n 3, 1) := d_300_55
theorem d_311_56 : decode (js_b 311) 56 = .ok (.lload_n 3, 1) := d_300_56
theorem d_311_57 : decode (js_b 311) 57 = .ok (.aload_n 0, 1) := d_300_57
theorem d_311_58 : decode (js_b 311) 58 = .ok (.iload 5, 2) := d_300_58
theorem d_311_60 : decode (js_b 311) 60 = .ok (.bipush 8, 2) := d_300_60
theorem d_311_62 : decode (js_b 311) 62 = .ok (.idiv, 1) := d_300_62
theorem d_311_63 : decode (js_b 311) 63 = .ok (.iload 5, 2) := d_300_63
theorem d_311_65 : decode (js_b 311) 65 = .ok (.bipush 8, 2) := d_300_65
theorem d_311_67 : decode (js_b 311) 67 = .ok (.irem, 1) := d_300_67
theorem d_311_68 : decode (js_b 311) 68 = .ok (.iconst 1, 1) := d_300_68
theorem d_311_69 : decode (js_b 311) 69 = .ok (.invokestatic 198, 3) := d_300_69
theorem d_311_72 : decode (js_b 311) 72 = .ok (.iconst 1, 1) := d_300_72
theorem d_311_73 : decode (js_b 311) 73 = .ok (.if_icmp .ne 12, 3) := d_300_73
theorem d_311_76 : decode (js_b 311) 76 = .ok (.lconst 1, 1) := d_300_76
theorem d_311_77 : decode (js_b 311) 77 = .ok (.iload 5, 2) := d_300_77
theorem d_311_79 : decode (js_b 311) 79 = .ok (.iconst 1, 1) := d_300_79
theorem d_311_80 : decode (js_b 311) 80 = .ok (.iadd, 1) := d_300_80
theorem d_311_81 : decode (js_b 311) 81 = .ok (.lshl, 1) := d_300_81
theorem d_311_82 : decode (js_b 311) 82 = .ok (.goto 4, 3) := d_300_82
theorem d_311_85 : decode (js_b 311) 85 = .ok (.lconst 0, 1) := d_300_85
theorem d_311_86 : decode (js_b 311) 86 = .ok (.lor, 1) := d_300_86
theorem d_311_87 : decode (js_b 311) 87 = .ok (.lstore_n 3, 1) := d_300_87
theorem d_311_88 : decode (js_b 311) 88 = .ok (.lload_n 3, 1) := d_300_88
theorem d_311_89 : decode (js_b 311) 89 = .ok (.aload_n 0, 1) := d_300_89
theorem d_311_90 : decode (js_b 311) 90 = .ok (.iload 5, 2) := d_300_90
theorem d_311_92 : decode (js_b 311) 92 = .ok (.bipush 8, 2) := d_300_92
theorem d_311_94 : decode (js_b 311) 94 = .ok (.idiv, 1) := d_300_94
theorem d_311_95 : decode (js_b 311) 95 = .ok (.iload 5, 2) := d_300_95
theorem d_311_97 : decode (js_b 311) 97 = .ok (.bipush 8, 2) := d_300_97
theorem d_311_99 : decode (js_b 311) 99 = .ok (.irem, 1) := d_300_99
theorem d_311_100 : decode (js_b 311) 100 = .ok (.iconst 2, 1) := d_300_100
theorem d_311_101 : decode (js_b 311) 101 = .ok (.invokestatic 198, 3) := d_300_101
theorem d_311_104 : decode (js_b 311) 104 = .ok (.iconst 1, 1) := d_300_104
theorem d_311_105 : decode (js_b 311) 105 = .ok (.if_icmp .ne 13, 3) := d_300_105
theorem d_311_108 : decode (js_b 311) 108 = .ok (.lconst 1, 1) := d_300_108
theorem d_311_109 : decode (js_b 311) 109 = .ok (.iload 5, 2) := d_300_109
theorem d_311_111 : decode (js_b 311) 111 = .ok (.bipush 8, 2) := d_300_111
theorem d_311_113 : decode (js_b 311) 113 = .ok (.iadd, 1) := d_300_113
theorem d_311_114 : decode (js_b 311) 114 = .ok (.lshl, 1) := d_300_114
theorem d_311_115 : decode (js_b 311) 115 = .ok (.goto 4, 3) := d_300_115
theorem d_311_118 : decode (js_b 311) 118 = .ok (.lconst 0, 1) := d_300_118
theorem d_311_119 : decode (js_b 311) 119 = .ok (.lor, 1) := d_300_119
theorem d_311_120 : decode (js_b 311) 120 = .ok (.lstore_n 3, 1) := d_300_120
theorem d_311_121 : decode (js_b 311) 121 = .ok (.lload_n 3, 1) := d_300_121
theorem d_311_122 : decode (js_b 311) 122 = .ok (.aload_n 0, 1) := d_300_122
theorem d_311_123 : decode (js_b 311) 123 = .ok (.iload 5, 2) := d_300_123
theorem d_311_125 : decode (js_b 311) 125 = .ok (.bipush 8, 2) := d_300_125
theorem d_311_127 : decode (js_b 311) 127 = .ok (.idiv, 1) := d_300_127
theorem d_311_128 : decode (js_b 311) 128 = .ok (.iload 5, 2) := d_300_128
theorem d_311_130 : decode (js_b 311) 130 = .ok (.bipush 8, 2) := d_300_130
theorem d_311_132 : decode (js_b 311) 132 = .ok (.irem, 1) := d_300_132
theorem d_311_133 : decode (js_b 311) 133 = .ok (.iconst 3, 1) := d_300_133
theorem d_311_134 : decode (js_b 311) 134 = .ok (.invokestatic 198, 3) := d_300_134
theorem d_311_137 : decode (js_b 311) 137 = .ok (.iconst 1, 1) := d_300_137
theorem d_311_138 : decode (js_b 311) 138 = .ok (.if_icmp .ne 12, 3) := d_300_138
theorem d_311_141 : decode (js_b 311) 141 = .ok (.lconst 1, 1) := d_300_141
theorem d_311_142 : decode (js_b 311) 142 = .ok (.iload 5, 2) := d_300_142
theorem d_311_144 : decode (js_b 311) 144 = .ok (.iconst 1, 1) := d_300_144
theorem d_311_145 : decode (js_b 311) 145 = .ok (.isub, 1) := d_300_145
theorem d_311_146 : decode (js_b 311) 146 = .ok (.lshl, 1) := d_300_146
theorem d_311_147 : decode (js_b 311) 147 = .ok (.goto 4, 3) := d_300_147
theorem d_311_150 : decode (js_b 311) 150 = .ok (.lconst 0, 1) := d_300_150
theorem d_311_151 : decode (js_b 311) 151 = .ok (.lor, 1) := d_300_151
theorem d_311_152 : decode (js_b 311) 152 = .ok (.lstore_n 3, 1) := d_300_152
theorem d_311_153 : decode (js_b 311) 153 = .ok (.iinc 5 1, 3) := d_300_153
theorem d_311_156 : decode (js_b 311) 156 = .ok (.goto (-151), 3) := d_300_156
theorem d_311_159 : decode (js_b 311) 159 = .ok (.lload_n 3, 1) := d_300_159
theorem d_311_160 : decode (js_b 311) 160 = .ok (.lload_n 1, 1) := d_300_160
theorem d_311_161 : decode (js_b 311) 161 = .ok (.lcmp, 1) := d_300_161
theorem d_311_162 : decode (js_b 311) 162 = .ok (.ifCond .ne 7, 3) := d_300_162
theorem d_311_165 : decode (js_b 311) 165 = .ok (.lload_n 1, 1) := d_300_165
theorem d_311_166 : decode (js_b 311) 166 = .ok (.goto 8, 3) := d_300_166
theorem d_311_169 : decode (js_b 311) 169 = .ok (.aload_n 0, 1) := d_300_169
theorem d_311_170 : decode (js_b 311) 170 = .ok (.lload_n 3, 1) := d_300_170
theorem d_311_171 : decode (js_b 311) 171 = .ok (.invokestatic 323, 3) := d_300_171
theorem d_311_174 : decode (js_b 311) 174 = .ok (.lreturn, 1) := d_300_174
theorem ki_311_15 : js_OkG 311 15 (o_Sh (fun x y => (x.toUInt64 >>> (y.toInt64.toUInt64 &&& Int64.toUInt64 63)).toInt64) 16) := js_St.okG (st_lushr d_311_15) (fun _ _ _ _ _ => rfl)
theorem ki_311_13 : js_OkG 311 13 (o_il 5 15) := js_St.okG (st_iload d_311_13) (fun _ _ _ _ _ => rfl)
theorem ki_311_12 : js_OkG 311 12 (o_ll 1 13) := js_St.okG (st_lloadn rfl d_311_12) (fun _ _ _ _ _ => rfl)
theorem ki_311_9 : js_OkG 311 9 (o_cge 159 12) := js_St.okG (st_icge (by decide) d_311_9) (fun _ _ _ _ _ => rfl)
theorem ki_311_7 : js_OkG 311 7 (o_ic 64 9) := js_St.okG (st_bipush rfl d_311_7) (fun _ _ _ _ _ => rfl)
theorem ki_311_5 : js_OkG 311 5 (o_il 5 7) := js_St.okG (st_iload d_311_5) (fun _ _ _ _ _ => rfl)
theorem ki_311_3 : js_OkG 311 3 (o_is 5 5) := js_St.okG (st_istore (Nat.le_of_ble_eq_true rfl) d_311_3) (fun _ _ _ _ _ => rfl)
theorem ki_311_2 : js_OkG 311 2 (o_ic 0 3) := js_St.okG (st_iconst rfl d_311_2) (fun _ _ _ _ _ => rfl)
theorem ki_311_1 : js_OkG 311 1 (o_ls 3 2) := js_St.okG (st_lstoren rfl (Nat.le_of_ble_eq_true rfl) d_311_1) (fun _ _ _ _ _ => rfl)
theorem ki_311_0 : js_OkG 311 0 (o_ll 1 1) := js_St.okG (st_lloadn rfl d_311_0) (fun _ _ _ _ _ => rfl)
theorem ki_311_30 : js_OkG 311 30 (o_il 5 32) := js_St.okG (st_iload d_311_30) (fun _ _ _ _ _ => rfl)
theorem ki_311_29 : js_OkG 311 29 (o_div 30) := js_St.okG (st_idiv d_311_29) (fun _ _ _ _ _ => rfl)
theorem ki_311_27 : js_OkG 311 27 (o_ic 8 29) := js_St.okG (st_bipush rfl d_311_27) (fun _ _ _ _ _ => rfl)
theorem ki_311_25 : js_OkG 311 25 (o_il 5 27) := js_St.okG (st_iload d_311_25) (fun _ _ _ _ _ => rfl)
theorem ki_311_24 : js_OkG 311 24 (o_al 0 25) := js_St.okG (st_aloadn rfl d_311_24) (fun _ _ _ _ _ => rfl)
theorem ki_311_23 : js_OkG 311 23 (o_ll 3 24) := js_St.okG (st_lloadn rfl d_311_23) (fun _ _ _ _ _ => rfl)
theorem ki_311_20 : js_OkG 311 20 (o_ne 153 23) := js_St.okG (st_ifne (by decide) d_311_20) (fun _ _ _ _ _ => rfl)
theorem ki_311_19 : js_OkG 311 19 (o_lcmp 20) := js_St.okG (st_lcmp d_311_19) (fun _ _ _ _ _ => rfl)
theorem ki_311_18 : js_OkG 311 18 (o_lc 1 19) := js_St.okG (st_lconst rfl d_311_18) (fun _ _ _ _ _ => rfl)
theorem ki_311_17 : js_OkG 311 17 (o_B2 (fun x y => x &&& y) 18) := js_St.okG (st_land d_311_17) (fun _ _ _ _ _ => rfl)
theorem ki_311_16 : js_OkG 311 16 (o_lc 1 17) := js_St.okG (st_lconst rfl d_311_16) (fun _ _ _ _ _ => rfl)
theorem ki_311_46 : js_OkG 311 46 (o_ic 8 48) := js_St.okG (st_bipush rfl d_311_46) (fun _ _ _ _ _ => rfl)
theorem ki_311_44 : js_OkG 311 44 (o_il 5 46) := js_St.okG (st_iload d_311_44) (fun _ _ _ _ _ => rfl)
theorem ki_311_43 : js_OkG 311 43 (o_lc 1 44) := js_St.okG (st_lconst rfl d_311_43) (fun _ _ _ _ _ => rfl)
theorem ki_311_40 : js_OkG 311 40 (o_cne 53 43) := js_St.okG (st_icne (by decide) d_311_40) (fun _ _ _ _ _ => rfl)
theorem ki_311_39 : js_OkG 311 39 (o_ic 1 40) := js_St.okG (st_iconst rfl d_311_39) (fun _ _ _ _ _ => rfl)
theorem ki_311_36 : js_OkG 311 36 (o_cI 176 4 0 39) := og_sIP rfl rfl kB_311_176 rfl kw_785 kw_786 d_311_36
theorem ki_311_35 : js_OkG 311 35 (o_ic 0 36) := js_St.okG (st_iconst rfl d_311_35) (fun _ _ _ _ _ => rfl)
theorem ki_311_34 : js_OkG 311 34 (o_rem 35) := js_St.okG (st_irem d_311_34) (fun _ _ _ _ _ => rfl)
theorem ki_311_32 : js_OkG 311 32 (o_ic 8 34) := js_St.okG (st_bipush rfl d_311_32) (fun _ _ _ _ _ => rfl)
theorem ki_311_63 : js_OkG 311 63 (o_il 5 65) := js_St.okG (st_iload d_311_63) (fun _ _ _ _ _ => rfl)
theorem ki_311_62 : js_OkG 311 62 (o_div 63) := js_St.okG (st_idiv d_311_62) (fun _ _ _ _ _ => rfl)
theorem ki_311_60 : js_OkG 311 60 (o_ic 8 62) := js_St.okG (st_bipush rfl d_311_60) (fun _ _ _ _ _ => rfl)
theorem ki_311_58 : js_OkG 311 58 (o_il 5 60) := js_St.okG (st_iload d_311_58) (fun _ _ _ _ _ => rfl)
theorem ki_311_57 : js_OkG 311 57 (o_al 0 58) := js_St.okG (st_aloadn rfl d_311_57) (fun _ _ _ _ _ => rfl)
theorem ki_311_56 : js_OkG 311 56 (o_ll 3 57) := js_St.okG (st_lloadn rfl d_311_56) (fun _ _ _ _ _ => rfl)
theorem ki_311_55 : js_OkG 311 55 (o_ls 3 56) := js_St.okG (st_lstoren rfl (Nat.le_of_ble_eq_true rfl) d_311_55) (fun _ _ _ _ _ => rfl)
theorem ki_311_54 : js_OkG 311 54 (o_B2 (fun x y => x ||| y) 55) := js_St.okG (st_lor d_311_54) (fun _ _ _ _ _ => rfl)
theorem ki_311_53 : js_OkG 311 53 (o_lc 0 54) := js_St.okG (st_lconst rfl d_311_53) (fun _ _ _ _ _ => rfl)
theorem ki_311_50 : js_OkG 311 50 (o_go 54) := js_St.okG (st_goto (by decide) d_311_50) (fun _ _ _ _ _ => rfl)
theorem ki_311_49 : js_OkG 311 49 (o_Sh (fun x y => x <<< (y.toInt64 &&& 63)) 50) := js_St.okG (st_lshl d_311_49) (fun _ _ _ _ _ => rfl)
theorem ki_311_48 : js_OkG 311 48 (o_b2 (fun x y => x - y) 49) := js_St.okG (st_isub d_311_48) (fun _ _ _ _ _ => rfl)
theorem ki_311_79 : js_OkG 311 79 (o_ic 1 80) := js_St.okG (st_iconst rfl d_311_79) (fun _ _ _ _ _ => rfl)
theorem ki_311_77 : js_OkG 311 77 (o_il 5 79) := js_St.okG (st_iload d_311_77) (fun _ _ _ _ _ => rfl)
theorem ki_311_76 : js_OkG 311 76 (o_lc 1 77) := js_St.okG (st_lconst rfl d_311_76) (fun _ _ _ _ _ => rfl)
theorem ki_311_73 : js_OkG 311 73 (o_cne 85 76) := js_St.okG (st_icne (by decide) d_311_73) (fun _ _ _ _ _ => rfl)
theorem ki_311_72 : js_OkG 311 72 (o_ic 1 73) := js_St.okG (st_iconst rfl d_311_72) (fun _ _ _ _ _ => rfl)
theorem ki_311_69 : js_OkG 311 69 (o_cI 176 4 0 72) := og_sIP rfl rfl kB_311_176 rfl kw_785 kw_786 d_311_69
theorem ki_311_68 : js_OkG 311 68 (o_ic 1 69) := js_St.okG (st_iconst rfl d_311_68) (fun _ _ _ _ _ => rfl)
theorem ki_311_67 : js_OkG 311 67 (o_rem 68) := js_St.okG (st_irem d_311_67) (fun _ _ _ _ _ => rfl)
theorem ki_311_65 : js_OkG 311 65 (o_ic 8 67) := js_St.okG (st_bipush rfl d_311_65) (fun _ _ _ _ _ => rfl)
theorem ki_311_95 : js_OkG 311 95 (o_il 5 97) := js_St.okG (st_iload d_311_95) (fun _ _ _ _ _ => rfl)
theorem ki_311_94 : js_OkG 311 94 (o_div 95) := js_St.okG (st_idiv d_311_94) (fun _ _ _ _ _ => rfl)
theorem ki_311_92 : js_OkG 311 92 (o_ic 8 94) := js_St.okG (st_bipush rfl d_311_92) (fun _ _ _ _ _ => rfl)
theorem ki_311_90 : js_OkG 311 90 (o_il 5 92) := js_St.okG (st_iload d_311_90) (fun _ _ _ _ _ => rfl)
theorem ki_311_89 : js_OkG 311 89 (o_al 0 90) := js_St.okG (st_aloadn rfl d_311_89) (fun _ _ _ _ _ => rfl)
theorem ki_311_88 : js_OkG 311 88 (o_ll 3 89) := js_St.okG (st_lloadn rfl d_311_88) (fun _ _ _ _ _ => rfl)
theorem ki_311_87 : js_OkG 311 87 (o_ls 3 88) := js_St.okG (st_lstoren rfl (Nat.le_of_ble_eq_true rfl) d_311_87) (fun _ _ _ _ _ => rfl)
theorem ki_311_86 : js_OkG 311 86 (o_B2 (fun x y => x ||| y) 87) := js_St.okG (st_lor d_311_86) (fun _ _ _ _ _ => rfl)
theorem ki_311_85 : js_OkG 311 85 (o_lc 0 86) := js_St.okG (st_lconst rfl d_311_85) (fun _ _ _ _ _ => rfl)
theorem ki_311_82 : js_OkG 311 82 (o_go 86) := js_St.okG (st_goto (by decide) d_311_82) (fun _ _ _ _ _ => rfl)
theorem ki_311_81 : js_OkG 311 81 (o_Sh (fun x y => x <<< (y.toInt64 &&& 63)) 82) := js_St.okG (st_lshl d_311_81) (fun _ _ _ _ _ => rfl)
theorem ki_311_80 : js_OkG 311 80 (o_b2 (fun x y => x + y) 81) := js_St.okG (st_iadd d_311_80) (fun _ _ _ _ _ => rfl)
theorem ki_311_111 : js_OkG 311 111 (o_ic 8 113) := js_St.okG (st_bipush rfl d_311_111) (fun _ _ _ _ _ => rfl)
theorem ki_311_109 : js_OkG 311 109 (o_il 5 111) := js_St.okG (st_iload d_311_109) (fun _ _ _ _ _ => rfl)
theorem ki_311_108 : js_OkG 311 108 (o_lc 1 109) := js_St.okG (st_lconst rfl d_311_108) (fun _ _ _ _ _ => rfl)
theorem ki_311_105 : js_OkG 311 105 (o_cne 118 108) := js_St.okG (st_icne (by decide) d_311_105) (fun _ _ _ _ _ => rfl)
theorem ki_311_104 : js_OkG 311 104 (o_ic 1 105) := js_St.okG (st_iconst rfl d_311_104) (fun _ _ _ _ _ => rfl)
theorem ki_311_101 : js_OkG 311 101 (o_cI 176 4 0 104) := og_sIP rfl rfl kB_311_176 rfl kw_785 kw_786 d_311_101
theorem ki_311_100 : js_OkG 311 100 (o_ic 2 101) := js_St.okG (st_iconst rfl d_311_100) (fun _ _ _ _ _ => rfl)
theorem ki_311_99 : js_OkG 311 99 (o_rem 100) := js_St.okG (st_irem d_311_99) (fun _ _ _ _ _ => rfl)
theorem ki_311_97 : js_OkG 311 97 (o_ic 8 99) := js_St.okG (st_bipush rfl d_311_97) (fun _ _ _ _ _ => rfl)
theorem ki_311_127 : js_OkG 311 127 (o_div 128) := js_St.okG (st_idiv d_311_127) (fun _ _ _ _ _ => rfl)
theorem ki_311_125 : js_OkG 311 125 (o_ic 8 127) := js_St.okG (st_bipush rfl d_311_125) (fun _ _ _ _ _ => rfl)
theorem ki_311_123 : js_OkG 311 123 (o_il 5 125) := js_St.okG (st_iload d_311_123) (fun _ _ _ _ _ => rfl)
theorem ki_311_122 : js_OkG 311 122 (o_al 0 123) := js_St.okG (st_aloadn rfl d_311_122) (fun _ _ _ _ _ => rfl)
theorem ki_311_121 : js_OkG 311 121 (o_ll 3 122) := js_St.okG (st_lloadn rfl d_311_121) (fun _ _ _ _ _ => rfl)
theorem ki_311_120 : js_OkG 311 120 (o_ls 3 121) := js_St.okG (st_lstoren rfl (Nat.le_of_ble_eq_true rfl) d_311_120) (fun _ _ _ _ _ => rfl)
theorem ki_311_119 : js_OkG 311 119 (o_B2 (fun x y => x ||| y) 120) := js_St.okG (st_lor d_311_119) (fun _ _ _ _ _ => rfl)
theorem ki_311_118 : js_OkG 311 118 (o_lc 0 119) := js_St.okG (st_lconst rfl d_311_118) (fun _ _ _ _ _ => rfl)
theorem ki_311_115 : js_OkG 311 115 (o_go 119) := js_St.okG (st_goto (by decide) d_311_115) (fun _ _ _ _ _ => rfl)
theorem ki_311_114 : js_OkG 311 114 (o_Sh (fun x y => x <<< (y.toInt64 &&& 63)) 115) := js_St.okG (st_lshl d_311_114) (fun _ _ _ _ _ => rfl)
theorem ki_311_113 : js_OkG 311 113 (o_b2 (fun x y => x + y) 114) := js_St.okG (st_iadd d_311_113) (fun _ _ _ _ _ => rfl)
theorem ki_311_142 : js_OkG 311 142 (o_il 5 144) := js_St.okG (st_iload d_311_142) (fun _ _ _ _ _ => rfl)
theorem ki_311_141 : js_OkG 311 141 (o_lc 1 142) := js_St.okG (st_lconst rfl d_311_141) (fun _ _ _ _ _ => rfl)
theorem ki_311_138 : js_OkG 311 138 (o_cne 150 141) := js_St.okG (st_icne (by decide) d_311_138) (fun _ _ _ _ _ => rfl)
theorem ki_311_137 : js_OkG 311 137 (o_ic 1 138) := js_St.okG (st_iconst rfl d_311_137) (fun _ _ _ _ _ => rfl)
theorem ki_311_134 : js_OkG 311 134 (o_cI 176 4 0 137) := og_sIP rfl rfl kB_311_176 rfl kw_785 kw_786 d_311_134
theorem ki_311_133 : js_OkG 311 133 (o_ic 3 134) := js_St.okG (st_iconst rfl d_311_133) (fun _ _ _ _ _ => rfl)
theorem ki_311_132 : js_OkG 311 132 (o_rem 133) := js_St.okG (st_irem d_311_132) (fun _ _ _ _ _ => rfl)
theorem ki_311_130 : js_OkG 311 130 (o_ic 8 132) := js_St.okG (st_bipush rfl d_311_130) (fun _ _ _ _ _ => rfl)
theorem ki_311_128 : js_OkG 311 128 (o_il 5 130) := js_St.okG (st_iload d_311_128) (fun _ _ _ _ _ => rfl)
theorem ki_311_159 : js_OkG 311 159 (o_ll 3 160) := js_St.okG (st_lloadn rfl d_311_159) (fun _ _ _ _ _ => rfl)
theorem ki_311_156 : js_OkG 311 156 (o_go 5) := js_St.okG (st_goto (by decide) d_311_156) (fun _ _ _ _ _ => rfl)
theorem ki_311_153 : js_OkG 311 153 (o_inc 5 1 156) := js_St.okG (st_iinc rfl (Nat.le_of_ble_eq_true rfl) d_311_153) (fun _ _ _ _ _ => rfl)
theorem ki_311_152 : js_OkG 311 152 (o_ls 3 153) := js_St.okG (st_lstoren rfl (Nat.le_of_ble_eq_true rfl) d_311_152) (fun _ _ _ _ _ => rfl)
theorem ki_311_151 : js_OkG 311 151 (o_B2 (fun x y => x ||| y) 152) := js_St.okG (st_lor d_311_151) (fun _ _ _ _ _ => rfl)
theorem ki_311_150 : js_OkG 311 150 (o_lc 0 151) := js_St.okG (st_lconst rfl d_311_150) (fun _ _ _ _ _ => rfl)
theorem ki_311_147 : js_OkG 311 147 (o_go 151) := js_St.okG (st_goto (by decide) d_311_147) (fun _ _ _ _ _ => rfl)
theorem ki_311_146 : js_OkG 311 146 (o_Sh (fun x y => x <<< (y.toInt64 &&& 63)) 147) := js_St.okG (st_lshl d_311_146) (fun _ _ _ _ _ => rfl)
theorem ki_311_145 : js_OkG 311 145 (o_b2 (fun x y => x - y) 146) := js_St.okG (st_isub d_311_145) (fun _ _ _ _ _ => rfl)
theorem ki_311_144 : js_OkG 311 144 (o_ic 1 145) := js_St.okG (st_iconst rfl d_311_144) (fun _ _ _ _ _ => rfl)
theorem ki_311_174 : js_OkG 311 174 (o_rL) := og_rL rfl d_311_174
theorem ki_311_171 : js_OkG 311 171 (o_cL 312 2 0 174) := og_sLP rfl rfl kB_311_312 rfl kw_949 kw_950 d_311_171
theorem ki_311_170 : js_OkG 311 170 (o_ll 3 171) := js_St.okG (st_lloadn rfl d_311_170) (fun _ _ _ _ _ => rfl)
theorem ki_311_169 : js_OkG 311 169 (o_al 0 170) := js_St.okG (st_aloadn rfl d_311_169) (fun _ _ _ _ _ => rfl)
theorem ki_311_166 : js_OkG 311 166 (o_go 174) := js_St.okG (st_goto (by decide) d_311_166) (fun _ _ _ _ _ => rfl)
theorem ki_311_165 : js_OkG 311 165 (o_ll 1 166) := js_St.okG (st_lloadn rfl d_311_165) (fun _ _ _ _ _ => rfl)
theorem ki_311_162 : js_OkG 311 162 (o_ne 169 165) := js_St.okG (st_ifne (by decide) d_311_162) (fun _ _ _ _ _ => rfl)
theorem ki_311_161 : js_OkG 311 161 (o_lcmp 162) := js_St.okG (st_lcmp d_311_161) (fun _ _ _ _ _ => rfl)
theorem ki_311_160 : js_OkG 311 160 (o_ll 1 161) := js_St.okG (st_lloadn rfl d_311_160) (fun _ _ _ _ _ => rfl)
set_option maxRecDepth 20000 in
theorem mk_311 : js_mokG 311 := jk_tab (fun _ => js_St.okG st_bad (fun _ _ _ _ _ => rfl)) (show jk_all (js_OkG 311) 0 (tb_G 311) from ⟨⟨ki_311_0, ⟨ki_311_1, ⟨ki_311_2, ⟨ki_311_3, ⟨kbadG, ⟨ki_311_5, ⟨kbadG, ⟨ki_311_7, ⟨kbadG, ⟨ki_311_9, ⟨kbadG, ⟨kbadG, ⟨ki_311_12, ⟨ki_311_13, ⟨kbadG, ⟨ki_311_15, trivial⟩⟩⟩⟩⟩⟩⟩⟩⟩⟩⟩⟩⟩⟩⟩⟩, ⟨⟨ki_311_16, ⟨ki_311_17, ⟨ki_311_18, ⟨ki_311_19, ⟨ki_311_20, ⟨kbadG, ⟨kbadG, ⟨ki_311_23, ⟨ki_311_24, ⟨ki_311_25, ⟨kbadG, ⟨ki_311_27, ⟨kbadG, ⟨ki_311_29, ⟨ki_311_30, ⟨kbadG, trivial⟩⟩⟩⟩⟩⟩⟩⟩⟩⟩⟩⟩⟩⟩⟩⟩, ⟨⟨ki_311_32, ⟨kbadG, ⟨ki_311_34, ⟨ki_311_35, ⟨ki_311_36, ⟨kbadG, ⟨kbadG, ⟨ki_311_39, ⟨ki_311_40, ⟨kbadG, ⟨kbadG, ⟨ki_311_43, ⟨ki_311_44, ⟨kbadG, ⟨ki_311_46, ⟨kbadG, trivial⟩⟩⟩⟩⟩⟩⟩⟩⟩⟩⟩⟩⟩⟩⟩⟩, ⟨⟨ki_311_48, ⟨ki_311_49, ⟨ki_311_50, ⟨kbadG, ⟨kbadG, ⟨ki_311_53, ⟨ki_311_54, ⟨ki_311_55, ⟨ki_311_56, ⟨ki_311_57, ⟨ki_311_58, ⟨kbadG, ⟨ki_311_60, ⟨kbadG, ⟨ki_311_62, ⟨ki_311_63, trivial⟩⟩⟩⟩⟩⟩⟩⟩⟩⟩⟩⟩⟩⟩⟩⟩, ⟨⟨kbadG, ⟨ki_311_65, ⟨kbadG, ⟨ki_311_67, ⟨ki_311_68, ⟨ki_311_69, ⟨kbadG, ⟨kbadG, ⟨ki_311_72, ⟨ki_311_73, ⟨kbadG, ⟨kbadG, ⟨ki_311_76, ⟨ki_311_77, ⟨kbadG, ⟨ki_311_79, trivial⟩⟩⟩⟩⟩⟩⟩⟩⟩⟩⟩⟩⟩⟩⟩⟩, ⟨⟨ki_311_80, ⟨ki_311_81, ⟨ki_311_82, ⟨kbadG, ⟨kbadG, ⟨ki_311_85, ⟨ki_311_86, ⟨ki_311_87, ⟨ki_311_88, ⟨ki_311_89, ⟨ki_311_90, ⟨kbadG, ⟨ki_311_92, ⟨kbadG, ⟨ki_311_94, ⟨ki_311_95, trivial⟩⟩⟩⟩⟩⟩⟩⟩⟩⟩⟩⟩⟩⟩⟩⟩, ⟨⟨kbadG, ⟨ki_311_97, ⟨kbadG, ⟨ki_311_99, ⟨ki_311_100, ⟨ki_311_101, ⟨kbadG, ⟨kbadG, ⟨ki_311_104, ⟨ki_311_105, ⟨kbadG, ⟨kbadG, ⟨ki_311_108, ⟨ki_311_109, ⟨kbadG, ⟨ki_311_111, trivial⟩⟩⟩⟩⟩⟩⟩⟩⟩⟩⟩⟩⟩⟩⟩⟩, ⟨⟨kbadG, ⟨ki_311_113, ⟨ki_311_114, ⟨ki_311_115, ⟨kbadG, ⟨kbadG, ⟨ki_311_118, ⟨ki_311_119, ⟨ki_311_120, ⟨ki_311_121, ⟨ki_311_122, ⟨ki_311_123, ⟨kbadG, ⟨ki_311_125, ⟨kbadG, ⟨ki_311_127, trivial⟩⟩⟩⟩⟩⟩⟩⟩⟩⟩⟩⟩⟩⟩⟩⟩, ⟨⟨ki_311_128, ⟨kbadG, ⟨ki_311_130, ⟨kbadG, ⟨ki_311_132, ⟨ki_311_133, ⟨ki_311_134, ⟨kbadG, ⟨kbadG, ⟨ki_311_137, ⟨ki_311_138, ⟨kbadG, ⟨kbadG, ⟨ki_311_141, ⟨ki_311_142, ⟨kbadG, trivial⟩⟩⟩⟩⟩⟩⟩⟩⟩⟩⟩⟩⟩⟩⟩⟩, ⟨⟨ki_311_144, ⟨ki_311_145, ⟨ki_311_146, ⟨ki_311_147, ⟨kbadG, ⟨kbadG, ⟨ki_311_150, ⟨ki_311_151, ⟨ki_311_152, ⟨ki_311_153, ⟨kbadG, ⟨kbadG, ⟨ki_311_156, ⟨kbadG, ⟨kbadG, ⟨ki_311_159, trivial⟩⟩⟩⟩⟩⟩⟩⟩⟩⟩⟩⟩⟩⟩⟩⟩, ⟨⟨ki_311_160, ⟨ki_311_161, ⟨ki_311_162, ⟨kbadG, ⟨kbadG, ⟨ki_311_165, ⟨ki_311_166, ⟨kbadG, ⟨kbadG, ⟨ki_311_169, ⟨ki_311_170, ⟨ki_311_171, ⟨kbadG, ⟨kbadG, ⟨ki_311_174, trivial⟩⟩⟩⟩⟩⟩⟩⟩⟩⟩⟩⟩⟩⟩⟩, trivial⟩⟩⟩⟩⟩⟩⟩⟩⟩⟩⟩)
theorem d_312_0 : decode (js_b 312) 0 = .ok (.lload_n 1, 1) := d_300_0
theorem d_312_1 : decode (js_b 312) 1 = .ok (.lstore_n 3, 1) := d_300_1
theorem d_312_2 : decode (js_b 312) 2 = .ok (.iconst 0, 1) := d_300_2
theorem d_312_3 : decode (js_b 312) 3 = .ok (.istore 5, 2) := d_300_3
theorem d_312_5 : decode (js_b 312) 5 = .ok (.iload 5, 2) := d_300_5
theorem d_312_7 : decode (js_b 312) 7 = .ok (.bipush 64, 2) := d_300_7
theorem d_312_9 : decode (js_b 312) 9 = .ok (.if_icmp .ge 150, 3) := d_300_9
theorem d_312_12 : decode (js_b 312) 12 = .ok (.lload_n 1, 1) := d_300_12
theorem d_312_13 : decode (js_b 312) 13 = .ok (.iload 5, 2) := d_300_13
theorem d_312_15 : decode (js_b 312) 15 = .ok (.lushr, 1) := d_300_15
theorem d_312_16 : decode (js_b 312) 16 = .ok (.lconst 1, 1) := d_300_16
theorem d_312_17 : decode (js_b 312) 17 = .ok (.land, 1) := d_300_17
theorem d_312_18 : decode (js_b 312) 18 = .ok (.lconst 1, 1) := d_300_18
theorem d_312_19 : decode (js_b 312) 19 = .ok (.lcmp, 1) := d_300_19
theorem d_312_20 : decode (js_b 312) 20 = .ok (.ifCond .ne 133, 3) := d_300_20
theorem d_312_23 : decode (js_b 312) 23 = .ok (.lload_n 3, 1) := d_300_23
theorem d_312_24 : decode (js_b 312) 24 = .ok (.aload_n 0, 1) := d_300_24
theorem d_312_25 : decode (js_b 312) 25 = .ok (.iload 5, 2) := d_300_25
theorem d_312_27 : decode (js_b 312) 27 = .ok (.bipush 8, 2) := d_300_27
theorem d_312_29 : decode (js_b 312) 29 = .ok (.idiv, 1) := d_300_29
theorem d_312_30 : decode (js_b 312) 30 = .ok (.iload 5, 2) := d_300_30
theorem d_312_32 : decode (js_b 312) 32 = .ok (.bipush 8, 2) := d_300_32
theorem d_312_34 : decode (js_b 312) 34 = .ok (.irem, 1) := d_300_34
theorem d_312_35 : decode (js_b 312) 35 = .ok (.iconst 0, 1) := d_300_35
theorem d_312_36 : decode (js_b 312) 36 = .ok (.invokestatic 198, 3) := d_300_36
theorem d_312_39 : decode (js_b 312) 39 = .ok (.iconst 1, 1) := d_300_39
theorem d_312_40 : decode (js_b 312) 40 = .ok (.if_icmp .ne 13, 3) := d_300_40
theorem d_312_43 : decode (js_b 312) 43 = .ok (.lconst 1, 1) := d_300_43
theorem d_312_44 : decode (js_b 312) 44 = .ok (.iload 5, 2) := d_300_44
theorem d_312_46 : decode (js_b 312) 46 = .ok (.bipush 8, 2) := d_300_46
theorem d_312_48 : decode (js_b 312) 48 = .ok (.isub, 1) := d_300_48
theorem d_312_49 : decode (js_b 312) 49 = .ok (.lshl, 1) := d_300_49
theorem d_312_50 : decode (js_b 312) 50 = .ok (.goto 4, 3) := d_300_50
theorem d_312_53 : decode (js_b 312) 53 = .ok (.lconst 0, 1) := d_300_53
theorem d_312_54 : decode (js_b 312) 54 = .ok (.lor, 1) := d_300_54
theorem d_312_55 : decode (js_b 312) 55 = .ok (.lstore_n 3, 1) := d_300_55
theorem d_312_56 : decode (js_b 312) 56 = .ok (.lload_n 3, 1) := d_300_56
theorem d_312_57 : decode (js_b 312) 57 = .ok (.aload_n 0, 1) := d_300_57
theorem d_312_58 : decode (js_b 312) 58 = .ok (.iload 5, 2) := d_300_58
theorem d_312_60 : decode (js_b 312) 60 = .ok (.bipush 8, 2) := d_300_60
theorem d_312_62 : decode (js_b 312) 62 = .ok (.idiv, 1) := d_300_62
theorem d_312_63 : decode (js_b 312) 63 = .ok (.iload 5, 2) := d_300_63
theorem d_312_65 : decode (js_b 312) 65 = .ok (.bipush 8, 2) := d_300_65
theorem d_312_67 : decode (js_b 312) 67 = .ok (.irem, 1) := d_300_67
theorem d_312_68 : decode (js_b 312) 68 = .ok (.iconst 1, 1) := d_300_68
theorem d_312_69 : decode (js_b 312) 69 = .ok (.invokestatic 198, 3) := d_300_69
theorem d_312_72 : decode (js_b 312) 72 = .ok (.iconst 1, 1) := d_300_72
theorem d_312_73 : decode (js_b 312) 73 = .ok (.if_icmp .ne 12, 3) := d_300_73
theorem d_312_76 : decode (js_b 312) 76 = .ok (.lconst 1, 1) := d_300_76
theorem d_312_77 : decode (js_b 312) 77 = .ok (.iload 5, 2) := d_300_77
theorem d_312_79 : decode (js_b 312) 79 = .ok (.iconst 1, 1) := d_300_79
theorem d_312_80 : decode (js_b 312) 80 = .ok (.iadd, 1) := d_300_80
theorem d_312_81 : decode (js_b 312) 81 = .ok (.lshl, 1) := d_300_81
theorem d_312_82 : decode (js_b 312) 82 = .ok (.goto 4, 3) := d_300_82
theorem d_312_85 : decode (js_b 312) 85 = .ok (.lconst 0, 1) := d_300_85
theorem d_312_86 : decode (js_b 312) 86 = .ok (.lor, 1) := d_300_86
theorem d_312_87 : decode (js_b 312) 87 = .ok (.lstore_n 3, 1) := d_300_87
theorem d_312_88 : decode (js_b 312) 88 = .ok (.lload_n 3, 1) := d_300_88
theorem d_312_89 : decode (js_b 312) 89 = .ok (.aload_n 0, 1) := d_300_89
theorem d_312_90 : decode (js_b 312) 90 = .ok (.iload 5, 2) := d_300_90
theorem d_312_92 : decode (js_b 312) 92 = .ok (.bipush 8, 2) := d_300_92
theorem d_312_94 : decode (js_b 312) 94 = .ok (.idiv, 1) := d_300_94
theorem d_312_95 : decode (js_b 312) 95 = .ok (.iload 5, 2) := d_300_95
theorem d_312_97 : decode (js_b 312) 97 = .ok (.bipush 8, 2) := d_300_97
theorem d_312_99 : decode (js_b 312) 99 = .ok (.irem, 1) := d_300_99
theorem d_312_100 : decode (js_b 312) 100 = .ok (.iconst 2, 1) := d_300_100
theorem d_312_101 : decode (js_b 312) 101 = .ok (.invokestatic 198, 3) := d_300_101
theorem d_312_104 : decode (js_b 312) 104 = .ok (.iconst 1, 1) := d_300_104
theorem d_312_105 : decode (js_b 312) 105 = .ok (.if_icmp .ne 13, 3) := d_300_105
theorem d_312_108 : decode (js_b 312) 108 = .ok (.lconst 1, 1) := d_300_108
theorem d_312_109 : decode (js_b 312) 109 = .ok (.iload 5, 2) := d_300_109
theorem d_312_111 : decode (js_b 312) 111 = .ok (.bipush 8, 2) := d_300_111
theorem d_312_113 : decode (js_b 312) 113 = .ok (.iadd, 1) := d_300_113
theorem d_312_114 : decode (js_b 312) 114 = .ok (.lshl, 1) := d_300_114
theorem d_312_115 : decode (js_b 312) 115 = .ok (.goto 4, 3) := d_300_115
theorem d_312_118 : decode (js_b 312) 118 = .ok (.lconst 0, 1) := d_300_118
theorem d_312_119 : decode (js_b 312) 119 = .ok (.lor, 1) := d_300_119
theorem d_312_120 : decode (js_b 312) 120 = .ok (.lstore_n 3, 1) := d_300_120
theorem d_312_121 : decode (js_b 312) 121 = .ok (.lload_n 3, 1) := d_300_121
theorem d_312_122 : decode (js_b 312) 122 = .ok (.aload_n 0, 1) := d_300_122
theorem d_312_123 : decode (js_b 312) 123 = .ok (.iload 5, 2) := d_300_123
theorem d_312_125 : decode (js_b 312) 125 = .ok (.bipush 8, 2) := d_300_125
theorem d_312_127 : decode (js_b 312) 127 = .ok (.idiv, 1) := d_300_127
theorem d_312_128 : decode (js_b 312) 128 = .ok (.iload 5, 2) := d_300_128
theorem d_312_130 : decode (js_b 312) 130 = .ok (.bipush 8, 2) := d_300_130
theorem d_312_132 : decode (js_b 312) 132 = .ok (.irem, 1) := d_300_132
theorem d_312_133 : decode (js_b 312) 133 = .ok (.iconst 3, 1) := d_300_133
theorem d_312_134 : decode (js_b 312) 134 = .ok (.invokestatic 198, 3) := d_300_134
theorem d_312_137 : decode (js_b 312) 137 = .ok (.iconst 1, 1) := d_300_137
theorem d_312_138 : decode (js_b 312) 138 = .ok (.if_icmp .ne 12, 3) := d_300_138
theorem d_312_141 : decode (js_b 312) 141 = .ok (.lconst 1, 1) := d_300_141
theorem d_312_142 : decode (js_b 312) 142 = .ok (.iload 5, 2) := d_300_142
theorem d_312_144 : decode (js_b 312) 144 = .ok (.iconst 1, 1) := d_300_144
theorem d_312_145 : decode (js_b 312) 145 = .ok (.isub, 1) := d_300_145
theorem d_312_146 : decode (js_b 312) 146 = .ok (.lshl, 1) := d_300_146
theorem d_312_147 : decode (js_b 312) 147 = .ok (.goto 4, 3) := d_300_147
theorem d_312_150 : decode (js_b 312) 150 = .ok (.lconst 0, 1) := d_300_150
theorem d_312_151 : decode (js_b 312) 151 = .ok (.lor, 1) := d_300_151
theorem d_312_152 : decode (js_b 312) 152 = .ok (.lstore_n 3, 1) := d_300_152
theorem d_312_153 : decode (js_b 312) 153 = .ok (.iinc 5 1, 3) := d_300_153
theorem d_312_156 : decode (js_b 312) 156 = .ok (.goto (-151), 3) := d_300_156
theorem d_312_159 : decode (js_b 312) 159 = .ok (.lload_n 3, 1) := d_300_159
theorem d_312_160 : decode (js_b 312) 160 = .ok (.lload_n 1, 1) := d_300_160
theorem d_312_161 : decode (js_b 312) 161 = .ok (.lcmp, 1) := d_300_161
theorem d_312_162 : decode (js_b 312) 162 = .ok (.ifCond .ne 7, 3) := d_300_162
theorem d_312_165 : decode (js_b 312) 165 = .ok (.lload_n 1, 1) := d_300_165
theorem d_312_166 : decode (js_b 312) 166 = .ok (.goto 8, 3) := d_300_166
theorem d_312_169 : decode (js_b 312) 169 = .ok (.aload_n 0, 1) := d_300_169
theorem d_312_170 : decode (js_b 312) 170 = .ok (.lload_n 3, 1) := d_300_170
theorem d_312_171 : decode (js_b 312) 171 = .ok (.invokestatic 323, 3) := d_300_171
theorem d_312_174 : decode (js_b 312) 174 = .ok (.lreturn, 1) := d_300_174
theorem ki_312_15 : js_OkG 312 15 (o_Sh (fun x y => (x.toUInt64 >>> (y.toInt64.toUInt64 &&& Int64.toUInt64 63)).toInt64) 16) := js_St.okG (st_lushr d_312_15) (fun _ _ _ _ _ => rfl)
theorem ki_312_13 : js_OkG 312 13 (o_il 5 15) := js_St.okG (st_iload d_312_13) (fun _ _ _ _ _ => rfl)
theorem ki_312_12 : js_OkG 312 12 (o_ll 1 13) := js_St.okG (st_lloadn rfl d_312_12) (fun _ _ _ _ _ => rfl)
theorem ki_312_9 : js_OkG 312 9 (o_cge 159 12) := js_St.okG (st_icge (by decide) d_312_9) (fun _ _ _ _ _ => rfl)
theorem ki_312_7 : js_OkG 312 7 (o_ic 64 9) := js_St.okG (st_bipush rfl d_312_7) (fun _ _ _ _ _ => rfl)
theorem ki_312_5 : js_OkG 312 5 (o_il 5 7) := js_St.okG (st_iload d_312_5) (fun _ _ _ _ _ => rfl)
theorem ki_312_3 : js_OkG 312 3 (o_is 5 5) := js_St.okG (st_istore (Nat.le_of_ble_eq_true rfl) d_312_3) (fun _ _ _ _ _ => rfl)
theorem ki_312_2 : js_OkG 312 2 (o_ic 0 3) := js_St.okG (st_iconst rfl d_312_2) (fun _ _ _ _ _ => rfl)
theorem ki_312_1 : js_OkG 312 1 (o_ls 3 2) := js_St.okG (st_lstoren rfl (Nat.le_of_ble_eq_true rfl) d_312_1) (fun _ _ _ _ _ => rfl)
theorem ki_312_0 : js_OkG 312 0 (o_ll 1 1) := js_St.okG (st_lloadn rfl d_312_0) (fun _ _ _ _ _ => rfl)
theorem ki_312_30 : js_OkG 312 30 (o_il 5 32) := js_St.okG (st_iload d_312_30) (fun _ _ _ _ _ => rfl)
theorem ki_312_29 : js_OkG 312 29 (o_div 30) := js_St.okG (st_idiv d_312_29) (fun _ _ _ _ _ => rfl)
theorem ki_312_27 : js_OkG 312 27 (o_ic 8 29) := js_St.okG (st_bipush rfl d_312_27) (fun _ _ _ _ _ => rfl)
theorem ki_312_25 : js_OkG 312 25 (o_il 5 27) := js_St.okG (st_iload d_312_25) (fun _ _ _ _ _ => rfl)
theorem ki_312_24 : js_OkG 312 24 (o_al 0 25) := js_St.okG (st_aloadn rfl d_312_24) (fun _ _ _ _ _ => rfl)
theorem ki_312_23 : js_OkG 312 23 (o_ll 3 24) := js_St.okG (st_lloadn rfl d_312_23) (fun _ _ _ _ _ => rfl)
theorem ki_312_20 : js_OkG 312 20 (o_ne 153 23) := js_St.okG (st_ifne (by decide) d_312_20) (fun _ _ _ _ _ => rfl)
theorem ki_312_19 : js_OkG 312 19 (o_lcmp 20) := js_St.okG (st_lcmp d_312_19) (fun _ _ _ _ _ => rfl)
theorem ki_312_18 : js_OkG 312 18 (o_lc 1 19) := js_St.okG (st_lconst rfl d_312_18) (fun _ _ _ _ _ => rfl)
theorem ki_312_17 : js_OkG 312 17 (o_B2 (fun x y => x &&& y) 18) := js_St.okG (st_land d_312_17) (fun _ _ _ _ _ => rfl)
theorem ki_312_16 : js_OkG 312 16 (o_lc 1 17) := js_St.okG (st_lconst rfl d_312_16) (fun _ _ _ _ _ => rfl)
theorem ki_312_46 : js_OkG 312 46 (o_ic 8 48) := js_St.okG (st_bipush rfl d_312_46) (fun _ _ _ _ _ => rfl)
theorem ki_312_44 : js_OkG 312 44 (o_il 5 46) := js_St.okG (st_iload d_312_44) (fun _ _ _ _ _ => rfl)
theorem ki_312_43 : js_OkG 312 43 (o_lc 1 44) := js_St.okG (st_lconst rfl d_312_43) (fun _ _ _ _ _ => rfl)
theorem ki_312_40 : js_OkG 312 40 (o_cne 53 43) := js_St.okG (st_icne (by decide) d_312_40) (fun _ _ _ _ _ => rfl)
theorem ki_312_39 : js_OkG 312 39 (o_ic 1 40) := js_St.okG (st_iconst rfl d_312_39) (fun _ _ _ _ _ => rfl)
theorem ki_312_36 : js_OkG 312 36 (o_cI 176 4 0 39) := og_sIP rfl rfl kB_312_176 rfl kw_785 kw_786 d_312_36
theorem ki_312_35 : js_OkG 312 35 (o_ic 0 36) := js_St.okG (st_iconst rfl d_312_35) (fun _ _ _ _ _ => rfl)
theorem ki_312_34 : js_OkG 312 34 (o_rem 35) := js_St.okG (st_irem d_312_34) (fun _ _ _ _ _ => rfl)
theorem ki_312_32 : js_OkG 312 32 (o_ic 8 34) := js_St.okG (st_bipush rfl d_312_32) (fun _ _ _ _ _ => rfl)
theorem ki_312_63 : js_OkG 312 63 (o_il 5 65) := js_St.okG (st_iload d_312_63) (fun _ _ _ _ _ => rfl)
theorem ki_312_62 : js_OkG 312 62 (o_div 63) := js_St.okG (st_idiv d_312_62) (fun _ _ _ _ _ => rfl)
theorem ki_312_60 : js_OkG 312 60 (o_ic 8 62) := js_St.okG (st_bipush rfl d_312_60) (fun _ _ _ _ _ => rfl)
theorem ki_312_58 : js_OkG 312 58 (o_il 5 60) := js_St.okG (st_iload d_312_58) (fun _ _ _ _ _ => rfl)
theorem ki_312_57 : js_OkG 312 57 (o_al 0 58) := js_St.okG (st_aloadn rfl d_312_57) (fun _ _ _ _ _ => rfl)
theorem ki_312_56 : js_OkG 312 56 (o_ll 3 57) := js_St.okG (st_lloadn rfl d_312_56) (fun _ _ _ _ _ => rfl)
theorem ki_312_55 : js_OkG 312 55 (o_ls 3 56) := js_St.okG (st_lstoren rfl (Nat.le_of_ble_eq_true rfl) d_312_55) (fun _ _ _ _ _ => rfl)
theorem ki_312_54 : js_OkG 312 54 (o_B2 (fun x y => x ||| y) 55) := js_St.okG (st_lor d_312_54) (fun _ _ _ _ _ => rfl)
theorem ki_312_53 : js_OkG 312 53 (o_lc 0 54) := js_St.okG (st_lconst rfl d_312_53) (fun _ _ _ _ _ => rfl)
theorem ki_312_50 : js_OkG 312 50 (o_go 54) := js_St.okG (st_goto (by decide) d_312_50) (fun _ _ _ _ _ => rfl)
theorem ki_312_49 : js_OkG 312 49 (o_Sh (fun x y => x <<< (y.toInt64 &&& 63)) 50) := js_St.okG (st_lshl d_312_49) (fun _ _ _ _ _ => rfl)
theorem ki_312_48 : js_OkG 312 48 (o_b2 (fun x y => x - y) 49) := js_St.okG (st_isub d_312_48) (fun _ _ _ _ _ => rfl)
theorem ki_312_79 : js_OkG 312 79 (o_ic 1 80) := js_St.okG (st_iconst rfl d_312_79) (fun _ _ _ _ _ => rfl)
theorem ki_312_77 : js_OkG 312 77 (o_il 5 79) := js_St.okG (st_iload d_312_77) (fun _ _ _ _ _ => rfl)
theorem ki_312_76 : js_OkG 312 76 (o_lc 1 77) := js_St.okG (st_lconst rfl d_312_76) (fun _ _ _ _ _ => rfl)
theorem ki_312_73 : js_OkG 312 73 (o_cne 85 76) := js_St.okG (st_icne (by decide) d_312_73) (fun _ _ _ _ _ => rfl)
theorem ki_312_72 : js_OkG 312 72 (o_ic 1 73) := js_St.okG (st_iconst rfl d_312_72) (fun _ _ _ _ _ => rfl)
theorem ki_312_69 : js_OkG 312 69 (o_cI 176 4 0 72) := og_sIP rfl rfl kB_312_176 rfl kw_785 kw_786 d_312_69
theorem ki_312_68 : js_OkG 312 68 (o_ic 1 69) := js_St.okG (st_iconst rfl d_312_68) (fun _ _ _ _ _ => rfl)
theorem ki_312_67 : js_OkG 312 67 (o_rem 68) := js_St.okG (st_irem d_312_67) (fun _ _ _ _ _ => rfl)
theorem ki_312_65 : js_OkG 312 65 (o_ic 8 67) := js_St.okG (st_bipush rfl d_312_65) (fun _ _ _ _ _ => rfl)
theorem ki_312_95 : js_OkG 312 95 (o_il 5 97) := js_St.okG (st_iload d_312_95) (fun _ _ _ _ _ => rfl)
theorem ki_312_94 : js_OkG 312 94 (o_div 95) := js_St.okG (st_idiv d_312_94) (fun _ _ _ _ _ => rfl)
theorem ki_312_92 : js_OkG 312 92 (o_ic 8 94) := js_St.okG (st_bipush rfl d_312_92) (fun _ _ _ _ _ => rfl)
theorem ki_312_90 : js_OkG 312 90 (o_il 5 92) := js_St.okG (st_iload d_312_90) (fun _ _ _ _ _ => rfl)
theorem ki_312_89 : js_OkG 312 89 (o_al 0 90) := js_St.okG (st_aloadn rfl d_312_89) (fun _ _ _ _ _ => rfl)
theorem ki_312_88 : js_OkG 312 88 (o_ll 3 89) := js_St.okG (st_lloadn rfl d_312_88) (fun _ _ _ _ _ => rfl)
theorem ki_312_87 : js_OkG 312 87 (o_ls 3 88) := js_St.okG (st_lstoren rfl (Nat.le_of_ble_eq_true rfl) d_312_87) (fun _ _ _ _ _ => rfl)
theorem ki_312_86 : js_OkG 312 86 (o_B2 (fun x y => x ||| y) 87) := js_St.okG (st_lor d_312_86) (fun _ _ _ _ _ => rfl)
theorem ki_312_85 : js_OkG 312 85 (o_lc 0 86) := js_St.okG (st_lconst rfl d_312_85) (fun _ _ _ _ _ => rfl)
theorem ki_312_82 : js_OkG 312 82 (o_go 86) := js_St.okG (st_goto (by decide) d_312_82) (fun _ _ _ _ _ => rfl)
theorem ki_312_81 : js_OkG 312 81 (o_Sh (fun x y => x <<< (y.toInt64 &&& 63)) 82) := js_St.okG (st_lshl d_312_81) (fun _ _ _ _ _ => rfl)
theorem ki_312_80 : js_OkG 312 80 (o_b2 (fun x y => x + y) 81) := js_St.okG (st_iadd d_312_80) (fun _ _ _ _ _ => rfl)
theorem ki_312_111 : js_OkG 312 111 (o_ic 8 113) := js_St.okG (st_bipush rfl d_312_111) (fun _ _ _ _ _ => rfl)
theorem ki_312_109 : js_OkG 312 109 (o_il 5 111) := js_St.okG (st_iload d_312_109) (fun _ _ _ _ _ => rfl)
theorem ki_312_108 : js_OkG 312 108 (o_lc 1 109) := js_St.okG (st_lconst rfl d_312_108) (fun _ _ _ _ _ => rfl)
theorem ki_312_105 : js_OkG 312 105 (o_cne 118 108) := js_St.okG (st_icne (by decide) d_312_105) (fun _ _ _ _ _ => rfl)
theorem ki_312_104 : js_OkG 312 104 (o_ic 1 105) := js_St.okG (st_iconst rfl d_312_104) (fun _ _ _ _ _ => rfl)
theorem ki_312_101 : js_OkG 312 101 (o_cI 176 4 0 104) := og_sIP rfl rfl kB_312_176 rfl kw_785 kw_786 d_312_101
theorem ki_312_100 : js_OkG 312 100 (o_ic 2 101) := js_St.okG (st_iconst rfl d_312_100) (fun _ _ _ _ _ => rfl)
theorem ki_312_99 : js_OkG 312 99 (o_rem 100) := js_St.okG (st_irem d_312_99) (fun _ _ _ _ _ => rfl)
theorem ki_312_97 : js_OkG 312 97 (o_ic 8 99) := js_St.okG (st_bipush rfl d_312_97) (fun _ _ _ _ _ => rfl)
theorem ki_312_127 : js_OkG 312 127 (o_div 128) := js_St.okG (st_idiv d_312_127) (fun _ _ _ _ _ => rfl)
theorem ki_312_125 : js_OkG 312 125 (o_ic 8 127) := js_St.okG (st_bipush rfl d_312_125) (fun _ _ _ _ _ => rfl)
theorem ki_312_123 : js_OkG 312 123 (o_il 5 125) := js_St.okG (st_iload d_312_123) (fun _ _ _ _ _ => rfl)
theorem ki_312_122 : js_OkG 312 122 (o_al 0 123) := js_St.okG (st_aloadn rfl d_312_122) (fun _ _ _ _ _ => rfl)
theorem ki_312_121 : js_OkG 312 121 (o_ll 3 122) := js_St.okG (st_lloadn rfl d_312_121) (fun _ _ _ _ _ => rfl)
theorem ki_312_120 : js_OkG 312 120 (o_ls 3 121) := js_St.okG (st_lstoren rfl (Nat.le_of_ble_eq_true rfl) d_312_120) (fun _ _ _ _ _ => rfl)
theorem ki_312_119 : js_OkG 312 119 (o_B2 (fun x y => x ||| y) 120) := js_St.okG (st_lor d_312_119) (fun _ _ _ _ _ => rfl)
theorem ki_312_118 : js_OkG 312 118 (o_lc 0 119) := js_St.okG (st_lconst rfl d_312_118) (fun _ _ _ _ _ => rfl)
theorem ki_312_115 : js_OkG 312 115 (o_go 119) := js_St.okG (st_goto (by decide) d_312_115) (fun _ _ _ _ _ => rfl)
theorem ki_312_114 : js_OkG 312 114 (o_Sh (fun x y => x <<< (y.toInt64 &&& 63)) 115) := js_St.okG (st_lshl d_312_114) (fun _ _ _ _ _ => rfl)
theorem ki_312_113 : js_OkG 312 113 (o_b2 (fun x y => x + y) 114) := js_St.okG (st_iadd d_312_113) (fun _ _ _ _ _ => rfl)
theorem ki_312_142 : js_OkG 312 142 (o_il 5 144) := js_St.okG (st_iload d_312_142) (fun _ _ _ _ _ => rfl)
theorem ki_312_141 : js_OkG 312 141 (o_lc 1 142) := js_St.okG (st_lconst rfl d_312_141) (fun _ _ _ _ _ => rfl)
theorem ki_312_138 : js_OkG 312 138 (o_cne 150 141) := js_St.okG (st_icne (by decide) d_312_138) (fun _ _ _ _ _ => rfl)
theorem ki_312_137 : js_OkG 312 137 (o_ic 1 138) := js_St.okG (st_iconst rfl d_312_137) (fun _ _ _ _ _ => rfl)
theorem ki_312_134 : js_OkG 312 134 (o_cI 176 4 0 137) := og_sIP rfl rfl kB_312_176 rfl kw_785 kw_786 d_312_134
theorem ki_312_133 : js_OkG 312 133 (o_ic 3 134) := js_St.okG (st_iconst rfl d_312_133) (fun _ _ _ _ _ => rfl)
theorem ki_312_132 : js_OkG 312 132 (o_rem 133) := js_St.okG (st_irem d_312_132) (fun _ _ _ _ _ => rfl)
theorem ki_312_130 : js_OkG 312 130 (o_ic 8 132) := js_St.okG (st_bipush rfl d_312_130) (fun _ _ _ _ _ => rfl)
theorem ki_312_128 : js_OkG 312 128 (o_il 5 130) := js_St.okG (st_iload d_312_128) (fun _ _ _ _ _ => rfl)
theorem ki_312_159 : js_OkG 312 159 (o_ll 3 160) := js_St.okG (st_lloadn rfl d_312_159) (fun _ _ _ _ _ => rfl)
theorem ki_312_156 : js_OkG 312 156 (o_go 5) := js_St.okG (st_goto (by decide) d_312_156) (fun _ _ _ _ _ => rfl)
theorem ki_312_153 : js_OkG 312 153 (o_inc 5 1 156) := js_St.okG (st_iinc rfl (Nat.le_of_ble_eq_true rfl) d_312_153) (fun _ _ _ _ _ => rfl)
theorem ki_312_152 : js_OkG 312 152 (o_ls 3 153) := js_St.okG (st_lstoren rfl (Nat.le_of_ble_eq_true rfl) d_312_152) (fun _ _ _ _ _ => rfl)
theorem ki_312_151 : js_OkG 312 151 (o_B2 (fun x y => x ||| y) 152) := js_St.okG (st_lor d_312_151) (fun _ _ _ _ _ => rfl)
theorem ki_312_150 : js_OkG 312 150 (o_lc 0 151) := js_St.okG (st_lconst rfl d_312_150) (fun _ _ _ _ _ => rfl)
theorem ki_312_147 : js_OkG 312 147 (o_go 151) := js_St.okG (st_goto (by decide) d_312_147) (fun _ _ _ _ _ => rfl)
theorem ki_312_146 : js_OkG 312 146 (o_Sh (fun x y => x <<< (y.toInt64 &&& 63)) 147) := js_St.okG (st_lshl d_312_146) (fun _ _ _ _ _ => rfl)
theorem ki_312_145 : js_OkG 312 145 (o_b2 (fun x y => x - y) 146) := js_St.okG (st_isub d_312_145) (fun _ _ _ _ _ => rfl)
theorem ki_312_144 : js_OkG 312 144 (o_ic 1 145) := js_St.okG (st_iconst rfl d_312_144) (fun _ _ _ _ _ => rfl)
theorem ki_312_174 : js_OkG 312 174 (o_rL) := og_rL rfl d_312_174
theorem ki_312_171 : js_OkG 312 171 (o_cL 313 2 0 174) := og_sLP rfl rfl kB_312_313 rfl kw_949 kw_950 d_312_171
theorem ki_312_170 : js_OkG 312 170 (o_ll 3 171) := js_St.okG (st_lloadn rfl d_312_170) (fun _ _ _ _ _ => rfl)
theorem ki_312_169 : js_OkG 312 169 (o_al 0 170) := js_St.okG (st_aloadn rfl d_312_169) (fun _ _ _ _ _ => rfl)
theorem ki_312_166 : js_OkG 312 166 (o_go 174) := js_St.okG (st_goto (by decide) d_312_166) (fun _ _ _ _ _ => rfl)
theorem ki_312_165 : js_OkG 312 165 (o_ll 1 166) := js_St.okG (st_lloadn rfl d_312_165) (fun _ _ _ _ _ => rfl)
theorem ki_312_162 : js_OkG 312 162 (o_ne 169 165) := js_St.okG (st_ifne (by decide) d_312_162) (fun _ _ _ _ _ => rfl)
theorem ki_312_161 : js_OkG 312 161 (o_lcmp 162) := js_St.okG (st_lcmp d_312_161) (fun _ _ _ _ _ => rfl)
theorem ki_312_160 : js_OkG 312 160 (o_ll 1 161) := js_St.okG (st_lloadn rfl d_312_160) (fun _ _ _ _ _ => rfl)
set_option maxRecDepth 20000 in
theorem mk_312 : js_mokG 312 := jk_tab (fun _ => js_St.okG st_bad (fun _ _ _ _ _ => rfl)) (show jk_all (js_OkG 312) 0 (tb_G 312) from ⟨⟨ki_312_0, ⟨ki_312_1, ⟨ki_312_2, ⟨ki_312_3, ⟨kbadG, ⟨ki_312_5, ⟨kbadG, ⟨ki_312_7, ⟨kbadG, ⟨ki_312_9, ⟨kbadG, ⟨kbadG, ⟨ki_312_12, ⟨ki_312_13, ⟨kbadG, ⟨ki_312_15, trivial⟩⟩⟩⟩⟩⟩⟩⟩⟩⟩⟩⟩⟩⟩⟩⟩, ⟨⟨ki_312_16, ⟨ki_312_17, ⟨ki_312_18, ⟨ki_312_19, ⟨ki_312_20, ⟨kbadG, ⟨kbadG, ⟨ki_312_23, ⟨ki_312_24, ⟨ki_312_25, ⟨kbadG, ⟨ki_312_27, ⟨kbadG, ⟨ki_312_29, ⟨ki_312_30, ⟨kbadG, trivial⟩⟩⟩⟩⟩⟩⟩⟩⟩⟩⟩⟩⟩⟩⟩⟩, ⟨⟨ki_312_32, ⟨kbadG, ⟨ki_312_34, ⟨ki_312_35, ⟨ki_312_36, ⟨kbadG, ⟨kbadG, ⟨ki_312_39, ⟨ki_312_40, ⟨kbadG, ⟨kbadG, ⟨ki_312_43, ⟨ki_312_44, ⟨kbadG, ⟨ki_312_46, ⟨kbadG, trivial⟩⟩⟩⟩⟩⟩⟩⟩⟩⟩⟩⟩⟩⟩⟩⟩, ⟨⟨ki_312_48, ⟨ki_312_49, ⟨ki_312_50, ⟨kbadG, ⟨kbadG, ⟨ki_312_53, ⟨ki_312_54, ⟨ki_312_55, ⟨ki_312_56, ⟨ki_312_57, ⟨ki_312_58, ⟨kbadG, ⟨ki_312_60, ⟨kbadG, ⟨ki_312_62, ⟨ki_312_63, trivial⟩⟩⟩⟩⟩⟩⟩⟩⟩⟩⟩⟩⟩⟩⟩⟩, ⟨⟨kbadG, ⟨ki_312_65, ⟨kbadG, ⟨ki_312_67, ⟨ki_312_68, ⟨ki_312_69, ⟨kbadG, ⟨kbadG, ⟨ki_312_72, ⟨ki_312_73, ⟨kbadG, ⟨kbadG, ⟨ki_312_76, ⟨ki_312_77, ⟨kbadG, ⟨ki_312_79, trivial⟩⟩⟩⟩⟩⟩⟩⟩⟩⟩⟩⟩⟩⟩⟩⟩, ⟨⟨ki_312_80, ⟨ki_312_81, ⟨ki_312_82, ⟨kbadG, ⟨kbadG, ⟨ki_312_85, ⟨ki_312_86, ⟨ki_312_87, ⟨ki_312_88, ⟨ki_312_89, ⟨ki_312_90, ⟨kbadG, ⟨ki_312_92, ⟨kbadG, ⟨ki_312_94, ⟨ki_312_95, trivial⟩⟩⟩⟩⟩⟩⟩⟩⟩⟩⟩⟩⟩⟩⟩⟩, ⟨⟨kbadG, ⟨ki_312_97, ⟨kbadG, ⟨ki_312_99, ⟨ki_312_100, ⟨ki_312_101, ⟨kbadG, ⟨kbadG, ⟨ki_312_104, ⟨ki_312_105, ⟨kbadG, ⟨kbadG, ⟨ki_312_108, ⟨ki_312_109, ⟨kbadG, ⟨ki_312_111, trivial⟩⟩⟩⟩⟩⟩⟩⟩⟩⟩⟩⟩⟩⟩⟩⟩, ⟨⟨kbadG, ⟨ki_312_113, ⟨ki_312_114, ⟨ki_312_115, ⟨kbadG, ⟨kbadG, ⟨ki_312_118, ⟨ki_312_119, ⟨ki_312_120, ⟨ki_312_121, ⟨ki_312_122, ⟨ki_312_123, ⟨kbadG, ⟨ki_312_125, ⟨kbadG, ⟨ki_312_127, trivial⟩⟩⟩⟩⟩⟩⟩⟩⟩⟩⟩⟩⟩⟩⟩⟩, ⟨⟨ki_312_128, ⟨kbadG, ⟨ki_312_130, ⟨kbadG, ⟨ki_312_132, ⟨ki_312_133, ⟨ki_312_134, ⟨kbadG, ⟨kbadG, ⟨ki_312_137, ⟨ki_312_138, ⟨kbadG, ⟨kbadG, ⟨ki_312_141, ⟨ki_312_142, ⟨kbadG, trivial⟩⟩⟩⟩⟩⟩⟩⟩⟩⟩⟩⟩⟩⟩⟩⟩, ⟨⟨ki_312_144, ⟨ki_312_145, ⟨ki_312_146, ⟨ki_312_147, ⟨kbadG, ⟨kbadG, ⟨ki_312_150, ⟨ki_312_151, ⟨ki_312_152, ⟨ki_312_153, ⟨kbadG, ⟨kbadG, ⟨ki_312_156, ⟨kbadG, ⟨kbadG, ⟨ki_312_159, trivial⟩⟩⟩⟩⟩⟩⟩⟩⟩⟩⟩⟩⟩⟩⟩⟩, ⟨⟨ki_312_160, ⟨ki_312_161, ⟨ki_312_162, ⟨kbadG, ⟨kbadG, ⟨ki_312_165, ⟨ki_312_166, ⟨kbadG, ⟨kbadG, ⟨ki_312_169, ⟨ki_312_170, ⟨ki_312_171, ⟨kbadG, ⟨kbadG, ⟨ki_312_174, trivial⟩⟩⟩⟩⟩⟩⟩⟩⟩⟩⟩⟩⟩⟩⟩, trivial⟩⟩⟩⟩⟩⟩⟩⟩⟩⟩⟩)
theorem d_313_0 : decode (js_b 313) 0 = .ok (.lload_n 1, 1) := d_300_0
theorem d_313_1 : decode (js_b 313) 1 = .ok (.lstore_n 3, 1) := d_300_1
theorem d_313_2 : decode (js_b 313) 2 = .ok (.iconst 0, 1) := d_300_2
theorem d_313_3 : decode (js_b 313) 3 = .ok (.istore 5, 2) := d_300_3
theorem d_313_5 : decode (js_b 313) 5 = .ok (.iload 5, 2) := d_300_5
theorem d_313_7 : decode (js_b 313) 7 = .ok (.bipush 64, 2) := d_300_7
theorem d_313_9 : decode (js_b 313) 9 = .ok (.if_icmp .ge 150, 3) := d_300_9
theorem d_313_12 : decode (js_b 313) 12 = .ok (.lload_n 1, 1) := d_300_12
theorem d_313_13 : decode (js_b 313) 13 = .ok (.iload 5, 2) := d_300_13
theorem d_313_15 : decode (js_b 313) 15 = .ok (.lushr, 1) := d_300_15
theorem d_313_16 : decode (js_b 313) 16 = .ok (.lconst 1, 1) := d_300_16
theorem d_313_17 : decode (js_b 313) 17 = .ok (.land, 1) := d_300_17
theorem d_313_18 : decode (js_b 313) 18 = .ok (.lconst 1, 1) := d_300_18
theorem d_313_19 : decode (js_b 313) 19 = .ok (.lcmp, 1) := d_300_19
theorem d_313_20 : decode (js_b 313) 20 = .ok (.ifCond .ne 133, 3) := d_300_20
theorem d_313_23 : decode (js_b 313) 23 = .ok (.lload_n 3, 1) := d_300_23
theorem d_313_24 : decode (js_b 313) 24 = .ok (.aload_n 0, 1) := d_300_24
theorem d_313_25 : decode (js_b 313) 25 = .ok (.iload 5, 2) := d_300_25
theorem d_313_27 : decode (js_b 313) 27 = .ok (.bipush 8, 2) := d_300_27
theorem d_313_29 : decode (js_b 313) 29 = .ok (.idiv, 1) := d_300_29
theorem d_313_30 : decode (js_b 313) 30 = .ok (.iload 5, 2) := d_300_30
theorem d_313_32 : decode (js_b 313) 32 = .ok (.bipush 8, 2) := d_300_32
theorem d_313_34 : decode (js_b 313) 34 = .ok (.irem, 1) := d_300_34
theorem d_313_35 : decode (js_b 313) 35 = .ok (.iconst 0, 1) := d_300_35
theorem d_313_36 : decode (js_b 313) 36 = .ok (.invokestatic 198, 3) := d_300_36
theorem d_313_39 : decode (js_b 313) 39 = .ok (.iconst 1, 1) := d_300_39
theorem d_313_40 : decode (js_b 313) 40 = .ok (.if_icmp .ne 13, 3) := d_300_40
theorem d_313_43 : decode (js_b 313) 43 = .ok (.lconst 1, 1) := d_300_43
theorem d_313_44 : decode (js_b 313) 44 = .ok (.iload 5, 2) := d_300_44
theorem d_313_46 : decode (js_b 313) 46 = .ok (.bipush 8, 2) := d_300_46
theorem d_313_48 : decode (js_b 313) 48 = .ok (.isub, 1) := d_300_48
theorem d_313_49 : decode (js_b 313) 49 = .ok (.lshl, 1) := d_300_49
theorem d_313_50 : decode (js_b 313) 50 = .ok (.goto 4, 3) := d_300_50
theorem d_313_53 : decode (js_b 313) 53 = .ok (.lconst 0, 1) := d_300_53
theorem d_313_54 : decode (js_b 313) 54 = .ok (.lor, 1) := d_300_54
theorem d_313_55 : decode (js_b 313) 55 = .ok (.lstore_n 3, 1) := d_300_55
theorem d_313_56 : decode (js_b 313) 56 = .ok (.lload_n 3, 1) := d_300_56
theorem d_313_57 : decode (js_b 313) 57 = .ok (.aload_n 0, 1) := d_300_57
theorem d_313_58 : decode (js_b 313) 58 = .ok (.iload 5, 2) := d_300_58
theorem d_313_60 : decode (js_b 313) 60 = .ok (.bipush 8, 2) := d_300_60
theorem d_313_62 : decode (js_b 313) 62 = .ok (.idiv, 1) := d_300_62
theorem d_313_63 : decode (js_b 313) 63 = .ok (.iload 5, 2) := d_300_63
theorem d_313_65 : decode (js_b 313) 65 = .ok (.bipush 8, 2) := d_300_65
theorem d_313_67 : decode (js_b 313) 67 = .ok (.irem, 1) := d_300_67
theorem d_313_68 : decode (js_b 313) 68 = .ok (.iconst 1, 1) := d_300_68
theorem d_313_69 : decode (js_b 313) 69 = .ok (.invokestatic 198, 3) := d_300_69
theorem d_313_72 : decode (js_b 313) 72 = .ok (.iconst 1, 1) := d_300_72
theorem d_313_73 : decode (js_b 313) 73 = .ok (.if_icmp .ne 12, 3) := d_300_73
theorem d_313_76 : decode (js_b 313) 76 = .ok (.lconst 1, 1) := d_300_76
theorem d_313_77 : decode (js_b 313) 77 = .ok (.iload 5, 2) := d_300_77
theorem d_313_79 : decode (js_b 313) 79 = .ok (.iconst 1, 1) := d_300_79
theorem d_313_80 : decode (js_b 313) 80 = .ok (.iadd, 1) := d_300_80
theorem d_313_81 : decode (js_b 313) 81 = .ok (.lshl, 1) := d_300_81
theorem d_313_82 : decode (js_b 313) 82 = .ok (.goto 4, 3) := d_300_82
theorem d_313_85 : decode (js_b 313) 85 = .ok (.lconst 0, 1) := d_300_85
theorem d_313_86 : decode (js_b 313) 86 = .ok (.lor, 1) := d_300_86
theorem d_313_87 : decode (js_b 313) 87 = .ok (.lstore_n 3, 1) := d_300_87
theorem d_313_88 : decode (js_b 313) 88 = .ok (.lload_n 3, 1) := d_300_88
theorem d_313_89 : decode (js_b 313) 89 = .ok (.aload_n 0, 1) := d_300_89
theorem d_313_90 : decode (js_b 313) 90 = .ok (.iload 5, 2) := d_300_90
theorem d_313_92 : decode (js_b 313) 92 = .ok (.bipush 8, 2) := d_300_92
theorem d_313_94 : decode (js_b 313) 94 = .ok (.idiv, 1) := d_300_94
theorem d_313_95 : decode (js_b 313) 95 = .ok (.iload 5, 2) := d_300_95
theorem d_313_97 : decode (js_b 313) 97 = .ok (.bipush 8, 2) := d_300_97
theorem d_313_99 : decode (js_b 313) 99 = .ok (.irem, 1) := d_300_99
theorem d_313_100 : decode (js_b 313) 100 = .ok (.iconst 2, 1) := d_300_100
theorem d_313_101 : decode (js_b 313) 101 = .ok (.invokestatic 198, 3) := d_300_101
theorem d_313_104 : decode (js_b 313) 104 = .ok (.iconst 1, 1) := d_300_104
theorem d_313_105 : decode (js_b 313) 105 = .ok (.if_icmp .ne 13, 3) := d_300_105
theorem d_313_108 : decode (js_b 313) 108 = .ok (.lconst 1, 1) := d_300_108
theorem d_313_109 : decode (js_b 313) 109 = .ok (.iload 5, 2) := d_300_109
theorem d_313_111 : decode (js_b 313) 111 = .ok (.bipush 8, 2) := d_300_111
theorem d_313_113 : decode (js_b 313) 113 = .ok (.iadd, 1) := d_300_113
theorem d_313_114 : decode (js_b 313) 114 = .ok (.lshl, 1) := d_300_114
theorem d_313_115 : decode (js_b 313) 115 = .ok (.goto 4, 3) := d_300_115
theorem d_313_118 : decode (js_b 313) 118 = .ok (.lconst 0, 1) := d_300_118
theorem d_313_119 : decode (js_b 313) 119 = .ok (.lor, 1) := d_300_119
theorem d_313_120 : decode (js_b 313) 120 = .ok (.lstore_n 3, 1) := d_300_120
theorem d_313_121 : decode (js_b 313) 121 = .ok (.lload_n 3, 1) := d_300_121
theorem d_313_122 : decode (js_b 313) 122 = .ok (.aload_n 0, 1) := d_300_122
theorem d_313_123 : decode (js_b 313) 123 = .ok (.iload 5, 2) := d_300_123
theorem d_313_125 : decode (js_b 313) 125 = .ok (.bipush 8, 2) := d_300_125
theorem d_313_127 : decode (js_b 313) 127 = .ok (.idiv, 1) := d_300_127
theorem d_313_128 : decode (js_b 313) 128 = .ok (.iload 5, 2) := d_300_128
theorem d_313_130 : decode (js_b 313) 130 = .ok (.bipush 8, 2) := d_300_130
theorem d_313_132 : decode (js_b 313) 132 = .ok (.irem, 1) := d_300_132
theorem d_313_133 : decode (js_b 313) 133 = .ok (.iconst 3, 1) := d_300_133
theorem d_313_134 : decode (js_b 313) 134 = .ok (.invokestatic 198, 3) := d_300_134
theorem d_313_137 : decode (js_b 313) 137 = .ok (.iconst 1, 1) := d_300_137
theorem d_313_138 : decode (js_b 313) 138 = .ok (.if_icmp .ne 12, 3) := d_300_138
theorem d_313_141 : decode (js_b 313) 141 = .ok (.lconst 1, 1) := d_300_141
theorem d_313_142 : decode (js_b 313) 142 = .ok (.iload 5, 2) := d_300_142
theorem d_313_144 : decode (js_b 313) 144 = .ok (.iconst 1, 1) := d_300_144
theorem d_313_145 : decode (js_b 313) 145 = .ok (.isub, 1) := d_300_145
theorem d_313_146 : decode (js_b 313) 146 = .ok (.lshl, 1) := d_300_146
theorem d_313_147 : decode (js_b 313) 147 = .ok (.goto 4, 3) := d_300_147
theorem d_313_150 : decode (js_b 313) 150 = .ok (.lconst 0, 1) := d_300_150
theorem d_313_151 : decode (js_b 313) 151 = .ok (.lor, 1) := d_300_151
theorem d_313_152 : decode (js_b 313) 152 = .ok (.lstore_n 3, 1) := d_300_152
theorem d_313_153 : decode (js_b 313) 153 = .ok (.iinc 5 1, 3) := d_300_153
theorem d_313_156 : decode (js_b 313) 156 = .ok (.goto (-151), 3) := d_300_156
theorem d_313_159 : decode (js_b 313) 159 = .ok (.lload_n 3, 1) := d_300_159
theorem d_313_160 : decode (js_b 313) 160 = .ok (.lload_n 1, 1) := d_300_160
theorem d_313_161 : decode (js_b 313) 161 = .ok (.lcmp, 1) := d_300_161
theorem d_313_162 : decode (js_b 313) 162 = .ok (.ifCond .ne 7, 3) := d_300_162
theorem d_313_165 : decode (js_b 313) 165 = .ok (.lload_n 1, 1) := d_300_165
theorem d_313_166 : decode (js_b 313) 166 = .ok (.goto 8, 3) := d_300_166
theorem d_313_169 : decode (js_b 313) 169 = .ok (.aload_n 0, 1) := d_300_169
theorem d_313_170 : decode (js_b 313) 170 = .ok (.lload_n 3, 1) := d_300_170
theorem d_313_171 : decode (js_b 313) 171 = .ok (.invokestatic 323, 3) := d_300_171
theorem d_313_174 : decode (js_b 313) 174 = .ok (.lreturn, 1) := d_300_174
theorem ki_313_15 : js_OkG 313 15 (o_Sh (fun x y => (x.toUInt64 >>> (y.toInt64.toUInt64 &&& Int64.toUInt64 63)).toInt64) 16) := js_St.okG (st_lushr d_313_15) (fun _ _ _ _ _ => rfl)
theorem ki_313_13 : js_OkG 313 13 (o_il 5 15) := js_St.okG (st_iload d_313_13) (fun _ _ _ _ _ => rfl)
theorem ki_313_12 : js_OkG 313 12 (o_ll 1 13) := js_St.okG (st_lloadn rfl d_313_12) (fun _ _ _ _ _ => rfl)
theorem ki_313_9 : js_OkG 313 9 (o_cge 159 12) := js_St.okG (st_icge (by decide) d_313_9) (fun _ _ _ _ _ => rfl)
theorem ki_313_7 : js_OkG 313 7 (o_ic 64 9) := js_St.okG (st_bipush rfl d_313_7) (fun _ _ _ _ _ => rfl)
theorem ki_313_5 : js_OkG 313 5 (o_il 5 7) := js_St.okG (st_iload d_313_5) (fun _ _ _ _ _ => rfl)
theorem ki_313_3 : js_OkG 313 3 (o_is 5 5) := js_St.okG (st_istore (Nat.le_of_ble_eq_true rfl) d_313_3) (fun _ _ _ _ _ => rfl)
theorem ki_313_2 : js_OkG 313 2 (o_ic 0 3) := js_St.okG (st_iconst rfl d_313_2) (fun _ _ _ _ _ => rfl)
theorem ki_313_1 : js_OkG 313 1 (o_ls 3 2) := js_St.okG (st_lstoren rfl (Nat.le_of_ble_eq_true rfl) d_313_1) (fun _ _ _ _ _ => rfl)
theorem ki_313_0 : js_OkG 313 0 (o_ll 1 1) := js_St.okG (st_lloadn rfl d_313_0) (fun _ _ _ _ _ => rfl)
theorem ki_313_30 : js_OkG 313 30 (o_il 5 32) := js_St.okG (st_iload d_313_30) (fun _ _ _ _ _ => rfl)
theorem ki_313_29 : js_OkG 313 29 (o_div 30) := js_St.okG (st_idiv d_313_29) (fun _ _ _ _ _ => rfl)
theorem ki_313_27 : js_OkG 313 27 (o_ic 8 29) := js_St.okG (st_bipush rfl d_313_27) (fun _ _ _ _ _ => rfl)
theorem ki_313_25 : js_OkG 313 25 (o_il 5 27) := js_St.okG (st_iload d_313_25) (fun _ _ _ _ _ => rfl)
theorem ki_313_24 : js_OkG 313 24 (o_al 0 25) := js_St.okG (st_aloadn rfl d_313_24) (fun _ _ _ _ _ => rfl)
theorem ki_313_23 : js_OkG 313 23 (o_ll 3 24) := js_St.okG (st_lloadn rfl d_313_23) (fun _ _ _ _ _ => rfl)
theorem ki_313_20 : js_OkG 313 20 (o_ne 153 23) := js_St.okG (st_ifne (by decide) d_313_20) (fun _ _ _ _ _ => rfl)
theorem ki_313_19 : js_OkG 313 19 (o_lcmp 20) := js_St.okG (st_lcmp d_313_19) (fun _ _ _ _ _ => rfl)
theorem ki_313_18 : js_OkG 313 18 (o_lc 1 19) := js_St.okG (st_lconst rfl d_313_18) (fun _ _ _ _ _ => rfl)
theorem ki_313_17 : js_OkG 313 17 (o_B2 (fun x y => x &&& y) 18) := js_St.okG (st_land d_313_17) (fun _ _ _ _ _ => rfl)
theorem ki_313_16 : js_OkG 313 16 (o_lc 1 17) := js_St.okG (st_lconst rfl d_313_16) (fun _ _ _ _ _ => rfl)
theorem ki_313_46 : js_OkG 313 46 (o_ic 8 48) := js_St.okG (st_bipush rfl d_313_46) (fun _ _ _ _ _ => rfl)
theorem ki_313_44 : js_OkG 313 44 (o_il 5 46) := js_St.okG (st_iload d_313_44) (fun _ _ _ _ _ => rfl)
theorem ki_313_43 : js_OkG 313 43 (o_lc 1 44) := js_St.okG (st_lconst rfl d_313_43) (fun _ _ _ _ _ => rfl)
theorem ki_313_40 : js_OkG 313 40 (o_cne 53 43) := js_St.okG (st_icne (by decide) d_313_40) (fun _ _ _ _ _ => rfl)
theorem ki_313_39 : js_OkG 313 39 (o_ic 1 40) := js_St.okG (st_iconst rfl d_313_39) (fun _ _ _ _ _ => rfl)
theorem ki_313_36 : js_OkG 313 36 (o_cI 176 4 0 39) := og_sIP rfl rfl kB_313_176 rfl kw_785 kw_786 d_313_36
theorem ki_313_35 : js_OkG 313 35 (o_ic 0 36) := js_St.okG (st_iconst rfl d_313_35) (fun _ _ _ _ _ => rfl)
theorem ki_313_34 : js_OkG 313 34 (o_rem 35) := js_St.okG (st_irem d_313_34) (fun _ _ _ _ _ => rfl)
theorem ki_313_32 : js_OkG 313 32 (o_ic 8 34) := js_St.okG (st_bipush rfl d_313_32) (fun _ _ _ _ _ => rfl)
theorem ki_313_63 : js_OkG 313 63 (o_il 5 65) := js_St.okG (st_iload d_313_63) (fun _ _ _ _ _ => rfl)
theorem ki_313_62 : js_OkG 313 62 (o_div 63) := js_St.okG (st_idiv d_313_62) (fun _ _ _ _ _ => rfl)
theorem ki_313_60 : js_OkG 313 60 (o_ic 8 62) := js_St.okG (st_bipush rfl d_313_60) (fun _ _ _ _ _ => rfl)
theorem ki_313_58 : js_OkG 313 58 (o_il 5 60) := js_St.okG (st_iload d_313_58) (fun _ _ _ _ _ => rfl)
theorem ki_313_57 : js_OkG 313 57 (o_al 0 58) := js_St.okG (st_aloadn rfl d_313_57) (fun _ _ _ _ _ => rfl)
theorem ki_313_56 : js_OkG 313 56 (o_ll 3 57) := js_St.okG (st_lloadn rfl d_313_56) (fun _ _ _ _ _ => rfl)
theorem ki_313_55 : js_OkG 313 55 (o_ls 3 56) := js_St.okG (st_lstoren rfl (Nat.le_of_ble_eq_true rfl) d_313_55) (fun _ _ _ _ _ => rfl)
theorem ki_313_54 : js_OkG 313 54 (o_B2 (fun x y => x ||| y) 55) := js_St.okG (st_lor d_313_54) (fun _ _ _ _ _ => rfl)
theorem ki_313_53 : js_OkG 313 53 (o_lc 0 54) := js_St.okG (st_lconst rfl d_313_53) (fun _ _ _ _ _ => rfl)
theorem ki_313_50 : js_OkG 313 50 (o_go 54) := js_St.okG (st_goto (by decide) d_313_50) (fun _ _ _ _ _ => rfl)
theorem ki_313_49 : js_OkG 313 49 (o_Sh (fun x y => x <<< (y.toInt64 &&& 63)) 50) := js_St.okG (st_lshl d_313_49) (fun _ _ _ _ _ => rfl)
theorem ki_313_48 : js_OkG 313 48 (o_b2 (fun x y => x - y) 49) := js_St.okG (st_isub d_313_48) (fun _ _ _ _ _ => rfl)
theorem ki_313_79 : js_OkG 313 79 (o_ic 1 80) := js_St.okG (st_iconst rfl d_313_79) (fun _ _ _ _ _ => rfl)
theorem ki_313_77 : js_OkG 313 77 (o_il 5 79) := js_St.okG (st_iload d_313_77) (fun _ _ _ _ _ => rfl)
theorem ki_313_76 : js_OkG 313 76 (o_lc 1 77) := js_St.okG (st_lconst rfl d_313_76) (fun _ _ _ _ _ => rfl)
theorem ki_313_73 : js_OkG 313 73 (o_cne 85 76) := js_St.okG (st_icne (by decide) d_313_73) (fun _ _ _ _ _ => rfl)
theorem ki_313_72 : js_OkG 313 72 (o_ic 1 73) := js_St.okG (st_iconst rfl d_313_72) (fun _ _ _ _ _ => rfl)
theorem ki_313_69 : js_OkG 313 69 (o_cI 176 4 0 72) := og_sIP rfl rfl kB_313_176 rfl kw_785 kw_786 d_313_69
theorem ki_313_68 : js_OkG 313 68 (o_ic 1 69) := js_St.okG (st_iconst rfl d_313_68) (fun _ _ _ _ _ => rfl)
theorem ki_313_67 : js_OkG 313 67 (o_rem 68) := js_St.okG (st_irem d_313_67) (fun _ _ _ _ _ => rfl)
theorem ki_313_65 : js_OkG 313 65 (o_ic 8 67) := js_St.okG (st_bipush rfl d_313_65) (fun _ _ _ _ _ => rfl)
theorem ki_313_95 : js_OkG 313 95 (o_il 5 97) := js_St.okG (st_iload d_313_95) (fun _ _ _ _ _ => rfl)
theorem ki_313_94 : js_OkG 313 94 (o_div 95) := js_St.okG (st_idiv d_313_94) (fun _ _ _ _ _ => rfl)
theorem ki_313_92 : js_OkG 313 92 (o_ic 8 94) := js_St.okG (st_bipush rfl d_313_92) (fun _ _ _ _ _ => rfl)
theorem ki_313_90 : js_OkG 313 90 (o_il 5 92) := js_St.okG (st_iload d_313_90) (fun _ _ _ _ _ => rfl)
theorem ki_313_89 : js_OkG 313 89 (o_al 0 90) := js_St.okG (st_aloadn rfl d_313_89) (fun _ _ _ _ _ => rfl)
theorem ki_313_88 : js_OkG 313 88 (o_ll 3 89) := js_St.okG (st_lloadn rfl d_313_88) (fun _ _ _ _ _ => rfl)
theorem ki_313_87 : js_OkG 313 87 (o_ls 3 88) := js_St.okG (st_lstoren rfl (Nat.le_of_ble_eq_true rfl) d_313_87) (fun _ _ _ _ _ => rfl)
theorem ki_313_86 : js_OkG 313 86 (o_B2 (fun x y => x ||| y) 87) := js_St.okG (st_lor d_313_86) (fun _ _ _ _ _ => rfl)
theorem ki_313_85 : js_OkG 313 85 (o_lc 0 86) := js_St.okG (st_lconst rfl d_313_85) (fun _ _ _ _ _ => rfl)
theorem ki_313_82 : js_OkG 313 82 (o_go 86) := js_St.okG (st_goto (by decide) d_313_82) (fun _ _ _ _ _ => rfl)
theorem ki_313_81 : js_OkG 313 81 (o_Sh (fun x y => x <<< (y.toInt64 &&& 63)) 82) := js_St.okG (st_lshl d_313_81) (fun _ _ _ _ _ => rfl)
theorem ki_313_80 : js_OkG 313 80 (o_b2 (fun x y => x + y) 81) := js_St.okG (st_iadd d_313_80) (fun _ _ _ _ _ => rfl)
theorem ki_313_111 : js_OkG 313 111 (o_ic 8 113) := js_St.okG (st_bipush rfl d_313_111) (fun _ _ _ _ _ => rfl)
theorem ki_313_109 : js_OkG 313 109 (o_il 5 111) := js_St.okG (st_iload d_313_109) (fun _ _ _ _ _ => rfl)
theorem ki_313_108 : js_OkG 313 108 (o_lc 1 109) := js_St.okG (st_lconst rfl d_313_108) (fun _ _ _ _ _ => rfl)
theorem ki_313_105 : js_OkG 313 105 (o_cne 118 108) := js_St.okG (st_icne (by decide) d_313_105) (fun _ _ _ _ _ => rfl)
theorem ki_313_104 : js_OkG 313 104 (o_ic 1 105) := js_St.okG (st_iconst rfl d_313_104) (fun _ _ _ _ _ => rfl)
theorem ki_313_101 : js_OkG 313 101 (o_cI 176 4 0 104) := og_sIP rfl rfl kB_313_176 rfl kw_785 kw_786 d_313_101
theorem ki_313_100 : js_OkG 313 100 (o_ic 2 101) := js_St.okG (st_iconst rfl d_313_100) (fun _ _ _ _ _ => rfl)
theorem ki_313_99 : js_OkG 313 99 (o_rem 100) := js_St.okG (st_irem d_313_99) (fun _ _ _ _ _ => rfl)
theorem ki_313_97 : js_OkG 313 97 (o_ic 8 99) := js_St.okG (st_bipush rfl d_313_97) (fun _ _ _ _ _ => rfl)
theorem ki_313_127 : js_OkG 313 127 (o_div 128) := js_St.okG (st_idiv d_313_127) (fun _ _ _ _ _ => rfl)
theorem ki_313_125 : js_OkG 313 125 (o_ic 8 127) := js_St.okG (st_bipush rfl d_313_125) (fun _ _ _ _ _ => rfl)
theorem ki_313_123 : js_OkG 313 123 (o_il 5 125) := js_St.okG (st_iload d_313_123) (fun _ _ _ _ _ => rfl)
theorem ki_313_122 : js_OkG 313 122 (o_al 0 123) := js_St.okG (st_aloadn rfl d_313_122) (fun _ _ _ _ _ => rfl)
theorem ki_313_121 : js_OkG 313 121 (o_ll 3 122) := js_St.okG (st_lloadn rfl d_313_121) (fun _ _ _ _ _ => rfl)
theorem ki_313_120 : js_OkG 313 120 (o_ls 3 121) := js_St.okG (st_lstoren rfl (Nat.le_of_ble_eq_true rfl) d_313_120) (fun _ _ _ _ _ => rfl)
theorem ki_313_119 : js_OkG 313 119 (o_B2 (fun x y => x ||| y) 120) := js_St.okG (st_lor d_313_119) (fun _ _ _ _ _ => rfl)
theorem ki_313_118 : js_OkG 313 118 (o_lc 0 119) := js_St.okG (st_lconst rfl d_313_118) (fun _ _ _ _ _ => rfl)
theorem ki_313_115 : js_OkG 313 115 (o_go 119) := js_St.okG (st_goto (by decide) d_313_115) (fun _ _ _ _ _ => rfl)
theorem ki_313_114 : js_OkG 313 114 (o_Sh (fun x y => x <<< (y.toInt64 &&& 63)) 115) := js_St.okG (st_lshl d_313_114) (fun _ _ _ _ _ => rfl)
theorem ki_313_113 : js_OkG 313 113 (o_b2 (fun x y => x + y) 114) := js_St.okG (st_iadd d_313_113) (fun _ _ _ _ _ => rfl)
theorem ki_313_142 : js_OkG 313 142 (o_il 5 144) := js_St.okG (st_iload d_313_142) (fun _ _ _ _ _ => rfl)
theorem ki_313_141 : js_OkG 313 141 (o_lc 1 142) := js_St.okG (st_lconst rfl d_313_141) (fun _ _ _ _ _ => rfl)
theorem ki_313_138 : js_OkG 313 138 (o_cne 150 141) := js_St.okG (st_icne (by decide) d_313_138) (fun _ _ _ _ _ => rfl)
theorem ki_313_137 : js_OkG 313 137 (o_ic 1 138) := js_St.okG (st_iconst rfl d_313_137) (fun _ _ _ _ _ => rfl)
theorem ki_313_134 : js_OkG 313 134 (o_cI 176 4 0 137) := og_sIP rfl rfl kB_313_176 rfl kw_785 kw_786 d_313_134
theorem ki_313_133 : js_OkG 313 133 (o_ic 3 134) := js_St.okG (st_iconst rfl d_313_133) (fun _ _ _ _ _ => rfl)
theorem ki_313_132 : js_OkG 313 132 (o_rem 133) := js_St.okG (st_irem d_313_132) (fun _ _ _ _ _ => rfl)
theorem ki_313_130 : js_OkG 313 130 (o_ic 8 132) := js_St.okG (st_bipush rfl d_313_130) (fun _ _ _ _ _ => rfl)
theorem ki_313_128 : js_OkG 313 128 (o_il 5 130) := js_St.okG (st_iload d_313_128) (fun _ _ _ _ _ => rfl)
theorem ki_313_159 : js_OkG 313 159 (o_ll 3 160) := js_St.okG (st_lloadn rfl d_313_159) (fun _ _ _ _ _ => rfl)
theorem ki_313_156 : js_OkG 313 156 (o_go 5) := js_St.okG (st_goto (by decide) d_313_156) (fun _ _ _ _ _ => rfl)
theorem ki_313_153 : js_OkG 313 153 (o_inc 5 1 156) := js_St.okG (st_iinc rfl (Nat.le_of_ble_eq_true rfl) d_313_153) (fun _ _ _ _ _ => rfl)
theorem ki_313_152 : js_OkG 313 152 (o_ls 3 153) := js_St.okG (st_lstoren rfl (Nat.le_of_ble_eq_true rfl) d_313_152) (fun _ _ _ _ _ => rfl)
theorem ki_313_151 : js_OkG 313 151 (o_B2 (fun x y => x ||| y) 152) := js_St.okG (st_lor d_313_151) (fun _ _ _ _ _ => rfl)
theorem ki_313_150 : js_OkG 313 150 (o_lc 0 151) := js_St.okG (st_lconst rfl d_313_150) (fun _ _ _ _ _ => rfl)
theorem ki_313_147 : js_OkG 313 147 (o_go 151) := js_St.okG (st_goto (by decide) d_313_147) (fun _ _ _ _ _ => rfl)
theorem ki_313_146 : js_OkG 313 146 (o_Sh (fun x y => x <<< (y.toInt64 &&& 63)) 147) := js_St.okG (st_lshl d_313_146) (fun _ _ _ _ _ => rfl)
theorem ki_313_145 : js_OkG 313 145 (o_b2 (fun x y => x - y) 146) := js_St.okG (st_isub d_313_145) (fun _ _ _ _ _ => rfl)
theorem ki_313_144 : js_OkG 313 144 (o_ic 1 145) := js_St.okG (st_iconst rfl d_313_144) (fun _ _ _ _ _ => rfl)
theorem ki_313_174 : js_OkG 313 174 (o_rL) := og_rL rfl d_313_174
theorem ki_313_171 : js_OkG 313 171 (o_cL 314 2 0 174) := og_sLP rfl rfl kB_313_314 rfl kw_949 kw_950 d_313_171
theorem ki_313_170 : js_OkG 313 170 (o_ll 3 171) := js_St.okG (st_lloadn rfl d_313_170) (fun _ _ _ _ _ => rfl)
theorem ki_313_169 : js_OkG 313 169 (o_al 0 170) := js_St.okG (st_aloadn rfl d_313_169) (fun _ _ _ _ _ => rfl)
theorem ki_313_166 : js_OkG 313 166 (o_go 174) := js_St.okG (st_goto (by decide) d_313_166) (fun _ _ _ _ _ => rfl)
theorem ki_313_165 : js_OkG 313 165 (o_ll 1 166) := js_St.okG (st_lloadn rfl d_313_165) (fun _ _ _ _ _ => rfl)
theorem ki_313_162 : js_OkG 313 162 (o_ne 169 165) := js_St.okG (st_ifne (by decide) d_313_162) (fun _ _ _ _ _ => rfl)
theorem ki_313_161 : js_OkG 313 161 (o_lcmp 162) := js_St.okG (st_lcmp d_313_161) (fun _ _ _ _ _ => rfl)
theorem ki_313_160 : js_OkG 313 160 (o_ll 1 161) := js_St.okG (st_lloadn rfl d_313_160) (fun _ _ _ _ _ => rfl)
set_option maxRecDepth 20000 in
theorem mk_313 : js_mokG 313 := jk_tab (fun _ => js_St.okG st_bad (fun _ _ _ _ _ => rfl)) (show jk_all (js_OkG 313) 0 (tb_G 313) from ⟨⟨ki_313_0, ⟨ki_313_1, ⟨ki_313_2, ⟨ki_313_3, ⟨kbadG, ⟨ki_313_5, ⟨kbadG, ⟨ki_313_7, ⟨kbadG, ⟨ki_313_9, ⟨kbadG, ⟨kbadG, ⟨ki_313_12, ⟨ki_313_13, ⟨kbadG, ⟨ki_313_15, trivial⟩⟩⟩⟩⟩⟩⟩⟩⟩⟩⟩⟩⟩⟩⟩⟩, ⟨⟨ki_313_16, ⟨ki_313_17, ⟨ki_313_18, ⟨ki_313_19, ⟨ki_313_20, ⟨kbadG, ⟨kbadG, ⟨ki_313_23, ⟨ki_313_24, ⟨ki_313_25, ⟨kbadG, ⟨ki_313_27, ⟨kbadG, ⟨ki_313_29, ⟨ki_313_30, ⟨kbadG, trivial⟩⟩⟩⟩⟩⟩⟩⟩⟩⟩⟩⟩⟩⟩⟩⟩, ⟨⟨ki_313_32, ⟨kbadG, ⟨ki_313_34, ⟨ki_313_35, ⟨ki_313_36, ⟨kbadG, ⟨kbadG, ⟨ki_313_39, ⟨ki_313_40, ⟨kbadG, ⟨kbadG, ⟨ki_313_43, ⟨ki_313_44, ⟨kbadG, ⟨ki_313_46, ⟨kbadG, trivial⟩⟩⟩⟩⟩⟩⟩⟩⟩⟩⟩⟩⟩⟩⟩⟩, ⟨⟨ki_313_48, ⟨ki_313_49, ⟨ki_313_50, ⟨kbadG, ⟨kbadG, ⟨ki_313_53, ⟨ki_313_54, ⟨ki_313_55, ⟨ki_313_56, ⟨ki_313_57, ⟨ki_313_58, ⟨kbadG, ⟨ki_313_60, ⟨kbadG, ⟨ki_313_62, ⟨ki_313_63, trivial⟩⟩⟩⟩⟩⟩⟩⟩⟩⟩⟩⟩⟩⟩⟩⟩, ⟨⟨kbadG, ⟨ki_313_65, ⟨kbadG, ⟨ki_313_67, ⟨ki_313_68, ⟨ki_313_69, ⟨kbadG, ⟨kbadG, ⟨ki_313_72, ⟨ki_313_73, ⟨kbadG, ⟨kbadG, ⟨ki_313_76, ⟨ki_313_77, ⟨kbadG, ⟨ki_313_79, trivial⟩⟩⟩⟩⟩⟩⟩⟩⟩⟩⟩⟩⟩⟩⟩⟩, ⟨⟨ki_313_80, ⟨ki_313_81, ⟨ki_313_82, ⟨kbadG, ⟨kbadG, ⟨ki_313_85, ⟨ki_313_86, ⟨ki_313_87, ⟨ki_313_88, ⟨ki_313_89, ⟨ki_313_90, ⟨kbadG, ⟨ki_313_92, ⟨kbadG, ⟨ki_313_94, ⟨ki_313_95, trivial⟩⟩⟩⟩⟩⟩⟩⟩⟩⟩⟩⟩⟩⟩⟩⟩, ⟨⟨kbadG, ⟨ki_313_97, ⟨kbadG, ⟨ki_313_99, ⟨ki_313_100, ⟨ki_313_101, ⟨kbadG, ⟨kbadG, ⟨ki_313_104, ⟨ki_313_105, ⟨kbadG, ⟨kbadG, ⟨ki_313_108, ⟨ki_313_109, ⟨kbadG, ⟨ki_313_111, trivial⟩⟩⟩⟩⟩⟩⟩⟩⟩⟩⟩⟩⟩⟩⟩⟩, ⟨⟨kbadG, ⟨ki_313_113, ⟨ki_313_114, ⟨ki_313_115, ⟨kbadG, ⟨kbadG, ⟨ki_313_118, ⟨ki_313_119, ⟨ki_313_120, ⟨ki_313_121, ⟨ki_313_122, ⟨ki_313_123, ⟨kbadG, ⟨ki_313_125, ⟨kbadG, ⟨ki_313_127, trivial⟩⟩⟩⟩⟩⟩⟩⟩⟩⟩⟩⟩⟩⟩⟩⟩, ⟨⟨ki_313_128, ⟨kbadG, ⟨ki_313_130, ⟨kbadG, ⟨ki_313_132, ⟨ki_313_133, ⟨ki_313_134, ⟨kbadG, ⟨kbadG, ⟨ki_313_137, ⟨ki_313_138, ⟨kbadG, ⟨kbadG, ⟨ki_313_141, ⟨ki_313_142, ⟨kbadG, trivial⟩⟩⟩⟩⟩⟩⟩⟩⟩⟩⟩⟩⟩⟩⟩⟩, ⟨⟨ki_313_144, ⟨ki_313_145, ⟨ki_313_146, ⟨ki_313_147, ⟨kbadG, ⟨kbadG, ⟨ki_313_150, ⟨ki_313_151, ⟨ki_313_152, ⟨ki_313_153, ⟨kbadG, ⟨kbadG, ⟨ki_313_156, ⟨kbadG, ⟨kbadG, ⟨ki_313_159, trivial⟩⟩⟩⟩⟩⟩⟩⟩⟩⟩⟩⟩⟩⟩⟩⟩, ⟨⟨ki_313_160, ⟨ki_313_161, ⟨ki_313_162, ⟨kbadG, ⟨kbadG, ⟨ki_313_165, ⟨ki_313_166, ⟨kbadG, ⟨kbadG, ⟨ki_313_169, ⟨ki_313_170, ⟨ki_313_171, ⟨kbadG, ⟨kbadG, ⟨ki_313_174, trivial⟩⟩⟩⟩⟩⟩⟩⟩⟩⟩⟩⟩⟩⟩⟩, trivial⟩⟩⟩⟩⟩⟩⟩⟩⟩⟩⟩)
theorem d_314_0 : decode (js_b 314) 0 = .ok (.lload_n 1, 1) := d_300_0
theorem d_314_1 : decode (js_b 314) 1 = .ok (.lstore_n 3, 1) := d_300_1
theorem d_314_2 : decode (js_b 314) 2 = .ok (.iconst 0, 1) := d_300_2
theorem d_314_3 : decode (js_b 314) 3 = .ok (.istore 5, 2) := d_300_3
theorem d_314_5 : decode (js_b 314) 5 = .ok (.iload 5, 2) := d_300_5
theorem d_314_7 : decode (js_b 314) 7 = .ok (.bipush 64, 2) := d_300_7
theorem d_314_9 : decode (js_b 314) 9 = .ok (.if_icmp .ge 150, 3) := d_300_9
theorem d_314_12 : decode (js_b 314) 12 = .ok (.lload_n 1, 1) := d_300_12
theorem d_314_13 : decode (js_b 314) 13 = .ok (.iload 5, 2) := d_300_13
theorem d_314_15 : decode (js_b 314) 15 = .ok (.lushr, 1) := d_300_15
theorem d_314_16 : decode (js_b 314) 16 = .ok (.lconst 1, 1) := d_300_16
theorem d_314_17 : decode (js_b 314) 17 = .ok (.land, 1) := d_300_17
theorem d_314_18 : decode (js_b 314) 18 = .ok (.lconst 1, 1) := d_300_18
theorem d_314_19 : decode (js_b 314) 19 = .ok (.lcmp, 1) := d_300_19
theorem d_314_20 : decode (js_b 314) 20 = .ok (.ifCond .ne 133, 3) := d_300_20
theorem d_314_23 : decode (js_b 314) 23 = .ok (.lload_n 3, 1) := d_300_23
theorem d_314_24 : decode (js_b 314) 24 = .ok (.aload_n 0, 1) := d_300_24
theorem d_314_25 : decode (js_b 314) 25 = .ok (.iload 5, 2) := d_300_25
theorem d_314_27 : decode (js_b 314) 27 = .ok (.bipush 8, 2) := d_300_27
theorem d_314_29 : decode (js_b 314) 29 = .ok (.idiv, 1) := d_300_29
theorem d_314_30 : decode (js_b 314) 30 = .ok (.iload 5, 2) := d_300_30
theorem d_314_32 : decode (js_b 314) 32 = .ok (.bipush 8, 2) := d_300_32
theorem d_314_34 : decode (js_b 314) 34 = .ok (.irem, 1) := d_300_34
theorem d_314_35 : decode (js_b 314) 35 = .ok (.iconst 0, 1) := d_300_35
theorem d_314_36 : decode (js_b 314) 36 = .ok (.invokestatic 198, 3) := d_300_36
theorem d_314_39 : decode (js_b 314) 39 = .ok (.iconst 1, 1) := d_300_39
theorem d_314_40 : decode (js_b 314) 40 = .ok (.if_icmp .ne 13, 3) := d_300_40
theorem d_314_43 : decode (js_b 314) 43 = .ok (.lconst 1, 1) := d_300_43
theorem d_314_44 : decode (js_b 314) 44 = .ok (.iload 5, 2) := d_300_44
theorem d_314_46 : decode (js_b 314) 46 = .ok (.bipush 8, 2) := d_300_46
theorem d_314_48 : decode (js_b 314) 48 = .ok (.isub, 1) := d_300_48
theorem d_314_49 : decode (js_b 314) 49 = .ok (.lshl, 1) := d_300_49
theorem d_314_50 : decode (js_b 314) 50 = .ok (.goto 4, 3) := d_300_50
theorem d_314_53 : decode (js_b 314) 53 = .ok (.lconst 0, 1) := d_300_53
theorem d_314_54 : decode (js_b 314) 54 = .ok (.lor, 1) := d_300_54
theorem d_314_55 : decode (js_b 314) 55 = .ok (.lstore_n 3, 1) := d_300_55
theorem d_314_56 : decode (js_b 314) 56 = .ok (.lload_n 3, 1) := d_300_56
theorem d_314_57 : decode (js_b 314) 57 = .ok (.aload_n 0, 1) := d_300_57
theorem d_314_58 : decode (js_b 314) 58 = .ok (.iload 5, 2) := d_300_58
theorem d_314_60 : decode (js_b 314) 60 = .ok (.bipush 8, 2) := d_300_60
theorem d_314_62 : decode (js_b 314) 62 = .ok (.idiv, 1) := d_300_62
theorem d_314_63 : decode (js_b 314) 63 = .ok (.iload 5, 2) := d_300_63
theorem d_314_65 : decode (js_b 314) 65 = .ok (.bipush 8, 2) := d_300_65
theorem d_314_67 : decode (js_b 314) 67 = .ok (.irem, 1) := d_300_67
theorem d_314_68 : decode (js_b 314) 68 = .ok (.iconst 1, 1) := d_300_68
theorem d_314_69 : decode (js_b 314) 69 = .ok (.invokestatic 198, 3) := d_300_69
theorem d_314_72 : decode (js_b 314) 72 = .ok (.iconst 1, 1) := d_300_72
theorem d_314_73 : decode (js_b 314) 73 = .ok (.if_icmp .ne 12, 3) := d_300_73
theorem d_314_76 : decode (js_b 314) 76 = .ok (.lconst 1, 1) := d_300_76
theorem d_314_77 : decode (js_b 314) 77 = .ok (.iload 5, 2) := d_300_77
theorem d_314_79 : decode (js_b 314) 79 = .ok (.iconst 1, 1) := d_300_79
theorem d_314_80 : decode (js_b 314) 80 = .ok (.iadd, 1) := d_300_80
theorem d_314_81 : decode (js_b 314) 81 = .ok (.lshl, 1) := d_300_81
theorem d_314_82 : decode (js_b 314) 82 = .ok (.goto 4, 3) := d_300_82
theorem d_314_85 : decode (js_b 314) 85 = .ok (.lconst 0, 1) := d_300_85
theorem d_314_86 : decode (js_b 314) 86 = .ok (.lor, 1) := d_300_86
theorem d_314_87 : decode (js_b 314) 87 = .ok (.lstore_n 3, 1) := d_300_87
theorem d_314_88 : decode (js_b 314) 88 = .ok (.lload_n 3, 1) := d_300_88
theorem d_314_89 : decode (js_b 314) 89 = .ok (.aload_n 0, 1) := d_300_89
theorem d_314_90 : decode (js_b 314) 90 = .ok (.iload 5, 2) := d_300_90
theorem d_314_92 : decode (js_b 314) 92 = .ok (.bipush 8, 2) := d_300_92
theorem d_314_94 : decode (js_b 314) 94 = .ok (.idiv, 1) := d_300_94
theorem d_314_95 : decode (js_b 314) 95 = .ok (.iload 5, 2) := d_300_95
theorem d_314_97 : decode (js_b 314) 97 = .ok (.bipush 8, 2) := d_300_97
theorem d_314_99 : decode (js_b 314) 99 = .ok (.irem, 1) := d_300_99
theorem d_314_100 : decode (js_b 314) 100 = .ok (.iconst 2, 1) := d_300_100
theorem d_314_101 : decode (js_b 314) 101 = .ok (.invokestatic 198, 3) := d_300_101
theorem d_314_104 : decode (js_b 314) 104 = .ok (.iconst 1, 1) := d_300_104
theorem d_314_105 : decode (js_b 314) 105 = .ok (.if_icmp .ne 13, 3) := d_300_105
theorem d_314_108 : decode (js_b 314) 108 = .ok (.lconst 1, 1) := d_300_108
theorem d_314_109 : decode (js_b 314) 109 = .ok (.iload 5, 2) := d_300_109
theorem d_314_111 : decode (js_b 314) 111 = .ok (.bipush 8, 2) := d_300_111
theorem d_314_113 : decode (js_b 314) 113 = .ok (.iadd, 1) := d_300_113
theorem d_314_114 : decode (js_b 314) 114 = .ok (.lshl, 1) := d_300_114
theorem d_314_115 : decode (js_b 314) 115 = .ok (.goto 4, 3) := d_300_115
theorem d_314_118 : decode (js_b 314) 118 = .ok (.lconst 0, 1) := d_300_118
theorem d_314_119 : decode (js_b 314) 119 = .ok (.lor, 1) := d_300_119
theorem d_314_120 : decode (js_b 314) 120 = .ok (.lstore_n 3, 1) := d_300_120
theorem d_314_121 : decode (js_b 314) 121 = .ok (.lload_n 3, 1) := d_300_121
theorem d_314_122 : decode (js_b 314) 122 = .ok (.aload_n 0, 1) := d_300_122
theorem d_314_123 : decode (js_b 314) 123 = .ok (.iload 5, 2) := d_300_123
theorem d_314_125 : decode (js_b 314) 125 = .ok (.bipush 8, 2) := d_300_125
theorem d_314_127 : decode (js_b 314) 127 = .ok (.idiv, 1) := d_300_127
theorem d_314_128 : decode (js_b 314) 128 = .ok (.iload 5, 2) := d_300_128
theorem d_314_130 : decode (js_b 314) 130 = .ok (.bipush 8, 2) := d_300_130
theorem d_314_132 : decode (js_b 314) 132 = .ok (.irem, 1) := d_300_132
theorem d_314_133 : decode (js_b 314) 133 = .ok (.iconst 3, 1) := d_300_133
theorem d_314_134 : decode (js_b 314) 134 = .ok (.invokestatic 198, 3) := d_300_134
theorem d_314_137 : decode (js_b 314) 137 = .ok (.iconst 1, 1) := d_300_137
theorem d_314_138 : decode (js_b 314) 138 = .ok (.if_icmp .ne 12, 3) := d_300_138
theorem d_314_141 : decode (js_b 314) 141 = .ok (.lconst 1, 1) := d_300_141
theorem d_314_142 : decode (js_b 314) 142 = .ok (.iload 5, 2) := d_300_142
theorem d_314_144 : decode (js_b 314) 144 = .ok (.iconst 1, 1) := d_300_144
theorem d_314_145 : decode (js_b 314) 145 = .ok (.isub, 1) := d_300_145
theorem d_314_146 : decode (js_b 314) 146 = .ok (.lshl, 1) := d_300_146
theorem d_314_147 : decode (js_b 314) 147 = .ok (.goto 4, 3) := d_300_147
theorem d_314_150 : decode (js_b 314) 150 = .ok (.lconst 0, 1) := d_300_150
theorem d_314_151 : decode (js_b 314) 151 = .ok (.lor, 1) := d_300_151
theorem d_314_152 : decode (js_b 314) 152 = .ok (.lstore_n 3, 1) := d_300_152
theorem d_314_153 : decode (js_b 314) 153 = .ok (.iinc 5 1, 3) := d_300_153
theorem d_314_156 : decode (js_b 314) 156 = .ok (.goto (-151), 3) := d_300_156
theorem d_314_159 : decode (js_b 314) 159 = .ok (.lload_n 3, 1) := d_300_159
theorem d_314_160 : decode (js_b 314) 160 = .ok (.lload_n 1, 1) := d_300_160
theorem d_314_161 : decode (js_b 314) 161 = .ok (.lcmp, 1) := d_300_161
theorem d_314_162 : decode (js_b 314) 162 = .ok (.ifCond .ne 7, 3) := d_300_162
theorem d_314_165 : decode (js_b 314) 165 = .ok (.lload_n 1, 1) := d_300_165
theorem d_314_166 : decode (js_b 314) 166 = .ok (.goto 8, 3) := d_300_166
theorem d_314_169 : decode (js_b 314) 169 = .ok (.aload_n 0, 1) := d_300_169
theorem d_314_170 : decode (js_b 314) 170 = .ok (.lload_n 3, 1) := d_300_170
theorem d_314_171 : decode (js_b 314) 171 = .ok (.invokestatic 323, 3) := d_300_171
theorem d_314_174 : decode (js_b 314) 174 = .ok (.lreturn, 1) := d_300_174
theorem ki_314_15 : js_OkG 314 15 (o_Sh (fun x y => (x.toUInt64 >>> (y.toInt64.toUInt64 &&& Int64.toUInt64 63)).toInt64) 16) := js_St.okG (st_lushr d_314_15) (fun _ _ _ _ _ => rfl)
theorem ki_314_13 : js_OkG 314 13 (o_il 5 15) := js_St.okG (st_iload d_314_13) (fun _ _ _ _ _ => rfl)
theorem ki_314_12 : js_OkG 314 12 (o_ll 1 13) := js_St.okG (st_lloadn rfl d_314_12) (fun _ _ _ _ _ => rfl)
theorem ki_314_9 : js_OkG 314 9 (o_cge 159 12) := js_St.okG (st_icge (by decide) d_314_9) (fun _ _ _ _ _ => rfl)
theorem ki_314_7 : js_OkG 314 7 (o_ic 64 9) := js_St.okG (st_bipush rfl d_314_7) (fun _ _ _ _ _ => rfl)
theorem ki_314_5 : js_OkG 314 5 (o_il 5 7) := js_St.okG (st_iload d_314_5) (fun _ _ _ _ _ => rfl)
theorem ki_314_3 : js_OkG 314 3 (o_is 5 5) := js_St.okG (st_istore (Nat.le_of_ble_eq_true rfl) d_314_3) (fun _ _ _ _ _ => rfl)
theorem ki_314_2 : js_OkG 314 2 (o_ic 0 3) := js_St.okG (st_iconst rfl d_314_2) (fun _ _ _ _ _ => rfl)
theorem ki_314_1 : js_OkG 314 1 (o_ls 3 2) := js_St.okG (st_lstoren rfl (Nat.le_of_ble_eq_true rfl) d_314_1) (fun _ _ _ _ _ => rfl)
theorem ki_314_0 : js_OkG 314 0 (o_ll 1 1) := js_St.okG (st_lloadn rfl d_314_0) (fun _ _ _ _ _ => rfl)
theorem ki_314_30 : js_OkG 314 30 (o_il 5 32) := js_St.okG (st_iload d_314_30) (fun _ _ _ _ _ => rfl)
theorem ki_314_29 : js_OkG 314 29 (o_div 30) := js_St.okG (st_idiv d_314_29) (fun _ _ _ _ _ => rfl)
theorem ki_314_27 : js_OkG 314 27 (o_ic 8 29) := js_St.okG (st_bipush rfl d_314_27) (fun _ _ _ _ _ => rfl)
theorem ki_314_25 : js_OkG 314 25 (o_il 5 27) := js_St.okG (st_iload d_314_25) (fun _ _ _ _ _ => rfl)
theorem ki_314_24 : js_OkG 314 24 (o_al 0 25) := js_St.okG (st_aloadn rfl d_314_24) (fun _ _ _ _ _ => rfl)
theorem ki_314_23 : js_OkG 314 23 (o_ll 3 24) := js_St.okG (st_lloadn rfl d_314_23) (fun _ _ _ _ _ => rfl)
theorem ki_314_20 : js_OkG 314 20 (o_ne 153 23) := js_St.okG (st_ifne (by decide) d_314_20) (fun _ _ _ _ _ => rfl)
theorem ki_314_19 : js_OkG 314 19 (o_lcmp 20) := js_St.okG (st_lcmp d_314_19) (fun _ _ _ _ _ => rfl)
theorem ki_314_18 : js_OkG 314 18 (o_lc 1 19) := js_St.okG (st_lconst rfl d_314_18) (fun _ _ _ _ _ => rfl)
theorem ki_314_17 : js_OkG 314 17 (o_B2 (fun x y => x &&& y) 18) := js_St.okG (st_land d_314_17) (fun _ _ _ _ _ => rfl)
theorem ki_314_16 : js_OkG 314 16 (o_lc 1 17) := js_St.okG (st_lconst rfl d_314_16) (fun _ _ _ _ _ => rfl)
theorem ki_314_46 : js_OkG 314 46 (o_ic 8 48) := js_St.okG (st_bipush rfl d_314_46) (fun _ _ _ _ _ => rfl)
theorem ki_314_44 : js_OkG 314 44 (o_il 5 46) := js_St.okG (st_iload d_314_44) (fun _ _ _ _ _ => rfl)
theorem ki_314_43 : js_OkG 314 43 (o_lc 1 44) := js_St.okG (st_lconst rfl d_314_43) (fun _ _ _ _ _ => rfl)
theorem ki_314_40 : js_OkG 314 40 (o_cne 53 43) := js_St.okG (st_icne (by decide) d_314_40) (fun _ _ _ _ _ => rfl)
theorem ki_314_39 : js_OkG 314 39 (o_ic 1 40) := js_St.okG (st_iconst rfl d_314_39) (fun _ _ _ _ _ => rfl)
theorem ki_314_36 : js_OkG 314 36 (o_cI 176 4 0 39) := og_sIP rfl rfl kB_314_176 rfl kw_785 kw_786 d_314_36
theorem ki_314_35 : js_OkG 314 35 (o_ic 0 36) := js_St.okG (st_iconst rfl d_314_35) (fun _ _ _ _ _ => rfl)
theorem ki_314_34 : js_OkG 314 34 (o_rem 35) := js_St.okG (st_irem d_314_34) (fun _ _ _ _ _ => rfl)
theorem ki_314_32 : js_OkG 314 32 (o_ic 8 34) := js_St.okG (st_bipush rfl d_314_32) (fun _ _ _ _ _ => rfl)
theorem ki_314_63 : js_OkG 314 63 (o_il 5 65) := js_St.okG (st_iload d_314_63) (fun _ _ _ _ _ => rfl)
theorem ki_314_62 : js_OkG 314 62 (o_div 63) := js_St.okG (st_idiv d_314_62) (fun _ _ _ _ _ => rfl)
theorem ki_314_60 : js_OkG 314 60 (o_ic 8 62) := js_St.okG (st_bipush rfl d_314_60) (fun _ _ _ _ _ => rfl)
theorem ki_314_58 : js_OkG 314 58 (o_il 5 60) := js_St.okG (st_iload d_314_58) (fun _ _ _ _ _ => rfl)
theorem ki_314_57 : js_OkG 314 57 (o_al 0 58) := js_St.okG (st_aloadn rfl d_314_57) (fun _ _ _ _ _ => rfl)
theorem ki_314_56 : js_OkG 314 56 (o_ll 3 57) := js_St.okG (st_lloadn rfl d_314_56) (fun _ _ _ _ _ => rfl)
theorem ki_314_55 : js_OkG 314 55 (o_ls 3 56) := js_St.okG (st_lstoren rfl (Nat.le_of_ble_eq_true rfl) d_314_55) (fun _ _ _ _ _ => rfl)
theorem ki_314_54 : js_OkG 314 54 (o_B2 (fun x y => x ||| y) 55) := js_St.okG (st_lor d_314_54) (fun _ _ _ _ _ => rfl)
theorem ki_314_53 : js_OkG 314 53 (o_lc 0 54) := js_St.okG (st_lconst rfl d_314_53) (fun _ _ _ _ _ => rfl)
theorem ki_314_50 : js_OkG 314 50 (o_go 54) := js_St.okG (st_goto (by decide) d_314_50) (fun _ _ _ _ _ => rfl)
theorem ki_314_49 : js_OkG 314 49 (o_Sh (fun x y => x <<< (y.toInt64 &&& 63)) 50) := js_St.okG (st_lshl d_314_49) (fun _ _ _ _ _ => rfl)
theorem ki_314_48 : js_OkG 314 48 (o_b2 (fun x y => x - y) 49) := js_St.okG (st_isub d_314_48) (fun _ _ _ _ _ => rfl)
theorem ki_314_79 : js_OkG 314 79 (o_ic 1 80) := js_St.okG (st_iconst rfl d_314_79) (fun _ _ _ _ _ => rfl)
theorem ki_314_77 : js_OkG 314 77 (o_il 5 79) := js_St.okG (st_iload d_314_77) (fun _ _ _ _ _ => rfl)
theorem ki_314_76 : js_OkG 314 76 (o_lc 1 77) := js_St.okG (st_lconst rfl d_314_76) (fun _ _ _ _ _ => rfl)
theorem ki_314_73 : js_OkG 314 73 (o_cne 85 76) := js_St.okG (st_icne (by decide) d_314_73) (fun _ _ _ _ _ => rfl)
theorem ki_314_72 : js_OkG 314 72 (o_ic 1 73) := js_St.okG (st_iconst rfl d_314_72) (fun _ _ _ _ _ => rfl)
theorem ki_314_69 : js_OkG 314 69 (o_cI 176 4 0 72) := og_sIP rfl rfl kB_314_176 rfl kw_785 kw_786 d_314_69
theorem ki_314_68 : js_OkG 314 68 (o_ic 1 69) := js_St.okG (st_iconst rfl d_314_68) (fun _ _ _ _ _ => rfl)
theorem ki_314_67 : js_OkG 314 67 (o_rem 68) := js_St.okG (st_irem d_314_67) (fun _ _ _ _ _ => rfl)
theorem ki_314_65 : js_OkG 314 65 (o_ic 8 67) := js_St.okG (st_bipush rfl d_314_65) (fun _ _ _ _ _ => rfl)
theorem ki_314_95 : js_OkG 314 95 (o_il 5 97) := js_St.okG (st_iload d_314_95) (fun _ _ _ _ _ => rfl)
theorem ki_314_94 : js_OkG 314 94 (o_div 95) := js_St.okG (st_idiv d_314_94) (fun _ _ _ _ _ => rfl)
theorem ki_314_92 : js_OkG 314 92 (o_ic 8 94) := js_St.okG (st_bipush rfl d_314_92) (fun _ _ _ _ _ => rfl)
theorem ki_314_90 : js_OkG 314 90 (o_il 5 92) := js_St.okG (st_iload d_314_90) (fun _ _ _ _ _ => rfl)
theorem ki_314_89 : js_OkG 314 89 (o_al 0 90) := js_St.okG (st_aloadn rfl d_314_89) (fun _ _ _ _ _ => rfl)
theorem ki_314_88 : js_OkG 314 88 (o_ll 3 89) := js_St.okG (st_lloadn rfl d_314_88) (fun _ _ _ _ _ => rfl)
theorem ki_314_87 : js_OkG 314 87 (o_ls 3 88) := js_St.okG (st_lstoren rfl (Nat.le_of_ble_eq_true rfl) d_314_87) (fun _ _ _ _ _ => rfl)
theorem ki_314_86 : js_OkG 314 86 (o_B2 (fun x y => x ||| y) 87) := js_St.okG (st_lor d_314_86) (fun _ _ _ _ _ => rfl)
theorem ki_314_85 : js_OkG 314 85 (o_lc 0 86) := js_St.okG (st_lconst rfl d_314_85) (fun _ _ _ _ _ => rfl)
theorem ki_314_82 : js_OkG 314 82 (o_go 86) := js_St.okG (st_goto (by decide) d_314_82) (fun _ _ _ _ _ => rfl)
theorem ki_314_81 : js_OkG 314 81 (o_Sh (fun x y => x <<< (y.toInt64 &&& 63)) 82) := js_St.okG (st_lshl d_314_81) (fun _ _ _ _ _ => rfl)
theorem ki_314_80 : js_OkG 314 80 (o_b2 (fun x y => x + y) 81) := js_St.okG (st_iadd d_314_80) (fun _ _ _ _ _ => rfl)
theorem ki_314_111 : js_OkG 314 111 (o_ic 8 113) := js_St.okG (st_bipush rfl d_314_111) (fun _ _ _ _ _ => rfl)
theorem ki_314_109 : js_OkG 314 109 (o_il 5 111) := js_St.okG (st_iload d_314_109) (fun _ _ _ _ _ => rfl)
theorem ki_314_108 : js_OkG 314 108 (o_lc 1 109) := js_St.okG (st_lconst rfl d_314_108) (fun _ _ _ _ _ => rfl)
theorem ki_314_105 : js_OkG 314 105 (o_cne 118 108) := js_St.okG (st_icne (by decide) d_314_105) (fun _ _ _ _ _ => rfl)
theorem ki_314_104 : js_OkG 314 104 (o_ic 1 105) := js_St.okG (st_iconst rfl d_314_104) (fun _ _ _ _ _ => rfl)
theorem ki_314_101 : js_OkG 314 101 (o_cI 176 4 0 104) := og_sIP rfl rfl kB_314_176 rfl kw_785 kw_786 d_314_101
theorem ki_314_100 : js_OkG 314 100 (o_ic 2 101) := js_St.okG (st_iconst rfl d_314_100) (fun _ _ _ _ _ => rfl)
theorem ki_314_99 : js_OkG 314 99 (o_rem 100) := js_St.okG (st_irem d_314_99) (fun _ _ _ _ _ => rfl)
theorem ki_314_97 : js_OkG 314 97 (o_ic 8 99) := js_St.okG (st_bipush rfl d_314_97) (fun _ _ _ _ _ => rfl)
theorem ki_314_127 : js_OkG 314 127 (o_div 128) := js_St.okG (st_idiv d_314_127) (fun _ _ _ _ _ => rfl)
theorem ki_314_125 : js_OkG 314 125 (o_ic 8 127) := js_St.okG (st_bipush rfl d_314_125) (fun _ _ _ _ _ => rfl)
theorem ki_314_123 : js_OkG 314 123 (o_il 5 125) := js_St.okG (st_iload d_314_123) (fun _ _ _ _ _ => rfl)
theorem ki_314_122 : js_OkG 314 122 (o_al 0 123) := js_St.okG (st_aloadn rfl d_314_122) (fun _ _ _ _ _ => rfl)
theorem ki_314_121 : js_OkG 314 121 (o_ll 3 122) := js_St.okG (st_lloadn rfl d_314_121) (fun _ _ _ _ _ => rfl)
theorem ki_314_120 : js_OkG 314 120 (o_ls 3 121) := js_St.okG (st_lstoren rfl (Nat.le_of_ble_eq_true rfl) d_314_120) (fun _ _ _ _ _ => rfl)
theorem ki_314_119 : js_OkG 314 119 (o_B2 (fun x y => x ||| y) 120) := js_St.okG (st_lor d_314_119) (fun _ _ _ _ _ => rfl)
theorem ki_314_118 : js_OkG 314 118 (o_lc 0 119) := js_St.okG (st_lconst rfl d_314_118) (fun _ _ _ _ _ => rfl)
theorem ki_314_115 : js_OkG 314 115 (o_go 119) := js_St.okG (st_goto (by decide) d_314_115) (fun _ _ _ _ _ => rfl)
theorem ki_314_114 : js_OkG 314 114 (o_Sh (fun x y => x <<< (y.toInt64 &&& 63)) 115) := js_St.okG (st_lshl d_314_114) (fun _ _ _ _ _ => rfl)
theorem ki_314_113 : js_OkG 314 113 (o_b2 (fun x y => x + y) 114) := js_St.okG (st_iadd d_314_113) (fun _ _ _ _ _ => rfl)
theorem ki_314_142 : js_OkG 314 142 (o_il 5 144) := js_St.okG (st_iload d_314_142) (fun _ _ _ _ _ => rfl)
theorem ki_314_141 : js_OkG 314 141 (o_lc 1 142) := js_St.okG (st_lconst rfl d_314_141) (fun _ _ _ _ _ => rfl)
theorem ki_314_138 : js_OkG 314 138 (o_cne 150 141) := js_St.okG (st_icne (by decide) d_314_138) (fun _ _ _ _ _ => rfl)
theorem ki_314_137 : js_OkG 314 137 (o_ic 1 138) := js_St.okG (st_iconst rfl d_314_137) (fun _ _ _ _ _ => rfl)
theorem ki_314_134 : js_OkG 314 134 (o_cI 176 4 0 137) := og_sIP rfl rfl kB_314_176 rfl kw_785 kw_786 d_314_134
theorem ki_314_133 : js_OkG 314 133 (o_ic 3 134) := js_St.okG (st_iconst rfl d_314_133) (fun _ _ _ _ _ => rfl)
theorem ki_314_132 : js_OkG 314 132 (o_rem 133) := js_St.okG (st_irem d_314_132) (fun _ _ _ _ _ => rfl)
theorem ki_314_130 : js_OkG 314 130 (o_ic 8 132) := js_St.okG (st_bipush rfl d_314_130) (fun _ _ _ _ _ => rfl)
theorem ki_314_128 : js_OkG 314 128 (o_il 5 130) := js_St.okG (st_iload d_314_128) (fun _ _ _ _ _ => rfl)
theorem ki_314_159 : js_OkG 314 159 (o_ll 3 160) := js_St.okG (st_lloadn rfl d_314_159) (fun _ _ _ _ _ => rfl)
theorem ki_314_156 : js_OkG 314 156 (o_go 5) := js_St.okG (st_goto (by decide) d_314_156) (fun _ _ _ _ _ => rfl)
theorem ki_314_153 : js_OkG 314 153 (o_inc 5 1 156) := js_St.okG (st_iinc rfl (Nat.le_of_ble_eq_true rfl) d_314_153) (fun _ _ _ _ _ => rfl)
theorem ki_314_152 : js_OkG 314 152 (o_ls 3 153) := js_St.okG (st_lstoren rfl (Nat.le_of_ble_eq_true rfl) d_314_152) (fun _ _ _ _ _ => rfl)
theorem ki_314_151 : js_OkG 314 151 (o_B2 (fun x y => x ||| y) 152) := js_St.okG (st_lor d_314_151) (fun _ _ _ _ _ => rfl)
theorem ki_314_150 : js_OkG 314 150 (o_lc 0 151) := js_St.okG (st_lconst rfl d_314_150) (fun _ _ _ _ _ => rfl)
theorem ki_314_147 : js_OkG 314 147 (o_go 151) := js_St.okG (st_goto (by decide) d_314_147) (fun _ _ _ _ _ => rfl)
theorem ki_314_146 : js_OkG 314 146 (o_Sh (fun x y => x <<< (y.toInt64 &&& 63)) 147) := js_St.okG (st_lshl d_314_146) (fun _ _ _ _ _ => rfl)
theorem ki_314_145 : js_OkG 314 145 (o_b2 (fun x y => x - y) 146) := js_St.okG (st_isub d_314_145) (fun _ _ _ _ _ => rfl)
theorem ki_314_144 : js_OkG 314 144 (o_ic 1 145) := js_St.okG (st_iconst rfl d_314_144) (fun _ _ _ _ _ => rfl)
theorem ki_314_174 : js_OkG 314 174 (o_rL) := og_rL rfl d_314_174
theorem ki_314_171 : js_OkG 314 171 (o_cL 315 2 0 174) := og_sLP rfl rfl kB_314_315 rfl kw_949 kw_950 d_314_171
theorem ki_314_170 : js_OkG 314 170 (o_ll 3 171) := js_St.okG (st_lloadn rfl d_314_170) (fun _ _ _ _ _ => rfl)
theorem ki_314_169 : js_OkG 314 169 (o_al 0 170) := js_St.okG (st_aloadn rfl d_314_169) (fun _ _ _ _ _ => rfl)
theorem ki_314_166 : js_OkG 314 166 (o_go 174) := js_St.okG (st_goto (by decide) d_314_166) (fun _ _ _ _ _ => rfl)
theorem ki_314_165 : js_OkG 314 165 (o_ll 1 166) := js_St.okG (st_lloadn rfl d_314_165) (fun _ _ _ _ _ => rfl)
theorem ki_314_162 : js_OkG 314 162 (o_ne 169 165) := js_St.okG (st_ifne (by decide) d_314_162) (fun _ _ _ _ _ => rfl)
theorem ki_314_161 : js_OkG 314 161 (o_lcmp 162) := js_St.okG (st_lcmp d_314_161) (fun _ _ _ _ _ => rfl)
theorem ki_314_160 : js_OkG 314 160 (o_ll 1 161) := js_St.okG (st_lloadn rfl d_314_160) (fun _ _ _ _ _ => rfl)
set_option maxRecDepth 20000 in
theorem mk_314 : js_mokG 314 := jk_tab (fun _ => js_St.okG st_bad (fun _ _ _ _ _ => rfl)) (show jk_all (js_OkG 314) 0 (tb_G 314) from ⟨⟨ki_314_0, ⟨ki_314_1, ⟨ki_314_2, ⟨ki_314_3, ⟨kbadG, ⟨ki_314_5, ⟨kbadG, ⟨ki_314_7, ⟨kbadG, ⟨ki_314_9, ⟨kbadG, ⟨kbadG, ⟨ki_314_12, ⟨ki_314_13, ⟨kbadG, ⟨ki_314_15, trivial⟩⟩⟩⟩⟩⟩⟩⟩⟩⟩⟩⟩⟩⟩⟩⟩, ⟨⟨ki_314_16, ⟨ki_314_17, ⟨ki_314_18, ⟨ki_314_19, ⟨ki_314_20, ⟨kbadG, ⟨kbadG, ⟨ki_314_23, ⟨ki_314_24, ⟨ki_314_25, ⟨kbadG, ⟨ki_314_27, ⟨kbadG, ⟨ki_314_29, ⟨ki_314_30, ⟨kbadG, trivial⟩⟩⟩⟩⟩⟩⟩⟩⟩⟩⟩⟩⟩⟩⟩⟩, ⟨⟨ki_314_32, ⟨kbadG, ⟨ki_314_34, ⟨ki_314_35, ⟨ki_314_36, ⟨kbadG, ⟨kbadG, ⟨ki_314_39, ⟨ki_314_40, ⟨kbadG, ⟨kbadG, ⟨ki_314_43, ⟨ki_314_44, ⟨kbadG, ⟨ki_314_46, ⟨kbadG, trivial⟩⟩⟩⟩⟩⟩⟩⟩⟩⟩⟩⟩⟩⟩⟩⟩, ⟨⟨ki_314_48, ⟨ki_314_49, ⟨ki_314_50, ⟨kbadG, ⟨kbadG, ⟨ki_314_53, ⟨ki_314_54, ⟨ki_314_55, ⟨ki_314_56, ⟨ki_314_57, ⟨ki_314_58, ⟨kbadG, ⟨ki_314_60, ⟨kbadG, ⟨ki_314_62, ⟨ki_314_63, trivial⟩⟩⟩⟩⟩⟩⟩⟩⟩⟩⟩⟩⟩⟩⟩⟩, ⟨⟨kbadG, ⟨ki_314_65, ⟨kbadG, ⟨ki_314_67, ⟨ki_314_68, ⟨ki_314_69, ⟨kbadG, ⟨kbadG, ⟨ki_314_72, ⟨ki_314_73, ⟨kbadG, ⟨kbadG, ⟨ki_314_76, ⟨ki_314_77, ⟨kbadG, ⟨ki_314_79, trivial⟩⟩⟩⟩⟩⟩⟩⟩⟩⟩⟩⟩⟩⟩⟩⟩, ⟨⟨ki_314_80, ⟨ki_314_81, ⟨ki_314_82, ⟨kbadG, ⟨kbadG, ⟨ki_314_85, ⟨ki_314_86, ⟨ki_314_87, ⟨ki_314_88, ⟨ki_314_89, ⟨ki_314_90, ⟨kbadG, ⟨ki_314_92, ⟨kbadG, ⟨ki_314_94, ⟨ki_314_95, trivial⟩⟩⟩⟩⟩⟩⟩⟩⟩⟩⟩⟩⟩⟩⟩⟩, ⟨⟨kbadG, ⟨ki_314_97, ⟨kbadG, ⟨ki_314_99, ⟨ki_314_100, ⟨ki_314_101, ⟨kbadG, ⟨kbadG, ⟨ki_314_104, ⟨ki_314_105, ⟨kbadG, ⟨kbadG, ⟨ki_314_108, ⟨ki_314_109, ⟨kbadG, ⟨ki_314_111, trivial⟩⟩⟩⟩⟩⟩⟩⟩⟩⟩⟩⟩⟩⟩⟩⟩, ⟨⟨kbadG, ⟨ki_314_113, ⟨ki_314_114, ⟨ki_314_115, ⟨kbadG, ⟨kbadG, ⟨ki_314_118, ⟨ki_314_119, ⟨ki_314_120, ⟨ki_314_121, ⟨ki_314_122, ⟨ki_314_123, ⟨kbadG, ⟨ki_314_125, ⟨kbadG, ⟨ki_314_127, trivial⟩⟩⟩⟩⟩⟩⟩⟩⟩⟩⟩⟩⟩⟩⟩⟩, ⟨⟨ki_314_128, ⟨kbadG, ⟨ki_314_130, ⟨kbadG, ⟨ki_314_132, ⟨ki_314_133, ⟨ki_314_134, ⟨kbadG, ⟨kbadG, ⟨ki_314_137, ⟨ki_314_138, ⟨kbadG, ⟨kbadG, ⟨ki_314_141, ⟨ki_314_142, ⟨kbadG, trivial⟩⟩⟩⟩⟩⟩⟩⟩⟩⟩⟩⟩⟩⟩⟩⟩, ⟨⟨ki_314_144, ⟨ki_314_145, ⟨ki_314_146, ⟨ki_314_147, ⟨kbadG, ⟨kbadG, ⟨ki_314_150, ⟨ki_314_151, ⟨ki_314_152, ⟨ki_314_153, ⟨kbadG, ⟨kbadG, ⟨ki_314_156, ⟨kbadG, ⟨kbadG, ⟨ki_314_159, trivial⟩⟩⟩⟩⟩⟩⟩⟩⟩⟩⟩⟩⟩⟩⟩⟩, ⟨⟨ki_314_160, ⟨ki_314_161, ⟨ki_314_162, ⟨kbadG, ⟨kbadG, ⟨ki_314_165, ⟨ki_314_166, ⟨kbadG, ⟨kbadG, ⟨ki_314_169, ⟨ki_314_170, ⟨ki_314_171, ⟨kbadG, ⟨kbadG, ⟨ki_314_174, trivial⟩⟩⟩⟩⟩⟩⟩⟩⟩⟩⟩⟩⟩⟩⟩, trivial⟩⟩⟩⟩⟩⟩⟩⟩⟩⟩⟩)
theorem d_315_0 : decode (js_b 315) 0 = .ok (.lload_n 1, 1) := d_300_0
theorem d_315_1 : decode (js_b 315) 1 = .ok (.lstore_n 3, 1) := d_300_1
theorem d_315_2 : decode (js_b 315) 2 = .ok (.iconst 0, 1) := d_300_2
theorem d_315_3 : decode (js_b 315) 3 = .ok (.istore 5, 2) := d_300_3
theorem d_315_5 : decode (js_b 315) 5 = .ok (.iload 5, 2) := d_300_5
theorem d_315_7 : decode (js_b 315) 7 = .ok (.bipush 64, 2) := d_300_7
theorem d_315_9 : decode (js_b 315) 9 = .ok (.if_icmp .ge 150, 3) := d_300_9
theorem d_315_12 : decode (js_b 315) 12 = .ok (.lload_n 1, 1) := d_300_12
theorem d_315_13 : decode (js_b 315) 13 = .ok (.iload 5, 2) := d_300_13
theorem d_315_15 : decode (js_b 315) 15 = .ok (.lushr, 1) := d_300_15
theorem d_315_16 : decode (js_b 315) 16 = .ok (.lconst 1, 1) := d_300_16
theorem d_315_17 : decode (js_b 315) 17 = .ok (.land, 1) := d_300_17
theorem d_315_18 : decode (js_b 315) 18 = .ok (.lconst 1, 1) := d_300_18
theorem d_315_19 : decode (js_b 315) 19 = .ok (.lcmp, 1) := d_300_19
theorem d_315_20 : decode (js_b 315) 20 = .ok (.ifCond .ne 133, 3) := d_300_20
theorem d_315_23 : decode (js_b 315) 23 = .ok (.lload_n 3, 1) := d_300_23
theorem d_315_24 : decode (js_b 315) 24 = .ok (.aload_n 0, 1) := d_300_24
theorem d_315_25 : decode (js_b 315) 25 = .ok (.iload 5, 2) := d_300_25
theorem d_315_27 : decode (js_b 315) 27 = .ok (.bipush 8, 2) := d_300_27
theorem d_315_29 : decode (js_b 315) 29 = .ok (.idiv, 1) := d_300_29
theorem d_315_30 : decode (js_b 315) 30 = .ok (.iload 5, 2) := d_300_30
theorem d_315_32 : decode (js_b 315) 32 = .ok (.bipush 8, 2) := d_300_32
theorem d_315_34 : decode (js_b 315) 34 = .ok (.irem, 1) := d_300_34
theorem d_315_35 : decode (js_b 315) 35 = .ok (.iconst 0, 1) := d_300_35
theorem d_315_36 : decode (js_b 315) 36 = .ok (.invokestatic 198, 3) := d_300_36
theorem d_315_39 : decode (js_b 315) 39 = .ok (.iconst 1, 1) := d_300_39
theorem d_315_40 : decode (js_b 315) 40 = .ok (.if_icmp .ne 13, 3) := d_300_40
theorem d_315_43 : decode (js_b 315) 43 = .ok (.lconst 1, 1) := d_300_43
theorem d_315_44 : decode (js_b 315) 44 = .ok (.iload 5, 2) := d_300_44
theorem d_315_46 : decode (js_b 315) 46 = .ok (.bipush 8, 2) := d_300_46
theorem d_315_48 : decode (js_b 315) 48 = .ok (.isub, 1) := d_300_48
theorem d_315_49 : decode (js_b 315) 49 = .ok (.lshl, 1) := d_300_49
theorem d_315_50 : decode (js_b 315) 50 = .ok (.goto 4, 3) := d_300_50
theorem d_315_53 : decode (js_b 315) 53 = .ok (.lconst 0, 1) := d_300_53
theorem d_315_54 : decode (js_b 315) 54 = .ok (.lor, 1) := d_300_54
theorem d_315_55 : decode (js_b 315) 55 = .ok (.lstore_n 3, 1) := d_300_55
theorem d_315_56 : decode (js_b 315) 56 = .ok (.lload_n 3, 1) := d_300_56
theorem d_315_57 : decode (js_b 315) 57 = .ok (.aload_n 0, 1) := d_300_57
theorem d_315_58 : decode (js_b 315) 58 = .ok (.iload 5, 2) := d_300_58
theorem d_315_60 : decode (js_b 315) 60 = .ok (.bipush 8, 2) := d_300_60
theorem d_315_62 : decode (js_b 315) 62 = .ok (.idiv, 1) := d_300_62
theorem d_315_63 : decode (js_b 315) 63 = .ok (.iload 5, 2) := d_300_63
theorem d_315_65 : decode (js_b 315) 65 = .ok (.bipush 8, 2) := d_300_65
theorem d_315_67 : decode (js_b 315) 67 = .ok (.irem, 1) := d_300_67
theorem d_315_68 : decode (js_b 315) 68 = .ok (.iconst 1, 1) := d_300_68
theorem d_315_69 : decode (js_b 315) 69 = .ok (.invokestatic 198, 3) := d_300_69
theorem d_315_72 : decode (js_b 315) 72 = .ok (.iconst 1, 1) := d_300_72
theorem d_315_73 : decode (js_b 315) 73 = .ok (.if_icmp .ne 12, 3) := d_300_73
theorem d_315_76 : decode (js_b 315) 76 = .ok (.lconst 1, 1) := d_300_76
theorem d_315_77 : decode (js_b 315) 77 = .ok (.iload 5, 2) := d_300_77
theorem d_315_79 : decode (js_b 315) 79 = .ok (.iconst 1, 1) := d_300_79
theorem d_315_80 : decode (js_b 315) 80 = .ok (.iadd, 1) := d_300_80
theorem d_315_81 : decode (js_b 315) 81 = .ok (.lshl, 1) := d_300_81
theorem d_315_82 : decode (js_b 315) 82 = .ok (.goto 4, 3) := d_300_82
theorem d_315_85 : decode (js_b 315) 85 = .ok (.lconst 0, 1) := d_300_85
theorem d_315_86 : decode (js_b 315) 86 = .ok (.lor, 1) := d_300_86
theorem d_315_87 : decode (js_b 315) 87 = .ok (.lstore_n 3, 1) := d_300_87
theorem d_315_88 : decode (js_b 315) 88 = .ok (.lload_n 3, 1) := d_300_88
theorem d_315_89 : decode (js_b 315) 89 = .ok (.aload_n 0, 1) := d_300_89
theorem d_315_90 : decode (js_b 315) 90 = .ok (.iload 5, 2) := d_300_90
theorem d_315_92 : decode (js_b 315) 92 = .ok (.bipush 8, 2) := d_300_92
theorem d_315_94 : decode (js_b 315) 94 = .ok (.idiv, 1) := d_300_94
theorem d_315_95 : decode (js_b 315) 95 = .ok (.iload 5, 2) := d_300_95
theorem d_315_97 : decode (js_b 315) 97 = .ok (.bipush 8, 2) := d_300_97
theorem d_315_99 : decode (js_b 315) 99 = .ok (.irem, 1) := d_300_99
theorem d_315_100 : decode (js_b 315) 100 = .ok (.iconst 2, 1) := d_300_100
theorem d_315_101 : decode (js_b 315) 101 = .ok (.invokestatic 198, 3) := d_300_101
theorem d_315_104 : decode (js_b 315) 104 = .ok (.iconst 1, 1) := d_300_104
theorem d_315_105 : decode (js_b 315) 105 = .ok (.if_icmp .ne 13, 3) := d_300_105
theorem d_315_108 : decode (js_b 315) 108 = .ok (.lconst 1, 1) := d_300_108
theorem d_315_109 : decode (js_b 315) 109 = .ok (.iload 5, 2) := d_300_109
theorem d_315_111 : decode (js_b 315) 111 = .ok (.bipush 8, 2) := d_300_111
theorem d_315_113 : decode (js_b 315) 113 = .ok (.iadd, 1) := d_300_113
theorem d_315_114 : decode (js_b 315) 114 = .ok (.lshl, 1) := d_300_114
theorem d_315_115 : decode (js_b 315) 115 = .ok (.goto 4, 3) := d_300_115
theorem d_315_118 : decode (js_b 315) 118 = .ok (.lconst 0, 1) := d_300_118
theorem d_315_119 : decode (js_b 315) 119 = .ok (.lor, 1) := d_300_119
theorem d_315_120 : decode (js_b 315) 120 = .ok (.lstore_n 3, 1) := d_300_120
theorem d_315_121 : decode (js_b 315) 121 = .ok (.lload_n 3, 1) := d_300_121
theorem d_315_122 : decode (js_b 315) 122 = .ok (.aload_n 0, 1) := d_300_122
theorem d_315_123 : decode (js_b 315) 123 = .ok (.iload 5, 2) := d_300_123
theorem d_315_125 : decode (js_b 315) 125 = .ok (.bipush 8, 2) := d_300_125
theorem d_315_127 : decode (js_b 315) 127 = .ok (.idiv, 1) := d_300_127
theorem d_315_128 : decode (js_b 315) 128 = .ok (.iload 5, 2) := d_300_128
theorem d_315_130 : decode (js_b 315) 130 = .ok (.bipush 8, 2) := d_300_130
theorem d_315_132 : decode (js_b 315) 132 = .ok (.irem, 1) := d_300_132
theorem d_315_133 : decode (js_b 315) 133 = .ok (.iconst 3, 1) := d_300_133
theorem d_315_134 : decode (js_b 315) 134 = .ok (.invokestatic 198, 3) := d_300_134
theorem d_315_137 : decode (js_b 315) 137 = .ok (.iconst 1, 1) := d_300_137
theorem d_315_138 : decode (js_b 315) 138 = .ok (.if_icmp .ne 12, 3) := d_300_138
theorem d_315_141 : decode (js_b 315) 141 = .ok (.lconst 1, 1) := d_300_141
theorem d_315_142 : decode (js_b 315) 142 = .ok (.iload 5, 2) := d_300_142
theorem d_315_144 : decode (js_b 315) 144 = .ok (.iconst 1, 1) := d_300_144
theorem d_315_145 : decode (js_b 315) 145 = .ok (.isub, 1) := d_300_145
theorem d_315_146 : decode (js_b 315) 146 = .ok (.lshl, 1) := d_300_146
theorem d_315_147 : decode (js_b 315) 147 = .ok (.goto 4, 3) := d_300_147
theorem d_315_150 : decode (js_b 315) 150 = .ok (.lconst 0, 1) := d_300_150
theorem d_315_151 : decode (js_b 315) 151 = .ok (.lor, 1) := d_300_151
theorem d_315_152 : decode (js_b 315) 152 = .ok (.lstore_n 3, 1) := d_300_152
theorem d_315_153 : decode (js_b 315) 153 = .ok (.iinc 5 1, 3) := d_300_153
theorem d_315_156 : decode (js_b 315) 156 = .ok (.goto (-151), 3) := d_300_156
theorem d_315_159 : decode (js_b 315) 159 = .ok (.lload_n 3, 1) := d_300_159
theorem d_315_160 : decode (js_b 315) 160 = .ok (.lload_n 1, 1) := d_300_160
theorem d_315_161 : decode (js_b 315) 161 = .ok (.lcmp, 1) := d_300_161
theorem d_315_162 : decode (js_b 315) 162 = .ok (.ifCond .ne 7, 3) := d_300_162
theorem d_315_165 : decode (js_b 315) 165 = .ok (.lload_n 1, 1) := d_300_165
theorem d_315_166 : decode (js_b 315) 166 = .ok (.goto 8, 3) := d_300_166
theorem d_315_169 : decode (js_b 315) 169 = .ok (.aload_n 0, 1) := d_300_169
theorem d_315_170 : decode (js_b 315) 170 = .ok (.lload_n 3, 1) := d_300_170
theorem d_315_171 : decode (js_b 315) 171 = .ok (.invokestatic 323, 3) := d_300_171
theorem d_315_174 : decode (js_b 315) 174 = .ok (.lreturn, 1) := d_300_174
theorem ki_315_15 : js_OkG 315 15 (o_Sh (fun x y => (x.toUInt64 >>> (y.toInt64.toUInt64 &&& Int64.toUInt64 63)).toInt64) 16) := js_St.okG (st_lushr d_315_15) (fun _ _ _ _ _ => rfl)
theorem ki_315_13 : js_OkG 315 13 (o_il 5 15) := js_St.okG (st_iload d_315_13) (fun _ _ _ _ _ => rfl)
theorem ki_315_12 : js_OkG 315 12 (o_ll 1 13) := js_St.okG (st_lloadn rfl d_315_12) (fun _ _ _ _ _ => rfl)
theorem ki_315_9 : js_OkG 315 9 (o_cge 159 12) := js_St.okG (st_icge (by decide) d_315_9) (fun _ _ _ _ _ => rfl)
theorem ki_315_7 : js_OkG 315 7 (o_ic 64 9) := js_St.okG (st_bipush rfl d_315_7) (fun _ _ _ _ _ => rfl)
theorem ki_315_5 : js_OkG 315 5 (o_il 5 7) := js_St.okG (st_iload d_315_5) (fun _ _ _ _ _ => rfl)
theorem ki_315_3 : js_OkG 315 3 (o_is 5 5) := js_St.okG (st_istore (Nat.le_of_ble_eq_true rfl) d_315_3) (fun _ _ _ _ _ => rfl)
theorem ki_315_2 : js_OkG 315 2 (o_ic 0 3) := js_St.okG (st_iconst rfl d_315_2) (fun _ _ _ _ _ => rfl)
theorem ki_315_1 : js_OkG 315 1 (o_ls 3 2) := js_St.okG (st_lstoren rfl (Nat.le_of_ble_eq_true rfl) d_315_1) (fun _ _ _ _ _ => rfl)
theorem ki_315_0 : js_OkG 315 0 (o_ll 1 1) := js_St.okG (st_lloadn rfl d_315_0) (fun _ _ _ _ _ => rfl)
theorem ki_315_30 : js_OkG 315 30 (o_il 5 32) := js_St.okG (st_iload d_315_30) (fun _ _ _ _ _ => rfl)
theorem ki_315_29 : js_OkG 315 29 (o_div 30) := js_St.okG (st_idiv d_315_29) (fun _ _ _ _ _ => rfl)
theorem ki_315_27 : js_OkG 315 27 (o_ic 8 29) := js_St.okG (st_bipush rfl d_315_27) (fun _ _ _ _ _ => rfl)
theorem ki_315_25 : js_OkG 315 25 (o_il 5 27) := js_St.okG (st_iload d_315_25) (fun _ _ _ _ _ => rfl)
theorem ki_315_24 : js_OkG 315 24 (o_al 0 25) := js_St.okG (st_aloadn rfl d_315_24) (fun _ _ _ _ _ => rfl)
theorem ki_315_23 : js_OkG 315 23 (o_ll 3 24) := js_St.okG (st_lloadn rfl d_315_23) (fun _ _ _ _ _ => rfl)
theorem ki_315_20 : js_OkG 315 20 (o_ne 153 23) := js_St.okG (st_ifne (by decide) d_315_20) (fun _ _ _ _ _ => rfl)
theorem ki_315_19 : js_OkG 315 19 (o_lcmp 20) := js_St.okG (st_lcmp d_315_19) (fun _ _ _ _ _ => rfl)
theorem ki_315_18 : js_OkG 315 18 (o_lc 1 19) := js_St.okG (st_lconst rfl d_315_18) (fun _ _ _ _ _ => rfl)
theorem ki_315_17 : js_OkG 315 17 (o_B2 (fun x y => x &&& y) 18) := js_St.okG (st_land d_315_17) (fun _ _ _ _ _ => rfl)
theorem ki_315_16 : js_OkG 315 16 (o_lc 1 17) := js_St.okG (st_lconst rfl d_315_16) (fun _ _ _ _ _ => rfl)
theorem ki_315_46 : js_OkG 315 46 (o_ic 8 48) := js_St.okG (st_bipush rfl d_315_46) (fun _ _ _ _ _ => rfl)
theorem ki_315_44 : js_OkG 315 44 (o_il 5 46) := js_St.okG (st_iload d_315_44) (fun _ _ _ _ _ => rfl)
theorem ki_315_43 : js_OkG 315 43 (o_lc 1 44) := js_St.okG (st_lconst rfl d_315_43) (fun _ _ _ _ _ => rfl)
theorem ki_315_40 : js_OkG 315 40 (o_cne 53 43) := js_St.okG (st_icne (by decide) d_315_40) (fun _ _ _ _ _ => rfl)
theorem ki_315_39 : js_OkG 315 39 (o_ic 1 40) := js_St.okG (st_iconst rfl d_315_39) (fun _ _ _ _ _ => rfl)
theorem ki_315_36 : js_OkG 315 36 (o_cI 176 4 0 39) := og_sIP rfl rfl kB_315_176 rfl kw_785 kw_786 d_315_36
theorem ki_315_35 : js_OkG 315 35 (o_ic 0 36) := js_St.okG (st_iconst rfl d_315_35) (fun _ _ _ _ _ => rfl)
theorem ki_315_34 : js_OkG 315 34 (o_rem 35) := js_St.okG (st_irem d_315_34) (fun _ _ _ _ _ => rfl)
theorem ki_315_32 : js_OkG 315 32 (o_ic 8 34) := js_St.okG (st_bipush rfl d_315_32) (fun _ _ _ _ _ => rfl)
theorem ki_315_63 : js_OkG 315 63 (o_il 5 65) := js_St.okG (st_iload d_315_63) (fun _ _ _ _ _ => rfl)
theorem ki_315_62 : js_OkG 315 62 (o_div 63) := js_St.okG (st_idiv d_315_62) (fun _ _ _ _ _ => rfl)
theorem ki_315_60 : js_OkG 315 60 (o_ic 8 62) := js_St.okG (st_bipush rfl d_315_60) (fun _ _ _ _ _ => rfl)
theorem ki_315_58 : js_OkG 315 58 (o_il 5 60) := js_St.okG (st_iload d_315_58) (fun _ _ _ _ _ => rfl)
theorem ki_315_57 : js_OkG 315 57 (o_al 0 58) := js_St.okG (st_aloadn rfl d_315_57) (fun _ _ _ _ _ => rfl)
theorem ki_315_56 : js_OkG 315 56 (o_ll 3 57) := js_St.okG (st_lloadn rfl d_315_56) (fun _ _ _ _ _ => rfl)
theorem ki_315_55 : js_OkG 315 55 (o_ls 3 56) := js_St.okG (st_lstoren rfl (Nat.le_of_ble_eq_true rfl) d_315_55) (fun _ _ _ _ _ => rfl)
theorem ki_315_54 : js_OkG 315 54 (o_B2 (fun x y => x ||| y) 55) := js_St.okG (st_lor d_315_54) (fun _ _ _ _ _ => rfl)
theorem ki_315_53 : js_OkG 315 53 (o_lc 0 54) := js_St.okG (st_lconst rfl d_315_53) (fun _ _ _ _ _ => rfl)
theorem ki_315_50 : js_OkG 315 50 (o_go 54) := js_St.okG (st_goto (by decide) d_315_50) (fun _ _ _ _ _ => rfl)
theorem ki_315_49 : js_OkG 315 49 (o_Sh (fun x y => x <<< (y.toInt64 &&& 63)) 50) := js_St.okG (st_lshl d_315_49) (fun _ _ _ _ _ => rfl)
theorem ki_315_48 : js_OkG 315 48 (o_b2 (fun x y => x - y) 49) := js_St.okG (st_isub d_315_48) (fun _ _ _ _ _ => rfl)
theorem ki_315_79 : js_OkG 315 79 (o_ic 1 80) := js_St.okG (st_iconst rfl d_315_79) (fun _ _ _ _ _ => rfl)
theorem ki_315_77 : js_OkG 315 77 (o_il 5 79) := js_St.okG (st_iload d_315_77) (fun _ _ _ _ _ => rfl)
theorem ki_315_76 : js_OkG 315 76 (o_lc 1 77) := js_St.okG (st_lconst rfl d_315_76) (fun _ _ _ _ _ => rfl)
theorem ki_315_73 : js_OkG 315 73 (o_cne 85 76) := js_St.okG (st_icne (by decide) d_315_73) (fun _ _ _ _ _ => rfl)
theorem ki_315_72 : js_OkG 315 72 (o_ic 1 73) := js_St.okG (st_iconst rfl d_315_72) (fun _ _ _ _ _ => rfl)
theorem ki_315_69 : js_OkG 315 69 (o_cI 176 4 0 72) := og_sIP rfl rfl kB_315_176 rfl kw_785 kw_786 d_315_69
theorem ki_315_68 : js_OkG 315 68 (o_ic 1 69) := js_St.okG (st_iconst rfl d_315_68) (fun _ _ _ _ _ => rfl)
theorem ki_315_67 : js_OkG 315 67 (o_rem 68) := js_St.okG (st_irem d_315_67) (fun _ _ _ _ _ => rfl)
theorem ki_315_65 : js_OkG 315 65 (o_ic 8 67) := js_St.okG (st_bipush rfl d_315_65) (fun _ _ _ _ _ => rfl)
theorem ki_315_95 : js_OkG 315 95 (o_il 5 97) := js_St.okG (st_iload d_315_95) (fun _ _ _ _ _ => rfl)
theorem ki_315_94 : js_OkG 315 94 (o_div 95) := js_St.okG (st_idiv d_315_94) (fun _ _ _ _ _ => rfl)
theorem ki_315_92 : js_OkG 315 92 (o_ic 8 94) := js_St.okG (st_bipush rfl d_315_92) (fun _ _ _ _ _ => rfl)
theorem ki_315_90 : js_OkG 315 90 (o_il 5 92) := js_St.okG (st_iload d_315_90) (fun _ _ _ _ _ => rfl)
theorem ki_315_89 : js_OkG 315 89 (o_al 0 90) := js_St.okG (st_aloadn rfl d_315_89) (fun _ _ _ _ _ => rfl)
theorem ki_315_88 : js_OkG 315 88 (o_ll 3 89) := js_St.okG (st_lloadn rfl d_315_88) (fun _ _ _ _ _ => rfl)
theorem ki_315_87 : js_OkG 315 87 (o_ls 3 88) := js_St.okG (st_lstoren rfl (Nat.le_of_ble_eq_true rfl) d_315_87) (fun _ _ _ _ _ => rfl)
theorem ki_315_86 : js_OkG 315 86 (o_B2 (fun x y => x ||| y) 87) := js_St.okG (st_lor d_315_86) (fun _ _ _ _ _ => rfl)
theorem ki_315_85 : js_OkG 315 85 (o_lc 0 86) := js_St.okG (st_lconst rfl d_315_85) (fun _ _ _ _ _ => rfl)
theorem ki_315_82 : js_OkG 315 82 (o_go 86) := js_St.okG (st_goto (by decide) d_315_82) (fun _ _ _ _ _ => rfl)
theorem ki_315_81 : js_OkG 315 81 (o_Sh (fun x y => x <<< (y.toInt64 &&& 63)) 82) := js_St.okG (st_lshl d_315_81) (fun _ _ _ _ _ => rfl)
theorem ki_315_80 : js_OkG 315 80 (o_b2 (fun x y => x + y) 81) := js_St.okG (st_iadd d_315_80) (fun _ _ _ _ _ => rfl)
theorem ki_315_111 : js_OkG 315 111 (o_ic 8 113) := js_St.okG (st_bipush rfl d_315_111) (fun _ _ _ _ _ => rfl)
theorem ki_315_109 : js_OkG 315 109 (o_il 5 111) := js_St.okG (st_iload d_315_109) (fun _ _ _ _ _ => rfl)
theorem ki_315_108 : js_OkG 315 108 (o_lc 1 109) := js_St.okG (st_lconst rfl d_315_108) (fun _ _ _ _ _ => rfl)
theorem ki_315_105 : js_OkG 315 105 (o_cne 118 108) := js_St.okG (st_icne (by decide) d_315_105) (fun _ _ _ _ _ => rfl)
theorem ki_315_104 : js_OkG 315 104 (o_ic 1 105) := js_St.okG (st_iconst rfl d_315_104) (fun _ _ _ _ _ => rfl)
theorem ki_315_101 : js_OkG 315 101 (o_cI 176 4 0 104) := og_sIP rfl rfl kB_315_176 rfl kw_785 kw_786 d_315_101
theorem ki_315_100 : js_OkG 315 100 (o_ic 2 101) := js_St.okG (st_iconst rfl d_315_100) (fun _ _ _ _ _ => rfl)
theorem ki_315_99 : js_OkG 315 99 (o_rem 100) := js_St.okG (st_irem d_315_99) (fun _ _ _ _ _ => rfl)
theorem ki_315_97 : js_OkG 315 97 (o_ic 8 99) := js_St.okG (st_bipush rfl d_315_97) (fun _ _ _ _ _ => rfl)
theorem ki_315_127 : js_OkG 315 127 (o_div 128) := js_St.okG (st_idiv d_315_127) (fun _ _ _ _ _ => rfl)
theorem ki_315_125 : js_OkG 315 125 (o_ic 8 127) := js_St.okG (st_bipush rfl d_315_125) (fun _ _ _ _ _ => rfl)
theorem ki_315_123 : js_OkG 315 123 (o_il 5 125) := js_St.okG (st_iload d_315_123) (fun _ _ _ _ _ => rfl)
theorem ki_315_122 : js_OkG 315 122 (o_al 0 123) := js_St.okG (st_aloadn rfl d_315_122) (fun _ _ _ _ _ => rfl)
theorem ki_315_121 : js_OkG 315 121 (o_ll 3 122) := js_St.okG (st_lloadn rfl d_315_121) (fun _ _ _ _ _ => rfl)
theorem ki_315_120 : js_OkG 315 120 (o_ls 3 121) := js_St.okG (st_lstoren rfl (Nat.le_of_ble_eq_true rfl) d_315_120) (fun _ _ _ _ _ => rfl)
theorem ki_315_119 : js_OkG 315 119 (o_B2 (fun x y => x ||| y) 120) := js_St.okG (st_lor d_315_119) (fun _ _ _ _ _ => rfl)
theorem ki_315_118 : js_OkG 315 118 (o_lc 0 119) := js_St.okG (st_lconst rfl d_315_118) (fun _ _ _ _ _ => rfl)
theorem ki_315_115 : js_OkG 315 115 (o_go 119) := js_St.okG (st_goto (by decide) d_315_115) (fun _ _ _ _ _ => rfl)
theorem ki_315_114 : js_OkG 315 114 (o_Sh (fun x y => x <<< (y.toInt64 &&& 63)) 115) := js_St.okG (st_lshl d_315_114) (fun _ _ _ _ _ => rfl)
theorem ki_315_113 : js_OkG 315 113 (o_b2 (fun x y => x + y) 114) := js_St.okG (st_iadd d_315_113) (fun _ _ _ _ _ => rfl)
theorem ki_315_142 : js_OkG 315 142 (o_il 5 144) := js_St.okG (st_iload d_315_142) (fun _ _ _ _ _ => rfl)
theorem ki_315_141 : js_OkG 315 141 (o_lc 1 142) := js_St.okG (st_lconst rfl d_315_141) (fun _ _ _ _ _ => rfl)
theorem ki_315_138 : js_OkG 315 138 (o_cne 150 141) := js_St.okG (st_icne (by decide) d_315_138) (fun _ _ _ _ _ => rfl)
theorem ki_315_137 : js_OkG 315 137 (o_ic 1 138) := js_St.okG (st_iconst rfl d_315_137) (fun _ _ _ _ _ => rfl)
theorem ki_315_134 : js_OkG 315 134 (o_cI 176 4 0 137) := og_sIP rfl rfl kB_315_176 rfl kw_785 kw_786 d_315_134
theorem ki_315_133 : js_OkG 315 133 (o_ic 3 134) := js_St.okG (st_iconst rfl d_315_133) (fun _ _ _ _ _ => rfl)
theorem ki_315_132 : js_OkG 315 132 (o_rem 133) := js_St.okG (st_irem d_315_132) (fun _ _ _ _ _ => rfl)
theorem ki_315_130 : js_OkG 315 130 (o_ic 8 132) := js_St.okG (st_bipush rfl d_315_130) (fun _ _ _ _ _ => rfl)
theorem ki_315_128 : js_OkG 315 128 (o_il 5 130) := js_St.okG (st_iload d_315_128) (fun _ _ _ _ _ => rfl)
theorem ki_315_159 : js_OkG 315 159 (o_ll 3 160) := js_St.okG (st_lloadn rfl d_315_159) (fun _ _ _ _ _ => rfl)
theorem ki_315_156 : js_OkG 315 156 (o_go 5) := js_St.okG (st_goto (by decide) d_315_156) (fun _ _ _ _ _ => rfl)
theorem ki_315_153 : js_OkG 315 153 (o_inc 5 1 156) := js_St.okG (st_iinc rfl (Nat.le_of_ble_eq_true rfl) d_315_153) (fun _ _ _ _ _ => rfl)
theorem ki_315_152 : js_OkG 315 152 (o_ls 3 153) := js_St.okG (st_lstoren rfl (Nat.le_of_ble_eq_true rfl) d_315_152) (fun _ _ _ _ _ => rfl)
theorem ki_315_151 : js_OkG 315 151 (o_B2 (fun x y => x ||| y) 152) := js_St.okG (st_lor d_315_151) (fun _ _ _ _ _ => rfl)
theorem ki_315_150 : js_OkG 315 150 (o_lc 0 151) := js_St.okG (st_lconst rfl d_315_150) (fun _ _ _ _ _ => rfl)
theorem ki_315_147 : js_OkG 315 147 (o_go 151) := js_St.okG (st_goto (by decide) d_315_147) (fun _ _ _ _ _ => rfl)
theorem ki_315_146 : js_OkG 315 146 (o_Sh (fun x y => x <<< (y.toInt64 &&& 63)) 147) := js_St.okG (st_lshl d_315_146) (fun _ _ _ _ _ => rfl)
theorem ki_315_145 : js_OkG 315 145 (o_b2 (fun x y => x - y) 146) := js_St.okG (st_isub d_315_145) (fun _ _ _ _ _ => rfl)
theorem ki_315_144 : js_OkG 315 144 (o_ic 1 145) := js_St.okG (st_iconst rfl d_315_144) (fun _ _ _ _ _ => rfl)
theorem ki_315_174 : js_OkG 315 174 (o_rL) := og_rL rfl d_315_174
theorem ki_315_171 : js_OkG 315 171 (o_cL 316 2 0 174) := og_sLP rfl rfl kB_315_316 rfl kw_949 kw_950 d_315_171
theorem ki_315_170 : js_OkG 315 170 (o_ll 3 171) := js_St.okG (st_lloadn rfl d_315_170) (fun _ _ _ _ _ => rfl)
theorem ki_315_169 : js_OkG 315 169 (o_al 0 170) := js_St.okG (st_aloadn rfl d_315_169) (fun _ _ _ _ _ => rfl)
theorem ki_315_166 : js_OkG 315 166 (o_go 174) := js_St.okG (st_goto (by decide) d_315_166) (fun _ _ _ _ _ => rfl)
theorem ki_315_165 : js_OkG 315 165 (o_ll 1 166) := js_St.okG (st_lloadn rfl d_315_165) (fun _ _ _ _ _ => rfl)
theorem ki_315_162 : js_OkG 315 162 (o_ne 169 165) := js_St.okG (st_ifne (by decide) d_315_162) (fun _ _ _ _ _ => rfl)
theorem ki_315_161 : js_OkG 315 161 (o_lcmp 162) := js_St.okG (st_lcmp d_315_161) (fun _ _ _ _ _ => rfl)
theorem ki_315_160 : js_OkG 315 160 (o_ll 1 161) := js_St.okG (st_lloadn rfl d_315_160) (fun _ _ _ _ _ => rfl)
set_option maxRecDepth 20000 in
theorem mk_315 : js_mokG 315 := jk_tab (fun _ => js_St.okG st_bad (fun _ _ _ _ _ => rfl)) (show jk_all (js_OkG 315) 0 (tb_G 315) from ⟨⟨ki_315_0, ⟨ki_315_1, ⟨ki_315_2, ⟨ki_315_3, ⟨kbadG, ⟨ki_315_5, ⟨kbadG, ⟨ki_315_7, ⟨kbadG, ⟨ki_315_9, ⟨kbadG, ⟨kbadG, ⟨ki_315_12, ⟨ki_315_13, ⟨kbadG, ⟨ki_315_15, trivial⟩⟩⟩⟩⟩⟩⟩⟩⟩⟩⟩⟩⟩⟩⟩⟩, ⟨⟨ki_315_16, ⟨ki_315_17, ⟨ki_315_18, ⟨ki_315_19, ⟨ki_315_20, ⟨kbadG, ⟨kbadG, ⟨ki_315_23, ⟨ki_315_24, ⟨ki_315_25, ⟨kbadG, ⟨ki_315_27, ⟨kbadG, ⟨ki_315_29, ⟨ki_315_30, ⟨kbadG, trivial⟩⟩⟩⟩⟩⟩⟩⟩⟩⟩⟩⟩⟩⟩⟩⟩, ⟨⟨ki_315_32, ⟨kbadG, ⟨ki_315_34, ⟨ki_315_35, ⟨ki_315_36, ⟨kbadG, ⟨kbadG, ⟨ki_315_39, ⟨ki_315_40, ⟨kbadG, ⟨kbadG, ⟨ki_315_43, ⟨ki_315_44, ⟨kbadG, ⟨ki_315_46, ⟨kbadG, trivial⟩⟩⟩⟩⟩⟩⟩⟩⟩⟩⟩⟩⟩⟩⟩⟩, ⟨⟨ki_315_48, ⟨ki_315_49, ⟨ki_315_50, ⟨kbadG, ⟨kbadG, ⟨ki_315_53, ⟨ki_315_54, ⟨ki_315_55, ⟨ki_315_56, ⟨ki_315_57, ⟨ki_315_58, ⟨kbadG, ⟨ki_315_60, ⟨kbadG, ⟨ki_315_62, ⟨ki_315_63, trivial⟩⟩⟩⟩⟩⟩⟩⟩⟩⟩⟩⟩⟩⟩⟩⟩, ⟨⟨kbadG, ⟨ki_315_65, ⟨kbadG, ⟨ki_315_67, ⟨ki_315_68, ⟨ki_315_69, ⟨kbadG, ⟨kbadG, ⟨ki_315_72, ⟨ki_315_73, ⟨kbadG, ⟨kbadG, ⟨ki_315_76, ⟨ki_315_77, ⟨kbadG, ⟨ki_315_79, trivial⟩⟩⟩⟩⟩⟩⟩⟩⟩⟩⟩⟩⟩⟩⟩⟩, ⟨⟨ki_315_80, ⟨ki_315_81, ⟨ki_315_82, ⟨kbadG, ⟨kbadG, ⟨ki_315_85, ⟨ki_315_86, ⟨ki_315_87, ⟨ki_315_88, ⟨ki_315_89, ⟨ki_315_90, ⟨kbadG, ⟨ki_315_92, ⟨kbadG, ⟨ki_315_94, ⟨ki_315_95, trivial⟩⟩⟩⟩⟩⟩⟩⟩⟩⟩⟩⟩⟩⟩⟩⟩, ⟨⟨kbadG, ⟨ki_315_97, ⟨kbadG, ⟨ki_315_99, ⟨ki_315_100, ⟨ki_315_101, ⟨kbadG, ⟨kbadG, ⟨ki_315_104, ⟨ki_315_105, ⟨kbadG, ⟨kbadG, ⟨ki_315_108, ⟨ki_315_109, ⟨kbadG, ⟨ki_315_111, trivial⟩⟩⟩⟩⟩⟩⟩⟩⟩⟩⟩⟩⟩⟩⟩⟩, ⟨⟨kbadG, ⟨ki_315_113, ⟨ki_315_114, ⟨ki_315_115, ⟨kbadG, ⟨kbadG, ⟨ki_315_118, ⟨ki_315_119, ⟨ki_315_120, ⟨ki_315_121, ⟨ki_315_122, ⟨ki_315_123, ⟨kbadG, ⟨ki_315_125, ⟨kbadG, ⟨ki_315_127, trivial⟩⟩⟩⟩⟩⟩⟩⟩⟩⟩⟩⟩⟩⟩⟩⟩, ⟨⟨ki_315_128, ⟨kbadG, ⟨ki_315_130, ⟨kbadG, ⟨ki_315_132, ⟨ki_315_133, ⟨ki_315_134, ⟨kbadG, ⟨kbadG, ⟨ki_315_137, ⟨ki_315_138, ⟨kbadG, ⟨kbadG, ⟨ki_315_141, ⟨ki_315_142, ⟨kbadG, trivial⟩⟩⟩⟩⟩⟩⟩⟩⟩⟩⟩⟩⟩⟩⟩⟩, ⟨⟨ki_315_144, ⟨ki_315_145, ⟨ki_315_146, ⟨ki_315_147, ⟨kbadG, ⟨kbadG, ⟨ki_315_150, ⟨ki_315_151, ⟨ki_315_152, ⟨ki_315_153, ⟨kbadG, ⟨kbadG, ⟨ki_315_156, ⟨kbadG, ⟨kbadG, ⟨ki_315_159, trivial⟩⟩⟩⟩⟩⟩⟩⟩⟩⟩⟩⟩⟩⟩⟩⟩, ⟨⟨ki_315_160, ⟨ki_315_161, ⟨ki_315_162, ⟨kbadG, ⟨kbadG, ⟨ki_315_165, ⟨ki_315_166, ⟨kbadG, ⟨kbadG, ⟨ki_315_169, ⟨ki_315_170, ⟨ki_315_171, ⟨kbadG, ⟨kbadG, ⟨ki_315_174, trivial⟩⟩⟩⟩⟩⟩⟩⟩⟩⟩⟩⟩⟩⟩⟩, trivial⟩⟩⟩⟩⟩⟩⟩⟩⟩⟩⟩)
end JS
