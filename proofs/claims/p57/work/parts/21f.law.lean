section JS
theorem d_316_0 : decode (js_b 316) 0 = .ok (.lload_n 1, 1) := d_300_0
theorem d_316_1 : decode (js_b 316) 1 = .ok (.lstore_n 3, 1) := d_300_1
theorem d_316_2 : decode (js_b 316) 2 = .ok (.iconst 0, 1) := d_300_2
theorem d_316_3 : decode (js_b 316) 3 = .ok (.istore 5, 2) := d_300_3
theorem d_316_5 : decode (js_b 316) 5 = .ok (.iload 5, 2) := d_300_5
theorem d_316_7 : decode (js_b 316) 7 = .ok (.bipush 64, 2) := d_300_7
theorem d_316_9 : decode (js_b 316) 9 = .ok (.if_icmp .ge 150, 3) := d_300_9
theorem d_316_12 : decode (js_b 316) 12 = .ok (.lload_n 1, 1) := d_300_12
theorem d_316_13 : decode (js_b 316) 13 = .ok (.iload 5, 2) := d_300_13
theorem d_316_15 : decode (js_b 316) 15 = .ok (.lushr, 1) := d_300_15
theorem d_316_16 : decode (js_b 316) 16 = .ok (.lconst 1, 1) := d_300_16
theorem d_316_17 : decode (js_b 316) 17 = .ok (.land, 1) := d_300_17
theorem d_316_18 : decode (js_b 316) 18 = .ok (.lconst 1, 1) := d_300_18
theorem d_316_19 : decode (js_b 316) 19 = .ok (.lcmp, 1) := d_300_19
theorem d_316_20 : decode (js_b 316) 20 = .ok (.ifCond .ne 133, 3) := d_300_20
theorem d_316_23 : decode (js_b 316) 23 = .ok (.lload_n 3, 1) := d_300_23
theorem d_316_24 : decode (js_b 316) 24 = .ok (.aload_n 0, 1) := d_300_24
theorem d_316_25 : decode (js_b 316) 25 = .ok (.iload 5, 2) := d_300_25
theorem d_316_27 : decode (js_b 316) 27 = .ok (.bipush 8, 2) := d_300_27
theorem d_316_29 : decode (js_b 316) 29 = .ok (.idiv, 1) := d_300_29
theorem d_316_30 : decode (js_b 316) 30 = .ok (.iload 5, 2) := d_300_30
theorem d_316_32 : decode (js_b 316) 32 = .ok (.bipush 8, 2) := d_300_32
theorem d_316_34 : decode (js_b 316) 34 = .ok (.irem, 1) := d_300_34
theorem d_316_35 : decode (js_b 316) 35 = .ok (.iconst 0, 1) := d_300_35
theorem d_316_36 : decode (js_b 316) 36 = .ok (.invokestatic 198, 3) := d_300_36
theorem d_316_39 : decode (js_b 316) 39 = .ok (.iconst 1, 1) := d_300_39
theorem d_316_40 : decode (js_b 316) 40 = .ok (.if_icmp .ne 13, 3) := d_300_40
theorem d_316_43 : decode (js_b 316) 43 = .ok (.lconst 1, 1) := d_300_43
theorem d_316_44 : decode (js_b 316) 44 = .ok (.iload 5, 2) := d_300_44
theorem d_316_46 : decode (js_b 316) 46 = .ok (.bipush 8, 2) := d_300_46
theorem d_316_48 : decode (js_b 316) 48 = .ok (.isub, 1) := d_300_48
theorem d_316_49 : decode (js_b 316) 49 = .ok (.lshl, 1) := d_300_49
theorem d_316_50 : decode (js_b 316) 50 = .ok (.goto 4, 3) := d_300_50
theorem d_316_53 : decode (js_b 316) 53 = .ok (.lconst 0, 1) := d_300_53
theorem d_316_54 : decode (js_b 316) 54 = .ok (.lor, 1) := d_300_54
theorem d_316_55 : decode (js_b 316) 55 = .ok (.lstore_n 3, 1) := d_300_55
theorem d_316_56 : decode (js_b 316) 56 = .ok (.lload_n 3, 1) := d_300_56
theorem d_316_57 : decode (js_b 316) 57 = .ok (.aload_n 0, 1) := d_300_57
theorem d_316_58 : decode (js_b 316) 58 = .ok (.iload 5, 2) := d_300_58
theorem d_316_60 : decode (js_b 316) 60 = .ok (.bipush 8, 2) := d_300_60
theorem d_316_62 : decode (js_b 316) 62 = .ok (.idiv, 1) := d_300_62
theorem d_316_63 : decode (js_b 316) 63 = .ok (.iload 5, 2) := d_300_63
theorem d_316_65 : decode (js_b 316) 65 = .ok (.bipush 8, 2) := d_300_65
theorem d_316_67 : decode (js_b 316) 67 = .ok (.irem, 1) := d_300_67
theorem d_316_68 : decode (js_b 316) 68 = .ok (.iconst 1, 1) := d_300_68
theorem d_316_69 : decode (js_b 316) 69 = .ok (.invokestatic 198, 3) := d_300_69
theorem d_316_72 : decode (js_b 316) 72 = .ok (.iconst 1, 1) := d_300_72
theorem d_316_73 : decode (js_b 316) 73 = .ok (.if_icmp .ne 12, 3) := d_300_73
theorem d_316_76 : decode (js_b 316) 76 = .ok (.lconst 1, 1) := d_300_76
theorem d_316_77 : decode (js_b 316) 77 = .ok (.iload 5, 2) := d_300_77
theorem d_316_79 : decode (js_b 316) 79 = .ok (.iconst 1, 1) := d_300_79
theorem d_316_80 : decode (js_b 316) 80 = .ok (.iadd, 1) := d_300_80
theorem d_316_81 : decode (js_b 316) 81 = .ok (.lshl, 1) := d_300_81
theorem d_316_82 : decode (js_b 316) 82 = .ok (.goto 4, 3) := d_300_82
theorem d_316_85 : decode (js_b 316) 85 = .ok (.lconst 0, 1) := d_300_85
theorem d_316_86 : decode (js_b 316) 86 = .ok (.lor, 1) := d_300_86
theorem d_316_87 : decode (js_b 316) 87 = .ok (.lstore_n 3, 1) := d_300_87
theorem d_316_88 : decode (js_b 316) 88 = .ok (.lload_n 3, 1) := d_300_88
theorem d_316_89 : decode (js_b 316) 89 = .ok (.aload_n 0, 1) := d_300_89
theorem d_316_90 : decode (js_b 316) 90 = .ok (.iload 5, 2) := d_300_90
theorem d_316_92 : decode (js_b 316) 92 = .ok (.bipush 8, 2) := d_300_92
theorem d_316_94 : decode (js_b 316) 94 = .ok (.idiv, 1) := d_300_94
theorem d_316_95 : decode (js_b 316) 95 = .ok (.iload 5, 2) := d_300_95
theorem d_316_97 : decode (js_b 316) 97 = .ok (.bipush 8, 2) := d_300_97
theorem d_316_99 : decode (js_b 316) 99 = .ok (.irem, 1) := d_300_99
theorem d_316_100 : decode (js_b 316) 100 = .ok (.iconst 2, 1) := d_300_100
theorem d_316_101 : decode (js_b 316) 101 = .ok (.invokestatic 198, 3) := d_300_101
theorem d_316_104 : decode (js_b 316) 104 = .ok (.iconst 1, 1) := d_300_104
theorem d_316_105 : decode (js_b 316) 105 = .ok (.if_icmp .ne 13, 3) := d_300_105
theorem d_316_108 : decode (js_b 316) 108 = .ok (.lconst 1, 1) := d_300_108
theorem d_316_109 : decode (js_b 316) 109 = .ok (.iload 5, 2) := d_300_109
theorem d_316_111 : decode (js_b 316) 111 = .ok (.bipush 8, 2) := d_300_111
theorem d_316_113 : decode (js_b 316) 113 = .ok (.iadd, 1) := d_300_113
theorem d_316_114 : decode (js_b 316) 114 = .ok (.lshl, 1) := d_300_114
theorem d_316_115 : decode (js_b 316) 115 = .ok (.goto 4, 3) := d_300_115
theorem d_316_118 : decode (js_b 316) 118 = .ok (.lconst 0, 1) := d_300_118
theorem d_316_119 : decode (js_b 316) 119 = .ok (.lor, 1) := d_300_119
theorem d_316_120 : decode (js_b 316) 120 = .ok (.lstore_n 3, 1) := d_300_120
theorem d_316_121 : decode (js_b 316) 121 = .ok (.lload_n 3, 1) := d_300_121
theorem d_316_122 : decode (js_b 316) 122 = .ok (.aload_n 0, 1) := d_300_122
theorem d_316_123 : decode (js_b 316) 123 = .ok (.iload 5, 2) := d_300_123
theorem d_316_125 : decode (js_b 316) 125 = .ok (.bipush 8, 2) := d_300_125
theorem d_316_127 : decode (js_b 316) 127 = .ok (.idiv, 1) := d_300_127
theorem d_316_128 : decode (js_b 316) 128 = .ok (.iload 5, 2) := d_300_128
theorem d_316_130 : decode (js_b 316) 130 = .ok (.bipush 8, 2) := d_300_130
theorem d_316_132 : decode (js_b 316) 132 = .ok (.irem, 1) := d_300_132
theorem d_316_133 : decode (js_b 316) 133 = .ok (.iconst 3, 1) := d_300_133
theorem d_316_134 : decode (js_b 316) 134 = .ok (.invokestatic 198, 3) := d_300_134
theorem d_316_137 : decode (js_b 316) 137 = .ok (.iconst 1, 1) := d_300_137
theorem d_316_138 : decode (js_b 316) 138 = .ok (.if_icmp .ne 12, 3) := d_300_138
theorem d_316_141 : decode (js_b 316) 141 = .ok (.lconst 1, 1) := d_300_141
theorem d_316_142 : decode (js_b 316) 142 = .ok (.iload 5, 2) := d_300_142
theorem d_316_144 : decode (js_b 316) 144 = .ok (.iconst 1, 1) := d_300_144
theorem d_316_145 : decode (js_b 316) 145 = .ok (.isub, 1) := d_300_145
theorem d_316_146 : decode (js_b 316) 146 = .ok (.lshl, 1) := d_300_146
theorem d_316_147 : decode (js_b 316) 147 = .ok (.goto 4, 3) := d_300_147
theorem d_316_150 : decode (js_b 316) 150 = .ok (.lconst 0, 1) := d_300_150
theorem d_316_151 : decode (js_b 316) 151 = .ok (.lor, 1) := d_300_151
theorem d_316_152 : decode (js_b 316) 152 = .ok (.lstore_n 3, 1) := d_300_152
theorem d_316_153 : decode (js_b 316) 153 = .ok (.iinc 5 1, 3) := d_300_153
theorem d_316_156 : decode (js_b 316) 156 = .ok (.goto (-151), 3) := d_300_156
theorem d_316_159 : decode (js_b 316) 159 = .ok (.lload_n 3, 1) := d_300_159
theorem d_316_160 : decode (js_b 316) 160 = .ok (.lload_n 1, 1) := d_300_160
theorem d_316_161 : decode (js_b 316) 161 = .ok (.lcmp, 1) := d_300_161
theorem d_316_162 : decode (js_b 316) 162 = .ok (.ifCond .ne 7, 3) := d_300_162
theorem d_316_165 : decode (js_b 316) 165 = .ok (.lload_n 1, 1) := d_300_165
theorem d_316_166 : decode (js_b 316) 166 = .ok (.goto 8, 3) := d_300_166
theorem d_316_169 : decode (js_b 316) 169 = .ok (.aload_n 0, 1) := d_300_169
theorem d_316_170 : decode (js_b 316) 170 = .ok (.lload_n 3, 1) := d_300_170
theorem d_316_171 : decode (js_b 316) 171 = .ok (.invokestatic 323, 3) := d_300_171
theorem d_316_174 : decode (js_b 316) 174 = .ok (.lreturn, 1) := d_300_174
theorem ki_316_15 : js_OkG 316 15 (o_Sh (fun x y => (x.toUInt64 >>> (y.toInt64.toUInt64 &&& Int64.toUInt64 63)).toInt64) 16) := js_St.okG (st_lushr d_316_15) (fun _ _ _ _ _ => rfl)
theorem ki_316_13 : js_OkG 316 13 (o_il 5 15) := js_St.okG (st_iload d_316_13) (fun _ _ _ _ _ => rfl)
theorem ki_316_12 : js_OkG 316 12 (o_ll 1 13) := js_St.okG (st_lloadn rfl d_316_12) (fun _ _ _ _ _ => rfl)
theorem ki_316_9 : js_OkG 316 9 (o_cge 159 12) := js_St.okG (st_icge (by decide) d_316_9) (fun _ _ _ _ _ => rfl)
theorem ki_316_7 : js_OkG 316 7 (o_ic 64 9) := js_St.okG (st_bipush rfl d_316_7) (fun _ _ _ _ _ => rfl)
theorem ki_316_5 : js_OkG 316 5 (o_il 5 7) := js_St.okG (st_iload d_316_5) (fun _ _ _ _ _ => rfl)
theorem ki_316_3 : js_OkG 316 3 (o_is 5 5) := js_St.okG (st_istore (Nat.le_of_ble_eq_true rfl) d_316_3) (fun _ _ _ _ _ => rfl)
theorem ki_316_2 : js_OkG 316 2 (o_ic 0 3) := js_St.okG (st_iconst rfl d_316_2) (fun _ _ _ _ _ => rfl)
theorem ki_316_1 : js_OkG 316 1 (o_ls 3 2) := js_St.okG (st_lstoren rfl (Nat.le_of_ble_eq_true rfl) d_316_1) (fun _ _ _ _ _ => rfl)
theorem ki_316_0 : js_OkG 316 0 (o_ll 1 1) := js_St.okG (st_lloadn rfl d_316_0) (fun _ _ _ _ _ => rfl)
theorem ki_316_30 : js_OkG 316 30 (o_il 5 32) := js_St.okG (st_iload d_316_30) (fun _ _ _ _ _ => rfl)
theorem ki_316_29 : js_OkG 316 29 (o_div 30) := js_St.okG (st_idiv d_316_29) (fun _ _ _ _ _ => rfl)
theorem ki_316_27 : js_OkG 316 27 (o_ic 8 29) := js_St.okG (st_bipush rfl d_316_27) (fun _ _ _ _ _ => rfl)
theorem ki_316_25 : js_OkG 316 25 (o_il 5 27) := js_St.okG (st_iload d_316_25) (fun _ _ _ _ _ => rfl)
theorem ki_316_24 : js_OkG 316 24 (o_al 0 25) := js_St.okG (st_aloadn rfl d_316_24) (fun _ _ _ _ _ => rfl)
theorem ki_316_23 : js_OkG 316 23 (o_ll 3 24) := js_St.okG (st_lloadn rfl d_316_23) (fun _ _ _ _ _ => rfl)
theorem ki_316_20 : js_OkG 316 20 (o_ne 153 23) := js_St.okG (st_ifne (by decide) d_316_20) (fun _ _ _ _ _ => rfl)
theorem ki_316_19 : js_OkG 316 19 (o_lcmp 20) := js_St.okG (st_lcmp d_316_19) (fun _ _ _ _ _ => rfl)
theorem ki_316_18 : js_OkG 316 18 (o_lc 1 19) := js_St.okG (st_lconst rfl d_316_18) (fun _ _ _ _ _ => rfl)
theorem ki_316_17 : js_OkG 316 17 (o_B2 (fun x y => x &&& y) 18) := js_St.okG (st_land d_316_17) (fun _ _ _ _ _ => rfl)
theorem ki_316_16 : js_OkG 316 16 (o_lc 1 17) := js_St.okG (st_lconst rfl d_316_16) (fun _ _ _ _ _ => rfl)
theorem ki_316_46 : js_OkG 316 46 (o_ic 8 48) := js_St.okG (st_bipush rfl d_316_46) (fun _ _ _ _ _ => rfl)
theorem ki_316_44 : js_OkG 316 44 (o_il 5 46) := js_St.okG (st_iload d_316_44) (fun _ _ _ _ _ => rfl)
theorem ki_316_43 : js_OkG 316 43 (o_lc 1 44) := js_St.okG (st_lconst rfl d_316_43) (fun _ _ _ _ _ => rfl)
theorem ki_316_40 : js_OkG 316 40 (o_cne 53 43) := js_St.okG (st_icne (by decide) d_316_40) (fun _ _ _ _ _ => rfl)
theorem ki_316_39 : js_OkG 316 39 (o_ic 1 40) := js_St.okG (st_iconst rfl d_316_39) (fun _ _ _ _ _ => rfl)
theorem ki_316_36 : js_OkG 316 36 (o_cI 176 4 0 39) := og_sIP rfl rfl kB_316_176 rfl kw_785 kw_786 d_316_36
theorem ki_316_35 : js_OkG 316 35 (o_ic 0 36) := js_St.okG (st_iconst rfl d_316_35) (fun _ _ _ _ _ => rfl)
theorem ki_316_34 : js_OkG 316 34 (o_rem 35) := js_St.okG (st_irem d_316_34) (fun _ _ _ _ _ => rfl)
theorem ki_316_32 : js_OkG 316 32 (o_ic 8 34) := js_St.okG (st_bipush rfl d_316_32) (fun _ _ _ _ _ => rfl)
theorem ki_316_63 : js_OkG 316 63 (o_il 5 65) := js_St.okG (st_iload d_316_63) (fun _ _ _ _ _ => rfl)
theorem ki_316_62 : js_OkG 316 62 (o_div 63) := js_St.okG (st_idiv d_316_62) (fun _ _ _ _ _ => rfl)
theorem ki_316_60 : js_OkG 316 60 (o_ic 8 62) := js_St.okG (st_bipush rfl d_316_60) (fun _ _ _ _ _ => rfl)
theorem ki_316_58 : js_OkG 316 58 (o_il 5 60) := js_St.okG (st_iload d_316_58) (fun _ _ _ _ _ => rfl)
theorem ki_316_57 : js_OkG 316 57 (o_al 0 58) := js_St.okG (st_aloadn rfl d_316_57) (fun _ _ _ _ _ => rfl)
theorem ki_316_56 : js_OkG 316 56 (o_ll 3 57) := js_St.okG (st_lloadn rfl d_316_56) (fun _ _ _ _ _ => rfl)
theorem ki_316_55 : js_OkG 316 55 (o_ls 3 56) := js_St.okG (st_lstoren rfl (Nat.le_of_ble_eq_true rfl) d_316_55) (fun _ _ _ _ _ => rfl)
theorem ki_316_54 : js_OkG 316 54 (o_B2 (fun x y => x ||| y) 55) := js_St.okG (st_lor d_316_54) (fun _ _ _ _ _ => rfl)
theorem ki_316_53 : js_OkG 316 53 (o_lc 0 54) := js_St.okG (st_lconst rfl d_316_53) (fun _ _ _ _ _ => rfl)
theorem ki_316_50 : js_OkG 316 50 (o_go 54) := js_St.okG (st_goto (by decide) d_316_50) (fun _ _ _ _ _ => rfl)
theorem ki_316_49 : js_OkG 316 49 (o_Sh (fun x y => x <<< (y.toInt64 &&& 63)) 50) := js_St.okG (st_lshl d_316_49) (fun _ _ _ _ _ => rfl)
theorem ki_316_48 : js_OkG 316 48 (o_b2 (fun x y => x - y) 49) := js_St.okG (st_isub d_316_48) (fun _ _ _ _ _ => rfl)
theorem ki_316_79 : js_OkG 316 79 (o_ic 1 80) := js_St.okG (st_iconst rfl d_316_79) (fun _ _ _ _ _ => rfl)
theorem ki_316_77 : js_OkG 316 77 (o_il 5 79) := js_St.okG (st_iload d_316_77) (fun _ _ _ _ _ => rfl)
theorem ki_316_76 : js_OkG 316 76 (o_lc 1 77) := js_St.okG (st_lconst rfl d_316_76) (fun _ _ _ _ _ => rfl)
theorem ki_316_73 : js_OkG 316 73 (o_cne 85 76) := js_St.okG (st_icne (by decide) d_316_73) (fun _ _ _ _ _ => rfl)
theorem ki_316_72 : js_OkG 316 72 (o_ic 1 73) := js_St.okG (st_iconst rfl d_316_72) (fun _ _ _ _ _ => rfl)
theorem ki_316_69 : js_OkG 316 69 (o_cI 176 4 0 72) := og_sIP rfl rfl kB_316_176 rfl kw_785 kw_786 d_316_69
theorem ki_316_68 : js_OkG 316 68 (o_ic 1 69) := js_St.okG (st_iconst rfl d_316_68) (fun _ _ _ _ _ => rfl)
theorem ki_316_67 : js_OkG 316 67 (o_rem 68) := js_St.okG (st_irem d_316_67) (fun _ _ _ _ _ => rfl)
theorem ki_316_65 : js_OkG 316 65 (o_ic 8 67) := js_St.okG (st_bipush rfl d_316_65) (fun _ _ _ _ _ => rfl)
theorem ki_316_95 : js_OkG 316 95 (o_il 5 97) := js_St.okG (st_iload d_316_95) (fun _ _ _ _ _ => rfl)
theorem ki_316_94 : js_OkG 316 94 (o_div 95) := js_St.okG (st_idiv d_316_94) (fun _ _ _ _ _ => rfl)
theorem ki_316_92 : js_OkG 316 92 (o_ic 8 94) := js_St.okG (st_bipush rfl d_316_92) (fun _ _ _ _ _ => rfl)
theorem ki_316_90 : js_OkG 316 90 (o_il 5 92) := js_St.okG (st_iload d_316_90) (fun _ _ _ _ _ => rfl)
theorem ki_316_89 : js_OkG 316 89 (o_al 0 90) := js_St.okG (st_aloadn rfl d_316_89) (fun _ _ _ _ _ => rfl)
theorem ki_316_88 : js_OkG 316 88 (o_ll 3 89) := js_St.okG (st_lloadn rfl d_316_88) (fun _ _ _ _ _ => rfl)
theorem ki_316_87 : js_OkG 316 87 (o_ls 3 88) := js_St.okG (st_lstoren rfl (Nat.le_of_ble_eq_true rfl) d_316_87) (fun _ _ _ _ _ => rfl)
theorem ki_316_86 : js_OkG 316 86 (o_B2 (fun x y => x ||| y) 87) := js_St.okG (st_lor d_316_86) (fun _ _ _ _ _ => rfl)
theorem ki_316_85 : js_OkG 316 85 (o_lc 0 86) := js_St.okG (st_lconst rfl d_316_85) (fun _ _ _ _ _ => rfl)
theorem ki_316_82 : js_OkG 316 82 (o_go 86) := js_St.okG (st_goto (by decide) d_316_82) (fun _ _ _ _ _ => rfl)
theorem ki_316_81 : js_OkG 316 81 (o_Sh (fun x y => x <<< (y.toInt64 &&& 63)) 82) := js_St.okG (st_lshl d_316_81) (fun _ _ _ _ _ => rfl)
theorem ki_316_80 : js_OkG 316 80 (o_b2 (fun x y => x + y) 81) := js_St.okG (st_iadd d_316_80) (fun _ _ _ _ _ => rfl)
theorem ki_316_111 : js_OkG 316 111 (o_ic 8 113) := js_St.okG (st_bipush rfl d_316_111) (fun _ _ _ _ _ => rfl)
theorem ki_316_109 : js_OkG 316 109 (o_il 5 111) := js_St.okG (st_iload d_316_109) (fun _ _ _ _ _ => rfl)
theorem ki_316_108 : js_OkG 316 108 (o_lc 1 109) := js_St.okG (st_lconst rfl d_316_108) (fun _ _ _ _ _ => rfl)
theorem ki_316_105 : js_OkG 316 105 (o_cne 118 108) := js_St.okG (st_icne (by decide) d_316_105) (fun _ _ _ _ _ => rfl)
theorem ki_316_104 : js_OkG 316 104 (o_ic 1 105) := js_St.okG (st_iconst rfl d_316_104) (fun _ _ _ _ _ => rfl)
theorem ki_316_101 : js_OkG 316 101 (o_cI 176 4 0 104) := og_sIP rfl rfl kB_316_176 rfl kw_785 kw_786 d_316_101
theorem ki_316_100 : js_OkG 316 100 (o_ic 2 101) := js_St.okG (st_iconst rfl d_316_100) (fun _ _ _ _ _ => rfl)
theorem ki_316_99 : js_OkG 316 99 (o_rem 100) := js_St.okG (st_irem d_316_99) (fun _ _ _ _ _ => rfl)
theorem ki_316_97 : js_OkG 316 97 (o_ic 8 99) := js_St.okG (st_bipush rfl d_316_97) (fun _ _ _ _ _ => rfl)
theorem ki_316_127 : js_OkG 316 127 (o_div 128) := js_St.okG (st_idiv d_316_127) (fun _ _ _ _ _ => rfl)
theorem ki_316_125 : js_OkG 316 125 (o_ic 8 127) := js_St.okG (st_bipush rfl d_316_125) (fun _ _ _ _ _ => rfl)
theorem ki_316_123 : js_OkG 316 123 (o_il 5 125) := js_St.okG (st_iload d_316_123) (fun _ _ _ _ _ => rfl)
theorem ki_316_122 : js_OkG 316 122 (o_al 0 123) := js_St.okG (st_aloadn rfl d_316_122) (fun _ _ _ _ _ => rfl)
theorem ki_316_121 : js_OkG 316 121 (o_ll 3 122) := js_St.okG (st_lloadn rfl d_316_121) (fun _ _ _ _ _ => rfl)
theorem ki_316_120 : js_OkG 316 120 (o_ls 3 121) := js_St.okG (st_lstoren rfl (Nat.le_of_ble_eq_true rfl) d_316_120) (fun _ _ _ _ _ => rfl)
theorem ki_316_119 : js_OkG 316 119 (o_B2 (fun x y => x ||| y) 120) := js_St.okG (st_lor d_316_119) (fun _ _ _ _ _ => rfl)
theorem ki_316_118 : js_OkG 316 118 (o_lc 0 119) := js_St.okG (st_lconst rfl d_316_118) (fun _ _ _ _ _ => rfl)
theorem ki_316_115 : js_OkG 316 115 (o_go 119) := js_St.okG (st_goto (by decide) d_316_115) (fun _ _ _ _ _ => rfl)
theorem ki_316_114 : js_OkG 316 114 (o_Sh (fun x y => x <<< (y.toInt64 &&& 63)) 115) := js_St.okG (st_lshl d_316_114) (fun _ _ _ _ _ => rfl)
theorem ki_316_113 : js_OkG 316 113 (o_b2 (fun x y => x + y) 114) := js_St.okG (st_iadd d_316_113) (fun _ _ _ _ _ => rfl)
theorem ki_316_142 : js_OkG 316 142 (o_il 5 144) := js_St.okG (st_iload d_316_142) (fun _ _ _ _ _ => rfl)
theorem ki_316_141 : js_OkG 316 141 (o_lc 1 142) := js_St.okG (st_lconst rfl d_316_141) (fun _ _ _ _ _ => rfl)
theorem ki_316_138 : js_OkG 316 138 (o_cne 150 141) := js_St.okG (st_icne (by decide) d_316_138) (fun _ _ _ _ _ => rfl)
theorem ki_316_137 : js_OkG 316 137 (o_ic 1 138) := js_St.okG (st_iconst rfl d_316_137) (fun _ _ _ _ _ => rfl)
theorem ki_316_134 : js_OkG 316 134 (o_cI 176 4 0 137) := og_sIP rfl rfl kB_316_176 rfl kw_785 kw_786 d_316_134
theorem ki_316_133 : js_OkG 316 133 (o_ic 3 134) := js_St.okG (st_iconst rfl d_316_133) (fun _ _ _ _ _ => rfl)
theorem ki_316_132 : js_OkG 316 132 (o_rem 133) := js_St.okG (st_irem d_316_132) (fun _ _ _ _ _ => rfl)
theorem ki_316_130 : js_OkG 316 130 (o_ic 8 132) := js_St.okG (st_bipush rfl d_316_130) (fun _ _ _ _ _ => rfl)
theorem ki_316_128 : js_OkG 316 128 (o_il 5 130) := js_St.okG (st_iload d_316_128) (fun _ _ _ _ _ => rfl)
theorem ki_316_159 : js_OkG 316 159 (o_ll 3 160) := js_St.okG (st_lloadn rfl d_316_159) (fun _ _ _ _ _ => rfl)
theorem ki_316_156 : js_OkG 316 156 (o_go 5) := js_St.okG (st_goto (by decide) d_316_156) (fun _ _ _ _ _ => rfl)
theorem ki_316_153 : js_OkG 316 153 (o_inc 5 1 156) := js_St.okG (st_iinc rfl (Nat.le_of_ble_eq_true rfl) d_316_153) (fun _ _ _ _ _ => rfl)
theorem ki_316_152 : js_OkG 316 152 (o_ls 3 153) := js_St.okG (st_lstoren rfl (Nat.le_of_ble_eq_true rfl) d_316_152) (fun _ _ _ _ _ => rfl)
theorem ki_316_151 : js_OkG 316 151 (o_B2 (fun x y => x ||| y) 152) := js_St.okG (st_lor d_316_151) (fun _ _ _ _ _ => rfl)
theorem ki_316_150 : js_OkG 316 150 (o_lc 0 151) := js_St.okG (st_lconst rfl d_316_150) (fun _ _ _ _ _ => rfl)
theorem ki_316_147 : js_OkG 316 147 (o_go 151) := js_St.okG (st_goto (by decide) d_316_147) (fun _ _ _ _ _ => rfl)
theorem ki_316_146 : js_OkG 316 146 (o_Sh (fun x y => x <<< (y.toInt64 &&& 63)) 147) := js_St.okG (st_lshl d_316_146) (fun _ _ _ _ _ => rfl)
theorem ki_316_145 : js_OkG 316 145 (o_b2 (fun x y => x - y) 146) := js_St.okG (st_isub d_316_145) (fun _ _ _ _ _ => rfl)
theorem ki_316_144 : js_OkG 316 144 (o_ic 1 145) := js_St.okG (st_iconst rfl d_316_144) (fun _ _ _ _ _ => rfl)
theorem ki_316_174 : js_OkG 316 174 (o_rL) := og_rL rfl d_316_174
theorem ki_316_171 : js_OkG 316 171 (o_cL 317 2 0 174) := og_sLP rfl rfl kB_316_317 rfl kw_949 kw_950 d_316_171
theorem ki_316_170 : js_OkG 316 170 (o_ll 3 171) := js_St.okG (st_lloadn rfl d_316_170) (fun _ _ _ _ _ => rfl)
theorem ki_316_169 : js_OkG 316 169 (o_al 0 170) := js_St.okG (st_aloadn rfl d_316_169) (fun _ _ _ _ _ => rfl)
theorem ki_316_166 : js_OkG 316 166 (o_go 174) := js_St.okG (st_goto (by decide) d_316_166) (fun _ _ _ _ _ => rfl)
theorem ki_316_165 : js_OkG 316 165 (o_ll 1 166) := js_St.okG (st_lloadn rfl d_316_165) (fun _ _ _ _ _ => rfl)
theorem ki_316_162 : js_OkG 316 162 (o_ne 169 165) := js_St.okG (st_ifne (by decide) d_316_162) (fun _ _ _ _ _ => rfl)
theorem ki_316_161 : js_OkG 316 161 (o_lcmp 162) := js_St.okG (st_lcmp d_316_161) (fun _ _ _ _ _ => rfl)
theorem ki_316_160 : js_OkG 316 160 (o_ll 1 161) := js_St.okG (st_lloadn rfl d_316_160) (fun _ _ _ _ _ => rfl)
set_option maxRecDepth 20000 in
theorem mk_316 : js_mokG 316 := jk_tab (fun _ => js_St.okG st_bad (fun _ _ _ _ _ => rfl)) (show jk_all (js_OkG 316) 0 (tb_G 316) from ⟨⟨ki_316_0, ⟨ki_316_1, ⟨ki_316_2, ⟨ki_316_3, ⟨kbadG, ⟨ki_316_5, ⟨kbadG, ⟨ki_316_7, ⟨kbadG, ⟨ki_316_9, ⟨kbadG, ⟨kbadG, ⟨ki_316_12, ⟨ki_316_13, ⟨kbadG, ⟨ki_316_15, trivial⟩⟩⟩⟩⟩⟩⟩⟩⟩⟩⟩⟩⟩⟩⟩⟩, ⟨⟨ki_316_16, ⟨ki_316_17, ⟨ki_316_18, ⟨ki_316_19, ⟨ki_316_20, ⟨kbadG, ⟨kbadG, ⟨ki_316_23, ⟨ki_316_24, ⟨ki_316_25, ⟨kbadG, ⟨ki_316_27, ⟨kbadG, ⟨ki_316_29, ⟨ki_316_30, ⟨kbadG, trivial⟩⟩⟩⟩⟩⟩⟩⟩⟩⟩⟩⟩⟩⟩⟩⟩, ⟨⟨ki_316_32, ⟨kbadG, ⟨ki_316_34, ⟨ki_316_35, ⟨ki_316_36, ⟨kbadG, ⟨kbadG, ⟨ki_316_39, ⟨ki_316_40, ⟨kbadG, ⟨kbadG, ⟨ki_316_43, ⟨ki_316_44, ⟨kbadG, ⟨ki_316_46, ⟨kbadG, trivial⟩⟩⟩⟩⟩⟩⟩⟩⟩⟩⟩⟩⟩⟩⟩⟩, ⟨⟨ki_316_48, ⟨ki_316_49, ⟨ki_316_50, ⟨kbadG, ⟨kbadG, ⟨ki_316_53, ⟨ki_316_54, ⟨ki_316_55, ⟨ki_316_56, ⟨ki_316_57, ⟨ki_316_58, ⟨kbadG, ⟨ki_316_60, ⟨kbadG, ⟨ki_316_62, ⟨ki_316_63, trivial⟩⟩⟩⟩⟩⟩⟩⟩⟩⟩⟩⟩⟩⟩⟩⟩, ⟨⟨kbadG, ⟨ki_316_65, ⟨kbadG, ⟨ki_316_67, ⟨ki_316_68, ⟨ki_316_69, ⟨kbadG, ⟨kbadG, ⟨ki_316_72, ⟨ki_316_73, ⟨kbadG, ⟨kbadG, ⟨ki_316_76, ⟨ki_316_77, ⟨kbadG, ⟨ki_316_79, trivial⟩⟩⟩⟩⟩⟩⟩⟩⟩⟩⟩⟩⟩⟩⟩⟩, ⟨⟨ki_316_80, ⟨ki_316_81, ⟨ki_316_82, ⟨kbadG, ⟨kbadG, ⟨ki_316_85, ⟨ki_316_86, ⟨ki_316_87, ⟨ki_316_88, ⟨ki_316_89, ⟨ki_316_90, ⟨kbadG, ⟨ki_316_92, ⟨kbadG, ⟨ki_316_94, ⟨ki_316_95, trivial⟩⟩⟩⟩⟩⟩⟩⟩⟩⟩⟩⟩⟩⟩⟩⟩, ⟨⟨kbadG, ⟨ki_316_97, ⟨kbadG, ⟨ki_316_99, ⟨ki_316_100, ⟨ki_316_101, ⟨kbadG, ⟨kbadG, ⟨ki_316_104, ⟨ki_316_105, ⟨kbadG, ⟨kbadG, ⟨ki_316_108, ⟨ki_316_109, ⟨kbadG, ⟨ki_316_111, trivial⟩⟩⟩⟩⟩⟩⟩⟩⟩⟩⟩⟩⟩⟩⟩⟩, ⟨⟨kbadG, ⟨ki_316_113, ⟨ki_316_114, ⟨ki_316_115, ⟨kbadG, ⟨kbadG, ⟨ki_316_118, ⟨ki_316_119, ⟨ki_316_120, ⟨ki_316_121, ⟨ki_316_122, ⟨ki_316_123, ⟨kbadG, ⟨ki_316_125, ⟨kbadG, ⟨ki_316_127, trivial⟩⟩⟩⟩⟩⟩⟩⟩⟩⟩⟩⟩⟩⟩⟩⟩, ⟨⟨ki_316_128, ⟨kbadG, ⟨ki_316_130, ⟨kbadG, ⟨ki_316_132, ⟨ki_316_133, ⟨ki_316_134, ⟨kbadG, ⟨kbadG, ⟨ki_316_137, ⟨ki_316_138, ⟨kbadG, ⟨kbadG, ⟨ki_316_141, ⟨ki_316_142, ⟨kbadG, trivial⟩⟩⟩⟩⟩⟩⟩⟩⟩⟩⟩⟩⟩⟩⟩⟩, ⟨⟨ki_316_144, ⟨ki_316_145, ⟨ki_316_146, ⟨ki_316_147, ⟨kbadG, ⟨kbadG, ⟨ki_316_150, ⟨ki_316_151, ⟨ki_316_152, ⟨ki_316_153, ⟨kbadG, ⟨kbadG, ⟨ki_316_156, ⟨kbadG, ⟨kbadG, ⟨ki_316_159, trivial⟩⟩⟩⟩⟩⟩⟩⟩⟩⟩⟩⟩⟩⟩⟩⟩, ⟨⟨ki_316_160, ⟨ki_316_161, ⟨ki_316_162, ⟨kbadG, ⟨kbadG, ⟨ki_316_165, ⟨ki_316_166, ⟨kbadG, ⟨kbadG, ⟨ki_316_169, ⟨ki_316_170, ⟨ki_316_171, ⟨kbadG, ⟨kbadG, ⟨ki_316_174, trivial⟩⟩⟩⟩⟩⟩⟩⟩⟩⟩⟩⟩⟩⟩⟩, trivial⟩⟩⟩⟩⟩⟩⟩⟩⟩⟩⟩)
theorem d_317_0 : decode (js_b 317) 0 = .ok (.lload_n 1, 1) := d_300_0
theorem d_317_1 : decode (js_b 317) 1 = .ok (.lstore_n 3, 1) := d_300_1
theorem d_317_2 : decode (js_b 317) 2 = .ok (.iconst 0, 1) := d_300_2
theorem d_317_3 : decode (js_b 317) 3 = .ok (.istore 5, 2) := d_300_3
theorem d_317_5 : decode (js_b 317) 5 = .ok (.iload 5, 2) := d_300_5
theorem d_317_7 : decode (js_b 317) 7 = .ok (.bipush 64, 2) := d_300_7
theorem d_317_9 : decode (js_b 317) 9 = .ok (.if_icmp .ge 150, 3) := d_300_9
theorem d_317_12 : decode (js_b 317) 12 = .ok (.lload_n 1, 1) := d_300_12
theorem d_317_13 : decode (js_b 317) 13 = .ok (.iload 5, 2) := d_300_13
theorem d_317_15 : decode (js_b 317) 15 = .ok (.lushr, 1) := d_300_15
theorem d_317_16 : decode (js_b 317) 16 = .ok (.lconst 1, 1) := d_300_16
theorem d_317_17 : decode (js_b 317) 17 = .ok (.land, 1) := d_300_17
theorem d_317_18 : decode (js_b 317) 18 = .ok (.lconst 1, 1) := d_300_18
theorem d_317_19 : decode (js_b 317) 19 = .ok (.lcmp, 1) := d_300_19
theorem d_317_20 : decode (js_b 317) 20 = .ok (.ifCond .ne 133, 3) := d_300_20
theorem d_317_23 : decode (js_b 317) 23 = .ok (.lload_n 3, 1) := d_300_23
theorem d_317_24 : decode (js_b 317) 24 = .ok (.aload_n 0, 1) := d_300_24
theorem d_317_25 : decode (js_b 317) 25 = .ok (.iload 5, 2) := d_300_25
theorem d_317_27 : decode (js_b 317) 27 = .ok (.bipush 8, 2) := d_300_27
theorem d_317_29 : decode (js_b 317) 29 = .ok (.idiv, 1) := d_300_29
theorem d_317_30 : decode (js_b 317) 30 = .ok (.iload 5, 2) := d_300_30
theorem d_317_32 : decode (js_b 317) 32 = .ok (.bipush 8, 2) := d_300_32
theorem d_317_34 : decode (js_b 317) 34 = .ok (.irem, 1) := d_300_34
theorem d_317_35 : decode (js_b 317) 35 = .ok (.iconst 0, 1) := d_300_35
theorem d_317_36 : decode (js_b 317) 36 = .ok (.invokestatic 198, 3) := d_300_36
theorem d_317_39 : decode (js_b 317) 39 = .ok (.iconst 1, 1) := d_300_39
theorem d_317_40 : decode (js_b 317) 40 = .ok (.if_icmp .ne 13, 3) := d_300_40
theorem d_317_43 : decode (js_b 317) 43 = .ok (.lconst 1, 1) := d_300_43
theorem d_317_44 : decode (js_b 317) 44 = .ok (.iload 5, 2) := d_300_44
theorem d_317_46 : decode (js_b 317) 46 = .ok (.bipush 8, 2) := d_300_46
theorem d_317_48 : decode (js_b 317) 48 = .ok (.isub, 1) := d_300_48
theorem d_317_49 : decode (js_b 317) 49 = .ok (.lshl, 1) := d_300_49
theorem d_317_50 : decode (js_b 317) 50 = .ok (.goto 4, 3) := d_300_50
theorem d_317_53 : decode (js_b 317) 53 = .ok (.lconst 0, 1) := d_300_53
theorem d_317_54 : decode (js_b 317) 54 = .ok (.lor, 1) := d_300_54
theorem d_317_55 : decode (js_b 317) 55 = .ok (.lstore_n 3, 1) := d_300_55
theorem d_317_56 : decode (js_b 317) 56 = .ok (.lload_n 3, 1) := d_300_56
theorem d_317_57 : decode (js_b 317) 57 = .ok (.aload_n 0, 1) := d_300_57
theorem d_317_58 : decode (js_b 317) 58 = .ok (.iload 5, 2) := d_300_58
theorem d_317_60 : decode (js_b 317) 60 = .ok (.bipush 8, 2) := d_300_60
theorem d_317_62 : decode (js_b 317) 62 = .ok (.idiv, 1) := d_300_62
theorem d_317_63 : decode (js_b 317) 63 = .ok (.iload 5, 2) := d_300_63
theorem d_317_65 : decode (js_b 317) 65 = .ok (.bipush 8, 2) := d_300_65
theorem d_317_67 : decode (js_b 317) 67 = .ok (.irem, 1) := d_300_67
theorem d_317_68 : decode (js_b 317) 68 = .ok (.iconst 1, 1) := d_300_68
theorem d_317_69 : decode (js_b 317) 69 = .ok (.invokestatic 198, 3) := d_300_69
theorem d_317_72 : decode (js_b 317) 72 = .ok (.iconst 1, 1) := d_300_72
theorem d_317_73 : decode (js_b 317) 73 = .ok (.if_icmp .ne 12, 3) := d_300_73
theorem d_317_76 : decode (js_b 317) 76 = .ok (.lconst 1, 1) := d_300_76
theorem d_317_77 : decode (js_b 317) 77 = .ok (.iload 5, 2) := d_300_77
theorem d_317_79 : decode (js_b 317) 79 = .ok (.iconst 1, 1) := d_300_79
theorem d_317_80 : decode (js_b 317) 80 = .ok (.iadd, 1) := d_300_80
theorem d_317_81 : decode (js_b 317) 81 = .ok (.lshl, 1) := d_300_81
theorem d_317_82 : decode (js_b 317) 82 = .ok (.goto 4, 3) := d_300_82
theorem d_317_85 : decode (js_b 317) 85 = .ok (.lconst 0, 1) := d_300_85
theorem d_317_86 : decode (js_b 317) 86 = .ok (.lor, 1) := d_300_86
theorem d_317_87 : decode (js_b 317) 87 = .ok (.lstore_n 3, 1) := d_300_87
theorem d_317_88 : decode (js_b 317) 88 = .ok (.lload_n 3, 1) := d_300_88
theorem d_317_89 : decode (js_b 317) 89 = .ok (.aload_n 0, 1) := d_300_89
theorem d_317_90 : decode (js_b 317) 90 = .ok (.iload 5, 2) := d_300_90
theorem d_317_92 : decode (js_b 317) 92 = .ok (.bipush 8, 2) := d_300_92
theorem d_317_94 : decode (js_b 317) 94 = .ok (.idiv, 1) := d_300_94
theorem d_317_95 : decode (js_b 317) 95 = .ok (.iload 5, 2) := d_300_95
theorem d_317_97 : decode (js_b 317) 97 = .ok (.bipush 8, 2) := d_300_97
theorem d_317_99 : decode (js_b 317) 99 = .ok (.irem, 1) := d_300_99
theorem d_317_100 : decode (js_b 317) 100 = .ok (.iconst 2, 1) := d_300_100
theorem d_317_101 : decode (js_b 317) 101 = .ok (.invokestatic 198, 3) := d_300_101
theorem d_317_104 : decode (js_b 317) 104 = .ok (.iconst 1, 1) := d_300_104
theorem d_317_105 : decode (js_b 317) 105 = .ok (.if_icmp .ne 13, 3) := d_300_105
theorem d_317_108 : decode (js_b 317) 108 = .ok (.lconst 1, 1) := d_300_108
theorem d_317_109 : decode (js_b 317) 109 = .ok (.iload 5, 2) := d_300_109
theorem d_317_111 : decode (js_b 317) 111 = .ok (.bipush 8, 2) := d_300_111
theorem d_317_113 : decode (js_b 317) 113 = .ok (.iadd, 1) := d_300_113
theorem d_317_114 : decode (js_b 317) 114 = .ok (.lshl, 1) := d_300_114
theorem d_317_115 : decode (js_b 317) 115 = .ok (.goto 4, 3) := d_300_115
theorem d_317_118 : decode (js_b 317) 118 = .ok (.lconst 0, 1) := d_300_118
theorem d_317_119 : decode (js_b 317) 119 = .ok (.lor, 1) := d_300_119
theorem d_317_120 : decode (js_b 317) 120 = .ok (.lstore_n 3, 1) := d_300_120
theorem d_317_121 : decode (js_b 317) 121 = .ok (.lload_n 3, 1) := d_300_121
theorem d_317_122 : decode (js_b 317) 122 = .ok (.aload_n 0, 1) := d_300_122
theorem d_317_123 : decode (js_b 317) 123 = .ok (.iload 5, 2) := d_300_123
theorem d_317_125 : decode (js_b 317) 125 = .ok (.bipush 8, 2) := d_300_125
theorem d_317_127 : decode (js_b 317) 127 = .ok (.idiv, 1) := d_300_127
theorem d_317_128 : decode (js_b 317) 128 = .ok (.iload 5, 2) := d_300_128
theorem d_317_130 : decode (js_b 317) 130 = .ok (.bipush 8, 2) := d_300_130
theorem d_317_132 : decode (js_b 317) 132 = .ok (.irem, 1) := d_300_132
theorem d_317_133 : decode (js_b 317) 133 = .ok (.iconst 3, 1) := d_300_133
theorem d_317_134 : decode (js_b 317) 134 = .ok (.invokestatic 198, 3) := d_300_134
theorem d_317_137 : decode (js_b 317) 137 = .ok (.iconst 1, 1) := d_300_137
theorem d_317_138 : decode (js_b 317) 138 = .ok (.if_icmp .ne 12, 3) := d_300_138
theorem d_317_141 : decode (js_b 317) 141 = .ok (.lconst 1, 1) := d_300_141
theorem d_317_142 : decode (js_b 317) 142 = .ok (.iload 5, 2) := d_300_142
theorem d_317_144 : decode (js_b 317) 144 = .ok (.iconst 1, 1) := d_300_144
theorem d_317_145 : decode (js_b 317) 145 = .ok (.isub, 1) := d_300_145
theorem d_317_146 : decode (js_b 317) 146 = .ok (.lshl, 1) := d_300_146
theorem d_317_147 : decode (js_b 317) 147 = .ok (.goto 4, 3) := d_300_147
theorem d_317_150 : decode (js_b 317) 150 = .ok (.lconst 0, 1) := d_300_150
theorem d_317_151 : decode (js_b 317) 151 = .ok (.lor, 1) := d_300_151
theorem d_317_152 : decode (js_b 317) 152 = .ok (.lstore_n 3, 1) := d_300_152
theorem d_317_153 : decode (js_b 317) 153 = .ok (.iinc 5 1, 3) := d_300_153
theorem d_317_156 : decode (js_b 317) 156 = .ok (.goto (-151), 3) := d_300_156
theorem d_317_159 : decode (js_b 317) 159 = .ok (.lload_n 3, 1) := d_300_159
theorem d_317_160 : decode (js_b 317) 160 = .ok (.lload_n 1, 1) := d_300_160
theorem d_317_161 : decode (js_b 317) 161 = .ok (.lcmp, 1) := d_300_161
theorem d_317_162 : decode (js_b 317) 162 = .ok (.ifCond .ne 7, 3) := d_300_162
theorem d_317_165 : decode (js_b 317) 165 = .ok (.lload_n 1, 1) := d_300_165
theorem d_317_166 : decode (js_b 317) 166 = .ok (.goto 8, 3) := d_300_166
theorem d_317_169 : decode (js_b 317) 169 = .ok (.aload_n 0, 1) := d_300_169
theorem d_317_170 : decode (js_b 317) 170 = .ok (.lload_n 3, 1) := d_300_170
theorem d_317_171 : decode (js_b 317) 171 = .ok (.invokestatic 323, 3) := d_300_171
theorem d_317_174 : decode (js_b 317) 174 = .ok (.lreturn, 1) := d_300_174
theorem ki_317_15 : js_OkG 317 15 (o_Sh (fun x y => (x.toUInt64 >>> (y.toInt64.toUInt64 &&& Int64.toUInt64 63)).toInt64) 16) := js_St.okG (st_lushr d_317_15) (fun _ _ _ _ _ => rfl)
theorem ki_317_13 : js_OkG 317 13 (o_il 5 15) := js_St.okG (st_iload d_317_13) (fun _ _ _ _ _ => rfl)
theorem ki_317_12 : js_OkG 317 12 (o_ll 1 13) := js_St.okG (st_lloadn rfl d_317_12) (fun _ _ _ _ _ => rfl)
theorem ki_317_9 : js_OkG 317 9 (o_cge 159 12) := js_St.okG (st_icge (by decide) d_317_9) (fun _ _ _ _ _ => rfl)
theorem ki_317_7 : js_OkG 317 7 (o_ic 64 9) := js_St.okG (st_bipush rfl d_317_7) (fun _ _ _ _ _ => rfl)
theorem ki_317_5 : js_OkG 317 5 (o_il 5 7) := js_St.okG (st_iload d_317_5) (fun _ _ _ _ _ => rfl)
theorem ki_317_3 : js_OkG 317 3 (o_is 5 5) := js_St.okG (st_istore (Nat.le_of_ble_eq_true rfl) d_317_3) (fun _ _ _ _ _ => rfl)
theorem ki_317_2 : js_OkG 317 2 (o_ic 0 3) := js_St.okG (st_iconst rfl d_317_2) (fun _ _ _ _ _ => rfl)
theorem ki_317_1 : js_OkG 317 1 (o_ls 3 2) := js_St.okG (st_lstoren rfl (Nat.le_of_ble_eq_true rfl) d_317_1) (fun _ _ _ _ _ => rfl)
theorem ki_317_0 : js_OkG 317 0 (o_ll 1 1) := js_St.okG (st_lloadn rfl d_317_0) (fun _ _ _ _ _ => rfl)
theorem ki_317_30 : js_OkG 317 30 (o_il 5 32) := js_St.okG (st_iload d_317_30) (fun _ _ _ _ _ => rfl)
theorem ki_317_29 : js_OkG 317 29 (o_div 30) := js_St.okG (st_idiv d_317_29) (fun _ _ _ _ _ => rfl)
theorem ki_317_27 : js_OkG 317 27 (o_ic 8 29) := js_St.okG (st_bipush rfl d_317_27) (fun _ _ _ _ _ => rfl)
theorem ki_317_25 : js_OkG 317 25 (o_il 5 27) := js_St.okG (st_iload d_317_25) (fun _ _ _ _ _ => rfl)
theorem ki_317_24 : js_OkG 317 24 (o_al 0 25) := js_St.okG (st_aloadn rfl d_317_24) (fun _ _ _ _ _ => rfl)
theorem ki_317_23 : js_OkG 317 23 (o_ll 3 24) := js_St.okG (st_lloadn rfl d_317_23) (fun _ _ _ _ _ => rfl)
theorem ki_317_20 : js_OkG 317 20 (o_ne 153 23) := js_St.okG (st_ifne (by decide) d_317_20) (fun _ _ _ _ _ => rfl)
theorem ki_317_19 : js_OkG 317 19 (o_lcmp 20) := js_St.okG (st_lcmp d_317_19) (fun _ _ _ _ _ => rfl)
theorem ki_317_18 : js_OkG 317 18 (o_lc 1 19) := js_St.okG (st_lconst rfl d_317_18) (fun _ _ _ _ _ => rfl)
theorem ki_317_17 : js_OkG 317 17 (o_B2 (fun x y => x &&& y) 18) := js_St.okG (st_land d_317_17) (fun _ _ _ _ _ => rfl)
theorem ki_317_16 : js_OkG 317 16 (o_lc 1 17) := js_St.okG (st_lconst rfl d_317_16) (fun _ _ _ _ _ => rfl)
theorem ki_317_46 : js_OkG 317 46 (o_ic 8 48) := js_St.okG (st_bipush rfl d_317_46) (fun _ _ _ _ _ => rfl)
theorem ki_317_44 : js_OkG 317 44 (o_il 5 46) := js_St.okG (st_iload d_317_44) (fun _ _ _ _ _ => rfl)
theorem ki_317_43 : js_OkG 317 43 (o_lc 1 44) := js_St.okG (st_lconst rfl d_317_43) (fun _ _ _ _ _ => rfl)
theorem ki_317_40 : js_OkG 317 40 (o_cne 53 43) := js_St.okG (st_icne (by decide) d_317_40) (fun _ _ _ _ _ => rfl)
theorem ki_317_39 : js_OkG 317 39 (o_ic 1 40) := js_St.okG (st_iconst rfl d_317_39) (fun _ _ _ _ _ => rfl)
theorem ki_317_36 : js_OkG 317 36 (o_cI 176 4 0 39) := og_sIP rfl rfl kB_317_176 rfl kw_785 kw_786 d_317_36
theorem ki_317_35 : js_OkG 317 35 (o_ic 0 36) := js_St.okG (st_iconst rfl d_317_35) (fun _ _ _ _ _ => rfl)
theorem ki_317_34 : js_OkG 317 34 (o_rem 35) := js_St.okG (st_irem d_317_34) (fun _ _ _ _ _ => rfl)
theorem ki_317_32 : js_OkG 317 32 (o_ic 8 34) := js_St.okG (st_bipush rfl d_317_32) (fun _ _ _ _ _ => rfl)
theorem ki_317_63 : js_OkG 317 63 (o_il 5 65) := js_St.okG (st_iload d_317_63) (fun _ _ _ _ _ => rfl)
theorem ki_317_62 : js_OkG 317 62 (o_div 63) := js_St.okG (st_idiv d_317_62) (fun _ _ _ _ _ => rfl)
theorem ki_317_60 : js_OkG 317 60 (o_ic 8 62) := js_St.okG (st_bipush rfl d_317_60) (fun _ _ _ _ _ => rfl)
theorem ki_317_58 : js_OkG 317 58 (o_il 5 60) := js_St.okG (st_iload d_317_58) (fun _ _ _ _ _ => rfl)
theorem ki_317_57 : js_OkG 317 57 (o_al 0 58) := js_St.okG (st_aloadn rfl d_317_57) (fun _ _ _ _ _ => rfl)
theorem ki_317_56 : js_OkG 317 56 (o_ll 3 57) := js_St.okG (st_lloadn rfl d_317_56) (fun _ _ _ _ _ => rfl)
theorem ki_317_55 : js_OkG 317 55 (o_ls 3 56) := js_St.okG (st_lstoren rfl (Nat.le_of_ble_eq_true rfl) d_317_55) (fun _ _ _ _ _ => rfl)
theorem ki_317_54 : js_OkG 317 54 (o_B2 (fun x y => x ||| y) 55) := js_St.okG (st_lor d_317_54) (fun _ _ _ _ _ => rfl)
theorem ki_317_53 : js_OkG 317 53 (o_lc 0 54) := js_St.okG (st_lconst rfl d_317_53) (fun _ _ _ _ _ => rfl)
theorem ki_317_50 : js_OkG 317 50 (o_go 54) := js_St.okG (st_goto (by decide) d_317_50) (fun _ _ _ _ _ => rfl)
theorem ki_317_49 : js_OkG 317 49 (o_Sh (fun x y => x <<< (y.toInt64 &&& 63)) 50) := js_St.okG (st_lshl d_317_49) (fun _ _ _ _ _ => rfl)
theorem ki_317_48 : js_OkG 317 48 (o_b2 (fun x y => x - y) 49) := js_St.okG (st_isub d_317_48) (fun _ _ _ _ _ => rfl)
theorem ki_317_79 : js_OkG 317 79 (o_ic 1 80) := js_St.okG (st_iconst rfl d_317_79) (fun _ _ _ _ _ => rfl)
theorem ki_317_77 : js_OkG 317 77 (o_il 5 79) := js_St.okG (st_iload d_317_77) (fun _ _ _ _ _ => rfl)
theorem ki_317_76 : js_OkG 317 76 (o_lc 1 77) := js_St.okG (st_lconst rfl d_317_76) (fun _ _ _ _ _ => rfl)
theorem ki_317_73 : js_OkG 317 73 (o_cne 85 76) := js_St.okG (st_icne (by decide) d_317_73) (fun _ _ _ _ _ => rfl)
theorem ki_317_72 : js_OkG 317 72 (o_ic 1 73) := js_St.okG (st_iconst rfl d_317_72) (fun _ _ _ _ _ => rfl)
theorem ki_317_69 : js_OkG 317 69 (o_cI 176 4 0 72) := og_sIP rfl rfl kB_317_176 rfl kw_785 kw_786 d_317_69
theorem ki_317_68 : js_OkG 317 68 (o_ic 1 69) := js_St.okG (st_iconst rfl d_317_68) (fun _ _ _ _ _ => rfl)
theorem ki_317_67 : js_OkG 317 67 (o_rem 68) := js_St.okG (st_irem d_317_67) (fun _ _ _ _ _ => rfl)
theorem ki_317_65 : js_OkG 317 65 (o_ic 8 67) := js_St.okG (st_bipush rfl d_317_65) (fun _ _ _ _ _ => rfl)
theorem ki_317_95 : js_OkG 317 95 (o_il 5 97) := js_St.okG (st_iload d_317_95) (fun _ _ _ _ _ => rfl)
theorem ki_317_94 : js_OkG 317 94 (o_div 95) := js_St.okG (st_idiv d_317_94) (fun _ _ _ _ _ => rfl)
theorem ki_317_92 : js_OkG 317 92 (o_ic 8 94) := js_St.okG (st_bipush rfl d_317_92) (fun _ _ _ _ _ => rfl)
theorem ki_317_90 : js_OkG 317 90 (o_il 5 92) := js_St.okG (st_iload d_317_90) (fun _ _ _ _ _ => rfl)
theorem ki_317_89 : js_OkG 317 89 (o_al 0 90) := js_St.okG (st_aloadn rfl d_317_89) (fun _ _ _ _ _ => rfl)
theorem ki_317_88 : js_OkG 317 88 (o_ll 3 89) := js_St.okG (st_lloadn rfl d_317_88) (fun _ _ _ _ _ => rfl)
theorem ki_317_87 : js_OkG 317 87 (o_ls 3 88) := js_St.okG (st_lstoren rfl (Nat.le_of_ble_eq_true rfl) d_317_87) (fun _ _ _ _ _ => rfl)
theorem ki_317_86 : js_OkG 317 86 (o_B2 (fun x y => x ||| y) 87) := js_St.okG (st_lor d_317_86) (fun _ _ _ _ _ => rfl)
theorem ki_317_85 : js_OkG 317 85 (o_lc 0 86) := js_St.okG (st_lconst rfl d_317_85) (fun _ _ _ _ _ => rfl)
theorem ki_317_82 : js_OkG 317 82 (o_go 86) := js_St.okG (st_goto (by decide) d_317_82) (fun _ _ _ _ _ => rfl)
theorem ki_317_81 : js_OkG 317 81 (o_Sh (fun x y => x <<< (y.toInt64 &&& 63)) 82) := js_St.okG (st_lshl d_317_81) (fun _ _ _ _ _ => rfl)
theorem ki_317_80 : js_OkG 317 80 (o_b2 (fun x y => x + y) 81) := js_St.okG (st_iadd d_317_80) (fun _ _ _ _ _ => rfl)
theorem ki_317_111 : js_OkG 317 111 (o_ic 8 113) := js_St.okG (st_bipush rfl d_317_111) (fun _ _ _ _ _ => rfl)
theorem ki_317_109 : js_OkG 317 109 (o_il 5 111) := js_St.okG (st_iload d_317_109) (fun _ _ _ _ _ => rfl)
theorem ki_317_108 : js_OkG 317 108 (o_lc 1 109) := js_St.okG (st_lconst rfl d_317_108) (fun _ _ _ _ _ => rfl)
theorem ki_317_105 : js_OkG 317 105 (o_cne 118 108) := js_St.okG (st_icne (by decide) d_317_105) (fun _ _ _ _ _ => rfl)
theorem ki_317_104 : js_OkG 317 104 (o_ic 1 105) := js_St.okG (st_iconst rfl d_317_104) (fun _ _ _ _ _ => rfl)
theorem ki_317_101 : js_OkG 317 101 (o_cI 176 4 0 104) := og_sIP rfl rfl kB_317_176 rfl kw_785 kw_786 d_317_101
theorem ki_317_100 : js_OkG 317 100 (o_ic 2 101) := js_St.okG (st_iconst rfl d_317_100) (fun _ _ _ _ _ => rfl)
theorem ki_317_99 : js_OkG 317 99 (o_rem 100) := js_St.okG (st_irem d_317_99) (fun _ _ _ _ _ => rfl)
theorem ki_317_97 : js_OkG 317 97 (o_ic 8 99) := js_St.okG (st_bipush rfl d_317_97) (fun _ _ _ _ _ => rfl)
theorem ki_317_127 : js_OkG 317 127 (o_div 128) := js_St.okG (st_idiv d_317_127) (fun _ _ _ _ _ => rfl)
theorem ki_317_125 : js_OkG 317 125 (o_ic 8 127) := js_St.okG (st_bipush rfl d_317_125) (fun _ _ _ _ _ => rfl)
theorem ki_317_123 : js_OkG 317 123 (o_il 5 125) := js_St.okG (st_iload d_317_123) (fun _ _ _ _ _ => rfl)
theorem ki_317_122 : js_OkG 317 122 (o_al 0 123) := js_St.okG (st_aloadn rfl d_317_122) (fun _ _ _ _ _ => rfl)
theorem ki_317_121 : js_OkG 317 121 (o_ll 3 122) := js_St.okG (st_lloadn rfl d_317_121) (fun _ _ _ _ _ => rfl)
theorem ki_317_120 : js_OkG 317 120 (o_ls 3 121) := js_St.okG (st_lstoren rfl (Nat.le_of_ble_eq_true rfl) d_317_120) (fun _ _ _ _ _ => rfl)
theorem ki_317_119 : js_OkG 317 119 (o_B2 (fun x y => x ||| y) 120) := js_St.okG (st_lor d_317_119) (fun _ _ _ _ _ => rfl)
theorem ki_317_118 : js_OkG 317 118 (o_lc 0 119) := js_St.okG (st_lconst rfl d_317_118) (fun _ _ _ _ _ => rfl)
theorem ki_317_115 : js_OkG 317 115 (o_go 119) := js_St.okG (st_goto (by decide) d_317_115) (fun _ _ _ _ _ => rfl)
theorem ki_317_114 : js_OkG 317 114 (o_Sh (fun x y => x <<< (y.toInt64 &&& 63)) 115) := js_St.okG (st_lshl d_317_114) (fun _ _ _ _ _ => rfl)
theorem ki_317_113 : js_OkG 317 113 (o_b2 (fun x y => x + y) 114) := js_St.okG (st_iadd d_317_113) (fun _ _ _ _ _ => rfl)
theorem ki_317_142 : js_OkG 317 142 (o_il 5 144) := js_St.okG (st_iload d_317_142) (fun _ _ _ _ _ => rfl)
theorem ki_317_141 : js_OkG 317 141 (o_lc 1 142) := js_St.okG (st_lconst rfl d_317_141) (fun _ _ _ _ _ => rfl)
theorem ki_317_138 : js_OkG 317 138 (o_cne 150 141) := js_St.okG (st_icne (by decide) d_317_138) (fun _ _ _ _ _ => rfl)
theorem ki_317_137 : js_OkG 317 137 (o_ic 1 138) := js_St.okG (st_iconst rfl d_317_137) (fun _ _ _ _ _ => rfl)
theorem ki_317_134 : js_OkG 317 134 (o_cI 176 4 0 137) := og_sIP rfl rfl kB_317_176 rfl kw_785 kw_786 d_317_134
theorem ki_317_133 : js_OkG 317 133 (o_ic 3 134) := js_St.okG (st_iconst rfl d_317_133) (fun _ _ _ _ _ => rfl)
theorem ki_317_132 : js_OkG 317 132 (o_rem 133) := js_St.okG (st_irem d_317_132) (fun _ _ _ _ _ => rfl)
theorem ki_317_130 : js_OkG 317 130 (o_ic 8 132) := js_St.okG (st_bipush rfl d_317_130) (fun _ _ _ _ _ => rfl)
theorem ki_317_128 : js_OkG 317 128 (o_il 5 130) := js_St.okG (st_iload d_317_128) (fun _ _ _ _ _ => rfl)
theorem ki_317_159 : js_OkG 317 159 (o_ll 3 160) := js_St.okG (st_lloadn rfl d_317_159) (fun _ _ _ _ _ => rfl)
theorem ki_317_156 : js_OkG 317 156 (o_go 5) := js_St.okG (st_goto (by decide) d_317_156) (fun _ _ _ _ _ => rfl)
theorem ki_317_153 : js_OkG 317 153 (o_inc 5 1 156) := js_St.okG (st_iinc rfl (Nat.le_of_ble_eq_true rfl) d_317_153) (fun _ _ _ _ _ => rfl)
theorem ki_317_152 : js_OkG 317 152 (o_ls 3 153) := js_St.okG (st_lstoren rfl (Nat.le_of_ble_eq_true rfl) d_317_152) (fun _ _ _ _ _ => rfl)
theorem ki_317_151 : js_OkG 317 151 (o_B2 (fun x y => x ||| y) 152) := js_St.okG (st_lor d_317_151) (fun _ _ _ _ _ => rfl)
theorem ki_317_150 : js_OkG 317 150 (o_lc 0 151) := js_St.okG (st_lconst rfl d_317_150) (fun _ _ _ _ _ => rfl)
theorem ki_317_147 : js_OkG 317 147 (o_go 151) := js_St.okG (st_goto (by decide) d_317_147) (fun _ _ _ _ _ => rfl)
theorem ki_317_146 : js_OkG 317 146 (o_Sh (fun x y => x <<< (y.toInt64 &&& 63)) 147) := js_St.okG (st_lshl d_317_146) (fun _ _ _ _ _ => rfl)
theorem ki_317_145 : js_OkG 317 145 (o_b2 (fun x y => x - y) 146) := js_St.okG (st_isub d_317_145) (fun _ _ _ _ _ => rfl)
theorem ki_317_144 : js_OkG 317 144 (o_ic 1 145) := js_St.okG (st_iconst rfl d_317_144) (fun _ _ _ _ _ => rfl)
theorem ki_317_174 : js_OkG 317 174 (o_rL) := og_rL rfl d_317_174
theorem ki_317_171 : js_OkG 317 171 (o_cL 318 2 0 174) := og_sLP rfl rfl kB_317_318 rfl kw_949 kw_950 d_317_171
theorem ki_317_170 : js_OkG 317 170 (o_ll 3 171) := js_St.okG (st_lloadn rfl d_317_170) (fun _ _ _ _ _ => rfl)
theorem ki_317_169 : js_OkG 317 169 (o_al 0 170) := js_St.okG (st_aloadn rfl d_317_169) (fun _ _ _ _ _ => rfl)
theorem ki_317_166 : js_OkG 317 166 (o_go 174) := js_St.okG (st_goto (by decide) d_317_166) (fun _ _ _ _ _ => rfl)
theorem ki_317_165 : js_OkG 317 165 (o_ll 1 166) := js_St.okG (st_lloadn rfl d_317_165) (fun _ _ _ _ _ => rfl)
theorem ki_317_162 : js_OkG 317 162 (o_ne 169 165) := js_St.okG (st_ifne (by decide) d_317_162) (fun _ _ _ _ _ => rfl)
theorem ki_317_161 : js_OkG 317 161 (o_lcmp 162) := js_St.okG (st_lcmp d_317_161) (fun _ _ _ _ _ => rfl)
theorem ki_317_160 : js_OkG 317 160 (o_ll 1 161) := js_St.okG (st_lloadn rfl d_317_160) (fun _ _ _ _ _ => rfl)
set_option maxRecDepth 20000 in
theorem mk_317 : js_mokG 317 := jk_tab (fun _ => js_St.okG st_bad (fun _ _ _ _ _ => rfl)) (show jk_all (js_OkG 317) 0 (tb_G 317) from ⟨⟨ki_317_0, ⟨ki_317_1, ⟨ki_317_2, ⟨ki_317_3, ⟨kbadG, ⟨ki_317_5, ⟨kbadG, ⟨ki_317_7, ⟨kbadG, ⟨ki_317_9, ⟨kbadG, ⟨kbadG, ⟨ki_317_12, ⟨ki_317_13, ⟨kbadG, ⟨ki_317_15, trivial⟩⟩⟩⟩⟩⟩⟩⟩⟩⟩⟩⟩⟩⟩⟩⟩, ⟨⟨ki_317_16, ⟨ki_317_17, ⟨ki_317_18, ⟨ki_317_19, ⟨ki_317_20, ⟨kbadG, ⟨kbadG, ⟨ki_317_23, ⟨ki_317_24, ⟨ki_317_25, ⟨kbadG, ⟨ki_317_27, ⟨kbadG, ⟨ki_317_29, ⟨ki_317_30, ⟨kbadG, trivial⟩⟩⟩⟩⟩⟩⟩⟩⟩⟩⟩⟩⟩⟩⟩⟩, ⟨⟨ki_317_32, ⟨kbadG, ⟨ki_317_34, ⟨ki_317_35, ⟨ki_317_36, ⟨kbadG, ⟨kbadG, ⟨ki_317_39, ⟨ki_317_40, ⟨kbadG, ⟨kbadG, ⟨ki_317_43, ⟨ki_317_44, ⟨kbadG, ⟨ki_317_46, ⟨kbadG, trivial⟩⟩⟩⟩⟩⟩⟩⟩⟩⟩⟩⟩⟩⟩⟩⟩, ⟨⟨ki_317_48, ⟨ki_317_49, ⟨ki_317_50, ⟨kbadG, ⟨kbadG, ⟨ki_317_53, ⟨ki_317_54, ⟨ki_317_55, ⟨ki_317_56, ⟨ki_317_57, ⟨ki_317_58, ⟨kbadG, ⟨ki_317_60, ⟨kbadG, ⟨ki_317_62, ⟨ki_317_63, trivial⟩⟩⟩⟩⟩⟩⟩⟩⟩⟩⟩⟩⟩⟩⟩⟩, ⟨⟨kbadG, ⟨ki_317_65, ⟨kbadG, ⟨ki_317_67, ⟨ki_317_68, ⟨ki_317_69, ⟨kbadG, ⟨kbadG, ⟨ki_317_72, ⟨ki_317_73, ⟨kbadG, ⟨kbadG, ⟨ki_317_76, ⟨ki_317_77, ⟨kbadG, ⟨ki_317_79, trivial⟩⟩⟩⟩⟩⟩⟩⟩⟩⟩⟩⟩⟩⟩⟩⟩, ⟨⟨ki_317_80, ⟨ki_317_81, ⟨ki_317_82, ⟨kbadG, ⟨kbadG, ⟨ki_317_85, ⟨ki_317_86, ⟨ki_317_87, ⟨ki_317_88, ⟨ki_317_89, ⟨ki_317_90, ⟨kbadG, ⟨ki_317_92, ⟨kbadG, ⟨ki_317_94, ⟨ki_317_95, trivial⟩⟩⟩⟩⟩⟩⟩⟩⟩⟩⟩⟩⟩⟩⟩⟩, ⟨⟨kbadG, ⟨ki_317_97, ⟨kbadG, ⟨ki_317_99, ⟨ki_317_100, ⟨ki_317_101, ⟨kbadG, ⟨kbadG, ⟨ki_317_104, ⟨ki_317_105, ⟨kbadG, ⟨kbadG, ⟨ki_317_108, ⟨ki_317_109, ⟨kbadG, ⟨ki_317_111, trivial⟩⟩⟩⟩⟩⟩⟩⟩⟩⟩⟩⟩⟩⟩⟩⟩, ⟨⟨kbadG, ⟨ki_317_113, ⟨ki_317_114, ⟨ki_317_115, ⟨kbadG, ⟨kbadG, ⟨ki_317_118, ⟨ki_317_119, ⟨ki_317_120, ⟨ki_317_121, ⟨ki_317_122, ⟨ki_317_123, ⟨kbadG, ⟨ki_317_125, ⟨kbadG, ⟨ki_317_127, trivial⟩⟩⟩⟩⟩⟩⟩⟩⟩⟩⟩⟩⟩⟩⟩⟩, ⟨⟨ki_317_128, ⟨kbadG, ⟨ki_317_130, ⟨kbadG, ⟨ki_317_132, ⟨ki_317_133, ⟨ki_317_134, ⟨kbadG, ⟨kbadG, ⟨ki_317_137, ⟨ki_317_138, ⟨kbadG, ⟨kbadG, ⟨ki_317_141, ⟨ki_317_142, ⟨kbadG, trivial⟩⟩⟩⟩⟩⟩⟩⟩⟩⟩⟩⟩⟩⟩⟩⟩, ⟨⟨ki_317_144, ⟨ki_317_145, ⟨ki_317_146, ⟨ki_317_147, ⟨kbadG, ⟨kbadG, ⟨ki_317_150, ⟨ki_317_151, ⟨ki_317_152, ⟨ki_317_153, ⟨kbadG, ⟨kbadG, ⟨ki_317_156, ⟨kbadG, ⟨kbadG, ⟨ki_317_159, trivial⟩⟩⟩⟩⟩⟩⟩⟩⟩⟩⟩⟩⟩⟩⟩⟩, ⟨⟨ki_317_160, ⟨ki_317_161, ⟨ki_317_162, ⟨kbadG, ⟨kbadG, ⟨ki_317_165, ⟨ki_317_166, ⟨kbadG, ⟨kbadG, ⟨ki_317_169, ⟨ki_317_170, ⟨ki_317_171, ⟨kbadG, ⟨kbadG, ⟨ki_317_174, trivial⟩⟩⟩⟩⟩⟩⟩⟩⟩⟩⟩⟩⟩⟩⟩, trivial⟩⟩⟩⟩⟩⟩⟩⟩⟩⟩⟩)
theorem d_318_0 : decode (js_b 318) 0 = .ok (.lload_n 1, 1) := d_300_0
theorem d_318_1 : decode (js_b 318) 1 = .ok (.lstore_n 3, 1) := d_300_1
theorem d_318_2 : decode (js_b 318) 2 = .ok (.iconst 0, 1) := d_300_2
theorem d_318_3 : decode (js_b 318) 3 = .ok (.istore 5, 2) := d_300_3
theorem d_318_5 : decode (js_b 318) 5 = .ok (.iload 5, 2) := d_300_5
theorem d_318_7 : decode (js_b 318) 7 = .ok (.bipush 64, 2) := d_300_7
theorem d_318_9 : decode (js_b 318) 9 = .ok (.if_icmp .ge 150, 3) := d_300_9
theorem d_318_12 : decode (js_b 318) 12 = .ok (.lload_n 1, 1) := d_300_12
theorem d_318_13 : decode (js_b 318) 13 = .ok (.iload 5, 2) := d_300_13
theorem d_318_15 : decode (js_b 318) 15 = .ok (.lushr, 1) := d_300_15
theorem d_318_16 : decode (js_b 318) 16 = .ok (.lconst 1, 1) := d_300_16
theorem d_318_17 : decode (js_b 318) 17 = .ok (.land, 1) := d_300_17
theorem d_318_18 : decode (js_b 318) 18 = .ok (.lconst 1, 1) := d_300_18
theorem d_318_19 : decode (js_b 318) 19 = .ok (.lcmp, 1) := d_300_19
theorem d_318_20 : decode (js_b 318) 20 = .ok (.ifCond .ne 133, 3) := d_300_20
theorem d_318_23 : decode (js_b 318) 23 = .ok (.lload_n 3, 1) := d_300_23
theorem d_318_24 : decode (js_b 318) 24 = .ok (.aload_n 0, 1) := d_300_24
theorem d_318_25 : decode (js_b 318) 25 = .ok (.iload 5, 2) := d_300_25
theorem d_318_27 : decode (js_b 318) 27 = .ok (.bipush 8, 2) := d_300_27
theorem d_318_29 : decode (js_b 318) 29 = .ok (.idiv, 1) := d_300_29
theorem d_318_30 : decode (js_b 318) 30 = .ok (.iload 5, 2) := d_300_30
theorem d_318_32 : decode (js_b 318) 32 = .ok (.bipush 8, 2) := d_300_32
theorem d_318_34 : decode (js_b 318) 34 = .ok (.irem, 1) := d_300_34
theorem d_318_35 : decode (js_b 318) 35 = .ok (.iconst 0, 1) := d_300_35
theorem d_318_36 : decode (js_b 318) 36 = .ok (.invokestatic 198, 3) := d_300_36
theorem d_318_39 : decode (js_b 318) 39 = .ok (.iconst 1, 1) := d_300_39
theorem d_318_40 : decode (js_b 318) 40 = .ok (.if_icmp .ne 13, 3) := d_300_40
theorem d_318_43 : decode (js_b 318) 43 = .ok (.lconst 1, 1) := d_300_43
theorem d_318_44 : decode (js_b 318) 44 = .ok (.iload 5, 2) := d_300_44
theorem d_318_46 : decode (js_b 318) 46 = .ok (.bipush 8, 2) := d_300_46
theorem d_318_48 : decode (js_b 318) 48 = .ok (.isub, 1) := d_300_48
theorem d_318_49 : decode (js_b 318) 49 = .ok (.lshl, 1) := d_300_49
theorem d_318_50 : decode (js_b 318) 50 = .ok (.goto 4, 3) := d_300_50
theorem d_318_53 : decode (js_b 318) 53 = .ok (.lconst 0, 1) := d_300_53
theorem d_318_54 : decode (js_b 318) 54 = .ok (.lor, 1) := d_300_54
theorem d_318_55 : decode (js_b 318) 55 = .ok (.lstore_n 3, 1) := d_300_55
theorem d_318_56 : decode (js_b 318) 56 = .ok (.lload_n 3, 1) := d_300_56
theorem d_318_57 : decode (js_b 318) 57 = .ok (.aload_n 0, 1) := d_300_57
theorem d_318_58 : decode (js_b 318) 58 = .ok (.iload 5, 2) := d_300_58
theorem d_318_60 : decode (js_b 318) 60 = .ok (.bipush 8, 2) := d_300_60
theorem d_318_62 : decode (js_b 318) 62 = .ok (.idiv, 1) := d_300_62
theorem d_318_63 : decode (js_b 318) 63 = .ok (.iload 5, 2) := d_300_63
theorem d_318_65 : decode (js_b 318) 65 = .ok (.bipush 8, 2) := d_300_65
theorem d_318_67 : decode (js_b 318) 67 = .ok (.irem, 1) := d_300_67
theorem d_318_68 : decode (js_b 318) 68 = .ok (.iconst 1, 1) := d_300_68
theorem d_318_69 : decode (js_b 318) 69 = .ok (.invokestatic 198, 3) := d_300_69
theorem d_318_72 : decode (js_b 318) 72 = .ok (.iconst 1, 1) := d_300_72
theorem d_318_73 : decode (js_b 318) 73 = .ok (.if_icmp .ne 12, 3) := d_300_73
theorem d_318_76 : decode (js_b 318) 76 = .ok (.lconst 1, 1) := d_300_76
theorem d_318_77 : decode (js_b 318) 77 = .ok (.iload 5, 2) := d_300_77
theorem d_318_79 : decode (js_b 318) 79 = .ok (.iconst 1, 1) := d_300_79
theorem d_318_80 : decode (js_b 318) 80 = .ok (.iadd, 1) := d_300_80
theorem d_318_81 : decode (js_b 318) 81 = .ok (.lshl, 1) := d_300_81
theorem d_318_82 : decode (js_b 318) 82 = .ok (.goto 4, 3) := d_300_82
theorem d_318_85 : decode (js_b 318) 85 = .ok (.lconst 0, 1) := d_300_85
theorem d_318_86 : decode (js_b 318) 86 = .ok (.lor, 1) := d_300_86
theorem d_318_87 : decode (js_b 318) 87 = .ok (.lstore_n 3, 1) := d_300_87
theorem d_318_88 : decode (js_b 318) 88 = .ok (.lload_n 3, 1) := d_300_88
theorem d_318_89 : decode (js_b 318) 89 = .ok (.aload_n 0, 1) := d_300_89
theorem d_318_90 : decode (js_b 318) 90 = .ok (.iload 5, 2) := d_300_90
theorem d_318_92 : decode (js_b 318) 92 = .ok (.bipush 8, 2) := d_300_92
theorem d_318_94 : decode (js_b 318) 94 = .ok (.idiv, 1) := d_300_94
theorem d_318_95 : decode (js_b 318) 95 = .ok (.iload 5, 2) := d_300_95
theorem d_318_97 : decode (js_b 318) 97 = .ok (.bipush 8, 2) := d_300_97
theorem d_318_99 : decode (js_b 318) 99 = .ok (.irem, 1) := d_300_99
theorem d_318_100 : decode (js_b 318) 100 = .ok (.iconst 2, 1) := d_300_100
theorem d_318_101 : decode (js_b 318) 101 = .ok (.invokestatic 198, 3) := d_300_101
theorem d_318_104 : decode (js_b 318) 104 = .ok (.iconst 1, 1) := d_300_104
theorem d_318_105 : decode (js_b 318) 105 = .ok (.if_icmp .ne 13, 3) := d_300_105
theorem d_318_108 : decode (js_b 318) 108 = .ok (.lconst 1, 1) := d_300_108
theorem d_318_109 : decode (js_b 318) 109 = .ok (.iload 5, 2) := d_300_109
theorem d_318_111 : decode (js_b 318) 111 = .ok (.bipush 8, 2) := d_300_111
theorem d_318_113 : decode (js_b 318) 113 = .ok (.iadd, 1) := d_300_113
theorem d_318_114 : decode (js_b 318) 114 = .ok (.lshl, 1) := d_300_114
theorem d_318_115 : decode (js_b 318) 115 = .ok (.goto 4, 3) := d_300_115
theorem d_318_118 : decode (js_b 318) 118 = .ok (.lconst 0, 1) := d_300_118
theorem d_318_119 : decode (js_b 318) 119 = .ok (.lor, 1) := d_300_119
theorem d_318_120 : decode (js_b 318) 120 = .ok (.lstore_n 3, 1) := d_300_120
theorem d_318_121 : decode (js_b 318) 121 = .ok (.lload_n 3, 1) := d_300_121
theorem d_318_122 : decode (js_b 318) 122 = .ok (.aload_n 0, 1) := d_300_122
theorem d_318_123 : decode (js_b 318) 123 = .ok (.iload 5, 2) := d_300_123
theorem d_318_125 : decode (js_b 318) 125 = .ok (.bipush 8, 2) := d_300_125
theorem d_318_127 : decode (js_b 318) 127 = .ok (.idiv, 1) := d_300_127
theorem d_318_128 : decode (js_b 318) 128 = .ok (.iload 5, 2) := d_300_128
theorem d_318_130 : decode (js_b 318) 130 = .ok (.bipush 8, 2) := d_300_130
theorem d_318_132 : decode (js_b 318) 132 = .ok (.irem, 1) := d_300_132
theorem d_318_133 : decode (js_b 318) 133 = .ok (.iconst 3, 1) := d_300_133
theorem d_318_134 : decode (js_b 318) 134 = .ok (.invokestatic 198, 3) := d_300_134
theorem d_318_137 : decode (js_b 318) 137 = .ok (.iconst 1, 1) := d_300_137
theorem d_318_138 : decode (js_b 318) 138 = .ok (.if_icmp .ne 12, 3) := d_300_138
theorem d_318_141 : decode (js_b 318) 141 = .ok (.lconst 1, 1) := d_300_141
theorem d_318_142 : decode (js_b 318) 142 = .ok (.iload 5, 2) := d_300_142
theorem d_318_144 : decode (js_b 318) 144 = .ok (.iconst 1, 1) := d_300_144
theorem d_318_145 : decode (js_b 318) 145 = .ok (.isub, 1) := d_300_145
theorem d_318_146 : decode (js_b 318) 146 = .ok (.lshl, 1) := d_300_146
theorem d_318_147 : decode (js_b 318) 147 = .ok (.goto 4, 3) := d_300_147
theorem d_318_150 : decode (js_b 318) 150 = .ok (.lconst 0, 1) := d_300_150
theorem d_318_151 : decode (js_b 318) 151 = .ok (.lor, 1) := d_300_151
theorem d_318_152 : decode (js_b 318) 152 = .ok (.lstore_n 3, 1) := d_300_152
theorem d_318_153 : decode (js_b 318) 153 = .ok (.iinc 5 1, 3) := d_300_153
theorem d_318_156 : decode (js_b 318) 156 = .ok (.goto (-151), 3) := d_300_156
theorem d_318_159 : decode (js_b 318) 159 = .ok (.lload_n 3, 1) := d_300_159
theorem d_318_160 : decode (js_b 318) 160 = .ok (.lload_n 1, 1) := d_300_160
theorem d_318_161 : decode (js_b 318) 161 = .ok (.lcmp, 1) := d_300_161
theorem d_318_162 : decode (js_b 318) 162 = .ok (.ifCond .ne 7, 3) := d_300_162
theorem d_318_165 : decode (js_b 318) 165 = .ok (.lload_n 1, 1) := d_300_165
theorem d_318_166 : decode (js_b 318) 166 = .ok (.goto 8, 3) := d_300_166
theorem d_318_169 : decode (js_b 318) 169 = .ok (.aload_n 0, 1) := d_300_169
theorem d_318_170 : decode (js_b 318) 170 = .ok (.lload_n 3, 1) := d_300_170
theorem d_318_171 : decode (js_b 318) 171 = .ok (.invokestatic 323, 3) := d_300_171
theorem d_318_174 : decode (js_b 318) 174 = .ok (.lreturn, 1) := d_300_174
theorem ki_318_15 : js_OkG 318 15 (o_Sh (fun x y => (x.toUInt64 >>> (y.toInt64.toUInt64 &&& Int64.toUInt64 63)).toInt64) 16) := js_St.okG (st_lushr d_318_15) (fun _ _ _ _ _ => rfl)
theorem ki_318_13 : js_OkG 318 13 (o_il 5 15) := js_St.okG (st_iload d_318_13) (fun _ _ _ _ _ => rfl)
theorem ki_318_12 : js_OkG 318 12 (o_ll 1 13) := js_St.okG (st_lloadn rfl d_318_12) (fun _ _ _ _ _ => rfl)
theorem ki_318_9 : js_OkG 318 9 (o_cge 159 12) := js_St.okG (st_icge (by decide) d_318_9) (fun _ _ _ _ _ => rfl)
theorem ki_318_7 : js_OkG 318 7 (o_ic 64 9) := js_St.okG (st_bipush rfl d_318_7) (fun _ _ _ _ _ => rfl)
theorem ki_318_5 : js_OkG 318 5 (o_il 5 7) := js_St.okG (st_iload d_318_5) (fun _ _ _ _ _ => rfl)
theorem ki_318_3 : js_OkG 318 3 (o_is 5 5) := js_St.okG (st_istore (Nat.le_of_ble_eq_true rfl) d_318_3) (fun _ _ _ _ _ => rfl)
theorem ki_318_2 : js_OkG 318 2 (o_ic 0 3) := js_St.okG (st_iconst rfl d_318_2) (fun _ _ _ _ _ => rfl)
theorem ki_318_1 : js_OkG 318 1 (o_ls 3 2) := js_St.okG (st_lstoren rfl (Nat.le_of_ble_eq_true rfl) d_318_1) (fun _ _ _ _ _ => rfl)
theorem ki_318_0 : js_OkG 318 0 (o_ll 1 1) := js_St.okG (st_lloadn rfl d_318_0) (fun _ _ _ _ _ => rfl)
theorem ki_318_30 : js_OkG 318 30 (o_il 5 32) := js_St.okG (st_iload d_318_30) (fun _ _ _ _ _ => rfl)
theorem ki_318_29 : js_OkG 318 29 (o_div 30) := js_St.okG (st_idiv d_318_29) (fun _ _ _ _ _ => rfl)
theorem ki_318_27 : js_OkG 318 27 (o_ic 8 29) := js_St.okG (st_bipush rfl d_318_27) (fun _ _ _ _ _ => rfl)
theorem ki_318_25 : js_OkG 318 25 (o_il 5 27) := js_St.okG (st_iload d_318_25) (fun _ _ _ _ _ => rfl)
theorem ki_318_24 : js_OkG 318 24 (o_al 0 25) := js_St.okG (st_aloadn rfl d_318_24) (fun _ _ _ _ _ => rfl)
theorem ki_318_23 : js_OkG 318 23 (o_ll 3 24) := js_St.okG (st_lloadn rfl d_318_23) (fun _ _ _ _ _ => rfl)
theorem ki_318_20 : js_OkG 318 20 (o_ne 153 23) := js_St.okG (st_ifne (by decide) d_318_20) (fun _ _ _ _ _ => rfl)
theorem ki_318_19 : js_OkG 318 19 (o_lcmp 20) := js_St.okG (st_lcmp d_318_19) (fun _ _ _ _ _ => rfl)
theorem ki_318_18 : js_OkG 318 18 (o_lc 1 19) := js_St.okG (st_lconst rfl d_318_18) (fun _ _ _ _ _ => rfl)
theorem ki_318_17 : js_OkG 318 17 (o_B2 (fun x y => x &&& y) 18) := js_St.okG (st_land d_318_17) (fun _ _ _ _ _ => rfl)
theorem ki_318_16 : js_OkG 318 16 (o_lc 1 17) := js_St.okG (st_lconst rfl d_318_16) (fun _ _ _ _ _ => rfl)
theorem ki_318_46 : js_OkG 318 46 (o_ic 8 48) := js_St.okG (st_bipush rfl d_318_46) (fun _ _ _ _ _ => rfl)
theorem ki_318_44 : js_OkG 318 44 (o_il 5 46) := js_St.okG (st_iload d_318_44) (fun _ _ _ _ _ => rfl)
theorem ki_318_43 : js_OkG 318 43 (o_lc 1 44) := js_St.okG (st_lconst rfl d_318_43) (fun _ _ _ _ _ => rfl)
theorem ki_318_40 : js_OkG 318 40 (o_cne 53 43) := js_St.okG (st_icne (by decide) d_318_40) (fun _ _ _ _ _ => rfl)
theorem ki_318_39 : js_OkG 318 39 (o_ic 1 40) := js_St.okG (st_iconst rfl d_318_39) (fun _ _ _ _ _ => rfl)
theorem ki_318_36 : js_OkG 318 36 (o_cI 176 4 0 39) := og_sIP rfl rfl kB_318_176 rfl kw_785 kw_786 d_318_36
theorem ki_318_35 : js_OkG 318 35 (o_ic 0 36) := js_St.okG (st_iconst rfl d_318_35) (fun _ _ _ _ _ => rfl)
theorem ki_318_34 : js_OkG 318 34 (o_rem 35) := js_St.okG (st_irem d_318_34) (fun _ _ _ _ _ => rfl)
theorem ki_318_32 : js_OkG 318 32 (o_ic 8 34) := js_St.okG (st_bipush rfl d_318_32) (fun _ _ _ _ _ => rfl)
theorem ki_318_63 : js_OkG 318 63 (o_il 5 65) := js_St.okG (st_iload d_318_63) (fun _ _ _ _ _ => rfl)
theorem ki_318_62 : js_OkG 318 62 (o_div 63) := js_St.okG (st_idiv d_318_62) (fun _ _ _ _ _ => rfl)
theorem ki_318_60 : js_OkG 318 60 (o_ic 8 62) := js_St.okG (st_bipush rfl d_318_60) (fun _ _ _ _ _ => rfl)
theorem ki_318_58 : js_OkG 318 58 (o_il 5 60) := js_St.okG (st_iload d_318_58) (fun _ _ _ _ _ => rfl)
theorem ki_318_57 : js_OkG 318 57 (o_al 0 58) := js_St.okG (st_aloadn rfl d_318_57) (fun _ _ _ _ _ => rfl)
theorem ki_318_56 : js_OkG 318 56 (o_ll 3 57) := js_St.okG (st_lloadn rfl d_318_56) (fun _ _ _ _ _ => rfl)
theorem ki_318_55 : js_OkG 318 55 (o_ls 3 56) := js_St.okG (st_lstoren rfl (Nat.le_of_ble_eq_true rfl) d_318_55) (fun _ _ _ _ _ => rfl)
theorem ki_318_54 : js_OkG 318 54 (o_B2 (fun x y => x ||| y) 55) := js_St.okG (st_lor d_318_54) (fun _ _ _ _ _ => rfl)
theorem ki_318_53 : js_OkG 318 53 (o_lc 0 54) := js_St.okG (st_lconst rfl d_318_53) (fun _ _ _ _ _ => rfl)
theorem ki_318_50 : js_OkG 318 50 (o_go 54) := js_St.okG (st_goto (by decide) d_318_50) (fun _ _ _ _ _ => rfl)
theorem ki_318_49 : js_OkG 318 49 (o_Sh (fun x y => x <<< (y.toInt64 &&& 63)) 50) := js_St.okG (st_lshl d_318_49) (fun _ _ _ _ _ => rfl)
theorem ki_318_48 : js_OkG 318 48 (o_b2 (fun x y => x - y) 49) := js_St.okG (st_isub d_318_48) (fun _ _ _ _ _ => rfl)
theorem ki_318_79 : js_OkG 318 79 (o_ic 1 80) := js_St.okG (st_iconst rfl d_318_79) (fun _ _ _ _ _ => rfl)
theorem ki_318_77 : js_OkG 318 77 (o_il 5 79) := js_St.okG (st_iload d_318_77) (fun _ _ _ _ _ => rfl)
theorem ki_318_76 : js_OkG 318 76 (o_lc 1 77) := js_St.okG (st_lconst rfl d_318_76) (fun _ _ _ _ _ => rfl)
theorem ki_318_73 : js_OkG 318 73 (o_cne 85 76) := js_St.okG (st_icne (by decide) d_318_73) (fun _ _ _ _ _ => rfl)
theorem ki_318_72 : js_OkG 318 72 (o_ic 1 73) := js_St.okG (st_iconst rfl d_318_72) (fun _ _ _ _ _ => rfl)
theorem ki_318_69 : js_OkG 318 69 (o_cI 176 4 0 72) := og_sIP rfl rfl kB_318_176 rfl kw_785 kw_786 d_318_69
theorem ki_318_68 : js_OkG 318 68 (o_ic 1 69) := js_St.okG (st_iconst rfl d_318_68) (fun _ _ _ _ _ => rfl)
theorem ki_318_67 : js_OkG 318 67 (o_rem 68) := js_St.okG (st_irem d_318_67) (fun _ _ _ _ _ => rfl)
theorem ki_318_65 : js_OkG 318 65 (o_ic 8 67) := js_St.okG (st_bipush rfl d_318_65) (fun _ _ _ _ _ => rfl)
theorem ki_318_95 : js_OkG 318 95 (o_il 5 97) := js_St.okG (st_iload d_318_95) (fun _ _ _ _ _ => rfl)
theorem ki_318_94 : js_OkG 318 94 (o_div 95) := js_St.okG (st_idiv d_318_94) (fun _ _ _ _ _ => rfl)
theorem ki_318_92 : js_OkG 318 92 (o_ic 8 94) := js_St.okG (st_bipush rfl d_318_92) (fun _ _ _ _ _ => rfl)
theorem ki_318_90 : js_OkG 318 90 (o_il 5 92) := js_St.okG (st_iload d_318_90) (fun _ _ _ _ _ => rfl)
theorem ki_318_89 : js_OkG 318 89 (o_al 0 90) := js_St.okG (st_aloadn rfl d_318_89) (fun _ _ _ _ _ => rfl)
theorem ki_318_88 : js_OkG 318 88 (o_ll 3 89) := js_St.okG (st_lloadn rfl d_318_88) (fun _ _ _ _ _ => rfl)
theorem ki_318_87 : js_OkG 318 87 (o_ls 3 88) := js_St.okG (st_lstoren rfl (Nat.le_of_ble_eq_true rfl) d_318_87) (fun _ _ _ _ _ => rfl)
theorem ki_318_86 : js_OkG 318 86 (o_B2 (fun x y => x ||| y) 87) := js_St.okG (st_lor d_318_86) (fun _ _ _ _ _ => rfl)
theorem ki_318_85 : js_OkG 318 85 (o_lc 0 86) := js_St.okG (st_lconst rfl d_318_85) (fun _ _ _ _ _ => rfl)
theorem ki_318_82 : js_OkG 318 82 (o_go 86) := js_St.okG (st_goto (by decide) d_318_82) (fun _ _ _ _ _ => rfl)
theorem ki_318_81 : js_OkG 318 81 (o_Sh (fun x y => x <<< (y.toInt64 &&& 63)) 82) := js_St.okG (st_lshl d_318_81) (fun _ _ _ _ _ => rfl)
theorem ki_318_80 : js_OkG 318 80 (o_b2 (fun x y => x + y) 81) := js_St.okG (st_iadd d_318_80) (fun _ _ _ _ _ => rfl)
theorem ki_318_111 : js_OkG 318 111 (o_ic 8 113) := js_St.okG (st_bipush rfl d_318_111) (fun _ _ _ _ _ => rfl)
theorem ki_318_109 : js_OkG 318 109 (o_il 5 111) := js_St.okG (st_iload d_318_109) (fun _ _ _ _ _ => rfl)
theorem ki_318_108 : js_OkG 318 108 (o_lc 1 109) := js_St.okG (st_lconst rfl d_318_108) (fun _ _ _ _ _ => rfl)
theorem ki_318_105 : js_OkG 318 105 (o_cne 118 108) := js_St.okG (st_icne (by decide) d_318_105) (fun _ _ _ _ _ => rfl)
theorem ki_318_104 : js_OkG 318 104 (o_ic 1 105) := js_St.okG (st_iconst rfl d_318_104) (fun _ _ _ _ _ => rfl)
theorem ki_318_101 : js_OkG 318 101 (o_cI 176 4 0 104) := og_sIP rfl rfl kB_318_176 rfl kw_785 kw_786 d_318_101
theorem ki_318_100 : js_OkG 318 100 (o_ic 2 101) := js_St.okG (st_iconst rfl d_318_100) (fun _ _ _ _ _ => rfl)
theorem ki_318_99 : js_OkG 318 99 (o_rem 100) := js_St.okG (st_irem d_318_99) (fun _ _ _ _ _ => rfl)
theorem ki_318_97 : js_OkG 318 97 (o_ic 8 99) := js_St.okG (st_bipush rfl d_318_97) (fun _ _ _ _ _ => rfl)
theorem ki_318_127 : js_OkG 318 127 (o_div 128) := js_St.okG (st_idiv d_318_127) (fun _ _ _ _ _ => rfl)
theorem ki_318_125 : js_OkG 318 125 (o_ic 8 127) := js_St.okG (st_bipush rfl d_318_125) (fun _ _ _ _ _ => rfl)
theorem ki_318_123 : js_OkG 318 123 (o_il 5 125) := js_St.okG (st_iload d_318_123) (fun _ _ _ _ _ => rfl)
theorem ki_318_122 : js_OkG 318 122 (o_al 0 123) := js_St.okG (st_aloadn rfl d_318_122) (fun _ _ _ _ _ => rfl)
theorem ki_318_121 : js_OkG 318 121 (o_ll 3 122) := js_St.okG (st_lloadn rfl d_318_121) (fun _ _ _ _ _ => rfl)
theorem ki_318_120 : js_OkG 318 120 (o_ls 3 121) := js_St.okG (st_lstoren rfl (Nat.le_of_ble_eq_true rfl) d_318_120) (fun _ _ _ _ _ => rfl)
theorem ki_318_119 : js_OkG 318 119 (o_B2 (fun x y => x ||| y) 120) := js_St.okG (st_lor d_318_119) (fun _ _ _ _ _ => rfl)
theorem ki_318_118 : js_OkG 318 118 (o_lc 0 119) := js_St.okG (st_lconst rfl d_318_118) (fun _ _ _ _ _ => rfl)
theorem ki_318_115 : js_OkG 318 115 (o_go 119) := js_St.okG (st_goto (by decide) d_318_115) (fun _ _ _ _ _ => rfl)
theorem ki_318_114 : js_OkG 318 114 (o_Sh (fun x y => x <<< (y.toInt64 &&& 63)) 115) := js_St.okG (st_lshl d_318_114) (fun _ _ _ _ _ => rfl)
theorem ki_318_113 : js_OkG 318 113 (o_b2 (fun x y => x + y) 114) := js_St.okG (st_iadd d_318_113) (fun _ _ _ _ _ => rfl)
theorem ki_318_142 : js_OkG 318 142 (o_il 5 144) := js_St.okG (st_iload d_318_142) (fun _ _ _ _ _ => rfl)
theorem ki_318_141 : js_OkG 318 141 (o_lc 1 142) := js_St.okG (st_lconst rfl d_318_141) (fun _ _ _ _ _ => rfl)
theorem ki_318_138 : js_OkG 318 138 (o_cne 150 141) := js_St.okG (st_icne (by decide) d_318_138) (fun _ _ _ _ _ => rfl)
theorem ki_318_137 : js_OkG 318 137 (o_ic 1 138) := js_St.okG (st_iconst rfl d_318_137) (fun _ _ _ _ _ => rfl)
theorem ki_318_134 : js_OkG 318 134 (o_cI 176 4 0 137) := og_sIP rfl rfl kB_318_176 rfl kw_785 kw_786 d_318_134
theorem ki_318_133 : js_OkG 318 133 (o_ic 3 134) := js_St.okG (st_iconst rfl d_318_133) (fun _ _ _ _ _ => rfl)
theorem ki_318_132 : js_OkG 318 132 (o_rem 133) := js_St.okG (st_irem d_318_132) (fun _ _ _ _ _ => rfl)
theorem ki_318_130 : js_OkG 318 130 (o_ic 8 132) := js_St.okG (st_bipush rfl d_318_130) (fun _ _ _ _ _ => rfl)
theorem ki_318_128 : js_OkG 318 128 (o_il 5 130) := js_St.okG (st_iload d_318_128) (fun _ _ _ _ _ => rfl)
theorem ki_318_159 : js_OkG 318 159 (o_ll 3 160) := js_St.okG (st_lloadn rfl d_318_159) (fun _ _ _ _ _ => rfl)
theorem ki_318_156 : js_OkG 318 156 (o_go 5) := js_St.okG (st_goto (by decide) d_318_156) (fun _ _ _ _ _ => rfl)
theorem ki_318_153 : js_OkG 318 153 (o_inc 5 1 156) := js_St.okG (st_iinc rfl (Nat.le_of_ble_eq_true rfl) d_318_153) (fun _ _ _ _ _ => rfl)
theorem ki_318_152 : js_OkG 318 152 (o_ls 3 153) := js_St.okG (st_lstoren rfl (Nat.le_of_ble_eq_true rfl) d_318_152) (fun _ _ _ _ _ => rfl)
theorem ki_318_151 : js_OkG 318 151 (o_B2 (fun x y => x ||| y) 152) := js_St.okG (st_lor d_318_151) (fun _ _ _ _ _ => rfl)
theorem ki_318_150 : js_OkG 318 150 (o_lc 0 151) := js_St.okG (st_lconst rfl d_318_150) (fun _ _ _ _ _ => rfl)
theorem ki_318_147 : js_OkG 318 147 (o_go 151) := js_St.okG (st_goto (by decide) d_318_147) (fun _ _ _ _ _ => rfl)
theorem ki_318_146 : js_OkG 318 146 (o_Sh (fun x y => x <<< (y.toInt64 &&& 63)) 147) := js_St.okG (st_lshl d_318_146) (fun _ _ _ _ _ => rfl)
theorem ki_318_145 : js_OkG 318 145 (o_b2 (fun x y => x - y) 146) := js_St.okG (st_isub d_318_145) (fun _ _ _ _ _ => rfl)
theorem ki_318_144 : js_OkG 318 144 (o_ic 1 145) := js_St.okG (st_iconst rfl d_318_144) (fun _ _ _ _ _ => rfl)
theorem ki_318_174 : js_OkG 318 174 (o_rL) := og_rL rfl d_318_174
theorem ki_318_171 : js_OkG 318 171 (o_cL 319 2 0 174) := og_sLP rfl rfl kB_318_319 rfl kw_949 kw_950 d_318_171
theorem ki_318_170 : js_OkG 318 170 (o_ll 3 171) := js_St.okG (st_lloadn rfl d_318_170) (fun _ _ _ _ _ => rfl)
theorem ki_318_169 : js_OkG 318 169 (o_al 0 170) := js_St.okG (st_aloadn rfl d_318_169) (fun _ _ _ _ _ => rfl)
theorem ki_318_166 : js_OkG 318 166 (o_go 174) := js_St.okG (st_goto (by decide) d_318_166) (fun _ _ _ _ _ => rfl)
theorem ki_318_165 : js_OkG 318 165 (o_ll 1 166) := js_St.okG (st_lloadn rfl d_318_165) (fun _ _ _ _ _ => rfl)
theorem ki_318_162 : js_OkG 318 162 (o_ne 169 165) := js_St.okG (st_ifne (by decide) d_318_162) (fun _ _ _ _ _ => rfl)
theorem ki_318_161 : js_OkG 318 161 (o_lcmp 162) := js_St.okG (st_lcmp d_318_161) (fun _ _ _ _ _ => rfl)
theorem ki_318_160 : js_OkG 318 160 (o_ll 1 161) := js_St.okG (st_lloadn rfl d_318_160) (fun _ _ _ _ _ => rfl)
set_option maxRecDepth 20000 in
theorem mk_318 : js_mokG 318 := jk_tab (fun _ => js_St.okG st_bad (fun _ _ _ _ _ => rfl)) (show jk_all (js_OkG 318) 0 (tb_G 318) from ⟨⟨ki_318_0, ⟨ki_318_1, ⟨ki_318_2, ⟨ki_318_3, ⟨kbadG, ⟨ki_318_5, ⟨kbadG, ⟨ki_318_7, ⟨kbadG, ⟨ki_318_9, ⟨kbadG, ⟨kbadG, ⟨ki_318_12, ⟨ki_318_13, ⟨kbadG, ⟨ki_318_15, trivial⟩⟩⟩⟩⟩⟩⟩⟩⟩⟩⟩⟩⟩⟩⟩⟩, ⟨⟨ki_318_16, ⟨ki_318_17, ⟨ki_318_18, ⟨ki_318_19, ⟨ki_318_20, ⟨kbadG, ⟨kbadG, ⟨ki_318_23, ⟨ki_318_24, ⟨ki_318_25, ⟨kbadG, ⟨ki_318_27, ⟨kbadG, ⟨ki_318_29, ⟨ki_318_30, ⟨kbadG, trivial⟩⟩⟩⟩⟩⟩⟩⟩⟩⟩⟩⟩⟩⟩⟩⟩, ⟨⟨ki_318_32, ⟨kbadG, ⟨ki_318_34, ⟨ki_318_35, ⟨ki_318_36, ⟨kbadG, ⟨kbadG, ⟨ki_318_39, ⟨ki_318_40, ⟨kbadG, ⟨kbadG, ⟨ki_318_43, ⟨ki_318_44, ⟨kbadG, ⟨ki_318_46, ⟨kbadG, trivial⟩⟩⟩⟩⟩⟩⟩⟩⟩⟩⟩⟩⟩⟩⟩⟩, ⟨⟨ki_318_48, ⟨ki_318_49, ⟨ki_318_50, ⟨kbadG, ⟨kbadG, ⟨ki_318_53, ⟨ki_318_54, ⟨ki_318_55, ⟨ki_318_56, ⟨ki_318_57, ⟨ki_318_58, ⟨kbadG, ⟨ki_318_60, ⟨kbadG, ⟨ki_318_62, ⟨ki_318_63, trivial⟩⟩⟩⟩⟩⟩⟩⟩⟩⟩⟩⟩⟩⟩⟩⟩, ⟨⟨kbadG, ⟨ki_318_65, ⟨kbadG, ⟨ki_318_67, ⟨ki_318_68, ⟨ki_318_69, ⟨kbadG, ⟨kbadG, ⟨ki_318_72, ⟨ki_318_73, ⟨kbadG, ⟨kbadG, ⟨ki_318_76, ⟨ki_318_77, ⟨kbadG, ⟨ki_318_79, trivial⟩⟩⟩⟩⟩⟩⟩⟩⟩⟩⟩⟩⟩⟩⟩⟩, ⟨⟨ki_318_80, ⟨ki_318_81, ⟨ki_318_82, ⟨kbadG, ⟨kbadG, ⟨ki_318_85, ⟨ki_318_86, ⟨ki_318_87, ⟨ki_318_88, ⟨ki_318_89, ⟨ki_318_90, ⟨kbadG, ⟨ki_318_92, ⟨kbadG, ⟨ki_318_94, ⟨ki_318_95, trivial⟩⟩⟩⟩⟩⟩⟩⟩⟩⟩⟩⟩⟩⟩⟩⟩, ⟨⟨kbadG, ⟨ki_318_97, ⟨kbadG, ⟨ki_318_99, ⟨ki_318_100, ⟨ki_318_101, ⟨kbadG, ⟨kbadG, ⟨ki_318_104, ⟨ki_318_105, ⟨kbadG, ⟨kbadG, ⟨ki_318_108, ⟨ki_318_109, ⟨kbadG, ⟨ki_318_111, trivial⟩⟩⟩⟩⟩⟩⟩⟩⟩⟩⟩⟩⟩⟩⟩⟩, ⟨⟨kbadG, ⟨ki_318_113, ⟨ki_318_114, ⟨ki_318_115, ⟨kbadG, ⟨kbadG, ⟨ki_318_118, ⟨ki_318_119, ⟨ki_318_120, ⟨ki_318_121, ⟨ki_318_122, ⟨ki_318_123, ⟨kbadG, ⟨ki_318_125, ⟨kbadG, ⟨ki_318_127, trivial⟩⟩⟩⟩⟩⟩⟩⟩⟩⟩⟩⟩⟩⟩⟩⟩, ⟨⟨ki_318_128, ⟨kbadG, ⟨ki_318_130, ⟨kbadG, ⟨ki_318_132, ⟨ki_318_133, ⟨ki_318_134, ⟨kbadG, ⟨kbadG, ⟨ki_318_137, ⟨ki_318_138, ⟨kbadG, ⟨kbadG, ⟨ki_318_141, ⟨ki_318_142, ⟨kbadG, trivial⟩⟩⟩⟩⟩⟩⟩⟩⟩⟩⟩⟩⟩⟩⟩⟩, ⟨⟨ki_318_144, ⟨ki_318_145, ⟨ki_318_146, ⟨ki_318_147, ⟨kbadG, ⟨kbadG, ⟨ki_318_150, ⟨ki_318_151, ⟨ki_318_152, ⟨ki_318_153, ⟨kbadG, ⟨kbadG, ⟨ki_318_156, ⟨kbadG, ⟨kbadG, ⟨ki_318_159, trivial⟩⟩⟩⟩⟩⟩⟩⟩⟩⟩⟩⟩⟩⟩⟩⟩, ⟨⟨ki_318_160, ⟨ki_318_161, ⟨ki_318_162, ⟨kbadG, ⟨kbadG, ⟨ki_318_165, ⟨ki_318_166, ⟨kbadG, ⟨kbadG, ⟨ki_318_169, ⟨ki_318_170, ⟨ki_318_171, ⟨kbadG, ⟨kbadG, ⟨ki_318_174, trivial⟩⟩⟩⟩⟩⟩⟩⟩⟩⟩⟩⟩⟩⟩⟩, trivial⟩⟩⟩⟩⟩⟩⟩⟩⟩⟩⟩)
theorem d_319_0 : decode (js_b 319) 0 = .ok (.lload_n 1, 1) := d_300_0
theorem d_319_1 : decode (js_b 319) 1 = .ok (.lstore_n 3, 1) := d_300_1
theorem d_319_2 : decode (js_b 319) 2 = .ok (.iconst 0, 1) := d_300_2
theorem d_319_3 : decode (js_b 319) 3 = .ok (.istore 5, 2) := d_300_3
theorem d_319_5 : decode (js_b 319) 5 = .ok (.iload 5, 2) := d_300_5
theorem d_319_7 : decode (js_b 319) 7 = .ok (.bipush 64, 2) := d_300_7
theorem d_319_9 : decode (js_b 319) 9 = .ok (.if_icmp .ge 150, 3) := d_300_9
theorem d_319_12 : decode (js_b 319) 12 = .ok (.lload_n 1, 1) := d_300_12
theorem d_319_13 : decode (js_b 319) 13 = .ok (.iload 5, 2) := d_300_13
theorem d_319_15 : decode (js_b 319) 15 = .ok (.lushr, 1) := d_300_15
theorem d_319_16 : decode (js_b 319) 16 = .ok (.lconst 1, 1) := d_300_16
theorem d_319_17 : decode (js_b 319) 17 = .ok (.land, 1) := d_300_17
theorem d_319_18 : decode (js_b 319) 18 = .ok (.lconst 1, 1) := d_300_18
theorem d_319_19 : decode (js_b 319) 19 = .ok (.lcmp, 1) := d_300_19
theorem d_319_20 : decode (js_b 319) 20 = .ok (.ifCond .ne 133, 3) := d_300_20
theorem d_319_23 : decode (js_b 319) 23 = .ok (.lload_n 3, 1) := d_300_23
theorem d_319_24 : decode (js_b 319) 24 = .ok (.aload_n 0, 1) := d_300_24
theorem d_319_25 : decode (js_b 319) 25 = .ok (.iload 5, 2) := d_300_25
theorem d_319_27 : decode (js_b 319) 27 = .ok (.bipush 8, 2) := d_300_27
theorem d_319_29 : decode (js_b 319) 29 = .ok (.idiv, 1) := d_300_29
theorem d_319_30 : decode (js_b 319) 30 = .ok (.iload 5, 2) := d_300_30
theorem d_319_32 : decode (js_b 319) 32 = .ok (.bipush 8, 2) := d_300_32
theorem d_319_34 : decode (js_b 319) 34 = .ok (.irem, 1) := d_300_34
theorem d_319_35 : decode (js_b 319) 35 = .ok (.iconst 0, 1) := d_300_35
theorem d_319_36 : decode (js_b 319) 36 = .ok (.invokestatic 198, 3) := d_300_36
theorem d_319_39 : decode (js_b 319) 39 = .ok (.iconst 1, 1) := d_300_39
theorem d_319_40 : decode (js_b 319) 40 = .ok (.if_icmp .ne 13, 3) := d_300_40
theorem d_319_43 : decode (js_b 319) 43 = .ok (.lconst 1, 1) := d_300_43
theorem d_319_44 : decode (js_b 319) 44 = .ok (.iload 5, 2) := d_300_44
theorem d_319_46 : decode (js_b 319) 46 = .ok (.bipush 8, 2) := d_300_46
theorem d_319_48 : decode (js_b 319) 48 = .ok (.isub, 1) := d_300_48
theorem d_319_49 : decode (js_b 319) 49 = .ok (.lshl, 1) := d_300_49
theorem d_319_50 : decode (js_b 319) 50 = .ok (.goto 4, 3) := d_300_50
theorem d_319_53 : decode (js_b 319) 53 = .ok (.lconst 0, 1) := d_300_53
theorem d_319_54 : decode (js_b 319) 54 = .ok (.lor, 1) := d_300_54
theorem d_319_55 : decode (js_b 319) 55 = .ok (.lstore_n 3, 1) := d_300_55
theorem d_319_56 : decode (js_b 319) 56 = .ok (.lload_n 3, 1) := d_300_56
theorem d_319_57 : decode (js_b 319) 57 = .ok (.aload_n 0, 1) := d_300_57
theorem d_319_58 : decode (js_b 319) 58 = .ok (.iload 5, 2) := d_300_58
theorem d_319_60 : decode (js_b 319) 60 = .ok (.bipush 8, 2) := d_300_60
theorem d_319_62 : decode (js_b 319) 62 = .ok (.idiv, 1) := d_300_62
theorem d_319_63 : decode (js_b 319) 63 = .ok (.iload 5, 2) := d_300_63
theorem d_319_65 : decode (js_b 319) 65 = .ok (.bipush 8, 2) := d_300_65
theorem d_319_67 : decode (js_b 319) 67 = .ok (.irem, 1) := d_300_67
theorem d_319_68 : decode (js_b 319) 68 = .ok (.iconst 1, 1) := d_300_68
theorem d_319_69 : decode (js_b 319) 69 = .ok (.invokestatic 198, 3) := d_300_69
theorem d_319_72 : decode (js_b 319) 72 = .ok (.iconst 1, 1) := d_300_72
theorem d_319_73 : decode (js_b 319) 73 = .ok (.if_icmp .ne 12, 3) := d_300_73
theorem d_319_76 : decode (js_b 319) 76 = .ok (.lconst 1, 1) := d_300_76
theorem d_319_77 : decode (js_b 319) 77 = .ok (.iload 5, 2) := d_300_77
theorem d_319_79 : decode (js_b 319) 79 = .ok (.iconst 1, 1) := d_300_79
theorem d_319_80 : decode (js_b 319) 80 = .ok (.iadd, 1) := d_300_80
theorem d_319_81 : decode (js_b 319) 81 = .ok (.lshl, 1) := d_300_81
theorem d_319_82 : decode (js_b 319) 82 = .ok (.goto 4, 3) := d_300_82
theorem d_319_85 : decode (js_b 319) 85 = .ok (.lconst 0, 1) := d_300_85
theorem d_319_86 : decode (js_b 319) 86 = .ok (.lor, 1) := d_300_86
theorem d_319_87 : decode (js_b 319) 87 = .ok (.lstore_n 3, 1) := d_300_87
theorem d_319_88 : decode (js_b 319) 88 = .ok (.lload_n 3, 1) := d_300_88
theorem d_319_89 : decode (js_b 319) 89 = .ok (.aload_n 0, 1) := d_300_89
theorem d_319_90 : decode (js_b 319) 90 = .ok (.iload 5, 2) := d_300_90
theorem d_319_92 : decode (js_b 319) 92 = .ok (.bipush 8, 2) := d_300_92
theorem d_319_94 : decode (js_b 319) 94 = .ok (.idiv, 1) := d_300_94
theorem d_319_95 : decode (js_b 319) 95 = .ok (.iload 5, 2) := d_300_95
theorem d_319_97 : decode (js_b 319) 97 = .ok (.bipush 8, 2) := d_300_97
theorem d_319_99 : decode (js_b 319) 99 = .ok (.irem, 1) := d_300_99
theorem d_319_100 : decode (js_b 319) 100 = .ok (.iconst 2, 1) := d_300_100
theorem d_319_101 : decode (js_b 319) 101 = .ok (.invokestatic 198, 3) := d_300_101
theorem d_319_104 : decode (js_b 319) 104 = .ok (.iconst 1, 1) := d_300_104
theorem d_319_105 : decode (js_b 319) 105 = .ok (.if_icmp .ne 13, 3) := d_300_105
theorem d_319_108 : decode (js_b 319) 108 = .ok (.lconst 1, 1) := d_300_108
theorem d_319_109 : decode (js_b 319) 109 = .ok (.iload 5, 2) := d_300_109
theorem d_319_111 : decode (js_b 319) 111 = .ok (.bipush 8, 2) := d_300_111
theorem d_319_113 : decode (js_b 319) 113 = .ok (.iadd, 1) := d_300_113
theorem d_319_114 : decode (js_b 319) 114 = .ok (.lshl, 1) := d_300_114
theorem d_319_115 : decode (js_b 319) 115 = .ok (.goto 4, 3) := d_300_115
theorem d_319_118 : decode (js_b 319) 118 = .ok (.lconst 0, 1) := d_300_118
theorem d_319_119 : decode (js_b 319) 119 = .ok (.lor, 1) := d_300_119
theorem d_319_120 : decode (js_b 319) 120 = .ok (.lstore_n 3, 1) := d_300_120
theorem d_319_121 : decode (js_b 319) 121 = .ok (.lload_n 3, 1) := d_300_121
theorem d_319_122 : decode (js_b 319) 122 = .ok (.aload_n 0, 1) := d_300_122
theorem d_319_123 : decode (js_b 319) 123 = .ok (.iload 5, 2) := d_300_123
theorem d_319_125 : decode (js_b 319) 125 = .ok (.bipush 8, 2) := d_300_125
theorem d_319_127 : decode (js_b 319) 127 = .ok (.idiv, 1) := d_300_127
theorem d_319_128 : decode (js_b 319) 128 = .ok (.iload 5, 2) := d_300_128
theorem d_319_130 : decode (js_b 319) 130 = .ok (.bipush 8, 2) := d_300_130
theorem d_319_132 : decode (js_b 319) 132 = .ok (.irem, 1) := d_300_132
theorem d_319_133 : decode (js_b 319) 133 = .ok (.iconst 3, 1) := d_300_133
theorem d_319_134 : decode (js_b 319) 134 = .ok (.invokestatic 198, 3) := d_300_134
theorem d_319_137 : decode (js_b 319) 137 = .ok (.iconst 1, 1) := d_300_137
theorem d_319_138 : decode (js_b 319) 138 = .ok (.if_icmp .ne 12, 3) := d_300_138
theorem d_319_141 : decode (js_b 319) 141 = .ok (.lconst 1, 1) := d_300_141
theorem d_319_142 : decode (js_b 319) 142 = .ok (.iload 5, 2) := d_300_142
theorem d_319_144 : decode (js_b 319) 144 = .ok (.iconst 1, 1) := d_300_144
theorem d_319_145 : decode (js_b 319) 145 = .ok (.isub, 1) := d_300_145
theorem d_319_146 : decode (js_b 319) 146 = .ok (.lshl, 1) := d_300_146
theorem d_319_147 : decode (js_b 319) 147 = .ok (.goto 4, 3) := d_300_147
theorem d_319_150 : decode (js_b 319) 150 = .ok (.lconst 0, 1) := d_300_150
theorem d_319_151 : decode (js_b 319) 151 = .ok (.lor, 1) := d_300_151
theorem d_319_152 : decode (js_b 319) 152 = .ok (.lstore_n 3, 1) := d_300_152
theorem d_319_153 : decode (js_b 319) 153 = .ok (.iinc 5 1, 3) := d_300_153
theorem d_319_156 : decode (js_b 319) 156 = .ok (.goto (-151), 3) := d_300_156
theorem d_319_159 : decode (js_b 319) 159 = .ok (.lload_n 3, 1) := d_300_159
theorem d_319_160 : decode (js_b 319) 160 = .ok (.lload_n 1, 1) := d_300_160
theorem d_319_161 : decode (js_b 319) 161 = .ok (.lcmp, 1) := d_300_161
theorem d_319_162 : decode (js_b 319) 162 = .ok (.ifCond .ne 7, 3) := d_300_162
theorem d_319_165 : decode (js_b 319) 165 = .ok (.lload_n 1, 1) := d_300_165
theorem d_319_166 : decode (js_b 319) 166 = .ok (.goto 8, 3) := d_300_166
theorem d_319_169 : decode (js_b 319) 169 = .ok (.aload_n 0, 1) := d_300_169
theorem d_319_170 : decode (js_b 319) 170 = .ok (.lload_n 3, 1) := d_300_170
theorem d_319_171 : decode (js_b 319) 171 = .ok (.invokestatic 323, 3) := d_300_171
theorem d_319_174 : decode (js_b 319) 174 = .ok (.lreturn, 1) := d_300_174
theorem ki_319_15 : js_OkG 319 15 (o_Sh (fun x y => (x.toUInt64 >>> (y.toInt64.toUInt64 &&& Int64.toUInt64 63)).toInt64) 16) := js_St.okG (st_lushr d_319_15) (fun _ _ _ _ _ => rfl)
theorem ki_319_13 : js_OkG 319 13 (o_il 5 15) := js_St.okG (st_iload d_319_13) (fun _ _ _ _ _ => rfl)
theorem ki_319_12 : js_OkG 319 12 (o_ll 1 13) := js_St.okG (st_lloadn rfl d_319_12) (fun _ _ _ _ _ => rfl)
theorem ki_319_9 : js_OkG 319 9 (o_cge 159 12) := js_St.okG (st_icge (by decide) d_319_9) (fun _ _ _ _ _ => rfl)
theorem ki_319_7 : js_OkG 319 7 (o_ic 64 9) := js_St.okG (st_bipush rfl d_319_7) (fun _ _ _ _ _ => rfl)
theorem ki_319_5 : js_OkG 319 5 (o_il 5 7) := js_St.okG (st_iload d_319_5) (fun _ _ _ _ _ => rfl)
theorem ki_319_3 : js_OkG 319 3 (o_is 5 5) := js_St.okG (st_istore (Nat.le_of_ble_eq_true rfl) d_319_3) (fun _ _ _ _ _ => rfl)
theorem ki_319_2 : js_OkG 319 2 (o_ic 0 3) := js_St.okG (st_iconst rfl d_319_2) (fun _ _ _ _ _ => rfl)
theorem ki_319_1 : js_OkG 319 1 (o_ls 3 2) := js_St.okG (st_lstoren rfl (Nat.le_of_ble_eq_true rfl) d_319_1) (fun _ _ _ _ _ => rfl)
theorem ki_319_0 : js_OkG 319 0 (o_ll 1 1) := js_St.okG (st_lloadn rfl d_319_0) (fun _ _ _ _ _ => rfl)
theorem ki_319_30 : js_OkG 319 30 (o_il 5 32) := js_St.okG (st_iload d_319_30) (fun _ _ _ _ _ => rfl)
theorem ki_319_29 : js_OkG 319 29 (o_div 30) := js_St.okG (st_idiv d_319_29) (fun _ _ _ _ _ => rfl)
theorem ki_319_27 : js_OkG 319 27 (o_ic 8 29) := js_St.okG (st_bipush rfl d_319_27) (fun _ _ _ _ _ => rfl)
theorem ki_319_25 : js_OkG 319 25 (o_il 5 27) := js_St.okG (st_iload d_319_25) (fun _ _ _ _ _ => rfl)
theorem ki_319_24 : js_OkG 319 24 (o_al 0 25) := js_St.okG (st_aloadn rfl d_319_24) (fun _ _ _ _ _ => rfl)
theorem ki_319_23 : js_OkG 319 23 (o_ll 3 24) := js_St.okG (st_lloadn rfl d_319_23) (fun _ _ _ _ _ => rfl)
theorem ki_319_20 : js_OkG 319 20 (o_ne 153 23) := js_St.okG (st_ifne (by decide) d_319_20) (fun _ _ _ _ _ => rfl)
theorem ki_319_19 : js_OkG 319 19 (o_lcmp 20) := js_St.okG (st_lcmp d_319_19) (fun _ _ _ _ _ => rfl)
theorem ki_319_18 : js_OkG 319 18 (o_lc 1 19) := js_St.okG (st_lconst rfl d_319_18) (fun _ _ _ _ _ => rfl)
theorem ki_319_17 : js_OkG 319 17 (o_B2 (fun x y => x &&& y) 18) := js_St.okG (st_land d_319_17) (fun _ _ _ _ _ => rfl)
theorem ki_319_16 : js_OkG 319 16 (o_lc 1 17) := js_St.okG (st_lconst rfl d_319_16) (fun _ _ _ _ _ => rfl)
theorem ki_319_46 : js_OkG 319 46 (o_ic 8 48) := js_St.okG (st_bipush rfl d_319_46) (fun _ _ _ _ _ => rfl)
theorem ki_319_44 : js_OkG 319 44 (o_il 5 46) := js_St.okG (st_iload d_319_44) (fun _ _ _ _ _ => rfl)
theorem ki_319_43 : js_OkG 319 43 (o_lc 1 44) := js_St.okG (st_lconst rfl d_319_43) (fun _ _ _ _ _ => rfl)
theorem ki_319_40 : js_OkG 319 40 (o_cne 53 43) := js_St.okG (st_icne (by decide) d_319_40) (fun _ _ _ _ _ => rfl)
theorem ki_319_39 : js_OkG 319 39 (o_ic 1 40) := js_St.okG (st_iconst rfl d_319_39) (fun _ _ _ _ _ => rfl)
theorem ki_319_36 : js_OkG 319 36 (o_cI 176 4 0 39) := og_sIP rfl rfl kB_319_176 rfl kw_785 kw_786 d_319_36
theorem ki_319_35 : js_OkG 319 35 (o_ic 0 36) := js_St.okG (st_iconst rfl d_319_35) (fun _ _ _ _ _ => rfl)
theorem ki_319_34 : js_OkG 319 34 (o_rem 35) := js_St.okG (st_irem d_319_34) (fun _ _ _ _ _ => rfl)
theorem ki_319_32 : js_OkG 319 32 (o_ic 8 34) := js_St.okG (st_bipush rfl d_319_32) (fun _ _ _ _ _ => rfl)
theorem ki_319_63 : js_OkG 319 63 (o_il 5 65) := js_St.okG (st_iload d_319_63) (fun _ _ _ _ _ => rfl)
theorem ki_319_62 : js_OkG 319 62 (o_div 63) := js_St.okG (st_idiv d_319_62) (fun _ _ _ _ _ => rfl)
theorem ki_319_60 : js_OkG 319 60 (o_ic 8 62) := js_St.okG (st_bipush rfl d_319_60) (fun _ _ _ _ _ => rfl)
theorem ki_319_58 : js_OkG 319 58 (o_il 5 60) := js_St.okG (st_iload d_319_58) (fun _ _ _ _ _ => rfl)
theorem ki_319_57 : js_OkG 319 57 (o_al 0 58) := js_St.okG (st_aloadn rfl d_319_57) (fun _ _ _ _ _ => rfl)
theorem ki_319_56 : js_OkG 319 56 (o_ll 3 57) := js_St.okG (st_lloadn rfl d_319_56) (fun _ _ _ _ _ => rfl)
theorem ki_319_55 : js_OkG 319 55 (o_ls 3 56) := js_St.okG (st_lstoren rfl (Nat.le_of_ble_eq_true rfl) d_319_55) (fun _ _ _ _ _ => rfl)
theorem ki_319_54 : js_OkG 319 54 (o_B2 (fun x y => x ||| y) 55) := js_St.okG (st_lor d_319_54) (fun _ _ _ _ _ => rfl)
theorem ki_319_53 : js_OkG 319 53 (o_lc 0 54) := js_St.okG (st_lconst rfl d_319_53) (fun _ _ _ _ _ => rfl)
theorem ki_319_50 : js_OkG 319 50 (o_go 54) := js_St.okG (st_goto (by decide) d_319_50) (fun _ _ _ _ _ => rfl)
theorem ki_319_49 : js_OkG 319 49 (o_Sh (fun x y => x <<< (y.toInt64 &&& 63)) 50) := js_St.okG (st_lshl d_319_49) (fun _ _ _ _ _ => rfl)
theorem ki_319_48 : js_OkG 319 48 (o_b2 (fun x y => x - y) 49) := js_St.okG (st_isub d_319_48) (fun _ _ _ _ _ => rfl)
theorem ki_319_79 : js_OkG 319 79 (o_ic 1 80) := js_St.okG (st_iconst rfl d_319_79) (fun _ _ _ _ _ => rfl)
theorem ki_319_77 : js_OkG 319 77 (o_il 5 79) := js_St.okG (st_iload d_319_77) (fun _ _ _ _ _ => rfl)
theorem ki_319_76 : js_OkG 319 76 (o_lc 1 77) := js_St.okG (st_lconst rfl d_319_76) (fun _ _ _ _ _ => rfl)
theorem ki_319_73 : js_OkG 319 73 (o_cne 85 76) := js_St.okG (st_icne (by decide) d_319_73) (fun _ _ _ _ _ => rfl)
theorem ki_319_72 : js_OkG 319 72 (o_ic 1 73) := js_St.okG (st_iconst rfl d_319_72) (fun _ _ _ _ _ => rfl)
theorem ki_319_69 : js_OkG 319 69 (o_cI 176 4 0 72) := og_sIP rfl rfl kB_319_176 rfl kw_785 kw_786 d_319_69
theorem ki_319_68 : js_OkG 319 68 (o_ic 1 69) := js_St.okG (st_iconst rfl d_319_68) (fun _ _ _ _ _ => rfl)
theorem ki_319_67 : js_OkG 319 67 (o_rem 68) := js_St.okG (st_irem d_319_67) (fun _ _ _ _ _ => rfl)
theorem ki_319_65 : js_OkG 319 65 (o_ic 8 67) := js_St.okG (st_bipush rfl d_319_65) (fun _ _ _ _ _ => rfl)
theorem ki_319_95 : js_OkG 319 95 (o_il 5 97) := js_St.okG (st_iload d_319_95) (fun _ _ _ _ _ => rfl)
theorem ki_319_94 : js_OkG 319 94 (o_div 95) := js_St.okG (st_idiv d_319_94) (fun _ _ _ _ _ => rfl)
theorem ki_319_92 : js_OkG 319 92 (o_ic 8 94) := js_St.okG (st_bipush rfl d_319_92) (fun _ _ _ _ _ => rfl)
theorem ki_319_90 : js_OkG 319 90 (o_il 5 92) := js_St.okG (st_iload d_319_90) (fun _ _ _ _ _ => rfl)
theorem ki_319_89 : js_OkG 319 89 (o_al 0 90) := js_St.okG (st_aloadn rfl d_319_89) (fun _ _ _ _ _ => rfl)
theorem ki_319_88 : js_OkG 319 88 (o_ll 3 89) := js_St.okG (st_lloadn rfl d_319_88) (fun _ _ _ _ _ => rfl)
theorem ki_319_87 : js_OkG 319 87 (o_ls 3 88) := js_St.okG (st_lstoren rfl (Nat.le_of_ble_eq_true rfl) d_319_87) (fun _ _ _ _ _ => rfl)
theorem ki_319_86 : js_OkG 319 86 (o_B2 (fun x y => x ||| y) 87) := js_St.okG (st_lor d_319_86) (fun _ _ _ _ _ => rfl)
theorem ki_319_85 : js_OkG 319 85 (o_lc 0 86) := js_St.okG (st_lconst rfl d_319_85) (fun _ _ _ _ _ => rfl)
theorem ki_319_82 : js_OkG 319 82 (o_go 86) := js_St.okG (st_goto (by decide) d_319_82) (fun _ _ _ _ _ => rfl)
theorem ki_319_81 : js_OkG 319 81 (o_Sh (fun x y => x <<< (y.toInt64 &&& 63)) 82) := js_St.okG (st_lshl d_319_81) (fun _ _ _ _ _ => rfl)
theorem ki_319_80 : js_OkG 319 80 (o_b2 (fun x y => x + y) 81) := js_St.okG (st_iadd d_319_80) (fun _ _ _ _ _ => rfl)
theorem ki_319_111 : js_OkG 319 111 (o_ic 8 113) := js_St.okG (st_bipush rfl d_319_111) (fun _ _ _ _ _ => rfl)
theorem ki_319_109 : js_OkG 319 109 (o_il 5 111) := js_St.okG (st_iload d_319_109) (fun _ _ _ _ _ => rfl)
theorem ki_319_108 : js_OkG 319 108 (o_lc 1 109) := js_St.okG (st_lconst rfl d_319_108) (fun _ _ _ _ _ => rfl)
theorem ki_319_105 : js_OkG 319 105 (o_cne 118 108) := js_St.okG (st_icne (by decide) d_319_105) (fun _ _ _ _ _ => rfl)
theorem ki_319_104 : js_OkG 319 104 (o_ic 1 105) := js_St.okG (st_iconst rfl d_319_104) (fun _ _ _ _ _ => rfl)
theorem ki_319_101 : js_OkG 319 101 (o_cI 176 4 0 104) := og_sIP rfl rfl kB_319_176 rfl kw_785 kw_786 d_319_101
theorem ki_319_100 : js_OkG 319 100 (o_ic 2 101) := js_St.okG (st_iconst rfl d_319_100) (fun _ _ _ _ _ => rfl)
theorem ki_319_99 : js_OkG 319 99 (o_rem 100) := js_St.okG (st_irem d_319_99) (fun _ _ _ _ _ => rfl)
theorem ki_319_97 : js_OkG 319 97 (o_ic 8 99) := js_St.okG (st_bipush rfl d_319_97) (fun _ _ _ _ _ => rfl)
theorem ki_319_127 : js_OkG 319 127 (o_div 128) := js_St.okG (st_idiv d_319_127) (fun _ _ _ _ _ => rfl)
theorem ki_319_125 : js_OkG 319 125 (o_ic 8 127) := js_St.okG (st_bipush rfl d_319_125) (fun _ _ _ _ _ => rfl)
theorem ki_319_123 : js_OkG 319 123 (o_il 5 125) := js_St.okG (st_iload d_319_123) (fun _ _ _ _ _ => rfl)
theorem ki_319_122 : js_OkG 319 122 (o_al 0 123) := js_St.okG (st_aloadn rfl d_319_122) (fun _ _ _ _ _ => rfl)
theorem ki_319_121 : js_OkG 319 121 (o_ll 3 122) := js_St.okG (st_lloadn rfl d_319_121) (fun _ _ _ _ _ => rfl)
theorem ki_319_120 : js_OkG 319 120 (o_ls 3 121) := js_St.okG (st_lstoren rfl (Nat.le_of_ble_eq_true rfl) d_319_120) (fun _ _ _ _ _ => rfl)
theorem ki_319_119 : js_OkG 319 119 (o_B2 (fun x y => x ||| y) 120) := js_St.okG (st_lor d_319_119) (fun _ _ _ _ _ => rfl)
theorem ki_319_118 : js_OkG 319 118 (o_lc 0 119) := js_St.okG (st_lconst rfl d_319_118) (fun _ _ _ _ _ => rfl)
theorem ki_319_115 : js_OkG 319 115 (o_go 119) := js_St.okG (st_goto (by decide) d_319_115) (fun _ _ _ _ _ => rfl)
theorem ki_319_114 : js_OkG 319 114 (o_Sh (fun x y => x <<< (y.toInt64 &&& 63)) 115) := js_St.okG (st_lshl d_319_114) (fun _ _ _ _ _ => rfl)
theorem ki_319_113 : js_OkG 319 113 (o_b2 (fun x y => x + y) 114) := js_St.okG (st_iadd d_319_113) (fun _ _ _ _ _ => rfl)
theorem ki_319_142 : js_OkG 319 142 (o_il 5 144) := js_St.okG (st_iload d_319_142) (fun _ _ _ _ _ => rfl)
theorem ki_319_141 : js_OkG 319 141 (o_lc 1 142) := js_St.okG (st_lconst rfl d_319_141) (fun _ _ _ _ _ => rfl)
theorem ki_319_138 : js_OkG 319 138 (o_cne 150 141) := js_St.okG (st_icne (by decide) d_319_138) (fun _ _ _ _ _ => rfl)
theorem ki_319_137 : js_OkG 319 137 (o_ic 1 138) := js_St.okG (st_iconst rfl d_319_137) (fun _ _ _ _ _ => rfl)
theorem ki_319_134 : js_OkG 319 134 (o_cI 176 4 0 137) := og_sIP rfl rfl kB_319_176 rfl kw_785 kw_786 d_319_134
theorem ki_319_133 : js_OkG 319 133 (o_ic 3 134) := js_St.okG (st_iconst rfl d_319_133) (fun _ _ _ _ _ => rfl)
theorem ki_319_132 : js_OkG 319 132 (o_rem 133) := js_St.okG (st_irem d_319_132) (fun _ _ _ _ _ => rfl)
theorem ki_319_130 : js_OkG 319 130 (o_ic 8 132) := js_St.okG (st_bipush rfl d_319_130) (fun _ _ _ _ _ => rfl)
theorem ki_319_128 : js_OkG 319 128 (o_il 5 130) := js_St.okG (st_iload d_319_128) (fun _ _ _ _ _ => rfl)
theorem ki_319_159 : js_OkG 319 159 (o_ll 3 160) := js_St.okG (st_lloadn rfl d_319_159) (fun _ _ _ _ _ => rfl)
theorem ki_319_156 : js_OkG 319 156 (o_go 5) := js_St.okG (st_goto (by decide) d_319_156) (fun _ _ _ _ _ => rfl)
theorem ki_319_153 : js_OkG 319 153 (o_inc 5 1 156) := js_St.okG (st_iinc rfl (Nat.le_of_ble_eq_true rfl) d_319_153) (fun _ _ _ _ _ => rfl)
theorem ki_319_152 : js_OkG 319 152 (o_ls 3 153) := js_St.okG (st_lstoren rfl (Nat.le_of_ble_eq_true rfl) d_319_152) (fun _ _ _ _ _ => rfl)
theorem ki_319_151 : js_OkG 319 151 (o_B2 (fun x y => x ||| y) 152) := js_St.okG (st_lor d_319_151) (fun _ _ _ _ _ => rfl)
theorem ki_319_150 : js_OkG 319 150 (o_lc 0 151) := js_St.okG (st_lconst rfl d_319_150) (fun _ _ _ _ _ => rfl)
theorem ki_319_147 : js_OkG 319 147 (o_go 151) := js_St.okG (st_goto (by decide) d_319_147) (fun _ _ _ _ _ => rfl)
theorem ki_319_146 : js_OkG 319 146 (o_Sh (fun x y => x <<< (y.toInt64 &&& 63)) 147) := js_St.okG (st_lshl d_319_146) (fun _ _ _ _ _ => rfl)
theorem ki_319_145 : js_OkG 319 145 (o_b2 (fun x y => x - y) 146) := js_St.okG (st_isub d_319_145) (fun _ _ _ _ _ => rfl)
theorem ki_319_144 : js_OkG 319 144 (o_ic 1 145) := js_St.okG (st_iconst rfl d_319_144) (fun _ _ _ _ _ => rfl)
theorem ki_319_174 : js_OkG 319 174 (o_rL) := og_rL rfl d_319_174
theorem ki_319_171 : js_OkG 319 171 (o_cL 320 2 0 174) := og_sLP rfl rfl kB_319_320 rfl kw_949 kw_950 d_319_171
theorem ki_319_170 : js_OkG 319 170 (o_ll 3 171) := js_St.okG (st_lloadn rfl d_319_170) (fun _ _ _ _ _ => rfl)
theorem ki_319_169 : js_OkG 319 169 (o_al 0 170) := js_St.okG (st_aloadn rfl d_319_169) (fun _ _ _ _ _ => rfl)
theorem ki_319_166 : js_OkG 319 166 (o_go 174) := js_St.okG (st_goto (by decide) d_319_166) (fun _ _ _ _ _ => rfl)
theorem ki_319_165 : js_OkG 319 165 (o_ll 1 166) := js_St.okG (st_lloadn rfl d_319_165) (fun _ _ _ _ _ => rfl)
theorem ki_319_162 : js_OkG 319 162 (o_ne 169 165) := js_St.okG (st_ifne (by decide) d_319_162) (fun _ _ _ _ _ => rfl)
theorem ki_319_161 : js_OkG 319 161 (o_lcmp 162) := js_St.okG (st_lcmp d_319_161) (fun _ _ _ _ _ => rfl)
theorem ki_319_160 : js_OkG 319 160 (o_ll 1 161) := js_St.okG (st_lloadn rfl d_319_160) (fun _ _ _ _ _ => rfl)
set_option maxRecDepth 20000 in
theorem mk_319 : js_mokG 319 := jk_tab (fun _ => js_St.okG st_bad (fun _ _ _ _ _ => rfl)) (show jk_all (js_OkG 319) 0 (tb_G 319) from ⟨⟨ki_319_0, ⟨ki_319_1, ⟨ki_319_2, ⟨ki_319_3, ⟨kbadG, ⟨ki_319_5, ⟨kbadG, ⟨ki_319_7, ⟨kbadG, ⟨ki_319_9, ⟨kbadG, ⟨kbadG, ⟨ki_319_12, ⟨ki_319_13, ⟨kbadG, ⟨ki_319_15, trivial⟩⟩⟩⟩⟩⟩⟩⟩⟩⟩⟩⟩⟩⟩⟩⟩, ⟨⟨ki_319_16, ⟨ki_319_17, ⟨ki_319_18, ⟨ki_319_19, ⟨ki_319_20, ⟨kbadG, ⟨kbadG, ⟨ki_319_23, ⟨ki_319_24, ⟨ki_319_25, ⟨kbadG, ⟨ki_319_27, ⟨kbadG, ⟨ki_319_29, ⟨ki_319_30, ⟨kbadG, trivial⟩⟩⟩⟩⟩⟩⟩⟩⟩⟩⟩⟩⟩⟩⟩⟩, ⟨⟨ki_319_32, ⟨kbadG, ⟨ki_319_34, ⟨ki_319_35, ⟨ki_319_36, ⟨kbadG, ⟨kbadG, ⟨ki_319_39, ⟨ki_319_40, ⟨kbadG, ⟨kbadG, ⟨ki_319_43, ⟨ki_319_44, ⟨kbadG, ⟨ki_319_46, ⟨kbadG, trivial⟩⟩⟩⟩⟩⟩⟩⟩⟩⟩⟩⟩⟩⟩⟩⟩, ⟨⟨ki_319_48, ⟨ki_319_49, ⟨ki_319_50, ⟨kbadG, ⟨kbadG, ⟨ki_319_53, ⟨ki_319_54, ⟨ki_319_55, ⟨ki_319_56, ⟨ki_319_57, ⟨ki_319_58, ⟨kbadG, ⟨ki_319_60, ⟨kbadG, ⟨ki_319_62, ⟨ki_319_63, trivial⟩⟩⟩⟩⟩⟩⟩⟩⟩⟩⟩⟩⟩⟩⟩⟩, ⟨⟨kbadG, ⟨ki_319_65, ⟨kbadG, ⟨ki_319_67, ⟨ki_319_68, ⟨ki_319_69, ⟨kbadG, ⟨kbadG, ⟨ki_319_72, ⟨ki_319_73, ⟨kbadG, ⟨kbadG, ⟨ki_319_76, ⟨ki_319_77, ⟨kbadG, ⟨ki_319_79, trivial⟩⟩⟩⟩⟩⟩⟩⟩⟩⟩⟩⟩⟩⟩⟩⟩, ⟨⟨ki_319_80, ⟨ki_319_81, ⟨ki_319_82, ⟨kbadG, ⟨kbadG, ⟨ki_319_85, ⟨ki_319_86, ⟨ki_319_87, ⟨ki_319_88, ⟨ki_319_89, ⟨ki_319_90, ⟨kbadG, ⟨ki_319_92, ⟨kbadG, ⟨ki_319_94, ⟨ki_319_95, trivial⟩⟩⟩⟩⟩⟩⟩⟩⟩⟩⟩⟩⟩⟩⟩⟩, ⟨⟨kbadG, ⟨ki_319_97, ⟨kbadG, ⟨ki_319_99, ⟨ki_319_100, ⟨ki_319_101, ⟨kbadG, ⟨kbadG, ⟨ki_319_104, ⟨ki_319_105, ⟨kbadG, ⟨kbadG, ⟨ki_319_108, ⟨ki_319_109, ⟨kbadG, ⟨ki_319_111, trivial⟩⟩⟩⟩⟩⟩⟩⟩⟩⟩⟩⟩⟩⟩⟩⟩, ⟨⟨kbadG, ⟨ki_319_113, ⟨ki_319_114, ⟨ki_319_115, ⟨kbadG, ⟨kbadG, ⟨ki_319_118, ⟨ki_319_119, ⟨ki_319_120, ⟨ki_319_121, ⟨ki_319_122, ⟨ki_319_123, ⟨kbadG, ⟨ki_319_125, ⟨kbadG, ⟨ki_319_127, trivial⟩⟩⟩⟩⟩⟩⟩⟩⟩⟩⟩⟩⟩⟩⟩⟩, ⟨⟨ki_319_128, ⟨kbadG, ⟨ki_319_130, ⟨kbadG, ⟨ki_319_132, ⟨ki_319_133, ⟨ki_319_134, ⟨kbadG, ⟨kbadG, ⟨ki_319_137, ⟨ki_319_138, ⟨kbadG, ⟨kbadG, ⟨ki_319_141, ⟨ki_319_142, ⟨kbadG, trivial⟩⟩⟩⟩⟩⟩⟩⟩⟩⟩⟩⟩⟩⟩⟩⟩, ⟨⟨ki_319_144, ⟨ki_319_145, ⟨ki_319_146, ⟨ki_319_147, ⟨kbadG, ⟨kbadG, ⟨ki_319_150, ⟨ki_319_151, ⟨ki_319_152, ⟨ki_319_153, ⟨kbadG, ⟨kbadG, ⟨ki_319_156, ⟨kbadG, ⟨kbadG, ⟨ki_319_159, trivial⟩⟩⟩⟩⟩⟩⟩⟩⟩⟩⟩⟩⟩⟩⟩⟩, ⟨⟨ki_319_160, ⟨ki_319_161, ⟨ki_319_162, ⟨kbadG, ⟨kbadG, ⟨ki_319_165, ⟨ki_319_166, ⟨kbadG, ⟨kbadG, ⟨ki_319_169, ⟨ki_319_170, ⟨ki_319_171, ⟨kbadG, ⟨kbadG, ⟨ki_319_174, trivial⟩⟩⟩⟩⟩⟩⟩⟩⟩⟩⟩⟩⟩⟩⟩, trivial⟩⟩⟩⟩⟩⟩⟩⟩⟩⟩⟩)
theorem d_320_0 : decode (js_b 320) 0 = .ok (.lload_n 1, 1) := d_300_0
theorem d_320_1 : decode (js_b 320) 1 = .ok (.lstore_n 3, 1) := d_300_1
theorem d_320_2 : decode (js_b 320) 2 = .ok (.iconst 0, 1) := d_300_2
theorem d_320_3 : decode (js_b 320) 3 = .ok (.istore 5, 2) := d_300_3
theorem d_320_5 : decode (js_b 320) 5 = .ok (.iload 5, 2) := d_300_5
theorem d_320_7 : decode (js_b 320) 7 = .ok (.bipush 64, 2) := d_300_7
theorem d_320_9 : decode (js_b 320) 9 = .ok (.if_icmp .ge 150, 3) := d_300_9
theorem d_320_12 : decode (js_b 320) 12 = .ok (.lload_n 1, 1) := d_300_12
theorem d_320_13 : decode (js_b 320) 13 = .ok (.iload 5, 2) := d_300_13
theorem d_320_15 : decode (js_b 320) 15 = .ok (.lushr, 1) := d_300_15
theorem d_320_16 : decode (js_b 320) 16 = .ok (.lconst 1, 1) := d_300_16
theorem d_320_17 : decode (js_b 320) 17 = .ok (.land, 1) := d_300_17
theorem d_320_18 : decode (js_b 320) 18 = .ok (.lconst 1, 1) := d_300_18
theorem d_320_19 : decode (js_b 320) 19 = .ok (.lcmp, 1) := d_300_19
theorem d_320_20 : decode (js_b 320) 20 = .ok (.ifCond .ne 133, 3) := d_300_20
theorem d_320_23 : decode (js_b 320) 23 = .ok (.lload_n 3, 1) := d_300_23
theorem d_320_24 : decode (js_b 320) 24 = .ok (.aload_n 0, 1) := d_300_24
theorem d_320_25 : decode (js_b 320) 25 = .ok (.iload 5, 2) := d_300_25
theorem d_320_27 : decode (js_b 320) 27 = .ok (.bipush 8, 2) := d_300_27
theorem d_320_29 : decode (js_b 320) 29 = .ok (.idiv, 1) := d_300_29
theorem d_320_30 : decode (js_b 320) 30 = .ok (.iload 5, 2) := d_300_30
theorem d_320_32 : decode (js_b 320) 32 = .ok (.bipush 8, 2) := d_300_32
theorem d_320_34 : decode (js_b 320) 34 = .ok (.irem, 1) := d_300_34
theorem d_320_35 : decode (js_b 320) 35 = .ok (.iconst 0, 1) := d_300_35
theorem d_320_36 : decode (js_b 320) 36 = .ok (.invokestatic 198, 3) := d_300_36
theorem d_320_39 : decode (js_b 320) 39 = .ok (.iconst 1, 1) := d_300_39
theorem d_320_40 : decode (js_b 320) 40 = .ok (.if_icmp .ne 13, 3) := d_300_40
theorem d_320_43 : decode (js_b 320) 43 = .ok (.lconst 1, 1) := d_300_43
theorem d_320_44 : decode (js_b 320) 44 = .ok (.iload 5, 2) := d_300_44
theorem d_320_46 : decode (js_b 320) 46 = .ok (.bipush 8, 2) := d_300_46
theorem d_320_48 : decode (js_b 320) 48 = .ok (.isub, 1) := d_300_48
theorem d_320_49 : decode (js_b 320) 49 = .ok (.lshl, 1) := d_300_49
theorem d_320_50 : decode (js_b 320) 50 = .ok (.goto 4, 3) := d_300_50
theorem d_320_53 : decode (js_b 320) 53 = .ok (.lconst 0, 1) := d_300_53
theorem d_320_54 : decode (js_b 320) 54 = .ok (.lor, 1) := d_300_54
theorem d_320_55 : decode (js_b 320) 55 = .ok (.lstore_n 3, 1) := d_300_55
theorem d_320_56 : decode (js_b 320) 56 = .ok (.lload_n 3, 1) := d_300_56
theorem d_320_57 : decode (js_b 320) 57 = .ok (.aload_n 0, 1) := d_300_57
theorem d_320_58 : decode (js_b 320) 58 = .ok (.iload 5, 2) := d_300_58
theorem d_320_60 : decode (js_b 320) 60 = .ok (.bipush 8, 2) := d_300_60
theorem d_320_62 : decode (js_b 320) 62 = .ok (.idiv, 1) := d_300_62
theorem d_320_63 : decode (js_b 320) 63 = .ok (.iload 5, 2) := d_300_63
theorem d_320_65 : decode (js_b 320) 65 = .ok (.bipush 8, 2) := d_300_65
theorem d_320_67 : decode (js_b 320) 67 = .ok (.irem, 1) := d_300_67
theorem d_320_68 : decode (js_b 320) 68 = .ok (.iconst 1, 1) := d_300_68
theorem d_320_69 : decode (js_b 320) 69 = .ok (.invokestatic 198, 3) := d_300_69
theorem d_320_72 : decode (js_b 320) 72 = .ok (.iconst 1, 1) := d_300_72
theorem d_320_73 : decode (js_b 320) 73 = .ok (.if_icmp .ne 12, 3) := d_300_73
theorem d_320_76 : decode (js_b 320) 76 = .ok (.lconst 1, 1) := d_300_76
theorem d_320_77 : decode (js_b 320) 77 = .ok (.iload 5, 2) := d_300_77
theorem d_320_79 : decode (js_b 320) 79 = .ok (.iconst 1, 1) := d_300_79
theorem d_320_80 : decode (js_b 320) 80 = .ok (.iadd, 1) := d_300_80
theorem d_320_81 : decode (js_b 320) 81 = .ok (.lshl, 1) := d_300_81
theorem d_320_82 : decode (js_b 320) 82 = .ok (.goto 4, 3) := d_300_82
theorem d_320_85 : decode (js_b 320) 85 = .ok (.lconst 0, 1) := d_300_85
theorem d_320_86 : decode (js_b 320) 86 = .ok (.lor, 1) := d_300_86
theorem d_320_87 : decode (js_b 320) 87 = .ok (.lstore_n 3, 1) := d_300_87
theorem d_320_88 : decode (js_b 320) 88 = .ok (.lload_n 3, 1) := d_300_88
theorem d_320_89 : decode (js_b 320) 89 = .ok (.aload_n 0, 1) := d_300_89
theorem d_320_90 : decode (js_b 320) 90 = .ok (.iload 5, 2) := d_300_90
theorem d_320_92 : decode (js_b 320) 92 = .ok (.bipush 8, 2) := d_300_92
theorem d_320_94 : decode (js_b 320) 94 = .ok (.idiv, 1) := d_300_94
theorem d_320_95 : decode (js_b 320) 95 = .ok (.iload 5, 2) := d_300_95
theorem d_320_97 : decode (js_b 320) 97 = .ok (.bipush 8, 2) := d_300_97
theorem d_320_99 : decode (js_b 320) 99 = .ok (.irem, 1) := d_300_99
theorem d_320_100 : decode (js_b 320) 100 = .ok (.iconst 2, 1) := d_300_100
theorem d_320_101 : decode (js_b 320) 101 = .ok (.invokestatic 198, 3) := d_300_101
theorem d_320_104 : decode (js_b 320) 104 = .ok (.iconst 1, 1) := d_300_104
theorem d_320_105 : decode (js_b 320) 105 = .ok (.if_icmp .ne 13, 3) := d_300_105
theorem d_320_108 : decode (js_b 320) 108 = .ok (.lconst 1, 1) := d_300_108
theorem d_320_109 : decode (js_b 320) 109 = .ok (.iload 5, 2) := d_300_109
theorem d_320_111 : decode (js_b 320) 111 = .ok (.bipush 8, 2) := d_300_111
theorem d_320_113 : decode (js_b 320) 113 = .ok (.iadd, 1) := d_300_113
theorem d_320_114 : decode (js_b 320) 114 = .ok (.lshl, 1) := d_300_114
theorem d_320_115 : decode (js_b 320) 115 = .ok (.goto 4, 3) := d_300_115
theorem d_320_118 : decode (js_b 320) 118 = .ok (.lconst 0, 1) := d_300_118
theorem d_320_119 : decode (js_b 320) 119 = .ok (.lor, 1) := d_300_119
theorem d_320_120 : decode (js_b 320) 120 = .ok (.lstore_n 3, 1) := d_300_120
theorem d_320_121 : decode (js_b 320) 121 = .ok (.lload_n 3, 1) := d_300_121
theorem d_320_122 : decode (js_b 320) 122 = .ok (.aload_n 0, 1) := d_300_122
theorem d_320_123 : decode (js_b 320) 123 = .ok (.iload 5, 2) := d_300_123
theorem d_320_125 : decode (js_b 320) 125 = .ok (.bipush 8, 2) := d_300_125
theorem d_320_127 : decode (js_b 320) 127 = .ok (.idiv, 1) := d_300_127
theorem d_320_128 : decode (js_b 320) 128 = .ok (.iload 5, 2) := d_300_128
theorem d_320_130 : decode (js_b 320) 130 = .ok (.bipush 8, 2) := d_300_130
theorem d_320_132 : decode (js_b 320) 132 = .ok (.irem, 1) := d_300_132
theorem d_320_133 : decode (js_b 320) 133 = .ok (.iconst 3, 1) := d_300_133
theorem d_320_134 : decode (js_b 320) 134 = .ok (.invokestatic 198, 3) := d_300_134
theorem d_320_137 : decode (js_b 320) 137 = .ok (.iconst 1, 1) := d_300_137
theorem d_320_138 : decode (js_b 320) 138 = .ok (.if_icmp .ne 12, 3) := d_300_138
theorem d_320_141 : decode (js_b 320) 141 = .ok (.lconst 1, 1) := d_300_141
theorem d_320_142 : decode (js_b 320) 142 = .ok (.iload 5, 2) := d_300_142
theorem d_320_144 : decode (js_b 320) 144 = .ok (.iconst 1, 1) := d_300_144
theorem d_320_145 : decode (js_b 320) 145 = .ok (.isub, 1) := d_300_145
theorem d_320_146 : decode (js_b 320) 146 = .ok (.lshl, 1) := d_300_146
theorem d_320_147 : decode (js_b 320) 147 = .ok (.goto 4, 3) := d_300_147
theorem d_320_150 : decode (js_b 320) 150 = .ok (.lconst 0, 1) := d_300_150
theorem d_320_151 : decode (js_b 320) 151 = .ok (.lor, 1) := d_300_151
theorem d_320_152 : decode (js_b 320) 152 = .ok (.lstore_n 3, 1) := d_300_152
theorem d_320_153 : decode (js_b 320) 153 = .ok (.iinc 5 1, 3) := d_300_153
theorem d_320_156 : decode (js_b 320) 156 = .ok (.goto (-151), 3) := d_300_156
theorem d_320_159 : decode (js_b 320) 159 = .ok (.lload_n 3, 1) := d_300_159
theorem d_320_160 : decode (js_b 320) 160 = .ok (.lload_n 1, 1) := d_300_160
theorem d_320_161 : decode (js_b 320) 161 = .ok (.lcmp, 1) := d_300_161
theorem d_320_162 : decode (js_b 320) 162 = .ok (.ifCond .ne 7, 3) := d_300_162
theorem d_320_165 : decode (js_b 320) 165 = .ok (.lload_n 1, 1) := d_300_165
theorem d_320_166 : decode (js_b 320) 166 = .ok (.goto 8, 3) := d_300_166
theorem d_320_169 : decode (js_b 320) 169 = .ok (.aload_n 0, 1) := d_300_169
theorem d_320_170 : decode (js_b 320) 170 = .ok (.lload_n 3, 1) := d_300_170
theorem d_320_171 : decode (js_b 320) 171 = .ok (.invokestatic 323, 3) := d_300_171
theorem d_320_174 : decode (js_b 320) 174 = .ok (.lreturn, 1) := d_300_174
theorem ki_320_15 : js_OkG 320 15 (o_Sh (fun x y => (x.toUInt64 >>> (y.toInt64.toUInt64 &&& Int64.toUInt64 63)).toInt64) 16) := js_St.okG (st_lushr d_320_15) (fun _ _ _ _ _ => rfl)
theorem ki_320_13 : js_OkG 320 13 (o_il 5 15) := js_St.okG (st_iload d_320_13) (fun _ _ _ _ _ => rfl)
theorem ki_320_12 : js_OkG 320 12 (o_ll 1 13) := js_St.okG (st_lloadn rfl d_320_12) (fun _ _ _ _ _ => rfl)
theorem ki_320_9 : js_OkG 320 9 (o_cge 159 12) := js_St.okG (st_icge (by decide) d_320_9) (fun _ _ _ _ _ => rfl)
theorem ki_320_7 : js_OkG 320 7 (o_ic 64 9) := js_St.okG (st_bipush rfl d_320_7) (fun _ _ _ _ _ => rfl)
theorem ki_320_5 : js_OkG 320 5 (o_il 5 7) := js_St.okG (st_iload d_320_5) (fun _ _ _ _ _ => rfl)
theorem ki_320_3 : js_OkG 320 3 (o_is 5 5) := js_St.okG (st_istore (Nat.le_of_ble_eq_true rfl) d_320_3) (fun _ _ _ _ _ => rfl)
theorem ki_320_2 : js_OkG 320 2 (o_ic 0 3) := js_St.okG (st_iconst rfl d_320_2) (fun _ _ _ _ _ => rfl)
theorem ki_320_1 : js_OkG 320 1 (o_ls 3 2) := js_St.okG (st_lstoren rfl (Nat.le_of_ble_eq_true rfl) d_320_1) (fun _ _ _ _ _ => rfl)
theorem ki_320_0 : js_OkG 320 0 (o_ll 1 1) := js_St.okG (st_lloadn rfl d_320_0) (fun _ _ _ _ _ => rfl)
theorem ki_320_30 : js_OkG 320 30 (o_il 5 32) := js_St.okG (st_iload d_320_30) (fun _ _ _ _ _ => rfl)
theorem ki_320_29 : js_OkG 320 29 (o_div 30) := js_St.okG (st_idiv d_320_29) (fun _ _ _ _ _ => rfl)
theorem ki_320_27 : js_OkG 320 27 (o_ic 8 29) := js_St.okG (st_bipush rfl d_320_27) (fun _ _ _ _ _ => rfl)
theorem ki_320_25 : js_OkG 320 25 (o_il 5 27) := js_St.okG (st_iload d_320_25) (fun _ _ _ _ _ => rfl)
theorem ki_320_24 : js_OkG 320 24 (o_al 0 25) := js_St.okG (st_aloadn rfl d_320_24) (fun _ _ _ _ _ => rfl)
theorem ki_320_23 : js_OkG 320 23 (o_ll 3 24) := js_St.okG (st_lloadn rfl d_320_23) (fun _ _ _ _ _ => rfl)
theorem ki_320_20 : js_OkG 320 20 (o_ne 153 23) := js_St.okG (st_ifne (by decide) d_320_20) (fun _ _ _ _ _ => rfl)
theorem ki_320_19 : js_OkG 320 19 (o_lcmp 20) := js_St.okG (st_lcmp d_320_19) (fun _ _ _ _ _ => rfl)
theorem ki_320_18 : js_OkG 320 18 (o_lc 1 19) := js_St.okG (st_lconst rfl d_320_18) (fun _ _ _ _ _ => rfl)
theorem ki_320_17 : js_OkG 320 17 (o_B2 (fun x y => x &&& y) 18) := js_St.okG (st_land d_320_17) (fun _ _ _ _ _ => rfl)
theorem ki_320_16 : js_OkG 320 16 (o_lc 1 17) := js_St.okG (st_lconst rfl d_320_16) (fun _ _ _ _ _ => rfl)
theorem ki_320_46 : js_OkG 320 46 (o_ic 8 48) := js_St.okG (st_bipush rfl d_320_46) (fun _ _ _ _ _ => rfl)
theorem ki_320_44 : js_OkG 320 44 (o_il 5 46) := js_St.okG (st_iload d_320_44) (fun _ _ _ _ _ => rfl)
theorem ki_320_43 : js_OkG 320 43 (o_lc 1 44) := js_St.okG (st_lconst rfl d_320_43) (fun _ _ _ _ _ => rfl)
theorem ki_320_40 : js_OkG 320 40 (o_cne 53 43) := js_St.okG (st_icne (by decide) d_320_40) (fun _ _ _ _ _ => rfl)
theorem ki_320_39 : js_OkG 320 39 (o_ic 1 40) := js_St.okG (st_iconst rfl d_320_39) (fun _ _ _ _ _ => rfl)
theorem ki_320_36 : js_OkG 320 36 (o_cI 176 4 0 39) := og_sIP rfl rfl kB_320_176 rfl kw_785 kw_786 d_320_36
theorem ki_320_35 : js_OkG 320 35 (o_ic 0 36) := js_St.okG (st_iconst rfl d_320_35) (fun _ _ _ _ _ => rfl)
theorem ki_320_34 : js_OkG 320 34 (o_rem 35) := js_St.okG (st_irem d_320_34) (fun _ _ _ _ _ => rfl)
theorem ki_320_32 : js_OkG 320 32 (o_ic 8 34) := js_St.okG (st_bipush rfl d_320_32) (fun _ _ _ _ _ => rfl)
theorem ki_320_63 : js_OkG 320 63 (o_il 5 65) := js_St.okG (st_iload d_320_63) (fun _ _ _ _ _ => rfl)
theorem ki_320_62 : js_OkG 320 62 (o_div 63) := js_St.okG (st_idiv d_320_62) (fun _ _ _ _ _ => rfl)
theorem ki_320_60 : js_OkG 320 60 (o_ic 8 62) := js_St.okG (st_bipush rfl d_320_60) (fun _ _ _ _ _ => rfl)
theorem ki_320_58 : js_OkG 320 58 (o_il 5 60) := js_St.okG (st_iload d_320_58) (fun _ _ _ _ _ => rfl)
theorem ki_320_57 : js_OkG 320 57 (o_al 0 58) := js_St.okG (st_aloadn rfl d_320_57) (fun _ _ _ _ _ => rfl)
theorem ki_320_56 : js_OkG 320 56 (o_ll 3 57) := js_St.okG (st_lloadn rfl d_320_56) (fun _ _ _ _ _ => rfl)
theorem ki_320_55 : js_OkG 320 55 (o_ls 3 56) := js_St.okG (st_lstoren rfl (Nat.le_of_ble_eq_true rfl) d_320_55) (fun _ _ _ _ _ => rfl)
theorem ki_320_54 : js_OkG 320 54 (o_B2 (fun x y => x ||| y) 55) := js_St.okG (st_lor d_320_54) (fun _ _ _ _ _ => rfl)
theorem ki_320_53 : js_OkG 320 53 (o_lc 0 54) := js_St.okG (st_lconst rfl d_320_53) (fun _ _ _ _ _ => rfl)
theorem ki_320_50 : js_OkG 320 50 (o_go 54) := js_St.okG (st_goto (by decide) d_320_50) (fun _ _ _ _ _ => rfl)
theorem ki_320_49 : js_OkG 320 49 (o_Sh (fun x y => x <<< (y.toInt64 &&& 63)) 50) := js_St.okG (st_lshl d_320_49) (fun _ _ _ _ _ => rfl)
theorem ki_320_48 : js_OkG 320 48 (o_b2 (fun x y => x - y) 49) := js_St.okG (st_isub d_320_48) (fun _ _ _ _ _ => rfl)
theorem ki_320_79 : js_OkG 320 79 (o_ic 1 80) := js_St.okG (st_iconst rfl d_320_79) (fun _ _ _ _ _ => rfl)
theorem ki_320_77 : js_OkG 320 77 (o_il 5 79) := js_St.okG (st_iload d_320_77) (fun _ _ _ _ _ => rfl)
theorem ki_320_76 : js_OkG 320 76 (o_lc 1 77) := js_St.okG (st_lconst rfl d_320_76) (fun _ _ _ _ _ => rfl)
theorem ki_320_73 : js_OkG 320 73 (o_cne 85 76) := js_St.okG (st_icne (by decide) d_320_73) (fun _ _ _ _ _ => rfl)
theorem ki_320_72 : js_OkG 320 72 (o_ic 1 73) := js_St.okG (st_iconst rfl d_320_72) (fun _ _ _ _ _ => rfl)
theorem ki_320_69 : js_OkG 320 69 (o_cI 176 4 0 72) := og_sIP rfl rfl kB_320_176 rfl kw_785 kw_786 d_320_69
theorem ki_320_68 : js_OkG 320 68 (o_ic 1 69) := js_St.okG (st_iconst rfl d_320_68) (fun _ _ _ _ _ => rfl)
theorem ki_320_67 : js_OkG 320 67 (o_rem 68) := js_St.okG (st_irem d_320_67) (fun _ _ _ _ _ => rfl)
theorem ki_320_65 : js_OkG 320 65 (o_ic 8 67) := js_St.okG (st_bipush rfl d_320_65) (fun _ _ _ _ _ => rfl)
theorem ki_320_95 : js_OkG 320 95 (o_il 5 97) := js_St.okG (st_iload d_320_95) (fun _ _ _ _ _ => rfl)
theorem ki_320_94 : js_OkG 320 94 (o_div 95) := js_St.okG (st_idiv d_320_94) (fun _ _ _ _ _ => rfl)
theorem ki_320_92 : js_OkG 320 92 (o_ic 8 94) := js_St.okG (st_bipush rfl d_320_92) (fun _ _ _ _ _ => rfl)
theorem ki_320_90 : js_OkG 320 90 (o_il 5 92) := js_St.okG (st_iload d_320_90) (fun _ _ _ _ _ => rfl)
theorem ki_320_89 : js_OkG 320 89 (o_al 0 90) := js_St.okG (st_aloadn rfl d_320_89) (fun _ _ _ _ _ => rfl)
theorem ki_320_88 : js_OkG 320 88 (o_ll 3 89) := js_St.okG (st_lloadn rfl d_320_88) (fun _ _ _ _ _ => rfl)
theorem ki_320_87 : js_OkG 320 87 (o_ls 3 88) := js_St.okG (st_lstoren rfl (Nat.le_of_ble_eq_true rfl) d_320_87) (fun _ _ _ _ _ => rfl)
theorem ki_320_86 : js_OkG 320 86 (o_B2 (fun x y => x ||| y) 87) := js_St.okG (st_lor d_320_86) (fun _ _ _ _ _ => rfl)
theorem ki_320_85 : js_OkG 320 85 (o_lc 0 86) := js_St.okG (st_lconst rfl d_320_85) (fun _ _ _ _ _ => rfl)
theorem ki_320_82 : js_OkG 320 82 (o_go 86) := js_St.okG (st_goto (by decide) d_320_82) (fun _ _ _ _ _ => rfl)
theorem ki_320_81 : js_OkG 320 81 (o_Sh (fun x y => x <<< (y.toInt64 &&& 63)) 82) := js_St.okG (st_lshl d_320_81) (fun _ _ _ _ _ => rfl)
theorem ki_320_80 : js_OkG 320 80 (o_b2 (fun x y => x + y) 81) := js_St.okG (st_iadd d_320_80) (fun _ _ _ _ _ => rfl)
theorem ki_320_111 : js_OkG 320 111 (o_ic 8 113) := js_St.okG (st_bipush rfl d_320_111) (fun _ _ _ _ _ => rfl)
theorem ki_320_109 : js_OkG 320 109 (o_il 5 111) := js_St.okG (st_iload d_320_109) (fun _ _ _ _ _ => rfl)
theorem ki_320_108 : js_OkG 320 108 (o_lc 1 109) := js_St.okG (st_lconst rfl d_320_108) (fun _ _ _ _ _ => rfl)
theorem ki_320_105 : js_OkG 320 105 (o_cne 118 108) := js_St.okG (st_icne (by decide) d_320_105) (fun _ _ _ _ _ => rfl)
theorem ki_320_104 : js_OkG 320 104 (o_ic 1 105) := js_St.okG (st_iconst rfl d_320_104) (fun _ _ _ _ _ => rfl)
theorem ki_320_101 : js_OkG 320 101 (o_cI 176 4 0 104) := og_sIP rfl rfl kB_320_176 rfl kw_785 kw_786 d_320_101
theorem ki_320_100 : js_OkG 320 100 (o_ic 2 101) := js_St.okG (st_iconst rfl d_320_100) (fun _ _ _ _ _ => rfl)
theorem ki_320_99 : js_OkG 320 99 (o_rem 100) := js_St.okG (st_irem d_320_99) (fun _ _ _ _ _ => rfl)
theorem ki_320_97 : js_OkG 320 97 (o_ic 8 99) := js_St.okG (st_bipush rfl d_320_97) (fun _ _ _ _ _ => rfl)
theorem ki_320_127 : js_OkG 320 127 (o_div 128) := js_St.okG (st_idiv d_320_127) (fun _ _ _ _ _ => rfl)
theorem ki_320_125 : js_OkG 320 125 (o_ic 8 127) := js_St.okG (st_bipush rfl d_320_125) (fun _ _ _ _ _ => rfl)
theorem ki_320_123 : js_OkG 320 123 (o_il 5 125) := js_St.okG (st_iload d_320_123) (fun _ _ _ _ _ => rfl)
theorem ki_320_122 : js_OkG 320 122 (o_al 0 123) := js_St.okG (st_aloadn rfl d_320_122) (fun _ _ _ _ _ => rfl)
theorem ki_320_121 : js_OkG 320 121 (o_ll 3 122) := js_St.okG (st_lloadn rfl d_320_121) (fun _ _ _ _ _ => rfl)
theorem ki_320_120 : js_OkG 320 120 (o_ls 3 121) := js_St.okG (st_lstoren rfl (Nat.le_of_ble_eq_true rfl) d_320_120) (fun _ _ _ _ _ => rfl)
theorem ki_320_119 : js_OkG 320 119 (o_B2 (fun x y => x ||| y) 120) := js_St.okG (st_lor d_320_119) (fun _ _ _ _ _ => rfl)
theorem ki_320_118 : js_OkG 320 118 (o_lc 0 119) := js_St.okG (st_lconst rfl d_320_118) (fun _ _ _ _ _ => rfl)
theorem ki_320_115 : js_OkG 320 115 (o_go 119) := js_St.okG (st_goto (by decide) d_320_115) (fun _ _ _ _ _ => rfl)
theorem ki_320_114 : js_OkG 320 114 (o_Sh (fun x y => x <<< (y.toInt64 &&& 63)) 115) := js_St.okG (st_lshl d_320_114) (fun _ _ _ _ _ => rfl)
theorem ki_320_113 : js_OkG 320 113 (o_b2 (fun x y => x + y) 114) := js_St.okG (st_iadd d_320_113) (fun _ _ _ _ _ => rfl)
theorem ki_320_142 : js_OkG 320 142 (o_il 5 144) := js_St.okG (st_iload d_320_142) (fun _ _ _ _ _ => rfl)
theorem ki_320_141 : js_OkG 320 141 (o_lc 1 142) := js_St.okG (st_lconst rfl d_320_141) (fun _ _ _ _ _ => rfl)
theorem ki_320_138 : js_OkG 320 138 (o_cne 150 141) := js_St.okG (st_icne (by decide) d_320_138) (fun _ _ _ _ _ => rfl)
theorem ki_320_137 : js_OkG 320 137 (o_ic 1 138) := js_St.okG (st_iconst rfl d_320_137) (fun _ _ _ _ _ => rfl)
theorem ki_320_134 : js_OkG 320 134 (o_cI 176 4 0 137) := og_sIP rfl rfl kB_320_176 rfl kw_785 kw_786 d_320_134
theorem ki_320_133 : js_OkG 320 133 (o_ic 3 134) := js_St.okG (st_iconst rfl d_320_133) (fun _ _ _ _ _ => rfl)
theorem ki_320_132 : js_OkG 320 132 (o_rem 133) := js_St.okG (st_irem d_320_132) (fun _ _ _ _ _ => rfl)
theorem ki_320_130 : js_OkG 320 130 (o_ic 8 132) := js_St.okG (st_bipush rfl d_320_130) (fun _ _ _ _ _ => rfl)
theorem ki_320_128 : js_OkG 320 128 (o_il 5 130) := js_St.okG (st_iload d_320_128) (fun _ _ _ _ _ => rfl)
theorem ki_320_159 : js_OkG 320 159 (o_ll 3 160) := js_St.okG (st_lloadn rfl d_320_159) (fun _ _ _ _ _ => rfl)
theorem ki_320_156 : js_OkG 320 156 (o_go 5) := js_St.okG (st_goto (by decide) d_320_156) (fun _ _ _ _ _ => rfl)
theorem ki_320_153 : js_OkG 320 153 (o_inc 5 1 156) := js_St.okG (st_iinc rfl (Nat.le_of_ble_eq_true rfl) d_320_153) (fun _ _ _ _ _ => rfl)
theorem ki_320_152 : js_OkG 320 152 (o_ls 3 153) := js_St.okG (st_lstoren rfl (Nat.le_of_ble_eq_true rfl) d_320_152) (fun _ _ _ _ _ => rfl)
theorem ki_320_151 : js_OkG 320 151 (o_B2 (fun x y => x ||| y) 152) := js_St.okG (st_lor d_320_151) (fun _ _ _ _ _ => rfl)
theorem ki_320_150 : js_OkG 320 150 (o_lc 0 151) := js_St.okG (st_lconst rfl d_320_150) (fun _ _ _ _ _ => rfl)
theorem ki_320_147 : js_OkG 320 147 (o_go 151) := js_St.okG (st_goto (by decide) d_320_147) (fun _ _ _ _ _ => rfl)
theorem ki_320_146 : js_OkG 320 146 (o_Sh (fun x y => x <<< (y.toInt64 &&& 63)) 147) := js_St.okG (st_lshl d_320_146) (fun _ _ _ _ _ => rfl)
theorem ki_320_145 : js_OkG 320 145 (o_b2 (fun x y => x - y) 146) := js_St.okG (st_isub d_320_145) (fun _ _ _ _ _ => rfl)
theorem ki_320_144 : js_OkG 320 144 (o_ic 1 145) := js_St.okG (st_iconst rfl d_320_144) (fun _ _ _ _ _ => rfl)
theorem ki_320_174 : js_OkG 320 174 (o_rL) := og_rL rfl d_320_174
theorem ki_320_171 : js_OkG 320 171 (o_cL 321 2 0 174) := og_sLP rfl rfl kB_320_321 rfl kw_949 kw_950 d_320_171
theorem ki_320_170 : js_OkG 320 170 (o_ll 3 171) := js_St.okG (st_lloadn rfl d_320_170) (fun _ _ _ _ _ => rfl)
theorem ki_320_169 : js_OkG 320 169 (o_al 0 170) := js_St.okG (st_aloadn rfl d_320_169) (fun _ _ _ _ _ => rfl)
theorem ki_320_166 : js_OkG 320 166 (o_go 174) := js_St.okG (st_goto (by decide) d_320_166) (fun _ _ _ _ _ => rfl)
theorem ki_320_165 : js_OkG 320 165 (o_ll 1 166) := js_St.okG (st_lloadn rfl d_320_165) (fun _ _ _ _ _ => rfl)
theorem ki_320_162 : js_OkG 320 162 (o_ne 169 165) := js_St.okG (st_ifne (by decide) d_320_162) (fun _ _ _ _ _ => rfl)
theorem ki_320_161 : js_OkG 320 161 (o_lcmp 162) := js_St.okG (st_lcmp d_320_161) (fun _ _ _ _ _ => rfl)
theorem ki_320_160 : js_OkG 320 160 (o_ll 1 161) := js_St.okG (st_lloadn rfl d_320_160) (fun _ _ _ _ _ => rfl)
set_option maxRecDepth 20000 in
theorem mk_320 : js_mokG 320 := jk_tab (fun _ => js_St.okG st_bad (fun _ _ _ _ _ => rfl)) (show jk_all (js_OkG 320) 0 (tb_G 320) from ⟨⟨ki_320_0, ⟨ki_320_1, ⟨ki_320_2, ⟨ki_320_3, ⟨kbadG, ⟨ki_320_5, ⟨kbadG, ⟨ki_320_7, ⟨kbadG, ⟨ki_320_9, ⟨kbadG, ⟨kbadG, ⟨ki_320_12, ⟨ki_320_13, ⟨kbadG, ⟨ki_320_15, trivial⟩⟩⟩⟩⟩⟩⟩⟩⟩⟩⟩⟩⟩⟩⟩⟩, ⟨⟨ki_320_16, ⟨ki_320_17, ⟨ki_320_18, ⟨ki_320_19, ⟨ki_320_20, ⟨kbadG, ⟨kbadG, ⟨ki_320_23, ⟨ki_320_24, ⟨ki_320_25, ⟨kbadG, ⟨ki_320_27, ⟨kbadG, ⟨ki_320_29, ⟨ki_320_30, ⟨kbadG, trivial⟩⟩⟩⟩⟩⟩⟩⟩⟩⟩⟩⟩⟩⟩⟩⟩, ⟨⟨ki_320_32, ⟨kbadG, ⟨ki_320_34, ⟨ki_320_35, ⟨ki_320_36, ⟨kbadG, ⟨kbadG, ⟨ki_320_39, ⟨ki_320_40, ⟨kbadG, ⟨kbadG, ⟨ki_320_43, ⟨ki_320_44, ⟨kbadG, ⟨ki_320_46, ⟨kbadG, trivial⟩⟩⟩⟩⟩⟩⟩⟩⟩⟩⟩⟩⟩⟩⟩⟩, ⟨⟨ki_320_48, ⟨ki_320_49, ⟨ki_320_50, ⟨kbadG, ⟨kbadG, ⟨ki_320_53, ⟨ki_320_54, ⟨ki_320_55, ⟨ki_320_56, ⟨ki_320_57, ⟨ki_320_58, ⟨kbadG, ⟨ki_320_60, ⟨kbadG, ⟨ki_320_62, ⟨ki_320_63, trivial⟩⟩⟩⟩⟩⟩⟩⟩⟩⟩⟩⟩⟩⟩⟩⟩, ⟨⟨kbadG, ⟨ki_320_65, ⟨kbadG, ⟨ki_320_67, ⟨ki_320_68, ⟨ki_320_69, ⟨kbadG, ⟨kbadG, ⟨ki_320_72, ⟨ki_320_73, ⟨kbadG, ⟨kbadG, ⟨ki_320_76, ⟨ki_320_77, ⟨kbadG, ⟨ki_320_79, trivial⟩⟩⟩⟩⟩⟩⟩⟩⟩⟩⟩⟩⟩⟩⟩⟩, ⟨⟨ki_320_80, ⟨ki_320_81, ⟨ki_320_82, ⟨kbadG, ⟨kbadG, ⟨ki_320_85, ⟨ki_320_86, ⟨ki_320_87, ⟨ki_320_88, ⟨ki_320_89, ⟨ki_320_90, ⟨kbadG, ⟨ki_320_92, ⟨kbadG, ⟨ki_320_94, ⟨ki_320_95, trivial⟩⟩⟩⟩⟩⟩⟩⟩⟩⟩⟩⟩⟩⟩⟩⟩, ⟨⟨kbadG, ⟨ki_320_97, ⟨kbadG, ⟨ki_320_99, ⟨ki_320_100, ⟨ki_320_101, ⟨kbadG, ⟨kbadG, ⟨ki_320_104, ⟨ki_320_105, ⟨kbadG, ⟨kbadG, ⟨ki_320_108, ⟨ki_320_109, ⟨kbadG, ⟨ki_320_111, trivial⟩⟩⟩⟩⟩⟩⟩⟩⟩⟩⟩⟩⟩⟩⟩⟩, ⟨⟨kbadG, ⟨ki_320_113, ⟨ki_320_114, ⟨ki_320_115, ⟨kbadG, ⟨kbadG, ⟨ki_320_118, ⟨ki_320_119, ⟨ki_320_120, ⟨ki_320_121, ⟨ki_320_122, ⟨ki_320_123, ⟨kbadG, ⟨ki_320_125, ⟨kbadG, ⟨ki_320_127, trivial⟩⟩⟩⟩⟩⟩⟩⟩⟩⟩⟩⟩⟩⟩⟩⟩, ⟨⟨ki_320_128, ⟨kbadG, ⟨ki_320_130, ⟨kbadG, ⟨ki_320_132, ⟨ki_320_133, ⟨ki_320_134, ⟨kbadG, ⟨kbadG, ⟨ki_320_137, ⟨ki_320_138, ⟨kbadG, ⟨kbadG, ⟨ki_320_141, ⟨ki_320_142, ⟨kbadG, trivial⟩⟩⟩⟩⟩⟩⟩⟩⟩⟩⟩⟩⟩⟩⟩⟩, ⟨⟨ki_320_144, ⟨ki_320_145, ⟨ki_320_146, ⟨ki_320_147, ⟨kbadG, ⟨kbadG, ⟨ki_320_150, ⟨ki_320_151, ⟨ki_320_152, ⟨ki_320_153, ⟨kbadG, ⟨kbadG, ⟨ki_320_156, ⟨kbadG, ⟨kbadG, ⟨ki_320_159, trivial⟩⟩⟩⟩⟩⟩⟩⟩⟩⟩⟩⟩⟩⟩⟩⟩, ⟨⟨ki_320_160, ⟨ki_320_161, ⟨ki_320_162, ⟨kbadG, ⟨kbadG, ⟨ki_320_165, ⟨ki_320_166, ⟨kbadG, ⟨kbadG, ⟨ki_320_169, ⟨ki_320_170, ⟨ki_320_171, ⟨kbadG, ⟨kbadG, ⟨ki_320_174, trivial⟩⟩⟩⟩⟩⟩⟩⟩⟩⟩⟩⟩⟩⟩⟩, trivial⟩⟩⟩⟩⟩⟩⟩⟩⟩⟩⟩)
theorem d_321_0 : decode (js_b 321) 0 = .ok (.lload_n 1, 1) := d_300_0
theorem d_321_1 : decode (js_b 321) 1 = .ok (.lstore_n 3, 1) := d_300_1
theorem d_321_2 : decode (js_b 321) 2 = .ok (.iconst 0, 1) := d_300_2
theorem d_321_3 : decode (js_b 321) 3 = .ok (.istore 5, 2) := d_300_3
theorem d_321_5 : decode (js_b 321) 5 = .ok (.iload 5, 2) := d_300_5
theorem d_321_7 : decode (js_b 321) 7 = .ok (.bipush 64, 2) := d_300_7
theorem d_321_9 : decode (js_b 321) 9 = .ok (.if_icmp .ge 150, 3) := d_300_9
theorem d_321_12 : decode (js_b 321) 12 = .ok (.lload_n 1, 1) := d_300_12
theorem d_321_13 : decode (js_b 321) 13 = .ok (.iload 5, 2) := d_300_13
theorem d_321_15 : decode (js_b 321) 15 = .ok (.lushr, 1) := d_300_15
theorem d_321_16 : decode (js_b 321) 16 = .ok (.lconst 1, 1) := d_300_16
theorem d_321_17 : decode (js_b 321) 17 = .ok (.land, 1) := d_300_17
theorem d_321_18 : decode (js_b 321) 18 = .ok (.lconst 1, 1) := d_300_18
theorem d_321_19 : decode (js_b 321) 19 = .ok (.lcmp, 1) := d_300_19
theorem d_321_20 : decode (js_b 321) 20 = .ok (.ifCond .ne 133, 3) := d_300_20
theorem d_321_23 : decode (js_b 321) 23 = .ok (.lload_n 3, 1) := d_300_23
theorem d_321_24 : decode (js_b 321) 24 = .ok (.aload_n 0, 1) := d_300_24
theorem d_321_25 : decode (js_b 321) 25 = .ok (.iload 5, 2) := d_300_25
theorem d_321_27 : decode (js_b 321) 27 = .ok (.bipush 8, 2) := d_300_27
theorem d_321_29 : decode (js_b 321) 29 = .ok (.idiv, 1) := d_300_29
theorem d_321_30 : decode (js_b 321) 30 = .ok (.iload 5, 2) := d_300_30
theorem d_321_32 : decode (js_b 321) 32 = .ok (.bipush 8, 2) := d_300_32
theorem d_321_34 : decode (js_b 321) 34 = .ok (.irem, 1) := d_300_34
theorem d_321_35 : decode (js_b 321) 35 = .ok (.iconst 0, 1) := d_300_35
theorem d_321_36 : decode (js_b 321) 36 = .ok (.invokestatic 198, 3) := d_300_36
theorem d_321_39 : decode (js_b 321) 39 = .ok (.iconst 1, 1) := d_300_39
theorem d_321_40 : decode (js_b 321) 40 = .ok (.if_icmp .ne 13, 3) := d_300_40
theorem d_321_43 : decode (js_b 321) 43 = .ok (.lconst 1, 1) := d_300_43
theorem d_321_44 : decode (js_b 321) 44 = .ok (.iload 5, 2) := d_300_44
theorem d_321_46 : decode (js_b 321) 46 = .ok (.bipush 8, 2) := d_300_46
theorem d_321_48 : decode (js_b 321) 48 = .ok (.isub, 1) := d_300_48
theorem d_321_49 : decode (js_b 321) 49 = .ok (.lshl, 1) := d_300_49
theorem d_321_50 : decode (js_b 321) 50 = .ok (.goto 4, 3) := d_300_50
theorem d_321_53 : decode (js_b 321) 53 = .ok (.lconst 0, 1) := d_300_53
theorem d_321_54 : decode (js_b 321) 54 = .ok (.lor, 1) := d_300_54
theorem d_321_55 : decode (js_b 321) 55 = .ok (.lstore_n 3, 1) := d_300_55
theorem d_321_56 : decode (js_b 321) 56 = .ok (.lload_n 3, 1) := d_300_56
theorem d_321_57 : decode (js_b 321) 57 = .ok (.aload_n 0, 1) := d_300_57
theorem d_321_58 : decode (js_b 321) 58 = .ok (.iload 5, 2) := d_300_58
theorem d_321_60 : decode (js_b 321) 60 = .ok (.bipush 8, 2) := d_300_60
theorem d_321_62 : decode (js_b 321) 62 = .ok (.idiv, 1) := d_300_62
theorem d_321_63 : decode (js_b 321) 63 = .ok (.iload 5, 2) := d_300_63
theorem d_321_65 : decode (js_b 321) 65 = .ok (.bipush 8, 2) := d_300_65
theorem d_321_67 : decode (js_b 321) 67 = .ok (.irem, 1) := d_300_67
theorem d_321_68 : decode (js_b 321) 68 = .ok (.iconst 1, 1) := d_300_68
theorem d_321_69 : decode (js_b 321) 69 = .ok (.invokestatic 198, 3) := d_300_69
theorem d_321_72 : decode (js_b 321) 72 = .ok (.iconst 1, 1) := d_300_72
theorem d_321_73 : decode (js_b 321) 73 = .ok (.if_icmp .ne 12, 3) := d_300_73
theorem d_321_76 : decode (js_b 321) 76 = .ok (.lconst 1, 1) := d_300_76
theorem d_321_77 : decode (js_b 321) 77 = .ok (.iload 5, 2) := d_300_77
theorem d_321_79 : decode (js_b 321) 79 = .ok (.iconst 1, 1) := d_300_79
theorem d_321_80 : decode (js_b 321) 80 = .ok (.iadd, 1) := d_300_80
theorem d_321_81 : decode (js_b 321) 81 = .ok (.lshl, 1) := d_300_81
theorem d_321_82 : decode (js_b 321) 82 = .ok (.goto 4, 3) := d_300_82
theorem d_321_85 : decode (js_b 321) 85 = .ok (.lconst 0, 1) := d_300_85
theorem d_321_86 : decode (js_b 321) 86 = .ok (.lor, 1) := d_300_86
theorem d_321_87 : decode (js_b 321) 87 = .ok (.lstore_n 3, 1) := d_300_87
theorem d_321_88 : decode (js_b 321) 88 = .ok (.lload_n 3, 1) := d_300_88
theorem d_321_89 : decode (js_b 321) 89 = .ok (.aload_n 0, 1) := d_300_89
theorem d_321_90 : decode (js_b 321) 90 = .ok (.iload 5, 2) := d_300_90
theorem d_321_92 : decode (js_b 321) 92 = .ok (.bipush 8, 2) := d_300_92
theorem d_321_94 : decode (js_b 321) 94 = .ok (.idiv, 1) := d_300_94
theorem d_321_95 : decode (js_b 321) 95 = .ok (.iload 5, 2) := d_300_95
theorem d_321_97 : decode (js_b 321) 97 = .ok (.bipush 8, 2) := d_300_97
theorem d_321_99 : decode (js_b 321) 99 = .ok (.irem, 1) := d_300_99
theorem d_321_100 : decode (js_b 321) 100 = .ok (.iconst 2, 1) := d_300_100
theorem d_321_101 : decode (js_b 321) 101 = .ok (.invokestatic 198, 3) := d_300_101
theorem d_321_104 : decode (js_b 321) 104 = .ok (.iconst 1, 1) := d_300_104
theorem d_321_105 : decode (js_b 321) 105 = .ok (.if_icmp .ne 13, 3) := d_300_105
theorem d_321_108 : decode (js_b 321) 108 = .ok (.lconst 1, 1) := d_300_108
theorem d_321_109 : decode (js_b 321) 109 = .ok (.iload 5, 2) := d_300_109
theorem d_321_111 : decode (js_b 321) 111 = .ok (.bipush 8, 2) := d_300_111
theorem d_321_113 : decode (js_b 321) 113 = .ok (.iadd, 1) := d_300_113
theorem d_321_114 : decode (js_b 321) 114 = .ok (.lshl, 1) := d_300_114
theorem d_321_115 : decode (js_b 321) 115 = .ok (.goto 4, 3) := d_300_115
theorem d_321_118 : decode (js_b 321) 118 = .ok (.lconst 0, 1) := d_300_118
theorem d_321_119 : decode (js_b 321) 119 = .ok (.lor, 1) := d_300_119
theorem d_321_120 : decode (js_b 321) 120 = .ok (.lstore_n 3, 1) := d_300_120
theorem d_321_121 : decode (js_b 321) 121 = .ok (.lload_n 3, 1) := d_300_121
theorem d_321_122 : decode (js_b 321) 122 = .ok (.aload_n 0, 1) := d_300_122
theorem d_321_123 : decode (js_b 321) 123 = .ok (.iload 5, 2) := d_300_123
theorem d_321_125 : decode (js_b 321) 125 = .ok (.bipush 8, 2) := d_300_125
theorem d_321_127 : decode (js_b 321) 127 = .ok (.idiv, 1) := d_300_127
theorem d_321_128 : decode (js_b 321) 128 = .ok (.iload 5, 2) := d_300_128
theorem d_321_130 : decode (js_b 321) 130 = .ok (.bipush 8, 2) := d_300_130
theorem d_321_132 : decode (js_b 321) 132 = .ok (.irem, 1) := d_300_132
theorem d_321_133 : decode (js_b 321) 133 = .ok (.iconst 3, 1) := d_300_133
theorem d_321_134 : decode (js_b 321) 134 = .ok (.invokestatic 198, 3) := d_300_134
theorem d_321_137 : decode (js_b 321) 137 = .ok (.iconst 1, 1) := d_300_137
theorem d_321_138 : decode (js_b 321) 138 = .ok (.if_icmp .ne 12, 3) := d_300_138
theorem d_321_141 : decode (js_b 321) 141 = .ok (.lconst 1, 1) := d_300_141
theorem d_321_142 : decode (js_b 321) 142 = .ok (.iload 5, 2) := d_300_142
theorem d_321_144 : decode (js_b 321) 144 = .ok (.iconst 1, 1) := d_300_144
theorem d_321_145 : decode (js_b 321) 145 = .ok (.isub, 1) := d_300_145
theorem d_321_146 : decode (js_b 321) 146 = .ok (.lshl, 1) := d_300_146
theorem d_321_147 : decode (js_b 321) 147 = .ok (.goto 4, 3) := d_300_147
theorem d_321_150 : decode (js_b 321) 150 = .ok (.lconst 0, 1) := d_300_150
theorem d_321_151 : decode (js_b 321) 151 = .ok (.lor, 1) := d_300_151
theorem d_321_152 : decode (js_b 321) 152 = .ok (.lstore_n 3, 1) := d_300_152
theorem d_321_153 : decode (js_b 321) 153 = .ok (.iinc 5 1, 3) := d_300_153
theorem d_321_156 : decode (js_b 321) 156 = .ok (.goto (-151), 3) := d_300_156
theorem d_321_159 : decode (js_b 321) 159 = .ok (.lload_n 3, 1) := d_300_159
theorem d_321_160 : decode (js_b 321) 160 = .ok (.lload_n 1, 1) := d_300_160
theorem d_321_161 : decode (js_b 321) 161 = .ok (.lcmp, 1) := d_300_161
theorem d_321_162 : decode (js_b 321) 162 = .ok (.ifCond .ne 7, 3) := d_300_162
theorem d_321_165 : decode (js_b 321) 165 = .ok (.lload_n 1, 1) := d_300_165
theorem d_321_166 : decode (js_b 321) 166 = .ok (.goto 8, 3) := d_300_166
theorem d_321_169 : decode (js_b 321) 169 = .ok (.aload_n 0, 1) := d_300_169
theorem d_321_170 : decode (js_b 321) 170 = .ok (.lload_n 3, 1) := d_300_170
theorem d_321_171 : decode (js_b 321) 171 = .ok (.invokestatic 323, 3) := d_300_171
theorem d_321_174 : decode (js_b 321) 174 = .ok (.lreturn, 1) := d_300_174
theorem ki_321_15 : js_OkG 321 15 (o_Sh (fun x y => (x.toUInt64 >>> (y.toInt64.toUInt64 &&& Int64.toUInt64 63)).toInt64) 16) := js_St.okG (st_lushr d_321_15) (fun _ _ _ _ _ => rfl)
theorem ki_321_13 : js_OkG 321 13 (o_il 5 15) := js_St.okG (st_iload d_321_13) (fun _ _ _ _ _ => rfl)
theorem ki_321_12 : js_OkG 321 12 (o_ll 1 13) := js_St.okG (st_lloadn rfl d_321_12) (fun _ _ _ _ _ => rfl)
theorem ki_321_9 : js_OkG 321 9 (o_cge 159 12) := js_St.okG (st_icge (by decide) d_321_9) (fun _ _ _ _ _ => rfl)
theorem ki_321_7 : js_OkG 321 7 (o_ic 64 9) := js_St.okG (st_bipush rfl d_321_7) (fun _ _ _ _ _ => rfl)
theorem ki_321_5 : js_OkG 321 5 (o_il 5 7) := js_St.okG (st_iload d_321_5) (fun _ _ _ _ _ => rfl)
theorem ki_321_3 : js_OkG 321 3 (o_is 5 5) := js_St.okG (st_istore (Nat.le_of_ble_eq_true rfl) d_321_3) (fun _ _ _ _ _ => rfl)
theorem ki_321_2 : js_OkG 321 2 (o_ic 0 3) := js_St.okG (st_iconst rfl d_321_2) (fun _ _ _ _ _ => rfl)
theorem ki_321_1 : js_OkG 321 1 (o_ls 3 2) := js_St.okG (st_lstoren rfl (Nat.le_of_ble_eq_true rfl) d_321_1) (fun _ _ _ _ _ => rfl)
theorem ki_321_0 : js_OkG 321 0 (o_ll 1 1) := js_St.okG (st_lloadn rfl d_321_0) (fun _ _ _ _ _ => rfl)
theorem ki_321_30 : js_OkG 321 30 (o_il 5 32) := js_St.okG (st_iload d_321_30) (fun _ _ _ _ _ => rfl)
theorem ki_321_29 : js_OkG 321 29 (o_div 30) := js_St.okG (st_idiv d_321_29) (fun _ _ _ _ _ => rfl)
theorem ki_321_27 : js_OkG 321 27 (o_ic 8 29) := js_St.okG (st_bipush rfl d_321_27) (fun _ _ _ _ _ => rfl)
theorem ki_321_25 : js_OkG 321 25 (o_il 5 27) := js_St.okG (st_iload d_321_25) (fun _ _ _ _ _ => rfl)
theorem ki_321_24 : js_OkG 321 24 (o_al 0 25) := js_St.okG (st_aloadn rfl d_321_24) (fun _ _ _ _ _ => rfl)
theorem ki_321_23 : js_OkG 321 23 (o_ll 3 24) := js_St.okG (st_lloadn rfl d_321_23) (fun _ _ _ _ _ => rfl)
theorem ki_321_20 : js_OkG 321 20 (o_ne 153 23) := js_St.okG (st_ifne (by decide) d_321_20) (fun _ _ _ _ _ => rfl)
theorem ki_321_19 : js_OkG 321 19 (o_lcmp 20) := js_St.okG (st_lcmp d_321_19) (fun _ _ _ _ _ => rfl)
theorem ki_321_18 : js_OkG 321 18 (o_lc 1 19) := js_St.okG (st_lconst rfl d_321_18) (fun _ _ _ _ _ => rfl)
theorem ki_321_17 : js_OkG 321 17 (o_B2 (fun x y => x &&& y) 18) := js_St.okG (st_land d_321_17) (fun _ _ _ _ _ => rfl)
theorem ki_321_16 : js_OkG 321 16 (o_lc 1 17) := js_St.okG (st_lconst rfl d_321_16) (fun _ _ _ _ _ => rfl)
theorem ki_321_46 : js_OkG 321 46 (o_ic 8 48) := js_St.okG (st_bipush rfl d_321_46) (fun _ _ _ _ _ => rfl)
theorem ki_321_44 : js_OkG 321 44 (o_il 5 46) := js_St.okG (st_iload d_321_44) (fun _ _ _ _ _ => rfl)
theorem ki_321_43 : js_OkG 321 43 (o_lc 1 44) := js_St.okG (st_lconst rfl d_321_43) (fun _ _ _ _ _ => rfl)
theorem ki_321_40 : js_OkG 321 40 (o_cne 53 43) := js_St.okG (st_icne (by decide) d_321_40) (fun _ _ _ _ _ => rfl)
theorem ki_321_39 : js_OkG 321 39 (o_ic 1 40) := js_St.okG (st_iconst rfl d_321_39) (fun _ _ _ _ _ => rfl)
theorem ki_321_36 : js_OkG 321 36 (o_cI 176 4 0 39) := og_sIP rfl rfl kB_321_176 rfl kw_785 kw_786 d_321_36
theorem ki_321_35 : js_OkG 321 35 (o_ic 0 36) := js_St.okG (st_iconst rfl d_321_35) (fun _ _ _ _ _ => rfl)
theorem ki_321_34 : js_OkG 321 34 (o_rem 35) := js_St.okG (st_irem d_321_34) (fun _ _ _ _ _ => rfl)
theorem ki_321_32 : js_OkG 321 32 (o_ic 8 34) := js_St.okG (st_bipush rfl d_321_32) (fun _ _ _ _ _ => rfl)
theorem ki_321_63 : js_OkG 321 63 (o_il 5 65) := js_St.okG (st_iload d_321_63) (fun _ _ _ _ _ => rfl)
theorem ki_321_62 : js_OkG 321 62 (o_div 63) := js_St.okG (st_idiv d_321_62) (fun _ _ _ _ _ => rfl)
theorem ki_321_60 : js_OkG 321 60 (o_ic 8 62) := js_St.okG (st_bipush rfl d_321_60) (fun _ _ _ _ _ => rfl)
theorem ki_321_58 : js_OkG 321 58 (o_il 5 60) := js_St.okG (st_iload d_321_58) (fun _ _ _ _ _ => rfl)
theorem ki_321_57 : js_OkG 321 57 (o_al 0 58) := js_St.okG (st_aloadn rfl d_321_57) (fun _ _ _ _ _ => rfl)
theorem ki_321_56 : js_OkG 321 56 (o_ll 3 57) := js_St.okG (st_lloadn rfl d_321_56) (fun _ _ _ _ _ => rfl)
theorem ki_321_55 : js_OkG 321 55 (o_ls 3 56) := js_St.okG (st_lstoren rfl (Nat.le_of_ble_eq_true rfl) d_321_55) (fun _ _ _ _ _ => rfl)
theorem ki_321_54 : js_OkG 321 54 (o_B2 (fun x y => x ||| y) 55) := js_St.okG (st_lor d_321_54) (fun _ _ _ _ _ => rfl)
theorem ki_321_53 : js_OkG 321 53 (o_lc 0 54) := js_St.okG (st_lconst rfl d_321_53) (fun _ _ _ _ _ => rfl)
theorem ki_321_50 : js_OkG 321 50 (o_go 54) := js_St.okG (st_goto (by decide) d_321_50) (fun _ _ _ _ _ => rfl)
theorem ki_321_49 : js_OkG 321 49 (o_Sh (fun x y => x <<< (y.toInt64 &&& 63)) 50) := js_St.okG (st_lshl d_321_49) (fun _ _ _ _ _ => rfl)
theorem ki_321_48 : js_OkG 321 48 (o_b2 (fun x y => x - y) 49) := js_St.okG (st_isub d_321_48) (fun _ _ _ _ _ => rfl)
theorem ki_321_79 : js_OkG 321 79 (o_ic 1 80) := js_St.okG (st_iconst rfl d_321_79) (fun _ _ _ _ _ => rfl)
theorem ki_321_77 : js_OkG 321 77 (o_il 5 79) := js_St.okG (st_iload d_321_77) (fun _ _ _ _ _ => rfl)
theorem ki_321_76 : js_OkG 321 76 (o_lc 1 77) := js_St.okG (st_lconst rfl d_321_76) (fun _ _ _ _ _ => rfl)
theorem ki_321_73 : js_OkG 321 73 (o_cne 85 76) := js_St.okG (st_icne (by decide) d_321_73) (fun _ _ _ _ _ => rfl)
theorem ki_321_72 : js_OkG 321 72 (o_ic 1 73) := js_St.okG (st_iconst rfl d_321_72) (fun _ _ _ _ _ => rfl)
theorem ki_321_69 : js_OkG 321 69 (o_cI 176 4 0 72) := og_sIP rfl rfl kB_321_176 rfl kw_785 kw_786 d_321_69
theorem ki_321_68 : js_OkG 321 68 (o_ic 1 69) := js_St.okG (st_iconst rfl d_321_68) (fun _ _ _ _ _ => rfl)
theorem ki_321_67 : js_OkG 321 67 (o_rem 68) := js_St.okG (st_irem d_321_67) (fun _ _ _ _ _ => rfl)
theorem ki_321_65 : js_OkG 321 65 (o_ic 8 67) := js_St.okG (st_bipush rfl d_321_65) (fun _ _ _ _ _ => rfl)
theorem ki_321_95 : js_OkG 321 95 (o_il 5 97) := js_St.okG (st_iload d_321_95) (fun _ _ _ _ _ => rfl)
theorem ki_321_94 : js_OkG 321 94 (o_div 95) := js_St.okG (st_idiv d_321_94) (fun _ _ _ _ _ => rfl)
theorem ki_321_92 : js_OkG 321 92 (o_ic 8 94) := js_St.okG (st_bipush rfl d_321_92) (fun _ _ _ _ _ => rfl)
theorem ki_321_90 : js_OkG 321 90 (o_il 5 92) := js_St.okG (st_iload d_321_90) (fun _ _ _ _ _ => rfl)
theorem ki_321_89 : js_OkG 321 89 (o_al 0 90) := js_St.okG (st_aloadn rfl d_321_89) (fun _ _ _ _ _ => rfl)
theorem ki_321_88 : js_OkG 321 88 (o_ll 3 89) := js_St.okG (st_lloadn rfl d_321_88) (fun _ _ _ _ _ => rfl)
theorem ki_321_87 : js_OkG 321 87 (o_ls 3 88) := js_St.okG (st_lstoren rfl (Nat.le_of_ble_eq_true rfl) d_321_87) (fun _ _ _ _ _ => rfl)
theorem ki_321_86 : js_OkG 321 86 (o_B2 (fun x y => x ||| y) 87) := js_St.okG (st_lor d_321_86) (fun _ _ _ _ _ => rfl)
theorem ki_321_85 : js_OkG 321 85 (o_lc 0 86) := js_St.okG (st_lconst rfl d_321_85) (fun _ _ _ _ _ => rfl)
theorem ki_321_82 : js_OkG 321 82 (o_go 86) := js_St.okG (st_goto (by decide) d_321_82) (fun _ _ _ _ _ => rfl)
theorem ki_321_81 : js_OkG 321 81 (o_Sh (fun x y => x <<< (y.toInt64 &&& 63)) 82) := js_St.okG (st_lshl d_321_81) (fun _ _ _ _ _ => rfl)
theorem ki_321_80 : js_OkG 321 80 (o_b2 (fun x y => x + y) 81) := js_St.okG (st_iadd d_321_80) (fun _ _ _ _ _ => rfl)
theorem ki_321_111 : js_OkG 321 111 (o_ic 8 113) := js_St.okG (st_bipush rfl d_321_111) (fun _ _ _ _ _ => rfl)
theorem ki_321_109 : js_OkG 321 109 (o_il 5 111) := js_St.okG (st_iload d_321_109) (fun _ _ _ _ _ => rfl)
theorem ki_321_108 : js_OkG 321 108 (o_lc 1 109) := js_St.okG (st_lconst rfl d_321_108) (fun _ _ _ _ _ => rfl)
theorem ki_321_105 : js_OkG 321 105 (o_cne 118 108) := js_St.okG (st_icne (by decide) d_321_105) (fun _ _ _ _ _ => rfl)
theorem ki_321_104 : js_OkG 321 104 (o_ic 1 105) := js_St.okG (st_iconst rfl d_321_104) (fun _ _ _ _ _ => rfl)
theorem ki_321_101 : js_OkG 321 101 (o_cI 176 4 0 104) := og_sIP rfl rfl kB_321_176 rfl kw_785 kw_786 d_321_101
theorem ki_321_100 : js_OkG 321 100 (o_ic 2 101) := js_St.okG (st_iconst rfl d_321_100) (fun _ _ _ _ _ => rfl)
theorem ki_321_99 : js_OkG 321 99 (o_rem 100) := js_St.okG (st_irem d_321_99) (fun _ _ _ _ _ => rfl)
theorem ki_321_97 : js_OkG 321 97 (o_ic 8 99) := js_St.okG (st_bipush rfl d_321_97) (fun _ _ _ _ _ => rfl)
theorem ki_321_127 : js_OkG 321 127 (o_div 128) := js_St.okG (st_idiv d_321_127) (fun _ _ _ _ _ => rfl)
theorem ki_321_125 : js_OkG 321 125 (o_ic 8 127) := js_St.okG (st_bipush rfl d_321_125) (fun _ _ _ _ _ => rfl)
theorem ki_321_123 : js_OkG 321 123 (o_il 5 125) := js_St.okG (st_iload d_321_123) (fun _ _ _ _ _ => rfl)
theorem ki_321_122 : js_OkG 321 122 (o_al 0 123) := js_St.okG (st_aloadn rfl d_321_122) (fun _ _ _ _ _ => rfl)
theorem ki_321_121 : js_OkG 321 121 (o_ll 3 122) := js_St.okG (st_lloadn rfl d_321_121) (fun _ _ _ _ _ => rfl)
theorem ki_321_120 : js_OkG 321 120 (o_ls 3 121) := js_St.okG (st_lstoren rfl (Nat.le_of_ble_eq_true rfl) d_321_120) (fun _ _ _ _ _ => rfl)
theorem ki_321_119 : js_OkG 321 119 (o_B2 (fun x y => x ||| y) 120) := js_St.okG (st_lor d_321_119) (fun _ _ _ _ _ => rfl)
theorem ki_321_118 : js_OkG 321 118 (o_lc 0 119) := js_St.okG (st_lconst rfl d_321_118) (fun _ _ _ _ _ => rfl)
theorem ki_321_115 : js_OkG 321 115 (o_go 119) := js_St.okG (st_goto (by decide) d_321_115) (fun _ _ _ _ _ => rfl)
theorem ki_321_114 : js_OkG 321 114 (o_Sh (fun x y => x <<< (y.toInt64 &&& 63)) 115) := js_St.okG (st_lshl d_321_114) (fun _ _ _ _ _ => rfl)
theorem ki_321_113 : js_OkG 321 113 (o_b2 (fun x y => x + y) 114) := js_St.okG (st_iadd d_321_113) (fun _ _ _ _ _ => rfl)
theorem ki_321_142 : js_OkG 321 142 (o_il 5 144) := js_St.okG (st_iload d_321_142) (fun _ _ _ _ _ => rfl)
theorem ki_321_141 : js_OkG 321 141 (o_lc 1 142) := js_St.okG (st_lconst rfl d_321_141) (fun _ _ _ _ _ => rfl)
theorem ki_321_138 : js_OkG 321 138 (o_cne 150 141) := js_St.okG (st_icne (by decide) d_321_138) (fun _ _ _ _ _ => rfl)
theorem ki_321_137 : js_OkG 321 137 (o_ic 1 138) := js_St.okG (st_iconst rfl d_321_137) (fun _ _ _ _ _ => rfl)
theorem ki_321_134 : js_OkG 321 134 (o_cI 176 4 0 137) := og_sIP rfl rfl kB_321_176 rfl kw_785 kw_786 d_321_134
theorem ki_321_133 : js_OkG 321 133 (o_ic 3 134) := js_St.okG (st_iconst rfl d_321_133) (fun _ _ _ _ _ => rfl)
theorem ki_321_132 : js_OkG 321 132 (o_rem 133) := js_St.okG (st_irem d_321_132) (fun _ _ _ _ _ => rfl)
theorem ki_321_130 : js_OkG 321 130 (o_ic 8 132) := js_St.okG (st_bipush rfl d_321_130) (fun _ _ _ _ _ => rfl)
theorem ki_321_128 : js_OkG 321 128 (o_il 5 130) := js_St.okG (st_iload d_321_128) (fun _ _ _ _ _ => rfl)
theorem ki_321_159 : js_OkG 321 159 (o_ll 3 160) := js_St.okG (st_lloadn rfl d_321_159) (fun _ _ _ _ _ => rfl)
theorem ki_321_156 : js_OkG 321 156 (o_go 5) := js_St.okG (st_goto (by decide) d_321_156) (fun _ _ _ _ _ => rfl)
theorem ki_321_153 : js_OkG 321 153 (o_inc 5 1 156) := js_St.okG (st_iinc rfl (Nat.le_of_ble_eq_true rfl) d_321_153) (fun _ _ _ _ _ => rfl)
theorem ki_321_152 : js_OkG 321 152 (o_ls 3 153) := js_St.okG (st_lstoren rfl (Nat.le_of_ble_eq_true rfl) d_321_152) (fun _ _ _ _ _ => rfl)
theorem ki_321_151 : js_OkG 321 151 (o_B2 (fun x y => x ||| y) 152) := js_St.okG (st_lor d_321_151) (fun _ _ _ _ _ => rfl)
theorem ki_321_150 : js_OkG 321 150 (o_lc 0 151) := js_St.okG (st_lconst rfl d_321_150) (fun _ _ _ _ _ => rfl)
theorem ki_321_147 : js_OkG 321 147 (o_go 151) := js_St.okG (st_goto (by decide) d_321_147) (fun _ _ _ _ _ => rfl)
theorem ki_321_146 : js_OkG 321 146 (o_Sh (fun x y => x <<< (y.toInt64 &&& 63)) 147) := js_St.okG (st_lshl d_321_146) (fun _ _ _ _ _ => rfl)
theorem ki_321_145 : js_OkG 321 145 (o_b2 (fun x y => x - y) 146) := js_St.okG (st_isub d_321_145) (fun _ _ _ _ _ => rfl)
theorem ki_321_144 : js_OkG 321 144 (o_ic 1 145) := js_St.okG (st_iconst rfl d_321_144) (fun _ _ _ _ _ => rfl)
theorem ki_321_174 : js_OkG 321 174 (o_rL) := og_rL rfl d_321_174
theorem ki_321_171 : js_OkG 321 171 (o_cL 322 2 0 174) := og_sLP rfl rfl kB_321_322 rfl kw_949 kw_950 d_321_171
theorem ki_321_170 : js_OkG 321 170 (o_ll 3 171) := js_St.okG (st_lloadn rfl d_321_170) (fun _ _ _ _ _ => rfl)
theorem ki_321_169 : js_OkG 321 169 (o_al 0 170) := js_St.okG (st_aloadn rfl d_321_169) (fun _ _ _ _ _ => rfl)
theorem ki_321_166 : js_OkG 321 166 (o_go 174) := js_St.okG (st_goto (by decide) d_321_166) (fun _ _ _ _ _ => rfl)
theorem ki_321_165 : js_OkG 321 165 (o_ll 1 166) := js_St.okG (st_lloadn rfl d_321_165) (fun _ _ _ _ _ => rfl)
theorem ki_321_162 : js_OkG 321 162 (o_ne 169 165) := js_St.okG (st_ifne (by decide) d_321_162) (fun _ _ _ _ _ => rfl)
theorem ki_321_161 : js_OkG 321 161 (o_lcmp 162) := js_St.okG (st_lcmp d_321_161) (fun _ _ _ _ _ => rfl)
theorem ki_321_160 : js_OkG 321 160 (o_ll 1 161) := js_St.okG (st_lloadn rfl d_321_160) (fun _ _ _ _ _ => rfl)
set_option maxRecDepth 20000 in
theorem mk_321 : js_mokG 321 := jk_tab (fun _ => js_St.okG st_bad (fun _ _ _ _ _ => rfl)) (show jk_all (js_OkG 321) 0 (tb_G 321) from ⟨⟨ki_321_0, ⟨ki_321_1, ⟨ki_321_2, ⟨ki_321_3, ⟨kbadG, ⟨ki_321_5, ⟨kbadG, ⟨ki_321_7, ⟨kbadG, ⟨ki_321_9, ⟨kbadG, ⟨kbadG, ⟨ki_321_12, ⟨ki_321_13, ⟨kbadG, ⟨ki_321_15, trivial⟩⟩⟩⟩⟩⟩⟩⟩⟩⟩⟩⟩⟩⟩⟩⟩, ⟨⟨ki_321_16, ⟨ki_321_17, ⟨ki_321_18, ⟨ki_321_19, ⟨ki_321_20, ⟨kbadG, ⟨kbadG, ⟨ki_321_23, ⟨ki_321_24, ⟨ki_321_25, ⟨kbadG, ⟨ki_321_27, ⟨kbadG, ⟨ki_321_29, ⟨ki_321_30, ⟨kbadG, trivial⟩⟩⟩⟩⟩⟩⟩⟩⟩⟩⟩⟩⟩⟩⟩⟩, ⟨⟨ki_321_32, ⟨kbadG, ⟨ki_321_34, ⟨ki_321_35, ⟨ki_321_36, ⟨kbadG, ⟨kbadG, ⟨ki_321_39, ⟨ki_321_40, ⟨kbadG, ⟨kbadG, ⟨ki_321_43, ⟨ki_321_44, ⟨kbadG, ⟨ki_321_46, ⟨kbadG, trivial⟩⟩⟩⟩⟩⟩⟩⟩⟩⟩⟩⟩⟩⟩⟩⟩, ⟨⟨ki_321_48, ⟨ki_321_49, ⟨ki_321_50, ⟨kbadG, ⟨kbadG, ⟨ki_321_53, ⟨ki_321_54, ⟨ki_321_55, ⟨ki_321_56, ⟨ki_321_57, ⟨ki_321_58, ⟨kbadG, ⟨ki_321_60, ⟨kbadG, ⟨ki_321_62, ⟨ki_321_63, trivial⟩⟩⟩⟩⟩⟩⟩⟩⟩⟩⟩⟩⟩⟩⟩⟩, ⟨⟨kbadG, ⟨ki_321_65, ⟨kbadG, ⟨ki_321_67, ⟨ki_321_68, ⟨ki_321_69, ⟨kbadG, ⟨kbadG, ⟨ki_321_72, ⟨ki_321_73, ⟨kbadG, ⟨kbadG, ⟨ki_321_76, ⟨ki_321_77, ⟨kbadG, ⟨ki_321_79, trivial⟩⟩⟩⟩⟩⟩⟩⟩⟩⟩⟩⟩⟩⟩⟩⟩, ⟨⟨ki_321_80, ⟨ki_321_81, ⟨ki_321_82, ⟨kbadG, ⟨kbadG, ⟨ki_321_85, ⟨ki_321_86, ⟨ki_321_87, ⟨ki_321_88, ⟨ki_321_89, ⟨ki_321_90, ⟨kbadG, ⟨ki_321_92, ⟨kbadG, ⟨ki_321_94, ⟨ki_321_95, trivial⟩⟩⟩⟩⟩⟩⟩⟩⟩⟩⟩⟩⟩⟩⟩⟩, ⟨⟨kbadG, ⟨ki_321_97, ⟨kbadG, ⟨ki_321_99, ⟨ki_321_100, ⟨ki_321_101, ⟨kbadG, ⟨kbadG, ⟨ki_321_104, ⟨ki_321_105, ⟨kbadG, ⟨kbadG, ⟨ki_321_108, ⟨ki_321_109, ⟨kbadG, ⟨ki_321_111, trivial⟩⟩⟩⟩⟩⟩⟩⟩⟩⟩⟩⟩⟩⟩⟩⟩, ⟨⟨kbadG, ⟨ki_321_113, ⟨ki_321_114, ⟨ki_321_115, ⟨kbadG, ⟨kbadG, ⟨ki_321_118, ⟨ki_321_119, ⟨ki_321_120, ⟨ki_321_121, ⟨ki_321_122, ⟨ki_321_123, ⟨kbadG, ⟨ki_321_125, ⟨kbadG, ⟨ki_321_127, trivial⟩⟩⟩⟩⟩⟩⟩⟩⟩⟩⟩⟩⟩⟩⟩⟩, ⟨⟨ki_321_128, ⟨kbadG, ⟨ki_321_130, ⟨kbadG, ⟨ki_321_132, ⟨ki_321_133, ⟨ki_321_134, ⟨kbadG, ⟨kbadG, ⟨ki_321_137, ⟨ki_321_138, ⟨kbadG, ⟨kbadG, ⟨ki_321_141, ⟨ki_321_142, ⟨kbadG, trivial⟩⟩⟩⟩⟩⟩⟩⟩⟩⟩⟩⟩⟩⟩⟩⟩, ⟨⟨ki_321_144, ⟨ki_321_145, ⟨ki_321_146, ⟨ki_321_147, ⟨kbadG, ⟨kbadG, ⟨ki_321_150, ⟨ki_321_151, ⟨ki_321_152, ⟨ki_321_153, ⟨kbadG, ⟨kbadG, ⟨ki_321_156, ⟨kbadG, ⟨kbadG, ⟨ki_321_159, trivial⟩⟩⟩⟩⟩⟩⟩⟩⟩⟩⟩⟩⟩⟩⟩⟩, ⟨⟨ki_321_160, ⟨ki_321_161, ⟨ki_321_162, ⟨kbadG, ⟨kbadG, ⟨ki_321_165, ⟨ki_321_166, ⟨kbadG, ⟨kbadG, ⟨ki_321_169, ⟨ki_321_170, ⟨ki_321_171, ⟨kbadG, ⟨kbadG, ⟨ki_321_174, trivial⟩⟩⟩⟩⟩⟩⟩⟩⟩⟩⟩⟩⟩⟩⟩, trivial⟩⟩⟩⟩⟩⟩⟩⟩⟩⟩⟩)
theorem d_322_0 : decode (js_b 322) 0 = .ok (.lload_n 1, 1) := d_300_0
theorem d_322_1 : decode (js_b 322) 1 = .ok (.lstore_n 3, 1) := d_300_1
theorem d_322_2 : decode (js_b 322) 2 = .ok (.iconst 0, 1) := d_300_2
theorem d_322_3 : decode (js_b 322) 3 = .ok (.istore 5, 2) := d_300_3
theorem d_322_5 : decode (js_b 322) 5 = .ok (.iload 5, 2) := d_300_5
theorem d_322_7 : decode (js_b 322) 7 = .ok (.bipush 64, 2) := d_300_7
theorem d_322_9 : decode (js_b 322) 9 = .ok (.if_icmp .ge 150, 3) := d_300_9
theorem d_322_12 : decode (js_b 322) 12 = .ok (.lload_n 1, 1) := d_300_12
theorem d_322_13 : decode (js_b 322) 13 = .ok (.iload 5, 2) := d_300_13
theorem d_322_15 : decode (js_b 322) 15 = .ok (.lushr, 1) := d_300_15
theorem d_322_16 : decode (js_b 322) 16 = .ok (.lconst 1, 1) := d_300_16
theorem d_322_17 : decode (js_b 322) 17 = .ok (.land, 1) := d_300_17
theorem d_322_18 : decode (js_b 322) 18 = .ok (.lconst 1, 1) := d_300_18
theorem d_322_19 : decode (js_b 322) 19 = .ok (.lcmp, 1) := d_300_19
theorem d_322_20 : decode (js_b 322) 20 = .ok (.ifCond .ne 133, 3) := d_300_20
theorem d_322_23 : decode (js_b 322) 23 = .ok (.lload_n 3, 1) := d_300_23
theorem d_322_24 : decode (js_b 322) 24 = .ok (.aload_n 0, 1) := d_300_24
theorem d_322_25 : decode (js_b 322) 25 = .ok (.iload 5, 2) := d_300_25
theorem d_322_27 : decode (js_b 322) 27 = .ok (.bipush 8, 2) := d_300_27
theorem d_322_29 : decode (js_b 322) 29 = .ok (.idiv, 1) := d_300_29
theorem d_322_30 : decode (js_b 322) 30 = .ok (.iload 5, 2) := d_300_30
theorem d_322_32 : decode (js_b 322) 32 = .ok (.bipush 8, 2) := d_300_32
theorem d_322_34 : decode (js_b 322) 34 = .ok (.irem, 1) := d_300_34
theorem d_322_35 : decode (js_b 322) 35 = .ok (.iconst 0, 1) := d_300_35
theorem d_322_36 : decode (js_b 322) 36 = .ok (.invokestatic 198, 3) := d_300_36
theorem d_322_39 : decode (js_b 322) 39 = .ok (.iconst 1, 1) := d_300_39
theorem d_322_40 : decode (js_b 322) 40 = .ok (.if_icmp .ne 13, 3) := d_300_40
theorem d_322_43 : decode (js_b 322) 43 = .ok (.lconst 1, 1) := d_300_43
theorem d_322_44 : decode (js_b 322) 44 = .ok (.iload 5, 2) := d_300_44
theorem d_322_46 : decode (js_b 322) 46 = .ok (.bipush 8, 2) := d_300_46
theorem d_322_48 : decode (js_b 322) 48 = .ok (.isub, 1) := d_300_48
theorem d_322_49 : decode (js_b 322) 49 = .ok (.lshl, 1) := d_300_49
theorem d_322_50 : decode (js_b 322) 50 = .ok (.goto 4, 3) := d_300_50
theorem d_322_53 : decode (js_b 322) 53 = .ok (.lconst 0, 1) := d_300_53
theorem d_322_54 : decode (js_b 322) 54 = .ok (.lor, 1) := d_300_54
theorem d_322_55 : decode (js_b 322) 55 = .ok (.lstore_n 3, 1) := d_300_55
theorem d_322_56 : decode (js_b 322) 56 = .ok (.lload_n 3, 1) := d_300_56
theorem d_322_57 : decode (js_b 322) 57 = .ok (.aload_n 0, 1) := d_300_57
theorem d_322_58 : decode (js_b 322) 58 = .ok (.iload 5, 2) := d_300_58
theorem d_322_60 : decode (js_b 322) 60 = .ok (.bipush 8, 2) := d_300_60
theorem d_322_62 : decode (js_b 322) 62 = .ok (.idiv, 1) := d_300_62
theorem d_322_63 : decode (js_b 322) 63 = .ok (.iload 5, 2) := d_300_63
theorem d_322_65 : decode (js_b 322) 65 = .ok (.bipush 8, 2) := d_300_65
theorem d_322_67 : decode (js_b 322) 67 = .ok (.irem, 1) := d_300_67
theorem d_322_68 : decode (js_b 322) 68 = .ok (.iconst 1, 1) := d_300_68
theorem d_322_69 : decode (js_b 322) 69 = .ok (.invokestatic 198, 3) := d_300_69
theorem d_322_72 : decode (js_b 322) 72 = .ok (.iconst 1, 1) := d_300_72
theorem d_322_73 : decode (js_b 322) 73 = .ok (.if_icmp .ne 12, 3) := d_300_73
theorem d_322_76 : decode (js_b 322) 76 = .ok (.lconst 1, 1) := d_300_76
theorem d_322_77 : decode (js_b 322) 77 = .ok (.iload 5, 2) := d_300_77
theorem d_322_79 : decode (js_b 322) 79 = .ok (.iconst 1, 1) := d_300_79
theorem d_322_80 : decode (js_b 322) 80 = .ok (.iadd, 1) := d_300_80
theorem d_322_81 : decode (js_b 322) 81 = .ok (.lshl, 1) := d_300_81
theorem d_322_82 : decode (js_b 322) 82 = .ok (.goto 4, 3) := d_300_82
theorem d_322_85 : decode (js_b 322) 85 = .ok (.lconst 0, 1) := d_300_85
theorem d_322_86 : decode (js_b 322) 86 = .ok (.lor, 1) := d_300_86
theorem d_322_87 : decode (js_b 322) 87 = .ok (.lstore_n 3, 1) := d_300_87
theorem d_322_88 : decode (js_b 322) 88 = .ok (.lload_n 3, 1) := d_300_88
theorem d_322_89 : decode (js_b 322) 89 = .ok (.aload_n 0, 1) := d_300_89
theorem d_322_90 : decode (js_b 322) 90 = .ok (.iload 5, 2) := d_300_90
theorem d_322_92 : decode (js_b 322) 92 = .ok (.bipush 8, 2) := d_300_92
theorem d_322_94 : decode (js_b 322) 94 = .ok (.idiv, 1) := d_300_94
theorem d_322_95 : decode (js_b 322) 95 = .ok (.iload 5, 2) := d_300_95
theorem d_322_97 : decode (js_b 322) 97 = .ok (.bipush 8, 2) := d_300_97
theorem d_322_99 : decode (js_b 322) 99 = .ok (.irem, 1) := d_300_99
theorem d_322_100 : decode (js_b 322) 100 = .ok (.iconst 2, 1) := d_300_100
theorem d_322_101 : decode (js_b 322) 101 = .ok (.invokestatic 198, 3) := d_300_101
theorem d_322_104 : decode (js_b 322) 104 = .ok (.iconst 1, 1) := d_300_104
theorem d_322_105 : decode (js_b 322) 105 = .ok (.if_icmp .ne 13, 3) := d_300_105
theorem d_322_108 : decode (js_b 322) 108 = .ok (.lconst 1, 1) := d_300_108
theorem d_322_109 : decode (js_b 322) 109 = .ok (.iload 5, 2) := d_300_109
theorem d_322_111 : decode (js_b 322) 111 = .ok (.bipush 8, 2) := d_300_111
theorem d_322_113 : decode (js_b 322) 113 = .ok (.iadd, 1) := d_300_113
theorem d_322_114 : decode (js_b 322) 114 = .ok (.lshl, 1) := d_300_114
theorem d_322_115 : decode (js_b 322) 115 = .ok (.goto 4, 3) := d_300_115
theorem d_322_118 : decode (js_b 322) 118 = .ok (.lconst 0, 1) := d_300_118
theorem d_322_119 : decode (js_b 322) 119 = .ok (.lor, 1) := d_300_119
theorem d_322_120 : decode (js_b 322) 120 = .ok (.lstore_n 3, 1) := d_300_120
theorem d_322_121 : decode (js_b 322) 121 = .ok (.lload_n 3, 1) := d_300_121
theorem d_322_122 : decode (js_b 322) 122 = .ok (.aload_n 0, 1) := d_300_122
theorem d_322_123 : decode (js_b 322) 123 = .ok (.iload 5, 2) := d_300_123
theorem d_322_125 : decode (js_b 322) 125 = .ok (.bipush 8, 2) := d_300_125
theorem d_322_127 : decode (js_b 322) 127 = .ok (.idiv, 1) := d_300_127
theorem d_322_128 : decode (js_b 322) 128 = .ok (.iload 5, 2) := d_300_128
theorem d_322_130 : decode (js_b 322) 130 = .ok (.bipush 8, 2) := d_300_130
theorem d_322_132 : decode (js_b 322) 132 = .ok (.irem, 1) := d_300_132
theorem d_322_133 : decode (js_b 322) 133 = .ok (.iconst 3, 1) := d_300_133
theorem d_322_134 : decode (js_b 322) 134 = .ok (.invokestatic 198, 3) := d_300_134
theorem d_322_137 : decode (js_b 322) 137 = .ok (.iconst 1, 1) := d_300_137
theorem d_322_138 : decode (js_b 322) 138 = .ok (.if_icmp .ne 12, 3) := d_300_138
theorem d_322_141 : decode (js_b 322) 141 = .ok (.lconst 1, 1) := d_300_141
theorem d_322_142 : decode (js_b 322) 142 = .ok (.iload 5, 2) := d_300_142
theorem d_322_144 : decode (js_b 322) 144 = .ok (.iconst 1, 1) := d_300_144
theorem d_322_145 : decode (js_b 322) 145 = .ok (.isub, 1) := d_300_145
theorem d_322_146 : decode (js_b 322) 146 = .ok (.lshl, 1) := d_300_146
theorem d_322_147 : decode (js_b 322) 147 = .ok (.goto 4, 3) := d_300_147
theorem d_322_150 : decode (js_b 322) 150 = .ok (.lconst 0, 1) := d_300_150
theorem d_322_151 : decode (js_b 322) 151 = .ok (.lor, 1) := d_300_151
theorem d_322_152 : decode (js_b 322) 152 = .ok (.lstore_n 3, 1) := d_300_152
theorem d_322_153 : decode (js_b 322) 153 = .ok (.iinc 5 1, 3) := d_300_153
theorem d_322_156 : decode (js_b 322) 156 = .ok (.goto (-151), 3) := d_300_156
theorem d_322_159 : decode (js_b 322) 159 = .ok (.lload_n 3, 1) := d_300_159
theorem d_322_160 : decode (js_b 322) 160 = .ok (.lload_n 1, 1) := d_300_160
theorem d_322_161 : decode (js_b 322) 161 = .ok (.lcmp, 1) := d_300_161
theorem d_322_162 : decode (js_b 322) 162 = .ok (.ifCond .ne 7, 3) := d_300_162
theorem d_322_165 : decode (js_b 322) 165 = .ok (.lload_n 1, 1) := d_300_165
theorem d_322_166 : decode (js_b 322) 166 = .ok (.goto 8, 3) := d_300_166
theorem d_322_169 : decode (js_b 322) 169 = .ok (.aload_n 0, 1) := d_300_169
theorem d_322_170 : decode (js_b 322) 170 = .ok (.lload_n 3, 1) := d_300_170
theorem d_322_171 : decode (js_b 322) 171 = .ok (.invokestatic 323, 3) := d_300_171
theorem d_322_174 : decode (js_b 322) 174 = .ok (.lreturn, 1) := d_300_174
theorem ki_322_15 : js_OkG 322 15 (o_Sh (fun x y => (x.toUInt64 >>> (y.toInt64.toUInt64 &&& Int64.toUInt64 63)).toInt64) 16) := js_St.okG (st_lushr d_322_15) (fun _ _ _ _ _ => rfl)
theorem ki_322_13 : js_OkG 322 13 (o_il 5 15) := js_St.okG (st_iload d_322_13) (fun _ _ _ _ _ => rfl)
theorem ki_322_12 : js_OkG 322 12 (o_ll 1 13) := js_St.okG (st_lloadn rfl d_322_12) (fun _ _ _ _ _ => rfl)
theorem ki_322_9 : js_OkG 322 9 (o_cge 159 12) := js_St.okG (st_icge (by decide) d_322_9) (fun _ _ _ _ _ => rfl)
theorem ki_322_7 : js_OkG 322 7 (o_ic 64 9) := js_St.okG (st_bipush rfl d_322_7) (fun _ _ _ _ _ => rfl)
theorem ki_322_5 : js_OkG 322 5 (o_il 5 7) := js_St.okG (st_iload d_322_5) (fun _ _ _ _ _ => rfl)
theorem ki_322_3 : js_OkG 322 3 (o_is 5 5) := js_St.okG (st_istore (Nat.le_of_ble_eq_true rfl) d_322_3) (fun _ _ _ _ _ => rfl)
theorem ki_322_2 : js_OkG 322 2 (o_ic 0 3) := js_St.okG (st_iconst rfl d_322_2) (fun _ _ _ _ _ => rfl)
theorem ki_322_1 : js_OkG 322 1 (o_ls 3 2) := js_St.okG (st_lstoren rfl (Nat.le_of_ble_eq_true rfl) d_322_1) (fun _ _ _ _ _ => rfl)
theorem ki_322_0 : js_OkG 322 0 (o_ll 1 1) := js_St.okG (st_lloadn rfl d_322_0) (fun _ _ _ _ _ => rfl)
theorem ki_322_30 : js_OkG 322 30 (o_il 5 32) := js_St.okG (st_iload d_322_30) (fun _ _ _ _ _ => rfl)
theorem ki_322_29 : js_OkG 322 29 (o_div 30) := js_St.okG (st_idiv d_322_29) (fun _ _ _ _ _ => rfl)
theorem ki_322_27 : js_OkG 322 27 (o_ic 8 29) := js_St.okG (st_bipush rfl d_322_27) (fun _ _ _ _ _ => rfl)
theorem ki_322_25 : js_OkG 322 25 (o_il 5 27) := js_St.okG (st_iload d_322_25) (fun _ _ _ _ _ => rfl)
theorem ki_322_24 : js_OkG 322 24 (o_al 0 25) := js_St.okG (st_aloadn rfl d_322_24) (fun _ _ _ _ _ => rfl)
theorem ki_322_23 : js_OkG 322 23 (o_ll 3 24) := js_St.okG (st_lloadn rfl d_322_23) (fun _ _ _ _ _ => rfl)
theorem ki_322_20 : js_OkG 322 20 (o_ne 153 23) := js_St.okG (st_ifne (by decide) d_322_20) (fun _ _ _ _ _ => rfl)
theorem ki_322_19 : js_OkG 322 19 (o_lcmp 20) := js_St.okG (st_lcmp d_322_19) (fun _ _ _ _ _ => rfl)
theorem ki_322_18 : js_OkG 322 18 (o_lc 1 19) := js_St.okG (st_lconst rfl d_322_18) (fun _ _ _ _ _ => rfl)
theorem ki_322_17 : js_OkG 322 17 (o_B2 (fun x y => x &&& y) 18) := js_St.okG (st_land d_322_17) (fun _ _ _ _ _ => rfl)
theorem ki_322_16 : js_OkG 322 16 (o_lc 1 17) := js_St.okG (st_lconst rfl d_322_16) (fun _ _ _ _ _ => rfl)
theorem ki_322_46 : js_OkG 322 46 (o_ic 8 48) := js_St.okG (st_bipush rfl d_322_46) (fun _ _ _ _ _ => rfl)
theorem ki_322_44 : js_OkG 322 44 (o_il 5 46) := js_St.okG (st_iload d_322_44) (fun _ _ _ _ _ => rfl)
theorem ki_322_43 : js_OkG 322 43 (o_lc 1 44) := js_St.okG (st_lconst rfl d_322_43) (fun _ _ _ _ _ => rfl)
theorem ki_322_40 : js_OkG 322 40 (o_cne 53 43) := js_St.okG (st_icne (by decide) d_322_40) (fun _ _ _ _ _ => rfl)
theorem ki_322_39 : js_OkG 322 39 (o_ic 1 40) := js_St.okG (st_iconst rfl d_322_39) (fun _ _ _ _ _ => rfl)
theorem ki_322_36 : js_OkG 322 36 (o_cI 176 4 0 39) := og_sIP rfl rfl kB_322_176 rfl kw_785 kw_786 d_322_36
theorem ki_322_35 : js_OkG 322 35 (o_ic 0 36) := js_St.okG (st_iconst rfl d_322_35) (fun _ _ _ _ _ => rfl)
theorem ki_322_34 : js_OkG 322 34 (o_rem 35) := js_St.okG (st_irem d_322_34) (fun _ _ _ _ _ => rfl)
theorem ki_322_32 : js_OkG 322 32 (o_ic 8 34) := js_St.okG (st_bipush rfl d_322_32) (fun _ _ _ _ _ => rfl)
theorem ki_322_63 : js_OkG 322 63 (o_il 5 65) := js_St.okG (st_iload d_322_63) (fun _ _ _ _ _ => rfl)
theorem ki_322_62 : js_OkG 322 62 (o_div 63) := js_St.okG (st_idiv d_322_62) (fun _ _ _ _ _ => rfl)
theorem ki_322_60 : js_OkG 322 60 (o_ic 8 62) := js_St.okG (st_bipush rfl d_322_60) (fun _ _ _ _ _ => rfl)
theorem ki_322_58 : js_OkG 322 58 (o_il 5 60) := js_St.okG (st_iload d_322_58) (fun _ _ _ _ _ => rfl)
theorem ki_322_57 : js_OkG 322 57 (o_al 0 58) := js_St.okG (st_aloadn rfl d_322_57) (fun _ _ _ _ _ => rfl)
theorem ki_322_56 : js_OkG 322 56 (o_ll 3 57) := js_St.okG (st_lloadn rfl d_322_56) (fun _ _ _ _ _ => rfl)
theorem ki_322_55 : js_OkG 322 55 (o_ls 3 56) := js_St.okG (st_lstoren rfl (Nat.le_of_ble_eq_true rfl) d_322_55) (fun _ _ _ _ _ => rfl)
theorem ki_322_54 : js_OkG 322 54 (o_B2 (fun x y => x ||| y) 55) := js_St.okG (st_lor d_322_54) (fun _ _ _ _ _ => rfl)
theorem ki_322_53 : js_OkG 322 53 (o_lc 0 54) := js_St.okG (st_lconst rfl d_322_53) (fun _ _ _ _ _ => rfl)
theorem ki_322_50 : js_OkG 322 50 (o_go 54) := js_St.okG (st_goto (by decide) d_322_50) (fun _ _ _ _ _ => rfl)
theorem ki_322_49 : js_OkG 322 49 (o_Sh (fun x y => x <<< (y.toInt64 &&& 63)) 50) := js_St.okG (st_lshl d_322_49) (fun _ _ _ _ _ => rfl)
theorem ki_322_48 : js_OkG 322 48 (o_b2 (fun x y => x - y) 49) := js_St.okG (st_isub d_322_48) (fun _ _ _ _ _ => rfl)
theorem ki_322_79 : js_OkG 322 79 (o_ic 1 80) := js_St.okG (st_iconst rfl d_322_79) (fun _ _ _ _ _ => rfl)
theorem ki_322_77 : js_OkG 322 77 (o_il 5 79) := js_St.okG (st_iload d_322_77) (fun _ _ _ _ _ => rfl)
theorem ki_322_76 : js_OkG 322 76 (o_lc 1 77) := js_St.okG (st_lconst rfl d_322_76) (fun _ _ _ _ _ => rfl)
theorem ki_322_73 : js_OkG 322 73 (o_cne 85 76) := js_St.okG (st_icne (by decide) d_322_73) (fun _ _ _ _ _ => rfl)
theorem ki_322_72 : js_OkG 322 72 (o_ic 1 73) := js_St.okG (st_iconst rfl d_322_72) (fun _ _ _ _ _ => rfl)
theorem ki_322_69 : js_OkG 322 69 (o_cI 176 4 0 72) := og_sIP rfl rfl kB_322_176 rfl kw_785 kw_786 d_322_69
theorem ki_322_68 : js_OkG 322 68 (o_ic 1 69) := js_St.okG (st_iconst rfl d_322_68) (fun _ _ _ _ _ => rfl)
theorem ki_322_67 : js_OkG 322 67 (o_rem 68) := js_St.okG (st_irem d_322_67) (fun _ _ _ _ _ => rfl)
theorem ki_322_65 : js_OkG 322 65 (o_ic 8 67) := js_St.okG (st_bipush rfl d_322_65) (fun _ _ _ _ _ => rfl)
theorem ki_322_95 : js_OkG 322 95 (o_il 5 97) := js_St.okG (st_iload d_322_95) (fun _ _ _ _ _ => rfl)
theorem ki_322_94 : js_OkG 322 94 (o_div 95) := js_St.okG (st_idiv d_322_94) (fun _ _ _ _ _ => rfl)
theorem ki_322_92 : js_OkG 322 92 (o_ic 8 94) := js_St.okG (st_bipush rfl d_322_92) (fun _ _ _ _ _ => rfl)
theorem ki_322_90 : js_OkG 322 90 (o_il 5 92) := js_St.okG (st_iload d_322_90) (fun _ _ _ _ _ => rfl)
theorem ki_322_89 : js_OkG 322 89 (o_al 0 90) := js_St.okG (st_aloadn rfl d_322_89) (fun _ _ _ _ _ => rfl)
theorem ki_322_88 : js_OkG 322 88 (o_ll 3 89) := js_St.okG (st_lloadn rfl d_322_88) (fun _ _ _ _ _ => rfl)
theorem ki_322_87 : js_OkG 322 87 (o_ls 3 88) := js_St.okG (st_lstoren rfl (Nat.le_of_ble_eq_true rfl) d_322_87) (fun _ _ _ _ _ => rfl)
theorem ki_322_86 : js_OkG 322 86 (o_B2 (fun x y => x ||| y) 87) := js_St.okG (st_lor d_322_86) (fun _ _ _ _ _ => rfl)
theorem ki_322_85 : js_OkG 322 85 (o_lc 0 86) := js_St.okG (st_lconst rfl d_322_85) (fun _ _ _ _ _ => rfl)
theorem ki_322_82 : js_OkG 322 82 (o_go 86) := js_St.okG (st_goto (by decide) d_322_82) (fun _ _ _ _ _ => rfl)
theorem ki_322_81 : js_OkG 322 81 (o_Sh (fun x y => x <<< (y.toInt64 &&& 63)) 82) := js_St.okG (st_lshl d_322_81) (fun _ _ _ _ _ => rfl)
theorem ki_322_80 : js_OkG 322 80 (o_b2 (fun x y => x + y) 81) := js_St.okG (st_iadd d_322_80) (fun _ _ _ _ _ => rfl)
theorem ki_322_111 : js_OkG 322 111 (o_ic 8 113) := js_St.okG (st_bipush rfl d_322_111) (fun _ _ _ _ _ => rfl)
theorem ki_322_109 : js_OkG 322 109 (o_il 5 111) := js_St.okG (st_iload d_322_109) (fun _ _ _ _ _ => rfl)
theorem ki_322_108 : js_OkG 322 108 (o_lc 1 109) := js_St.okG (st_lconst rfl d_322_108) (fun _ _ _ _ _ => rfl)
theorem ki_322_105 : js_OkG 322 105 (o_cne 118 108) := js_St.okG (st_icne (by decide) d_322_105) (fun _ _ _ _ _ => rfl)
theorem ki_322_104 : js_OkG 322 104 (o_ic 1 105) := js_St.okG (st_iconst rfl d_322_104) (fun _ _ _ _ _ => rfl)
theorem ki_322_101 : js_OkG 322 101 (o_cI 176 4 0 104) := og_sIP rfl rfl kB_322_176 rfl kw_785 kw_786 d_322_101
theorem ki_322_100 : js_OkG 322 100 (o_ic 2 101) := js_St.okG (st_iconst rfl d_322_100) (fun _ _ _ _ _ => rfl)
theorem ki_322_99 : js_OkG 322 99 (o_rem 100) := js_St.okG (st_irem d_322_99) (fun _ _ _ _ _ => rfl)
theorem ki_322_97 : js_OkG 322 97 (o_ic 8 99) := js_St.okG (st_bipush rfl d_322_97) (fun _ _ _ _ _ => rfl)
theorem ki_322_127 : js_OkG 322 127 (o_div 128) := js_St.okG (st_idiv d_322_127) (fun _ _ _ _ _ => rfl)
theorem ki_322_125 : js_OkG 322 125 (o_ic 8 127) := js_St.okG (st_bipush rfl d_322_125) (fun _ _ _ _ _ => rfl)
theorem ki_322_123 : js_OkG 322 123 (o_il 5 125) := js_St.okG (st_iload d_322_123) (fun _ _ _ _ _ => rfl)
theorem ki_322_122 : js_OkG 322 122 (o_al 0 123) := js_St.okG (st_aloadn rfl d_322_122) (fun _ _ _ _ _ => rfl)
theorem ki_322_121 : js_OkG 322 121 (o_ll 3 122) := js_St.okG (st_lloadn rfl d_322_121) (fun _ _ _ _ _ => rfl)
theorem ki_322_120 : js_OkG 322 120 (o_ls 3 121) := js_St.okG (st_lstoren rfl (Nat.le_of_ble_eq_true rfl) d_322_120) (fun _ _ _ _ _ => rfl)
theorem ki_322_119 : js_OkG 322 119 (o_B2 (fun x y => x ||| y) 120) := js_St.okG (st_lor d_322_119) (fun _ _ _ _ _ => rfl)
theorem ki_322_118 : js_OkG 322 118 (o_lc 0 119) := js_St.okG (st_lconst rfl d_322_118) (fun _ _ _ _ _ => rfl)
theorem ki_322_115 : js_OkG 322 115 (o_go 119) := js_St.okG (st_goto (by decide) d_322_115) (fun _ _ _ _ _ => rfl)
theorem ki_322_114 : js_OkG 322 114 (o_Sh (fun x y => x <<< (y.toInt64 &&& 63)) 115) := js_St.okG (st_lshl d_322_114) (fun _ _ _ _ _ => rfl)
theorem ki_322_113 : js_OkG 322 113 (o_b2 (fun x y => x + y) 114) := js_St.okG (st_iadd d_322_113) (fun _ _ _ _ _ => rfl)
theorem ki_322_142 : js_OkG 322 142 (o_il 5 144) := js_St.okG (st_iload d_322_142) (fun _ _ _ _ _ => rfl)
theorem ki_322_141 : js_OkG 322 141 (o_lc 1 142) := js_St.okG (st_lconst rfl d_322_141) (fun _ _ _ _ _ => rfl)
theorem ki_322_138 : js_OkG 322 138 (o_cne 150 141) := js_St.okG (st_icne (by decide) d_322_138) (fun _ _ _ _ _ => rfl)
theorem ki_322_137 : js_OkG 322 137 (o_ic 1 138) := js_St.okG (st_iconst rfl d_322_137) (fun _ _ _ _ _ => rfl)
theorem ki_322_134 : js_OkG 322 134 (o_cI 176 4 0 137) := og_sIP rfl rfl kB_322_176 rfl kw_785 kw_786 d_322_134
theorem ki_322_133 : js_OkG 322 133 (o_ic 3 134) := js_St.okG (st_iconst rfl d_322_133) (fun _ _ _ _ _ => rfl)
theorem ki_322_132 : js_OkG 322 132 (o_rem 133) := js_St.okG (st_irem d_322_132) (fun _ _ _ _ _ => rfl)
theorem ki_322_130 : js_OkG 322 130 (o_ic 8 132) := js_St.okG (st_bipush rfl d_322_130) (fun _ _ _ _ _ => rfl)
theorem ki_322_128 : js_OkG 322 128 (o_il 5 130) := js_St.okG (st_iload d_322_128) (fun _ _ _ _ _ => rfl)
theorem ki_322_159 : js_OkG 322 159 (o_ll 3 160) := js_St.okG (st_lloadn rfl d_322_159) (fun _ _ _ _ _ => rfl)
theorem ki_322_156 : js_OkG 322 156 (o_go 5) := js_St.okG (st_goto (by decide) d_322_156) (fun _ _ _ _ _ => rfl)
theorem ki_322_153 : js_OkG 322 153 (o_inc 5 1 156) := js_St.okG (st_iinc rfl (Nat.le_of_ble_eq_true rfl) d_322_153) (fun _ _ _ _ _ => rfl)
theorem ki_322_152 : js_OkG 322 152 (o_ls 3 153) := js_St.okG (st_lstoren rfl (Nat.le_of_ble_eq_true rfl) d_322_152) (fun _ _ _ _ _ => rfl)
theorem ki_322_151 : js_OkG 322 151 (o_B2 (fun x y => x ||| y) 152) := js_St.okG (st_lor d_322_151) (fun _ _ _ _ _ => rfl)
theorem ki_322_150 : js_OkG 322 150 (o_lc 0 151) := js_St.okG (st_lconst rfl d_322_150) (fun _ _ _ _ _ => rfl)
theorem ki_322_147 : js_OkG 322 147 (o_go 151) := js_St.okG (st_goto (by decide) d_322_147) (fun _ _ _ _ _ => rfl)
theorem ki_322_146 : js_OkG 322 146 (o_Sh (fun x y => x <<< (y.toInt64 &&& 63)) 147) := js_St.okG (st_lshl d_322_146) (fun _ _ _ _ _ => rfl)
theorem ki_322_145 : js_OkG 322 145 (o_b2 (fun x y => x - y) 146) := js_St.okG (st_isub d_322_145) (fun _ _ _ _ _ => rfl)
theorem ki_322_144 : js_OkG 322 144 (o_ic 1 145) := js_St.okG (st_iconst rfl d_322_144) (fun _ _ _ _ _ => rfl)
theorem ki_322_174 : js_OkG 322 174 (o_rL) := og_rL rfl d_322_174
theorem ki_322_171 : js_OkG 322 171 (o_cL 323 2 0 174) := og_sLP rfl rfl kB_322_323 rfl kw_949 kw_950 d_322_171
theorem ki_322_170 : js_OkG 322 170 (o_ll 3 171) := js_St.okG (st_lloadn rfl d_322_170) (fun _ _ _ _ _ => rfl)
theorem ki_322_169 : js_OkG 322 169 (o_al 0 170) := js_St.okG (st_aloadn rfl d_322_169) (fun _ _ _ _ _ => rfl)
theorem ki_322_166 : js_OkG 322 166 (o_go 174) := js_St.okG (st_goto (by decide) d_322_166) (fun _ _ _ _ _ => rfl)
theorem ki_322_165 : js_OkG 322 165 (o_ll 1 166) := js_St.okG (st_lloadn rfl d_322_165) (fun _ _ _ _ _ => rfl)
theorem ki_322_162 : js_OkG 322 162 (o_ne 169 165) := js_St.okG (st_ifne (by decide) d_322_162) (fun _ _ _ _ _ => rfl)
theorem ki_322_161 : js_OkG 322 161 (o_lcmp 162) := js_St.okG (st_lcmp d_322_161) (fun _ _ _ _ _ => rfl)
theorem ki_322_160 : js_OkG 322 160 (o_ll 1 161) := js_St.okG (st_lloadn rfl d_322_160) (fun _ _ _ _ _ => rfl)
set_option maxRecDepth 20000 in
theorem mk_322 : js_mokG 322 := jk_tab (fun _ => js_St.okG st_bad (fun _ _ _ _ _ => rfl)) (show jk_all (js_OkG 322) 0 (tb_G 322) from ⟨⟨ki_322_0, ⟨ki_322_1, ⟨ki_322_2, ⟨ki_322_3, ⟨kbadG, ⟨ki_322_5, ⟨kbadG, ⟨ki_322_7, ⟨kbadG, ⟨ki_322_9, ⟨kbadG, ⟨kbadG, ⟨ki_322_12, ⟨ki_322_13, ⟨kbadG, ⟨ki_322_15, trivial⟩⟩⟩⟩⟩⟩⟩⟩⟩⟩⟩⟩⟩⟩⟩⟩, ⟨⟨ki_322_16, ⟨ki_322_17, ⟨ki_322_18, ⟨ki_322_19, ⟨ki_322_20, ⟨kbadG, ⟨kbadG, ⟨ki_322_23, ⟨ki_322_24, ⟨ki_322_25, ⟨kbadG, ⟨ki_322_27, ⟨kbadG, ⟨ki_322_29, ⟨ki_322_30, ⟨kbadG, trivial⟩⟩⟩⟩⟩⟩⟩⟩⟩⟩⟩⟩⟩⟩⟩⟩, ⟨⟨ki_322_32, ⟨kbadG, ⟨ki_322_34, ⟨ki_322_35, ⟨ki_322_36, ⟨kbadG, ⟨kbadG, ⟨ki_322_39, ⟨ki_322_40, ⟨kbadG, ⟨kbadG, ⟨ki_322_43, ⟨ki_322_44, ⟨kbadG, ⟨ki_322_46, ⟨kbadG, trivial⟩⟩⟩⟩⟩⟩⟩⟩⟩⟩⟩⟩⟩⟩⟩⟩, ⟨⟨ki_322_48, ⟨ki_322_49, ⟨ki_322_50, ⟨kbadG, ⟨kbadG, ⟨ki_322_53, ⟨ki_322_54, ⟨ki_322_55, ⟨ki_322_56, ⟨ki_322_57, ⟨ki_322_58, ⟨kbadG, ⟨ki_322_60, ⟨kbadG, ⟨ki_322_62, ⟨ki_322_63, trivial⟩⟩⟩⟩⟩⟩⟩⟩⟩⟩⟩⟩⟩⟩⟩⟩, ⟨⟨kbadG, ⟨ki_322_65, ⟨kbadG, ⟨ki_322_67, ⟨ki_322_68, ⟨ki_322_69, ⟨kbadG, ⟨kbadG, ⟨ki_322_72, ⟨ki_322_73, ⟨kbadG, ⟨kbadG, ⟨ki_322_76, ⟨ki_322_77, ⟨kbadG, ⟨ki_322_79, trivial⟩⟩⟩⟩⟩⟩⟩⟩⟩⟩⟩⟩⟩⟩⟩⟩, ⟨⟨ki_322_80, ⟨ki_322_81, ⟨ki_322_82, ⟨kbadG, ⟨kbadG, ⟨ki_322_85, ⟨ki_322_86, ⟨ki_322_87, ⟨ki_322_88, ⟨ki_322_89, ⟨ki_322_90, ⟨kbadG, ⟨ki_322_92, ⟨kbadG, ⟨ki_322_94, ⟨ki_322_95, trivial⟩⟩⟩⟩⟩⟩⟩⟩⟩⟩⟩⟩⟩⟩⟩⟩, ⟨⟨kbadG, ⟨ki_322_97, ⟨kbadG, ⟨ki_322_99, ⟨ki_322_100, ⟨ki_322_101, ⟨kbadG, ⟨kbadG, ⟨ki_322_104, ⟨ki_322_105, ⟨kbadG, ⟨kbadG, ⟨ki_322_108, ⟨ki_322_109, ⟨kbadG, ⟨ki_322_111, trivial⟩⟩⟩⟩⟩⟩⟩⟩⟩⟩⟩⟩⟩⟩⟩⟩, ⟨⟨kbadG, ⟨ki_322_113, ⟨ki_322_114, ⟨ki_322_115, ⟨kbadG, ⟨kbadG, ⟨ki_322_118, ⟨ki_322_119, ⟨ki_322_120, ⟨ki_322_121, ⟨ki_322_122, ⟨ki_322_123, ⟨kbadG, ⟨ki_322_125, ⟨kbadG, ⟨ki_322_127, trivial⟩⟩⟩⟩⟩⟩⟩⟩⟩⟩⟩⟩⟩⟩⟩⟩, ⟨⟨ki_322_128, ⟨kbadG, ⟨ki_322_130, ⟨kbadG, ⟨ki_322_132, ⟨ki_322_133, ⟨ki_322_134, ⟨kbadG, ⟨kbadG, ⟨ki_322_137, ⟨ki_322_138, ⟨kbadG, ⟨kbadG, ⟨ki_322_141, ⟨ki_322_142, ⟨kbadG, trivial⟩⟩⟩⟩⟩⟩⟩⟩⟩⟩⟩⟩⟩⟩⟩⟩, ⟨⟨ki_322_144, ⟨ki_322_145, ⟨ki_322_146, ⟨ki_322_147, ⟨kbadG, ⟨kbadG, ⟨ki_322_150, ⟨ki_322_151, ⟨ki_322_152, ⟨ki_322_153, ⟨kbadG, ⟨kbadG, ⟨ki_322_156, ⟨kbadG, ⟨kbadG, ⟨ki_322_159, trivial⟩⟩⟩⟩⟩⟩⟩⟩⟩⟩⟩⟩⟩⟩⟩⟩, ⟨⟨ki_322_160, ⟨ki_322_161, ⟨ki_322_162, ⟨kbadG, ⟨kbadG, ⟨ki_322_165, ⟨ki_322_166, ⟨kbadG, ⟨kbadG, ⟨ki_322_169, ⟨ki_322_170, ⟨ki_322_171, ⟨kbadG, ⟨kbadG, ⟨ki_322_174, trivial⟩⟩⟩⟩⟩⟩⟩⟩⟩⟩⟩⟩⟩⟩⟩, trivial⟩⟩⟩⟩⟩⟩⟩⟩⟩⟩⟩)
end JS
