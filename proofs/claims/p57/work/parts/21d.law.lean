section JS
theorem d_302_0 : decode (js_b 302) 0 = .ok (.lload_n 1, 1) := d_300_0
theorem d_302_1 : decode (js_b 302) 1 = .ok (.lstore_n 3, 1) := d_300_1
theorem d_302_2 : decode (js_b 302) 2 = .ok (.iconst 0, 1) := d_300_2
theorem d_302_3 : decode (js_b 302) 3 = .ok (.istore 5, 2) := d_300_3
theorem d_302_5 : decode (js_b 302) 5 = .ok (.iload 5, 2) := d_300_5
theorem d_302_7 : decode (js_b 302) 7 = .ok (.bipush 64, 2) := d_300_7
theorem d_302_9 : decode (js_b 302) 9 = .ok (.if_icmp .ge 150, 3) := d_300_9
theorem d_302_12 : decode (js_b 302) 12 = .ok (.lload_n 1, 1) := d_300_12
theorem d_302_13 : decode (js_b 302) 13 = .ok (.iload 5, 2) := d_300_13
theorem d_302_15 : decode (js_b 302) 15 = .ok (.lushr, 1) := d_300_15
theorem d_302_16 : decode (js_b 302) 16 = .ok (.lconst 1, 1) := d_300_16
theorem d_302_17 : decode (js_b 302) 17 = .ok (.land, 1) := d_300_17
theorem d_302_18 : decode (js_b 302) 18 = .ok (.lconst 1, 1) := d_300_18
theorem d_302_19 : decode (js_b 302) 19 = .ok (.lcmp, 1) := d_300_19
theorem d_302_20 : decode (js_b 302) 20 = .ok (.ifCond .ne 133, 3) := d_300_20
theorem d_302_23 : decode (js_b 302) 23 = .ok (.lload_n 3, 1) := d_300_23
theorem d_302_24 : decode (js_b 302) 24 = .ok (.aload_n 0, 1) := d_300_24
theorem d_302_25 : decode (js_b 302) 25 = .ok (.iload 5, 2) := d_300_25
theorem d_302_27 : decode (js_b 302) 27 = .ok (.bipush 8, 2) := d_300_27
theorem d_302_29 : decode (js_b 302) 29 = .ok (.idiv, 1) := d_300_29
theorem d_302_30 : decode (js_b 302) 30 = .ok (.iload 5, 2) := d_300_30
theorem d_302_32 : decode (js_b 302) 32 = .ok (.bipush 8, 2) := d_300_32
theorem d_302_34 : decode (js_b 302) 34 = .ok (.irem, 1) := d_300_34
theorem d_302_35 : decode (js_b 302) 35 = .ok (.iconst 0, 1) := d_300_35
theorem d_302_36 : decode (js_b 302) 36 = .ok (.invokestatic 198, 3) := d_300_36
theorem d_302_39 : decode (js_b 302) 39 = .ok (.iconst 1, 1) := d_300_39
theorem d_302_40 : decode (js_b 302) 40 = .ok (.if_icmp .ne 13, 3) := d_300_40
theorem d_302_43 : decode (js_b 302) 43 = .ok (.lconst 1, 1) := d_300_43
theorem d_302_44 : decode (js_b 302) 44 = .ok (.iload 5, 2) := d_300_44
theorem d_302_46 : decode (js_b 302) 46 = .ok (.bipush 8, 2) := d_300_46
theorem d_302_48 : decode (js_b 302) 48 = .ok (.isub, 1) := d_300_48
theorem d_302_49 : decode (js_b 302) 49 = .ok (.lshl, 1) := d_300_49
theorem d_302_50 : decode (js_b 302) 50 = .ok (.goto 4, 3) := d_300_50
theorem d_302_53 : decode (js_b 302) 53 = .ok (.lconst 0, 1) := d_300_53
theorem d_302_54 : decode (js_b 302) 54 = .ok (.lor, 1) := d_300_54
theorem d_302_55 : decode (js_b 302) 55 = .ok (.lstore_n 3, 1) := d_300_55
theorem d_302_56 : decode (js_b 302) 56 = .ok (.lload_n 3, 1) := d_300_56
theorem d_302_57 : decode (js_b 302) 57 = .ok (.aload_n 0, 1) := d_300_57
theorem d_302_58 : decode (js_b 302) 58 = .ok (.iload 5, 2) := d_300_58
theorem d_302_60 : decode (js_b 302) 60 = .ok (.bipush 8, 2) := d_300_60
theorem d_302_62 : decode (js_b 302) 62 = .ok (.idiv, 1) := d_300_62
theorem d_302_63 : decode (js_b 302) 63 = .ok (.iload 5, 2) := d_300_63
theorem d_302_65 : decode (js_b 302) 65 = .ok (.bipush 8, 2) := d_300_65
theorem d_302_67 : decode (js_b 302) 67 = .ok (.irem, 1) := d_300_67
theorem d_302_68 : decode (js_b 302) 68 = .ok (.iconst 1, 1) := d_300_68
theorem d_302_69 : decode (js_b 302) 69 = .ok (.invokestatic 198, 3) := d_300_69
theorem d_302_72 : decode (js_b 302) 72 = .ok (.iconst 1, 1) := d_300_72
theorem d_302_73 : decode (js_b 302) 73 = .ok (.if_icmp .ne 12, 3) := d_300_73
theorem d_302_76 : decode (js_b 302) 76 = .ok (.lconst 1, 1) := d_300_76
theorem d_302_77 : decode (js_b 302) 77 = .ok (.iload 5, 2) := d_300_77
theorem d_302_79 : decode (js_b 302) 79 = .ok (.iconst 1, 1) := d_300_79
theorem d_302_80 : decode (js_b 302) 80 = .ok (.iadd, 1) := d_300_80
theorem d_302_81 : decode (js_b 302) 81 = .ok (.lshl, 1) := d_300_81
theorem d_302_82 : decode (js_b 302) 82 = .ok (.goto 4, 3) := d_300_82
theorem d_302_85 : decode (js_b 302) 85 = .ok (.lconst 0, 1) := d_300_85
theorem d_302_86 : decode (js_b 302) 86 = .ok (.lor, 1) := d_300_86
theorem d_302_87 : decode (js_b 302) 87 = .ok (.lstore_n 3, 1) := d_300_87
theorem d_302_88 : decode (js_b 302) 88 = .ok (.lload_n 3, 1) := d_300_88
theorem d_302_89 : decode (js_b 302) 89 = .ok (.aload_n 0, 1) := d_300_89
theorem d_302_90 : decode (js_b 302) 90 = .ok (.iload 5, 2) := d_300_90
theorem d_302_92 : decode (js_b 302) 92 = .ok (.bipush 8, 2) := d_300_92
theorem d_302_94 : decode (js_b 302) 94 = .ok (.idiv, 1) := d_300_94
theorem d_302_95 : decode (js_b 302) 95 = .ok (.iload 5, 2) := d_300_95
theorem d_302_97 : decode (js_b 302) 97 = .ok (.bipush 8, 2) := d_300_97
theorem d_302_99 : decode (js_b 302) 99 = .ok (.irem, 1) := d_300_99
theorem d_302_100 : decode (js_b 302) 100 = .ok (.iconst 2, 1) := d_300_100
theorem d_302_101 : decode (js_b 302) 101 = .ok (.invokestatic 198, 3) := d_300_101
theorem d_302_104 : decode (js_b 302) 104 = .ok (.iconst 1, 1) := d_300_104
theorem d_302_105 : decode (js_b 302) 105 = .ok (.if_icmp .ne 13, 3) := d_300_105
theorem d_302_108 : decode (js_b 302) 108 = .ok (.lconst 1, 1) := d_300_108
theorem d_302_109 : decode (js_b 302) 109 = .ok (.iload 5, 2) := d_300_109
theorem d_302_111 : decode (js_b 302) 111 = .ok (.bipush 8, 2) := d_300_111
theorem d_302_113 : decode (js_b 302) 113 = .ok (.iadd, 1) := d_300_113
theorem d_302_114 : decode (js_b 302) 114 = .ok (.lshl, 1) := d_300_114
theorem d_302_115 : decode (js_b 302) 115 = .ok (.goto 4, 3) := d_300_115
theorem d_302_118 : decode (js_b 302) 118 = .ok (.lconst 0, 1) := d_300_118
theorem d_302_119 : decode (js_b 302) 119 = .ok (.lor, 1) := d_300_119
theorem d_302_120 : decode (js_b 302) 120 = .ok (.lstore_n 3, 1) := d_300_120
theorem d_302_121 : decode (js_b 302) 121 = .ok (.lload_n 3, 1) := d_300_121
theorem d_302_122 : decode (js_b 302) 122 = .ok (.aload_n 0, 1) := d_300_122
theorem d_302_123 : decode (js_b 302) 123 = .ok (.iload 5, 2) := d_300_123
theorem d_302_125 : decode (js_b 302) 125 = .ok (.bipush 8, 2) := d_300_125
theorem d_302_127 : decode (js_b 302) 127 = .ok (.idiv, 1) := d_300_127
theorem d_302_128 : decode (js_b 302) 128 = .ok (.iload 5, 2) := d_300_128
theorem d_302_130 : decode (js_b 302) 130 = .ok (.bipush 8, 2) := d_300_130
theorem d_302_132 : decode (js_b 302) 132 = .ok (.irem, 1) := d_300_132
theorem d_302_133 : decode (js_b 302) 133 = .ok (.iconst 3, 1) := d_300_133
theorem d_302_134 : decode (js_b 302) 134 = .ok (.invokestatic 198, 3) := d_300_134
theorem d_302_137 : decode (js_b 302) 137 = .ok (.iconst 1, 1) := d_300_137
theorem d_302_138 : decode (js_b 302) 138 = .ok (.if_icmp .ne 12, 3) := d_300_138
theorem d_302_141 : decode (js_b 302) 141 = .ok (.lconst 1, 1) := d_300_141
theorem d_302_142 : decode (js_b 302) 142 = .ok (.iload 5, 2) := d_300_142
theorem d_302_144 : decode (js_b 302) 144 = .ok (.iconst 1, 1) := d_300_144
theorem d_302_145 : decode (js_b 302) 145 = .ok (.isub, 1) := d_300_145
theorem d_302_146 : decode (js_b 302) 146 = .ok (.lshl, 1) := d_300_146
theorem d_302_147 : decode (js_b 302) 147 = .ok (.goto 4, 3) := d_300_147
theorem d_302_150 : decode (js_b 302) 150 = .ok (.lconst 0, 1) := d_300_150
theorem d_302_151 : decode (js_b 302) 151 = .ok (.lor, 1) := d_300_151
theorem d_302_152 : decode (js_b 302) 152 = .ok (.lstore_n 3, 1) := d_300_152
theorem d_302_153 : decode (js_b 302) 153 = .ok (.iinc 5 1, 3) := d_300_153
theorem d_302_156 : decode (js_b 302) 156 = .ok (.goto (-151), 3) := d_300_156
theorem d_302_159 : decode (js_b 302) 159 = .ok (.lload_n 3, 1) := d_300_159
theorem d_302_160 : decode (js_b 302) 160 = .ok (.lload_n 1, 1) := d_300_160
theorem d_302_161 : decode (js_b 302) 161 = .ok (.lcmp, 1) := d_300_161
theorem d_302_162 : decode (js_b 302) 162 = .ok (.ifCond .ne 7, 3) := d_300_162
theorem d_302_165 : decode (js_b 302) 165 = .ok (.lload_n 1, 1) := d_300_165
theorem d_302_166 : decode (js_b 302) 166 = .ok (.goto 8, 3) := d_300_166
theorem d_302_169 : decode (js_b 302) 169 = .ok (.aload_n 0, 1) := d_300_169
theorem d_302_170 : decode (js_b 302) 170 = .ok (.lload_n 3, 1) := d_300_170
theorem d_302_171 : decode (js_b 302) 171 = .ok (.invokestatic 323, 3) := d_300_171
theorem d_302_174 : decode (js_b 302) 174 = .ok (.lreturn, 1) := d_300_174
theorem ki_302_15 : js_OkG 302 15 (o_Sh (fun x y => (x.toUInt64 >>> (y.toInt64.toUInt64 &&& Int64.toUInt64 63)).toInt64) 16) := js_St.okG (st_lushr d_302_15) (fun _ _ _ _ _ => rfl)
theorem ki_302_13 : js_OkG 302 13 (o_il 5 15) := js_St.okG (st_iload d_302_13) (fun _ _ _ _ _ => rfl)
theorem ki_302_12 : js_OkG 302 12 (o_ll 1 13) := js_St.okG (st_lloadn rfl d_302_12) (fun _ _ _ _ _ => rfl)
theorem ki_302_9 : js_OkG 302 9 (o_cge 159 12) := js_St.okG (st_icge (by decide) d_302_9) (fun _ _ _ _ _ => rfl)
theorem ki_302_7 : js_OkG 302 7 (o_ic 64 9) := js_St.okG (st_bipush rfl d_302_7) (fun _ _ _ _ _ => rfl)
theorem ki_302_5 : js_OkG 302 5 (o_il 5 7) := js_St.okG (st_iload d_302_5) (fun _ _ _ _ _ => rfl)
theorem ki_302_3 : js_OkG 302 3 (o_is 5 5) := js_St.okG (st_istore (Nat.le_of_ble_eq_true rfl) d_302_3) (fun _ _ _ _ _ => rfl)
theorem ki_302_2 : js_OkG 302 2 (o_ic 0 3) := js_St.okG (st_iconst rfl d_302_2) (fun _ _ _ _ _ => rfl)
theorem ki_302_1 : js_OkG 302 1 (o_ls 3 2) := js_St.okG (st_lstoren rfl (Nat.le_of_ble_eq_true rfl) d_302_1) (fun _ _ _ _ _ => rfl)
theorem ki_302_0 : js_OkG 302 0 (o_ll 1 1) := js_St.okG (st_lloadn rfl d_302_0) (fun _ _ _ _ _ => rfl)
theorem ki_302_30 : js_OkG 302 30 (o_il 5 32) := js_St.okG (st_iload d_302_30) (fun _ _ _ _ _ => rfl)
theorem ki_302_29 : js_OkG 302 29 (o_div 30) := js_St.okG (st_idiv d_302_29) (fun _ _ _ _ _ => rfl)
theorem ki_302_27 : js_OkG 302 27 (o_ic 8 29) := js_St.okG (st_bipush rfl d_302_27) (fun _ _ _ _ _ => rfl)
theorem ki_302_25 : js_OkG 302 25 (o_il 5 27) := js_St.okG (st_iload d_302_25) (fun _ _ _ _ _ => rfl)
theorem ki_302_24 : js_OkG 302 24 (o_al 0 25) := js_St.okG (st_aloadn rfl d_302_24) (fun _ _ _ _ _ => rfl)
theorem ki_302_23 : js_OkG 302 23 (o_ll 3 24) := js_St.okG (st_lloadn rfl d_302_23) (fun _ _ _ _ _ => rfl)
theorem ki_302_20 : js_OkG 302 20 (o_ne 153 23) := js_St.okG (st_ifne (by decide) d_302_20) (fun _ _ _ _ _ => rfl)
theorem ki_302_19 : js_OkG 302 19 (o_lcmp 20) := js_St.okG (st_lcmp d_302_19) (fun _ _ _ _ _ => rfl)
theorem ki_302_18 : js_OkG 302 18 (o_lc 1 19) := js_St.okG (st_lconst rfl d_302_18) (fun _ _ _ _ _ => rfl)
theorem ki_302_17 : js_OkG 302 17 (o_B2 (fun x y => x &&& y) 18) := js_St.okG (st_land d_302_17) (fun _ _ _ _ _ => rfl)
theorem ki_302_16 : js_OkG 302 16 (o_lc 1 17) := js_St.okG (st_lconst rfl d_302_16) (fun _ _ _ _ _ => rfl)
theorem ki_302_46 : js_OkG 302 46 (o_ic 8 48) := js_St.okG (st_bipush rfl d_302_46) (fun _ _ _ _ _ => rfl)
theorem ki_302_44 : js_OkG 302 44 (o_il 5 46) := js_St.okG (st_iload d_302_44) (fun _ _ _ _ _ => rfl)
theorem ki_302_43 : js_OkG 302 43 (o_lc 1 44) := js_St.okG (st_lconst rfl d_302_43) (fun _ _ _ _ _ => rfl)
theorem ki_302_40 : js_OkG 302 40 (o_cne 53 43) := js_St.okG (st_icne (by decide) d_302_40) (fun _ _ _ _ _ => rfl)
theorem ki_302_39 : js_OkG 302 39 (o_ic 1 40) := js_St.okG (st_iconst rfl d_302_39) (fun _ _ _ _ _ => rfl)
theorem ki_302_36 : js_OkG 302 36 (o_cI 176 4 0 39) := og_sIP rfl rfl kB_302_176 rfl kw_785 kw_786 d_302_36
theorem ki_302_35 : js_OkG 302 35 (o_ic 0 36) := js_St.okG (st_iconst rfl d_302_35) (fun _ _ _ _ _ => rfl)
theorem ki_302_34 : js_OkG 302 34 (o_rem 35) := js_St.okG (st_irem d_302_34) (fun _ _ _ _ _ => rfl)
theorem ki_302_32 : js_OkG 302 32 (o_ic 8 34) := js_St.okG (st_bipush rfl d_302_32) (fun _ _ _ _ _ => rfl)
theorem ki_302_63 : js_OkG 302 63 (o_il 5 65) := js_St.okG (st_iload d_302_63) (fun _ _ _ _ _ => rfl)
theorem ki_302_62 : js_OkG 302 62 (o_div 63) := js_St.okG (st_idiv d_302_62) (fun _ _ _ _ _ => rfl)
theorem ki_302_60 : js_OkG 302 60 (o_ic 8 62) := js_St.okG (st_bipush rfl d_302_60) (fun _ _ _ _ _ => rfl)
theorem ki_302_58 : js_OkG 302 58 (o_il 5 60) := js_St.okG (st_iload d_302_58) (fun _ _ _ _ _ => rfl)
theorem ki_302_57 : js_OkG 302 57 (o_al 0 58) := js_St.okG (st_aloadn rfl d_302_57) (fun _ _ _ _ _ => rfl)
theorem ki_302_56 : js_OkG 302 56 (o_ll 3 57) := js_St.okG (st_lloadn rfl d_302_56) (fun _ _ _ _ _ => rfl)
theorem ki_302_55 : js_OkG 302 55 (o_ls 3 56) := js_St.okG (st_lstoren rfl (Nat.le_of_ble_eq_true rfl) d_302_55) (fun _ _ _ _ _ => rfl)
theorem ki_302_54 : js_OkG 302 54 (o_B2 (fun x y => x ||| y) 55) := js_St.okG (st_lor d_302_54) (fun _ _ _ _ _ => rfl)
theorem ki_302_53 : js_OkG 302 53 (o_lc 0 54) := js_St.okG (st_lconst rfl d_302_53) (fun _ _ _ _ _ => rfl)
theorem ki_302_50 : js_OkG 302 50 (o_go 54) := js_St.okG (st_goto (by decide) d_302_50) (fun _ _ _ _ _ => rfl)
theorem ki_302_49 : js_OkG 302 49 (o_Sh (fun x y => x <<< (y.toInt64 &&& 63)) 50) := js_St.okG (st_lshl d_302_49) (fun _ _ _ _ _ => rfl)
theorem ki_302_48 : js_OkG 302 48 (o_b2 (fun x y => x - y) 49) := js_St.okG (st_isub d_302_48) (fun _ _ _ _ _ => rfl)
theorem ki_302_79 : js_OkG 302 79 (o_ic 1 80) := js_St.okG (st_iconst rfl d_302_79) (fun _ _ _ _ _ => rfl)
theorem ki_302_77 : js_OkG 302 77 (o_il 5 79) := js_St.okG (st_iload d_302_77) (fun _ _ _ _ _ => rfl)
theorem ki_302_76 : js_OkG 302 76 (o_lc 1 77) := js_St.okG (st_lconst rfl d_302_76) (fun _ _ _ _ _ => rfl)
theorem ki_302_73 : js_OkG 302 73 (o_cne 85 76) := js_St.okG (st_icne (by decide) d_302_73) (fun _ _ _ _ _ => rfl)
theorem ki_302_72 : js_OkG 302 72 (o_ic 1 73) := js_St.okG (st_iconst rfl d_302_72) (fun _ _ _ _ _ => rfl)
theorem ki_302_69 : js_OkG 302 69 (o_cI 176 4 0 72) := og_sIP rfl rfl kB_302_176 rfl kw_785 kw_786 d_302_69
theorem ki_302_68 : js_OkG 302 68 (o_ic 1 69) := js_St.okG (st_iconst rfl d_302_68) (fun _ _ _ _ _ => rfl)
theorem ki_302_67 : js_OkG 302 67 (o_rem 68) := js_St.okG (st_irem d_302_67) (fun _ _ _ _ _ => rfl)
theorem ki_302_65 : js_OkG 302 65 (o_ic 8 67) := js_St.okG (st_bipush rfl d_302_65) (fun _ _ _ _ _ => rfl)
theorem ki_302_95 : js_OkG 302 95 (o_il 5 97) := js_St.okG (st_iload d_302_95) (fun _ _ _ _ _ => rfl)
theorem ki_302_94 : js_OkG 302 94 (o_div 95) := js_St.okG (st_idiv d_302_94) (fun _ _ _ _ _ => rfl)
theorem ki_302_92 : js_OkG 302 92 (o_ic 8 94) := js_St.okG (st_bipush rfl d_302_92) (fun _ _ _ _ _ => rfl)
theorem ki_302_90 : js_OkG 302 90 (o_il 5 92) := js_St.okG (st_iload d_302_90) (fun _ _ _ _ _ => rfl)
theorem ki_302_89 : js_OkG 302 89 (o_al 0 90) := js_St.okG (st_aloadn rfl d_302_89) (fun _ _ _ _ _ => rfl)
theorem ki_302_88 : js_OkG 302 88 (o_ll 3 89) := js_St.okG (st_lloadn rfl d_302_88) (fun _ _ _ _ _ => rfl)
theorem ki_302_87 : js_OkG 302 87 (o_ls 3 88) := js_St.okG (st_lstoren rfl (Nat.le_of_ble_eq_true rfl) d_302_87) (fun _ _ _ _ _ => rfl)
theorem ki_302_86 : js_OkG 302 86 (o_B2 (fun x y => x ||| y) 87) := js_St.okG (st_lor d_302_86) (fun _ _ _ _ _ => rfl)
theorem ki_302_85 : js_OkG 302 85 (o_lc 0 86) := js_St.okG (st_lconst rfl d_302_85) (fun _ _ _ _ _ => rfl)
theorem ki_302_82 : js_OkG 302 82 (o_go 86) := js_St.okG (st_goto (by decide) d_302_82) (fun _ _ _ _ _ => rfl)
theorem ki_302_81 : js_OkG 302 81 (o_Sh (fun x y => x <<< (y.toInt64 &&& 63)) 82) := js_St.okG (st_lshl d_302_81) (fun _ _ _ _ _ => rfl)
theorem ki_302_80 : js_OkG 302 80 (o_b2 (fun x y => x + y) 81) := js_St.okG (st_iadd d_302_80) (fun _ _ _ _ _ => rfl)
theorem ki_302_111 : js_OkG 302 111 (o_ic 8 113) := js_St.okG (st_bipush rfl d_302_111) (fun _ _ _ _ _ => rfl)
theorem ki_302_109 : js_OkG 302 109 (o_il 5 111) := js_St.okG (st_iload d_302_109) (fun _ _ _ _ _ => rfl)
theorem ki_302_108 : js_OkG 302 108 (o_lc 1 109) := js_St.okG (st_lconst rfl d_302_108) (fun _ _ _ _ _ => rfl)
theorem ki_302_105 : js_OkG 302 105 (o_cne 118 108) := js_St.okG (st_icne (by decide) d_302_105) (fun _ _ _ _ _ => rfl)
theorem ki_302_104 : js_OkG 302 104 (o_ic 1 105) := js_St.okG (st_iconst rfl d_302_104) (fun _ _ _ _ _ => rfl)
theorem ki_302_101 : js_OkG 302 101 (o_cI 176 4 0 104) := og_sIP rfl rfl kB_302_176 rfl kw_785 kw_786 d_302_101
theorem ki_302_100 : js_OkG 302 100 (o_ic 2 101) := js_St.okG (st_iconst rfl d_302_100) (fun _ _ _ _ _ => rfl)
theorem ki_302_99 : js_OkG 302 99 (o_rem 100) := js_St.okG (st_irem d_302_99) (fun _ _ _ _ _ => rfl)
theorem ki_302_97 : js_OkG 302 97 (o_ic 8 99) := js_St.okG (st_bipush rfl d_302_97) (fun _ _ _ _ _ => rfl)
theorem ki_302_127 : js_OkG 302 127 (o_div 128) := js_St.okG (st_idiv d_302_127) (fun _ _ _ _ _ => rfl)
theorem ki_302_125 : js_OkG 302 125 (o_ic 8 127) := js_St.okG (st_bipush rfl d_302_125) (fun _ _ _ _ _ => rfl)
theorem ki_302_123 : js_OkG 302 123 (o_il 5 125) := js_St.okG (st_iload d_302_123) (fun _ _ _ _ _ => rfl)
theorem ki_302_122 : js_OkG 302 122 (o_al 0 123) := js_St.okG (st_aloadn rfl d_302_122) (fun _ _ _ _ _ => rfl)
theorem ki_302_121 : js_OkG 302 121 (o_ll 3 122) := js_St.okG (st_lloadn rfl d_302_121) (fun _ _ _ _ _ => rfl)
theorem ki_302_120 : js_OkG 302 120 (o_ls 3 121) := js_St.okG (st_lstoren rfl (Nat.le_of_ble_eq_true rfl) d_302_120) (fun _ _ _ _ _ => rfl)
theorem ki_302_119 : js_OkG 302 119 (o_B2 (fun x y => x ||| y) 120) := js_St.okG (st_lor d_302_119) (fun _ _ _ _ _ => rfl)
theorem ki_302_118 : js_OkG 302 118 (o_lc 0 119) := js_St.okG (st_lconst rfl d_302_118) (fun _ _ _ _ _ => rfl)
theorem ki_302_115 : js_OkG 302 115 (o_go 119) := js_St.okG (st_goto (by decide) d_302_115) (fun _ _ _ _ _ => rfl)
theorem ki_302_114 : js_OkG 302 114 (o_Sh (fun x y => x <<< (y.toInt64 &&& 63)) 115) := js_St.okG (st_lshl d_302_114) (fun _ _ _ _ _ => rfl)
theorem ki_302_113 : js_OkG 302 113 (o_b2 (fun x y => x + y) 114) := js_St.okG (st_iadd d_302_113) (fun _ _ _ _ _ => rfl)
theorem ki_302_142 : js_OkG 302 142 (o_il 5 144) := js_St.okG (st_iload d_302_142) (fun _ _ _ _ _ => rfl)
theorem ki_302_141 : js_OkG 302 141 (o_lc 1 142) := js_St.okG (st_lconst rfl d_302_141) (fun _ _ _ _ _ => rfl)
theorem ki_302_138 : js_OkG 302 138 (o_cne 150 141) := js_St.okG (st_icne (by decide) d_302_138) (fun _ _ _ _ _ => rfl)
theorem ki_302_137 : js_OkG 302 137 (o_ic 1 138) := js_St.okG (st_iconst rfl d_302_137) (fun _ _ _ _ _ => rfl)
theorem ki_302_134 : js_OkG 302 134 (o_cI 176 4 0 137) := og_sIP rfl rfl kB_302_176 rfl kw_785 kw_786 d_302_134
theorem ki_302_133 : js_OkG 302 133 (o_ic 3 134) := js_St.okG (st_iconst rfl d_302_133) (fun _ _ _ _ _ => rfl)
theorem ki_302_132 : js_OkG 302 132 (o_rem 133) := js_St.okG (st_irem d_302_132) (fun _ _ _ _ _ => rfl)
theorem ki_302_130 : js_OkG 302 130 (o_ic 8 132) := js_St.okG (st_bipush rfl d_302_130) (fun _ _ _ _ _ => rfl)
theorem ki_302_128 : js_OkG 302 128 (o_il 5 130) := js_St.okG (st_iload d_302_128) (fun _ _ _ _ _ => rfl)
theorem ki_302_159 : js_OkG 302 159 (o_ll 3 160) := js_St.okG (st_lloadn rfl d_302_159) (fun _ _ _ _ _ => rfl)
theorem ki_302_156 : js_OkG 302 156 (o_go 5) := js_St.okG (st_goto (by decide) d_302_156) (fun _ _ _ _ _ => rfl)
theorem ki_302_153 : js_OkG 302 153 (o_inc 5 1 156) := js_St.okG (st_iinc rfl (Nat.le_of_ble_eq_true rfl) d_302_153) (fun _ _ _ _ _ => rfl)
theorem ki_302_152 : js_OkG 302 152 (o_ls 3 153) := js_St.okG (st_lstoren rfl (Nat.le_of_ble_eq_true rfl) d_302_152) (fun _ _ _ _ _ => rfl)
theorem ki_302_151 : js_OkG 302 151 (o_B2 (fun x y => x ||| y) 152) := js_St.okG (st_lor d_302_151) (fun _ _ _ _ _ => rfl)
theorem ki_302_150 : js_OkG 302 150 (o_lc 0 151) := js_St.okG (st_lconst rfl d_302_150) (fun _ _ _ _ _ => rfl)
theorem ki_302_147 : js_OkG 302 147 (o_go 151) := js_St.okG (st_goto (by decide) d_302_147) (fun _ _ _ _ _ => rfl)
theorem ki_302_146 : js_OkG 302 146 (o_Sh (fun x y => x <<< (y.toInt64 &&& 63)) 147) := js_St.okG (st_lshl d_302_146) (fun _ _ _ _ _ => rfl)
theorem ki_302_145 : js_OkG 302 145 (o_b2 (fun x y => x - y) 146) := js_St.okG (st_isub d_302_145) (fun _ _ _ _ _ => rfl)
theorem ki_302_144 : js_OkG 302 144 (o_ic 1 145) := js_St.okG (st_iconst rfl d_302_144) (fun _ _ _ _ _ => rfl)
theorem ki_302_174 : js_OkG 302 174 (o_rL) := og_rL rfl d_302_174
theorem ki_302_171 : js_OkG 302 171 (o_cL 303 2 0 174) := og_sLP rfl rfl kB_302_303 rfl kw_949 kw_950 d_302_171
theorem ki_302_170 : js_OkG 302 170 (o_ll 3 171) := js_St.okG (st_lloadn rfl d_302_170) (fun _ _ _ _ _ => rfl)
theorem ki_302_169 : js_OkG 302 169 (o_al 0 170) := js_St.okG (st_aloadn rfl d_302_169) (fun _ _ _ _ _ => rfl)
theorem ki_302_166 : js_OkG 302 166 (o_go 174) := js_St.okG (st_goto (by decide) d_302_166) (fun _ _ _ _ _ => rfl)
theorem ki_302_165 : js_OkG 302 165 (o_ll 1 166) := js_St.okG (st_lloadn rfl d_302_165) (fun _ _ _ _ _ => rfl)
theorem ki_302_162 : js_OkG 302 162 (o_ne 169 165) := js_St.okG (st_ifne (by decide) d_302_162) (fun _ _ _ _ _ => rfl)
theorem ki_302_161 : js_OkG 302 161 (o_lcmp 162) := js_St.okG (st_lcmp d_302_161) (fun _ _ _ _ _ => rfl)
theorem ki_302_160 : js_OkG 302 160 (o_ll 1 161) := js_St.okG (st_lloadn rfl d_302_160) (fun _ _ _ _ _ => rfl)
set_option maxRecDepth 20000 in
theorem mk_302 : js_mokG 302 := jk_tab (fun _ => js_St.okG st_bad (fun _ _ _ _ _ => rfl)) (show jk_all (js_OkG 302) 0 (tb_G 302) from ⟨⟨ki_302_0, ⟨ki_302_1, ⟨ki_302_2, ⟨ki_302_3, ⟨kbadG, ⟨ki_302_5, ⟨kbadG, ⟨ki_302_7, ⟨kbadG, ⟨ki_302_9, ⟨kbadG, ⟨kbadG, ⟨ki_302_12, ⟨ki_302_13, ⟨kbadG, ⟨ki_302_15, trivial⟩⟩⟩⟩⟩⟩⟩⟩⟩⟩⟩⟩⟩⟩⟩⟩, ⟨⟨ki_302_16, ⟨ki_302_17, ⟨ki_302_18, ⟨ki_302_19, ⟨ki_302_20, ⟨kbadG, ⟨kbadG, ⟨ki_302_23, ⟨ki_302_24, ⟨ki_302_25, ⟨kbadG, ⟨ki_302_27, ⟨kbadG, ⟨ki_302_29, ⟨ki_302_30, ⟨kbadG, trivial⟩⟩⟩⟩⟩⟩⟩⟩⟩⟩⟩⟩⟩⟩⟩⟩, ⟨⟨ki_302_32, ⟨kbadG, ⟨ki_302_34, ⟨ki_302_35, ⟨ki_302_36, ⟨kbadG, ⟨kbadG, ⟨ki_302_39, ⟨ki_302_40, ⟨kbadG, ⟨kbadG, ⟨ki_302_43, ⟨ki_302_44, ⟨kbadG, ⟨ki_302_46, ⟨kbadG, trivial⟩⟩⟩⟩⟩⟩⟩⟩⟩⟩⟩⟩⟩⟩⟩⟩, ⟨⟨ki_302_48, ⟨ki_302_49, ⟨ki_302_50, ⟨kbadG, ⟨kbadG, ⟨ki_302_53, ⟨ki_302_54, ⟨ki_302_55, ⟨ki_302_56, ⟨ki_302_57, ⟨ki_302_58, ⟨kbadG, ⟨ki_302_60, ⟨kbadG, ⟨ki_302_62, ⟨ki_302_63, trivial⟩⟩⟩⟩⟩⟩⟩⟩⟩⟩⟩⟩⟩⟩⟩⟩, ⟨⟨kbadG, ⟨ki_302_65, ⟨kbadG, ⟨ki_302_67, ⟨ki_302_68, ⟨ki_302_69, ⟨kbadG, ⟨kbadG, ⟨ki_302_72, ⟨ki_302_73, ⟨kbadG, ⟨kbadG, ⟨ki_302_76, ⟨ki_302_77, ⟨kbadG, ⟨ki_302_79, trivial⟩⟩⟩⟩⟩⟩⟩⟩⟩⟩⟩⟩⟩⟩⟩⟩, ⟨⟨ki_302_80, ⟨ki_302_81, ⟨ki_302_82, ⟨kbadG, ⟨kbadG, ⟨ki_302_85, ⟨ki_302_86, ⟨ki_302_87, ⟨ki_302_88, ⟨ki_302_89, ⟨ki_302_90, ⟨kbadG, ⟨ki_302_92, ⟨kbadG, ⟨ki_302_94, ⟨ki_302_95, trivial⟩⟩⟩⟩⟩⟩⟩⟩⟩⟩⟩⟩⟩⟩⟩⟩, ⟨⟨kbadG, ⟨ki_302_97, ⟨kbadG, ⟨ki_302_99, ⟨ki_302_100, ⟨ki_302_101, ⟨kbadG, ⟨kbadG, ⟨ki_302_104, ⟨ki_302_105, ⟨kbadG, ⟨kbadG, ⟨ki_302_108, ⟨ki_302_109, ⟨kbadG, ⟨ki_302_111, trivial⟩⟩⟩⟩⟩⟩⟩⟩⟩⟩⟩⟩⟩⟩⟩⟩, ⟨⟨kbadG, ⟨ki_302_113, ⟨ki_302_114, ⟨ki_302_115, ⟨kbadG, ⟨kbadG, ⟨ki_302_118, ⟨ki_302_119, ⟨ki_302_120, ⟨ki_302_121, ⟨ki_302_122, ⟨ki_302_123, ⟨kbadG, ⟨ki_302_125, ⟨kbadG, ⟨ki_302_127, trivial⟩⟩⟩⟩⟩⟩⟩⟩⟩⟩⟩⟩⟩⟩⟩⟩, ⟨⟨ki_302_128, ⟨kbadG, ⟨ki_302_130, ⟨kbadG, ⟨ki_302_132, ⟨ki_302_133, ⟨ki_302_134, ⟨kbadG, ⟨kbadG, ⟨ki_302_137, ⟨ki_302_138, ⟨kbadG, ⟨kbadG, ⟨ki_302_141, ⟨ki_302_142, ⟨kbadG, trivial⟩⟩⟩⟩⟩⟩⟩⟩⟩⟩⟩⟩⟩⟩⟩⟩, ⟨⟨ki_302_144, ⟨ki_302_145, ⟨ki_302_146, ⟨ki_302_147, ⟨kbadG, ⟨kbadG, ⟨ki_302_150, ⟨ki_302_151, ⟨ki_302_152, ⟨ki_302_153, ⟨kbadG, ⟨kbadG, ⟨ki_302_156, ⟨kbadG, ⟨kbadG, ⟨ki_302_159, trivial⟩⟩⟩⟩⟩⟩⟩⟩⟩⟩⟩⟩⟩⟩⟩⟩, ⟨⟨ki_302_160, ⟨ki_302_161, ⟨ki_302_162, ⟨kbadG, ⟨kbadG, ⟨ki_302_165, ⟨ki_302_166, ⟨kbadG, ⟨kbadG, ⟨ki_302_169, ⟨ki_302_170, ⟨ki_302_171, ⟨kbadG, ⟨kbadG, ⟨ki_302_174, trivial⟩⟩⟩⟩⟩⟩⟩⟩⟩⟩⟩⟩⟩⟩⟩, trivial⟩⟩⟩⟩⟩⟩⟩⟩⟩⟩⟩)
theorem d_303_0 : decode (js_b 303) 0 = .ok (.lload_n 1, 1) := d_300_0
theorem d_303_1 : decode (js_b 303) 1 = .ok (.lstore_n 3, 1) := d_300_1
theorem d_303_2 : decode (js_b 303) 2 = .ok (.iconst 0, 1) := d_300_2
theorem d_303_3 : decode (js_b 303) 3 = .ok (.istore 5, 2) := d_300_3
theorem d_303_5 : decode (js_b 303) 5 = .ok (.iload 5, 2) := d_300_5
theorem d_303_7 : decode (js_b 303) 7 = .ok (.bipush 64, 2) := d_300_7
theorem d_303_9 : decode (js_b 303) 9 = .ok (.if_icmp .ge 150, 3) := d_300_9
theorem d_303_12 : decode (js_b 303) 12 = .ok (.lload_n 1, 1) := d_300_12
theorem d_303_13 : decode (js_b 303) 13 = .ok (.iload 5, 2) := d_300_13
theorem d_303_15 : decode (js_b 303) 15 = .ok (.lushr, 1) := d_300_15
theorem d_303_16 : decode (js_b 303) 16 = .ok (.lconst 1, 1) := d_300_16
theorem d_303_17 : decode (js_b 303) 17 = .ok (.land, 1) := d_300_17
theorem d_303_18 : decode (js_b 303) 18 = .ok (.lconst 1, 1) := d_300_18
theorem d_303_19 : decode (js_b 303) 19 = .ok (.lcmp, 1) := d_300_19
theorem d_303_20 : decode (js_b 303) 20 = .ok (.ifCond .ne 133, 3) := d_300_20
theorem d_303_23 : decode (js_b 303) 23 = .ok (.lload_n 3, 1) := d_300_23
theorem d_303_24 : decode (js_b 303) 24 = .ok (.aload_n 0, 1) := d_300_24
theorem d_303_25 : decode (js_b 303) 25 = .ok (.iload 5, 2) := d_300_25
theorem d_303_27 : decode (js_b 303) 27 = .ok (.bipush 8, 2) := d_300_27
theorem d_303_29 : decode (js_b 303) 29 = .ok (.idiv, 1) := d_300_29
theorem d_303_30 : decode (js_b 303) 30 = .ok (.iload 5, 2) := d_300_30
theorem d_303_32 : decode (js_b 303) 32 = .ok (.bipush 8, 2) := d_300_32
theorem d_303_34 : decode (js_b 303) 34 = .ok (.irem, 1) := d_300_34
theorem d_303_35 : decode (js_b 303) 35 = .ok (.iconst 0, 1) := d_300_35
theorem d_303_36 : decode (js_b 303) 36 = .ok (.invokestatic 198, 3) := d_300_36
theorem d_303_39 : decode (js_b 303) 39 = .ok (.iconst 1, 1) := d_300_39
theorem d_303_40 : decode (js_b 303) 40 = .ok (.if_icmp .ne 13, 3) := d_300_40
theorem d_303_43 : decode (js_b 303) 43 = .ok (.lconst 1, 1) := d_300_43
theorem d_303_44 : decode (js_b 303) 44 = .ok (.iload 5, 2) := d_300_44
theorem d_303_46 : decode (js_b 303) 46 = .ok (.bipush 8, 2) := d_300_46
theorem d_303_48 : decode (js_b 303) 48 = .ok (.isub, 1) := d_300_48
theorem d_303_49 : decode (js_b 303) 49 = .ok (.lshl, 1) := d_300_49
theorem d_303_50 : decode (js_b 303) 50 = .ok (.goto 4, 3) := d_300_50
theorem d_303_53 : decode (js_b 303) 53 = .ok (.lconst 0, 1) := d_300_53
theorem d_303_54 : decode (js_b 303) 54 = .ok (.lor, 1) := d_300_54
theorem d_303_55 : decode (js_b 303) 55 = .ok (.lstore_n 3, 1) := d_300_55
theorem d_303_56 : decode (js_b 303) 56 = .ok (.lload_n 3, 1) := d_300_56
theorem d_303_57 : decode (js_b 303) 57 = .ok (.aload_n 0, 1) := d_300_57
theorem d_303_58 : decode (js_b 303) 58 = .ok (.iload 5, 2) := d_300_58
theorem d_303_60 : decode (js_b 303) 60 = .ok (.bipush 8, 2) := d_300_60
theorem d_303_62 : decode (js_b 303) 62 = .ok (.idiv, 1) := d_300_62
theorem d_303_63 : decode (js_b 303) 63 = .ok (.iload 5, 2) := d_300_63
theorem d_303_65 : decode (js_b 303) 65 = .ok (.bipush 8, 2) := d_300_65
theorem d_303_67 : decode (js_b 303) 67 = .ok (.irem, 1) := d_300_67
theorem d_303_68 : decode (js_b 303) 68 = .ok (.iconst 1, 1) := d_300_68
theorem d_303_69 : decode (js_b 303) 69 = .ok (.invokestatic 198, 3) := d_300_69
theorem d_303_72 : decode (js_b 303) 72 = .ok (.iconst 1, 1) := d_300_72
theorem d_303_73 : decode (js_b 303) 73 = .ok (.if_icmp .ne 12, 3) := d_300_73
theorem d_303_76 : decode (js_b 303) 76 = .ok (.lconst 1, 1) := d_300_76
theorem d_303_77 : decode (js_b 303) 77 = .ok (.iload 5, 2) := d_300_77
theorem d_303_79 : decode (js_b 303) 79 = .ok (.iconst 1, 1) := d_300_79
theorem d_303_80 : decode (js_b 303) 80 = .ok (.iadd, 1) := d_300_80
theorem d_303_81 : decode (js_b 303) 81 = .ok (.lshl, 1) := d_300_81
theorem d_303_82 : decode (js_b 303) 82 = .ok (.goto 4, 3) := d_300_82
theorem d_303_85 : decode (js_b 303) 85 = .ok (.lconst 0, 1) := d_300_85
theorem d_303_86 : decode (js_b 303) 86 = .ok (.lor, 1) := d_300_86
theorem d_303_87 : decode (js_b 303) 87 = .ok (.lstore_n 3, 1) := d_300_87
theorem d_303_88 : decode (js_b 303) 88 = .ok (.lload_n 3, 1) := d_300_88
theorem d_303_89 : decode (js_b 303) 89 = .ok (.aload_n 0, 1) := d_300_89
theorem d_303_90 : decode (js_b 303) 90 = .ok (.iload 5, 2) := d_300_90
theorem d_303_92 : decode (js_b 303) 92 = .ok (.bipush 8, 2) := d_300_92
theorem d_303_94 : decode (js_b 303) 94 = .ok (.idiv, 1) := d_300_94
theorem d_303_95 : decode (js_b 303) 95 = .ok (.iload 5, 2) := d_300_95
theorem d_303_97 : decode (js_b 303) 97 = .ok (.bipush 8, 2) := d_300_97
theorem d_303_99 : decode (js_b 303) 99 = .ok (.irem, 1) := d_300_99
theorem d_303_100 : decode (js_b 303) 100 = .ok (.iconst 2, 1) := d_300_100
theorem d_303_101 : decode (js_b 303) 101 = .ok (.invokestatic 198, 3) := d_300_101
theorem d_303_104 : decode (js_b 303) 104 = .ok (.iconst 1, 1) := d_300_104
theorem d_303_105 : decode (js_b 303) 105 = .ok (.if_icmp .ne 13, 3) := d_300_105
theorem d_303_108 : decode (js_b 303) 108 = .ok (.lconst 1, 1) := d_300_108
theorem d_303_109 : decode (js_b 303) 109 = .ok (.iload 5, 2) := d_300_109
theorem d_303_111 : decode (js_b 303) 111 = .ok (.bipush 8, 2) := d_300_111
theorem d_303_113 : decode (js_b 303) 113 = .ok (.iadd, 1) := d_300_113
theorem d_303_114 : decode (js_b 303) 114 = .ok (.lshl, 1) := d_300_114
theorem d_303_115 : decode (js_b 303) 115 = .ok (.goto 4, 3) := d_300_115
theorem d_303_118 : decode (js_b 303) 118 = .ok (.lconst 0, 1) := d_300_118
theorem d_303_119 : decode (js_b 303) 119 = .ok (.lor, 1) := d_300_119
theorem d_303_120 : decode (js_b 303) 120 = .ok (.lstore_n 3, 1) := d_300_120
theorem d_303_121 : decode (js_b 303) 121 = .ok (.lload_n 3, 1) := d_300_121
theorem d_303_122 : decode (js_b 303) 122 = .ok (.aload_n 0, 1) := d_300_122
theorem d_303_123 : decode (js_b 303) 123 = .ok (.iload 5, 2) := d_300_123
theorem d_303_125 : decode (js_b 303) 125 = .ok (.bipush 8, 2) := d_300_125
theorem d_303_127 : decode (js_b 303) 127 = .ok (.idiv, 1) := d_300_127
theorem d_303_128 : decode (js_b 303) 128 = .ok (.iload 5, 2) := d_300_128
theorem d_303_130 : decode (js_b 303) 130 = .ok (.bipush 8, 2) := d_300_130
theorem d_303_132 : decode (js_b 303) 132 = .ok (.irem, 1) := d_300_132
theorem d_303_133 : decode (js_b 303) 133 = .ok (.iconst 3, 1) := d_300_133
theorem d_303_134 : decode (js_b 303) 134 = .ok (.invokestatic 198, 3) := d_300_134
theorem d_303_137 : decode (js_b 303) 137 = .ok (.iconst 1, 1) := d_300_137
theorem d_303_138 : decode (js_b 303) 138 = .ok (.if_icmp .ne 12, 3) := d_300_138
theorem d_303_141 : decode (js_b 303) 141 = .ok (.lconst 1, 1) := d_300_141
theorem d_303_142 : decode (js_b 303) 142 = .ok (.iload 5, 2) := d_300_142
theorem d_303_144 : decode (js_b 303) 144 = .ok (.iconst 1, 1) := d_300_144
theorem d_303_145 : decode (js_b 303) 145 = .ok (.isub, 1) := d_300_145
theorem d_303_146 : decode (js_b 303) 146 = .ok (.lshl, 1) := d_300_146
theorem d_303_147 : decode (js_b 303) 147 = .ok (.goto 4, 3) := d_300_147
theorem d_303_150 : decode (js_b 303) 150 = .ok (.lconst 0, 1) := d_300_150
theorem d_303_151 : decode (js_b 303) 151 = .ok (.lor, 1) := d_300_151
theorem d_303_152 : decode (js_b 303) 152 = .ok (.lstore_n 3, 1) := d_300_152
theorem d_303_153 : decode (js_b 303) 153 = .ok (.iinc 5 1, 3) := d_300_153
theorem d_303_156 : decode (js_b 303) 156 = .ok (.goto (-151), 3) := d_300_156
theorem d_303_159 : decode (js_b 303) 159 = .ok (.lload_n 3, 1) := d_300_159
theorem d_303_160 : decode (js_b 303) 160 = .ok (.lload_n 1, 1) := d_300_160
theorem d_303_161 : decode (js_b 303) 161 = .ok (.lcmp, 1) := d_300_161
theorem d_303_162 : decode (js_b 303) 162 = .ok (.ifCond .ne 7, 3) := d_300_162
theorem d_303_165 : decode (js_b 303) 165 = .ok (.lload_n 1, 1) := d_300_165
theorem d_303_166 : decode (js_b 303) 166 = .ok (.goto 8, 3) := d_300_166
theorem d_303_169 : decode (js_b 303) 169 = .ok (.aload_n 0, 1) := d_300_169
theorem d_303_170 : decode (js_b 303) 170 = .ok (.lload_n 3, 1) := d_300_170
theorem d_303_171 : decode (js_b 303) 171 = .ok (.invokestatic 323, 3) := d_300_171
theorem d_303_174 : decode (js_b 303) 174 = .ok (.lreturn, 1) := d_300_174
theorem ki_303_15 : js_OkG 303 15 (o_Sh (fun x y => (x.toUInt64 >>> (y.toInt64.toUInt64 &&& Int64.toUInt64 63)).toInt64) 16) := js_St.okG (st_lushr d_303_15) (fun _ _ _ _ _ => rfl)
theorem ki_303_13 : js_OkG 303 13 (o_il 5 15) := js_St.okG (st_iload d_303_13) (fun _ _ _ _ _ => rfl)
theorem ki_303_12 : js_OkG 303 12 (o_ll 1 13) := js_St.okG (st_lloadn rfl d_303_12) (fun _ _ _ _ _ => rfl)
theorem ki_303_9 : js_OkG 303 9 (o_cge 159 12) := js_St.okG (st_icge (by decide) d_303_9) (fun _ _ _ _ _ => rfl)
theorem ki_303_7 : js_OkG 303 7 (o_ic 64 9) := js_St.okG (st_bipush rfl d_303_7) (fun _ _ _ _ _ => rfl)
theorem ki_303_5 : js_OkG 303 5 (o_il 5 7) := js_St.okG (st_iload d_303_5) (fun _ _ _ _ _ => rfl)
theorem ki_303_3 : js_OkG 303 3 (o_is 5 5) := js_St.okG (st_istore (Nat.le_of_ble_eq_true rfl) d_303_3) (fun _ _ _ _ _ => rfl)
theorem ki_303_2 : js_OkG 303 2 (o_ic 0 3) := js_St.okG (st_iconst rfl d_303_2) (fun _ _ _ _ _ => rfl)
theorem ki_303_1 : js_OkG 303 1 (o_ls 3 2) := js_St.okG (st_lstoren rfl (Nat.le_of_ble_eq_true rfl) d_303_1) (fun _ _ _ _ _ => rfl)
theorem ki_303_0 : js_OkG 303 0 (o_ll 1 1) := js_St.okG (st_lloadn rfl d_303_0) (fun _ _ _ _ _ => rfl)
theorem ki_303_30 : js_OkG 303 30 (o_il 5 32) := js_St.okG (st_iload d_303_30) (fun _ _ _ _ _ => rfl)
theorem ki_303_29 : js_OkG 303 29 (o_div 30) := js_St.okG (st_idiv d_303_29) (fun _ _ _ _ _ => rfl)
theorem ki_303_27 : js_OkG 303 27 (o_ic 8 29) := js_St.okG (st_bipush rfl d_303_27) (fun _ _ _ _ _ => rfl)
theorem ki_303_25 : js_OkG 303 25 (o_il 5 27) := js_St.okG (st_iload d_303_25) (fun _ _ _ _ _ => rfl)
theorem ki_303_24 : js_OkG 303 24 (o_al 0 25) := js_St.okG (st_aloadn rfl d_303_24) (fun _ _ _ _ _ => rfl)
theorem ki_303_23 : js_OkG 303 23 (o_ll 3 24) := js_St.okG (st_lloadn rfl d_303_23) (fun _ _ _ _ _ => rfl)
theorem ki_303_20 : js_OkG 303 20 (o_ne 153 23) := js_St.okG (st_ifne (by decide) d_303_20) (fun _ _ _ _ _ => rfl)
theorem ki_303_19 : js_OkG 303 19 (o_lcmp 20) := js_St.okG (st_lcmp d_303_19) (fun _ _ _ _ _ => rfl)
theorem ki_303_18 : js_OkG 303 18 (o_lc 1 19) := js_St.okG (st_lconst rfl d_303_18) (fun _ _ _ _ _ => rfl)
theorem ki_303_17 : js_OkG 303 17 (o_B2 (fun x y => x &&& y) 18) := js_St.okG (st_land d_303_17) (fun _ _ _ _ _ => rfl)
theorem ki_303_16 : js_OkG 303 16 (o_lc 1 17) := js_St.okG (st_lconst rfl d_303_16) (fun _ _ _ _ _ => rfl)
theorem ki_303_46 : js_OkG 303 46 (o_ic 8 48) := js_St.okG (st_bipush rfl d_303_46) (fun _ _ _ _ _ => rfl)
theorem ki_303_44 : js_OkG 303 44 (o_il 5 46) := js_St.okG (st_iload d_303_44) (fun _ _ _ _ _ => rfl)
theorem ki_303_43 : js_OkG 303 43 (o_lc 1 44) := js_St.okG (st_lconst rfl d_303_43) (fun _ _ _ _ _ => rfl)
theorem ki_303_40 : js_OkG 303 40 (o_cne 53 43) := js_St.okG (st_icne (by decide) d_303_40) (fun _ _ _ _ _ => rfl)
theorem ki_303_39 : js_OkG 303 39 (o_ic 1 40) := js_St.okG (st_iconst rfl d_303_39) (fun _ _ _ _ _ => rfl)
theorem ki_303_36 : js_OkG 303 36 (o_cI 176 4 0 39) := og_sIP rfl rfl kB_303_176 rfl kw_785 kw_786 d_303_36
theorem ki_303_35 : js_OkG 303 35 (o_ic 0 36) := js_St.okG (st_iconst rfl d_303_35) (fun _ _ _ _ _ => rfl)
theorem ki_303_34 : js_OkG 303 34 (o_rem 35) := js_St.okG (st_irem d_303_34) (fun _ _ _ _ _ => rfl)
theorem ki_303_32 : js_OkG 303 32 (o_ic 8 34) := js_St.okG (st_bipush rfl d_303_32) (fun _ _ _ _ _ => rfl)
theorem ki_303_63 : js_OkG 303 63 (o_il 5 65) := js_St.okG (st_iload d_303_63) (fun _ _ _ _ _ => rfl)
theorem ki_303_62 : js_OkG 303 62 (o_div 63) := js_St.okG (st_idiv d_303_62) (fun _ _ _ _ _ => rfl)
theorem ki_303_60 : js_OkG 303 60 (o_ic 8 62) := js_St.okG (st_bipush rfl d_303_60) (fun _ _ _ _ _ => rfl)
theorem ki_303_58 : js_OkG 303 58 (o_il 5 60) := js_St.okG (st_iload d_303_58) (fun _ _ _ _ _ => rfl)
theorem ki_303_57 : js_OkG 303 57 (o_al 0 58) := js_St.okG (st_aloadn rfl d_303_57) (fun _ _ _ _ _ => rfl)
theorem ki_303_56 : js_OkG 303 56 (o_ll 3 57) := js_St.okG (st_lloadn rfl d_303_56) (fun _ _ _ _ _ => rfl)
theorem ki_303_55 : js_OkG 303 55 (o_ls 3 56) := js_St.okG (st_lstoren rfl (Nat.le_of_ble_eq_true rfl) d_303_55) (fun _ _ _ _ _ => rfl)
theorem ki_303_54 : js_OkG 303 54 (o_B2 (fun x y => x ||| y) 55) := js_St.okG (st_lor d_303_54) (fun _ _ _ _ _ => rfl)
theorem ki_303_53 : js_OkG 303 53 (o_lc 0 54) := js_St.okG (st_lconst rfl d_303_53) (fun _ _ _ _ _ => rfl)
theorem ki_303_50 : js_OkG 303 50 (o_go 54) := js_St.okG (st_goto (by decide) d_303_50) (fun _ _ _ _ _ => rfl)
theorem ki_303_49 : js_OkG 303 49 (o_Sh (fun x y => x <<< (y.toInt64 &&& 63)) 50) := js_St.okG (st_lshl d_303_49) (fun _ _ _ _ _ => rfl)
theorem ki_303_48 : js_OkG 303 48 (o_b2 (fun x y => x - y) 49) := js_St.okG (st_isub d_303_48) (fun _ _ _ _ _ => rfl)
theorem ki_303_79 : js_OkG 303 79 (o_ic 1 80) := js_St.okG (st_iconst rfl d_303_79) (fun _ _ _ _ _ => rfl)
theorem ki_303_77 : js_OkG 303 77 (o_il 5 79) := js_St.okG (st_iload d_303_77) (fun _ _ _ _ _ => rfl)
theorem ki_303_76 : js_OkG 303 76 (o_lc 1 77) := js_St.okG (st_lconst rfl d_303_76) (fun _ _ _ _ _ => rfl)
theorem ki_303_73 : js_OkG 303 73 (o_cne 85 76) := js_St.okG (st_icne (by decide) d_303_73) (fun _ _ _ _ _ => rfl)
theorem ki_303_72 : js_OkG 303 72 (o_ic 1 73) := js_St.okG (st_iconst rfl d_303_72) (fun _ _ _ _ _ => rfl)
theorem ki_303_69 : js_OkG 303 69 (o_cI 176 4 0 72) := og_sIP rfl rfl kB_303_176 rfl kw_785 kw_786 d_303_69
theorem ki_303_68 : js_OkG 303 68 (o_ic 1 69) := js_St.okG (st_iconst rfl d_303_68) (fun _ _ _ _ _ => rfl)
theorem ki_303_67 : js_OkG 303 67 (o_rem 68) := js_St.okG (st_irem d_303_67) (fun _ _ _ _ _ => rfl)
theorem ki_303_65 : js_OkG 303 65 (o_ic 8 67) := js_St.okG (st_bipush rfl d_303_65) (fun _ _ _ _ _ => rfl)
theorem ki_303_95 : js_OkG 303 95 (o_il 5 97) := js_St.okG (st_iload d_303_95) (fun _ _ _ _ _ => rfl)
theorem ki_303_94 : js_OkG 303 94 (o_div 95) := js_St.okG (st_idiv d_303_94) (fun _ _ _ _ _ => rfl)
theorem ki_303_92 : js_OkG 303 92 (o_ic 8 94) := js_St.okG (st_bipush rfl d_303_92) (fun _ _ _ _ _ => rfl)
theorem ki_303_90 : js_OkG 303 90 (o_il 5 92) := js_St.okG (st_iload d_303_90) (fun _ _ _ _ _ => rfl)
theorem ki_303_89 : js_OkG 303 89 (o_al 0 90) := js_St.okG (st_aloadn rfl d_303_89) (fun _ _ _ _ _ => rfl)
theorem ki_303_88 : js_OkG 303 88 (o_ll 3 89) := js_St.okG (st_lloadn rfl d_303_88) (fun _ _ _ _ _ => rfl)
theorem ki_303_87 : js_OkG 303 87 (o_ls 3 88) := js_St.okG (st_lstoren rfl (Nat.le_of_ble_eq_true rfl) d_303_87) (fun _ _ _ _ _ => rfl)
theorem ki_303_86 : js_OkG 303 86 (o_B2 (fun x y => x ||| y) 87) := js_St.okG (st_lor d_303_86) (fun _ _ _ _ _ => rfl)
theorem ki_303_85 : js_OkG 303 85 (o_lc 0 86) := js_St.okG (st_lconst rfl d_303_85) (fun _ _ _ _ _ => rfl)
theorem ki_303_82 : js_OkG 303 82 (o_go 86) := js_St.okG (st_goto (by decide) d_303_82) (fun _ _ _ _ _ => rfl)
theorem ki_303_81 : js_OkG 303 81 (o_Sh (fun x y => x <<< (y.toInt64 &&& 63)) 82) := js_St.okG (st_lshl d_303_81) (fun _ _ _ _ _ => rfl)
theorem ki_303_80 : js_OkG 303 80 (o_b2 (fun x y => x + y) 81) := js_St.okG (st_iadd d_303_80) (fun _ _ _ _ _ => rfl)
theorem ki_303_111 : js_OkG 303 111 (o_ic 8 113) := js_St.okG (st_bipush rfl d_303_111) (fun _ _ _ _ _ => rfl)
theorem ki_303_109 : js_OkG 303 109 (o_il 5 111) := js_St.okG (st_iload d_303_109) (fun _ _ _ _ _ => rfl)
theorem ki_303_108 : js_OkG 303 108 (o_lc 1 109) := js_St.okG (st_lconst rfl d_303_108) (fun _ _ _ _ _ => rfl)
theorem ki_303_105 : js_OkG 303 105 (o_cne 118 108) := js_St.okG (st_icne (by decide) d_303_105) (fun _ _ _ _ _ => rfl)
theorem ki_303_104 : js_OkG 303 104 (o_ic 1 105) := js_St.okG (st_iconst rfl d_303_104) (fun _ _ _ _ _ => rfl)
theorem ki_303_101 : js_OkG 303 101 (o_cI 176 4 0 104) := og_sIP rfl rfl kB_303_176 rfl kw_785 kw_786 d_303_101
theorem ki_303_100 : js_OkG 303 100 (o_ic 2 101) := js_St.okG (st_iconst rfl d_303_100) (fun _ _ _ _ _ => rfl)
theorem ki_303_99 : js_OkG 303 99 (o_rem 100) := js_St.okG (st_irem d_303_99) (fun _ _ _ _ _ => rfl)
theorem ki_303_97 : js_OkG 303 97 (o_ic 8 99) := js_St.okG (st_bipush rfl d_303_97) (fun _ _ _ _ _ => rfl)
theorem ki_303_127 : js_OkG 303 127 (o_div 128) := js_St.okG (st_idiv d_303_127) (fun _ _ _ _ _ => rfl)
theorem ki_303_125 : js_OkG 303 125 (o_ic 8 127) := js_St.okG (st_bipush rfl d_303_125) (fun _ _ _ _ _ => rfl)
theorem ki_303_123 : js_OkG 303 123 (o_il 5 125) := js_St.okG (st_iload d_303_123) (fun _ _ _ _ _ => rfl)
theorem ki_303_122 : js_OkG 303 122 (o_al 0 123) := js_St.okG (st_aloadn rfl d_303_122) (fun _ _ _ _ _ => rfl)
theorem ki_303_121 : js_OkG 303 121 (o_ll 3 122) := js_St.okG (st_lloadn rfl d_303_121) (fun _ _ _ _ _ => rfl)
theorem ki_303_120 : js_OkG 303 120 (o_ls 3 121) := js_St.okG (st_lstoren rfl (Nat.le_of_ble_eq_true rfl) d_303_120) (fun _ _ _ _ _ => rfl)
theorem ki_303_119 : js_OkG 303 119 (o_B2 (fun x y => x ||| y) 120) := js_St.okG (st_lor d_303_119) (fun _ _ _ _ _ => rfl)
theorem ki_303_118 : js_OkG 303 118 (o_lc 0 119) := js_St.okG (st_lconst rfl d_303_118) (fun _ _ _ _ _ => rfl)
theorem ki_303_115 : js_OkG 303 115 (o_go 119) := js_St.okG (st_goto (by decide) d_303_115) (fun _ _ _ _ _ => rfl)
theorem ki_303_114 : js_OkG 303 114 (o_Sh (fun x y => x <<< (y.toInt64 &&& 63)) 115) := js_St.okG (st_lshl d_303_114) (fun _ _ _ _ _ => rfl)
theorem ki_303_113 : js_OkG 303 113 (o_b2 (fun x y => x + y) 114) := js_St.okG (st_iadd d_303_113) (fun _ _ _ _ _ => rfl)
theorem ki_303_142 : js_OkG 303 142 (o_il 5 144) := js_St.okG (st_iload d_303_142) (fun _ _ _ _ _ => rfl)
theorem ki_303_141 : js_OkG 303 141 (o_lc 1 142) := js_St.okG (st_lconst rfl d_303_141) (fun _ _ _ _ _ => rfl)
theorem ki_303_138 : js_OkG 303 138 (o_cne 150 141) := js_St.okG (st_icne (by decide) d_303_138) (fun _ _ _ _ _ => rfl)
theorem ki_303_137 : js_OkG 303 137 (o_ic 1 138) := js_St.okG (st_iconst rfl d_303_137) (fun _ _ _ _ _ => rfl)
theorem ki_303_134 : js_OkG 303 134 (o_cI 176 4 0 137) := og_sIP rfl rfl kB_303_176 rfl kw_785 kw_786 d_303_134
theorem ki_303_133 : js_OkG 303 133 (o_ic 3 134) := js_St.okG (st_iconst rfl d_303_133) (fun _ _ _ _ _ => rfl)
theorem ki_303_132 : js_OkG 303 132 (o_rem 133) := js_St.okG (st_irem d_303_132) (fun _ _ _ _ _ => rfl)
theorem ki_303_130 : js_OkG 303 130 (o_ic 8 132) := js_St.okG (st_bipush rfl d_303_130) (fun _ _ _ _ _ => rfl)
theorem ki_303_128 : js_OkG 303 128 (o_il 5 130) := js_St.okG (st_iload d_303_128) (fun _ _ _ _ _ => rfl)
theorem ki_303_159 : js_OkG 303 159 (o_ll 3 160) := js_St.okG (st_lloadn rfl d_303_159) (fun _ _ _ _ _ => rfl)
theorem ki_303_156 : js_OkG 303 156 (o_go 5) := js_St.okG (st_goto (by decide) d_303_156) (fun _ _ _ _ _ => rfl)
theorem ki_303_153 : js_OkG 303 153 (o_inc 5 1 156) := js_St.okG (st_iinc rfl (Nat.le_of_ble_eq_true rfl) d_303_153) (fun _ _ _ _ _ => rfl)
theorem ki_303_152 : js_OkG 303 152 (o_ls 3 153) := js_St.okG (st_lstoren rfl (Nat.le_of_ble_eq_true rfl) d_303_152) (fun _ _ _ _ _ => rfl)
theorem ki_303_151 : js_OkG 303 151 (o_B2 (fun x y => x ||| y) 152) := js_St.okG (st_lor d_303_151) (fun _ _ _ _ _ => rfl)
theorem ki_303_150 : js_OkG 303 150 (o_lc 0 151) := js_St.okG (st_lconst rfl d_303_150) (fun _ _ _ _ _ => rfl)
theorem ki_303_147 : js_OkG 303 147 (o_go 151) := js_St.okG (st_goto (by decide) d_303_147) (fun _ _ _ _ _ => rfl)
theorem ki_303_146 : js_OkG 303 146 (o_Sh (fun x y => x <<< (y.toInt64 &&& 63)) 147) := js_St.okG (st_lshl d_303_146) (fun _ _ _ _ _ => rfl)
theorem ki_303_145 : js_OkG 303 145 (o_b2 (fun x y => x - y) 146) := js_St.okG (st_isub d_303_145) (fun _ _ _ _ _ => rfl)
theorem ki_303_144 : js_OkG 303 144 (o_ic 1 145) := js_St.okG (st_iconst rfl d_303_144) (fun _ _ _ _ _ => rfl)
theorem ki_303_174 : js_OkG 303 174 (o_rL) := og_rL rfl d_303_174
theorem ki_303_171 : js_OkG 303 171 (o_cL 304 2 0 174) := og_sLP rfl rfl kB_303_304 rfl kw_949 kw_950 d_303_171
theorem ki_303_170 : js_OkG 303 170 (o_ll 3 171) := js_St.okG (st_lloadn rfl d_303_170) (fun _ _ _ _ _ => rfl)
theorem ki_303_169 : js_OkG 303 169 (o_al 0 170) := js_St.okG (st_aloadn rfl d_303_169) (fun _ _ _ _ _ => rfl)
theorem ki_303_166 : js_OkG 303 166 (o_go 174) := js_St.okG (st_goto (by decide) d_303_166) (fun _ _ _ _ _ => rfl)
theorem ki_303_165 : js_OkG 303 165 (o_ll 1 166) := js_St.okG (st_lloadn rfl d_303_165) (fun _ _ _ _ _ => rfl)
theorem ki_303_162 : js_OkG 303 162 (o_ne 169 165) := js_St.okG (st_ifne (by decide) d_303_162) (fun _ _ _ _ _ => rfl)
theorem ki_303_161 : js_OkG 303 161 (o_lcmp 162) := js_St.okG (st_lcmp d_303_161) (fun _ _ _ _ _ => rfl)
theorem ki_303_160 : js_OkG 303 160 (o_ll 1 161) := js_St.okG (st_lloadn rfl d_303_160) (fun _ _ _ _ _ => rfl)
set_option maxRecDepth 20000 in
theorem mk_303 : js_mokG 303 := jk_tab (fun _ => js_St.okG st_bad (fun _ _ _ _ _ => rfl)) (show jk_all (js_OkG 303) 0 (tb_G 303) from ⟨⟨ki_303_0, ⟨ki_303_1, ⟨ki_303_2, ⟨ki_303_3, ⟨kbadG, ⟨ki_303_5, ⟨kbadG, ⟨ki_303_7, ⟨kbadG, ⟨ki_303_9, ⟨kbadG, ⟨kbadG, ⟨ki_303_12, ⟨ki_303_13, ⟨kbadG, ⟨ki_303_15, trivial⟩⟩⟩⟩⟩⟩⟩⟩⟩⟩⟩⟩⟩⟩⟩⟩, ⟨⟨ki_303_16, ⟨ki_303_17, ⟨ki_303_18, ⟨ki_303_19, ⟨ki_303_20, ⟨kbadG, ⟨kbadG, ⟨ki_303_23, ⟨ki_303_24, ⟨ki_303_25, ⟨kbadG, ⟨ki_303_27, ⟨kbadG, ⟨ki_303_29, ⟨ki_303_30, ⟨kbadG, trivial⟩⟩⟩⟩⟩⟩⟩⟩⟩⟩⟩⟩⟩⟩⟩⟩, ⟨⟨ki_303_32, ⟨kbadG, ⟨ki_303_34, ⟨ki_303_35, ⟨ki_303_36, ⟨kbadG, ⟨kbadG, ⟨ki_303_39, ⟨ki_303_40, ⟨kbadG, ⟨kbadG, ⟨ki_303_43, ⟨ki_303_44, ⟨kbadG, ⟨ki_303_46, ⟨kbadG, trivial⟩⟩⟩⟩⟩⟩⟩⟩⟩⟩⟩⟩⟩⟩⟩⟩, ⟨⟨ki_303_48, ⟨ki_303_49, ⟨ki_303_50, ⟨kbadG, ⟨kbadG, ⟨ki_303_53, ⟨ki_303_54, ⟨ki_303_55, ⟨ki_303_56, ⟨ki_303_57, ⟨ki_303_58, ⟨kbadG, ⟨ki_303_60, ⟨kbadG, ⟨ki_303_62, ⟨ki_303_63, trivial⟩⟩⟩⟩⟩⟩⟩⟩⟩⟩⟩⟩⟩⟩⟩⟩, ⟨⟨kbadG, ⟨ki_303_65, ⟨kbadG, ⟨ki_303_67, ⟨ki_303_68, ⟨ki_303_69, ⟨kbadG, ⟨kbadG, ⟨ki_303_72, ⟨ki_303_73, ⟨kbadG, ⟨kbadG, ⟨ki_303_76, ⟨ki_303_77, ⟨kbadG, ⟨ki_303_79, trivial⟩⟩⟩⟩⟩⟩⟩⟩⟩⟩⟩⟩⟩⟩⟩⟩, ⟨⟨ki_303_80, ⟨ki_303_81, ⟨ki_303_82, ⟨kbadG, ⟨kbadG, ⟨ki_303_85, ⟨ki_303_86, ⟨ki_303_87, ⟨ki_303_88, ⟨ki_303_89, ⟨ki_303_90, ⟨kbadG, ⟨ki_303_92, ⟨kbadG, ⟨ki_303_94, ⟨ki_303_95, trivial⟩⟩⟩⟩⟩⟩⟩⟩⟩⟩⟩⟩⟩⟩⟩⟩, ⟨⟨kbadG, ⟨ki_303_97, ⟨kbadG, ⟨ki_303_99, ⟨ki_303_100, ⟨ki_303_101, ⟨kbadG, ⟨kbadG, ⟨ki_303_104, ⟨ki_303_105, ⟨kbadG, ⟨kbadG, ⟨ki_303_108, ⟨ki_303_109, ⟨kbadG, ⟨ki_303_111, trivial⟩⟩⟩⟩⟩⟩⟩⟩⟩⟩⟩⟩⟩⟩⟩⟩, ⟨⟨kbadG, ⟨ki_303_113, ⟨ki_303_114, ⟨ki_303_115, ⟨kbadG, ⟨kbadG, ⟨ki_303_118, ⟨ki_303_119, ⟨ki_303_120, ⟨ki_303_121, ⟨ki_303_122, ⟨ki_303_123, ⟨kbadG, ⟨ki_303_125, ⟨kbadG, ⟨ki_303_127, trivial⟩⟩⟩⟩⟩⟩⟩⟩⟩⟩⟩⟩⟩⟩⟩⟩, ⟨⟨ki_303_128, ⟨kbadG, ⟨ki_303_130, ⟨kbadG, ⟨ki_303_132, ⟨ki_303_133, ⟨ki_303_134, ⟨kbadG, ⟨kbadG, ⟨ki_303_137, ⟨ki_303_138, ⟨kbadG, ⟨kbadG, ⟨ki_303_141, ⟨ki_303_142, ⟨kbadG, trivial⟩⟩⟩⟩⟩⟩⟩⟩⟩⟩⟩⟩⟩⟩⟩⟩, ⟨⟨ki_303_144, ⟨ki_303_145, ⟨ki_303_146, ⟨ki_303_147, ⟨kbadG, ⟨kbadG, ⟨ki_303_150, ⟨ki_303_151, ⟨ki_303_152, ⟨ki_303_153, ⟨kbadG, ⟨kbadG, ⟨ki_303_156, ⟨kbadG, ⟨kbadG, ⟨ki_303_159, trivial⟩⟩⟩⟩⟩⟩⟩⟩⟩⟩⟩⟩⟩⟩⟩⟩, ⟨⟨ki_303_160, ⟨ki_303_161, ⟨ki_303_162, ⟨kbadG, ⟨kbadG, ⟨ki_303_165, ⟨ki_303_166, ⟨kbadG, ⟨kbadG, ⟨ki_303_169, ⟨ki_303_170, ⟨ki_303_171, ⟨kbadG, ⟨kbadG, ⟨ki_303_174, trivial⟩⟩⟩⟩⟩⟩⟩⟩⟩⟩⟩⟩⟩⟩⟩, trivial⟩⟩⟩⟩⟩⟩⟩⟩⟩⟩⟩)
theorem d_304_0 : decode (js_b 304) 0 = .ok (.lload_n 1, 1) := d_300_0
theorem d_304_1 : decode (js_b 304) 1 = .ok (.lstore_n 3, 1) := d_300_1
theorem d_304_2 : decode (js_b 304) 2 = .ok (.iconst 0, 1) := d_300_2
theorem d_304_3 : decode (js_b 304) 3 = .ok (.istore 5, 2) := d_300_3
theorem d_304_5 : decode (js_b 304) 5 = .ok (.iload 5, 2) := d_300_5
theorem d_304_7 : decode (js_b 304) 7 = .ok (.bipush 64, 2) := d_300_7
theorem d_304_9 : decode (js_b 304) 9 = .ok (.if_icmp .ge 150, 3) := d_300_9
theorem d_304_12 : decode (js_b 304) 12 = .ok (.lload_n 1, 1) := d_300_12
theorem d_304_13 : decode (js_b 304) 13 = .ok (.iload 5, 2) := d_300_13
theorem d_304_15 : decode (js_b 304) 15 = .ok (.lushr, 1) := d_300_15
theorem d_304_16 : decode (js_b 304) 16 = .ok (.lconst 1, 1) := d_300_16
theorem d_304_17 : decode (js_b 304) 17 = .ok (.land, 1) := d_300_17
theorem d_304_18 : decode (js_b 304) 18 = .ok (.lconst 1, 1) := d_300_18
theorem d_304_19 : decode (js_b 304) 19 = .ok (.lcmp, 1) := d_300_19
theorem d_304_20 : decode (js_b 304) 20 = .ok (.ifCond .ne 133, 3) := d_300_20
theorem d_304_23 : decode (js_b 304) 23 = .ok (.lload_n 3, 1) := d_300_23
theorem d_304_24 : decode (js_b 304) 24 = .ok (.aload_n 0, 1) := d_300_24
theorem d_304_25 : decode (js_b 304) 25 = .ok (.iload 5, 2) := d_300_25
theorem d_304_27 : decode (js_b 304) 27 = .ok (.bipush 8, 2) := d_300_27
theorem d_304_29 : decode (js_b 304) 29 = .ok (.idiv, 1) := d_300_29
theorem d_304_30 : decode (js_b 304) 30 = .ok (.iload 5, 2) := d_300_30
theorem d_304_32 : decode (js_b 304) 32 = .ok (.bipush 8, 2) := d_300_32
theorem d_304_34 : decode (js_b 304) 34 = .ok (.irem, 1) := d_300_34
theorem d_304_35 : decode (js_b 304) 35 = .ok (.iconst 0, 1) := d_300_35
theorem d_304_36 : decode (js_b 304) 36 = .ok (.invokestatic 198, 3) := d_300_36
theorem d_304_39 : decode (js_b 304) 39 = .ok (.iconst 1, 1) := d_300_39
theorem d_304_40 : decode (js_b 304) 40 = .ok (.if_icmp .ne 13, 3) := d_300_40
theorem d_304_43 : decode (js_b 304) 43 = .ok (.lconst 1, 1) := d_300_43
theorem d_304_44 : decode (js_b 304) 44 = .ok (.iload 5, 2) := d_300_44
theorem d_304_46 : decode (js_b 304) 46 = .ok (.bipush 8, 2) := d_300_46
theorem d_304_48 : decode (js_b 304) 48 = .ok (.isub, 1) := d_300_48
theorem d_304_49 : decode (js_b 304) 49 = .ok (.lshl, 1) := d_300_49
theorem d_304_50 : decode (js_b 304) 50 = .ok (.goto 4, 3) := d_300_50
theorem d_304_53 : decode (js_b 304) 53 = .ok (.lconst 0, 1) := d_300_53
theorem d_304_54 : decode (js_b 304) 54 = .ok (.lor, 1) := d_300_54
theorem d_304_55 : decode (js_b 304) 55 = .ok (.lstore_n 3, 1) := d_300_55
theorem d_304_56 : decode (js_b 304) 56 = .ok (.lload_n 3, 1) := d_300_56
theorem d_304_57 : decode (js_b 304) 57 = .ok (.aload_n 0, 1) := d_300_57
theorem d_304_58 : decode (js_b 304) 58 = .ok (.iload 5, 2) := d_300_58
theorem d_304_60 : decode (js_b 304) 60 = .ok (.bipush 8, 2) := d_300_60
theorem d_304_62 : decode (js_b 304) 62 = .ok (.idiv, 1) := d_300_62
theorem d_304_63 : decode (js_b 304) 63 = .ok (.iload 5, 2) := d_300_63
theorem d_304_65 : decode (js_b 304) 65 = .ok (.bipush 8, 2) := d_300_65
theorem d_304_67 : decode (js_b 304) 67 = .ok (.irem, 1) := d_300_67
theorem d_304_68 : decode (js_b 304) 68 = .ok (.iconst 1, 1) := d_300_68
theorem d_304_69 : decode (js_b 304) 69 = .ok (.invokestatic 198, 3) := d_300_69
theorem d_304_72 : decode (js_b 304) 72 = .ok (.iconst 1, 1) := d_300_72
theorem d_304_73 : decode (js_b 304) 73 = .ok (.if_icmp .ne 12, 3) := d_300_73
theorem d_304_76 : decode (js_b 304) 76 = .ok (.lconst 1, 1) := d_300_76
theorem d_304_77 : decode (js_b 304) 77 = .ok (.iload 5, 2) := d_300_77
theorem d_304_79 : decode (js_b 304) 79 = .ok (.iconst 1, 1) := d_300_79
theorem d_304_80 : decode (js_b 304) 80 = .ok (.iadd, 1) := d_300_80
theorem d_304_81 : decode (js_b 304) 81 = .ok (.lshl, 1) := d_300_81
theorem d_304_82 : decode (js_b 304) 82 = .ok (.goto 4, 3) := d_300_82
theorem d_304_85 : decode (js_b 304) 85 = .ok (.lconst 0, 1) := d_300_85
theorem d_304_86 : decode (js_b 304) 86 = .ok (.lor, 1) := d_300_86
theorem d_304_87 : decode (js_b 304) 87 = .ok (.lstore_n 3, 1) := d_300_87
theorem d_304_88 : decode (js_b 304) 88 = .ok (.lload_n 3, 1) := d_300_88
theorem d_304_89 : decode (js_b 304) 89 = .ok (.aload_n 0, 1) := d_300_89
theorem d_304_90 : decode (js_b 304) 90 = .ok (.iload 5, 2) := d_300_90
theorem d_304_92 : decode (js_b 304) 92 = .ok (.bipush 8, 2) := d_300_92
theorem d_304_94 : decode (js_b 304) 94 = .ok (.idiv, 1) := d_300_94
theorem d_304_95 : decode (js_b 304) 95 = .ok (.iload 5, 2) := d_300_95
theorem d_304_97 : decode (js_b 304) 97 = .ok (.bipush 8, 2) := d_300_97
theorem d_304_99 : decode (js_b 304) 99 = .ok (.irem, 1) := d_300_99
theorem d_304_100 : decode (js_b 304) 100 = .ok (.iconst 2, 1) := d_300_100
theorem d_304_101 : decode (js_b 304) 101 = .ok (.invokestatic 198, 3) := d_300_101
theorem d_304_104 : decode (js_b 304) 104 = .ok (.iconst 1, 1) := d_300_104
theorem d_304_105 : decode (js_b 304) 105 = .ok (.if_icmp .ne 13, 3) := d_300_105
theorem d_304_108 : decode (js_b 304) 108 = .ok (.lconst 1, 1) := d_300_108
theorem d_304_109 : decode (js_b 304) 109 = .ok (.iload 5, 2) := d_300_109
theorem d_304_111 : decode (js_b 304) 111 = .ok (.bipush 8, 2) := d_300_111
theorem d_304_113 : decode (js_b 304) 113 = .ok (.iadd, 1) := d_300_113
theorem d_304_114 : decode (js_b 304) 114 = .ok (.lshl, 1) := d_300_114
theorem d_304_115 : decode (js_b 304) 115 = .ok (.goto 4, 3) := d_300_115
theorem d_304_118 : decode (js_b 304) 118 = .ok (.lconst 0, 1) := d_300_118
theorem d_304_119 : decode (js_b 304) 119 = .ok (.lor, 1) := d_300_119
theorem d_304_120 : decode (js_b 304) 120 = .ok (.lstore_n 3, 1) := d_300_120
theorem d_304_121 : decode (js_b 304) 121 = .ok (.lload_n 3, 1) := d_300_121
theorem d_304_122 : decode (js_b 304) 122 = .ok (.aload_n 0, 1) := d_300_122
theorem d_304_123 : decode (js_b 304) 123 = .ok (.iload 5, 2) := d_300_123
theorem d_304_125 : decode (js_b 304) 125 = .ok (.bipush 8, 2) := d_300_125
theorem d_304_127 : decode (js_b 304) 127 = .ok (.idiv, 1) := d_300_127
theorem d_304_128 : decode (js_b 304) 128 = .ok (.iload 5, 2) := d_300_128
theorem d_304_130 : decode (js_b 304) 130 = .ok (.bipush 8, 2) := d_300_130
theorem d_304_132 : decode (js_b 304) 132 = .ok (.irem, 1) := d_300_132
theorem d_304_133 : decode (js_b 304) 133 = .ok (.iconst 3, 1) := d_300_133
theorem d_304_134 : decode (js_b 304) 134 = .ok (.invokestatic 198, 3) := d_300_134
theorem d_304_137 : decode (js_b 304) 137 = .ok (.iconst 1, 1) := d_300_137
theorem d_304_138 : decode (js_b 304) 138 = .ok (.if_icmp .ne 12, 3) := d_300_138
theorem d_304_141 : decode (js_b 304) 141 = .ok (.lconst 1, 1) := d_300_141
theorem d_304_142 : decode (js_b 304) 142 = .ok (.iload 5, 2) := d_300_142
theorem d_304_144 : decode (js_b 304) 144 = .ok (.iconst 1, 1) := d_300_144
theorem d_304_145 : decode (js_b 304) 145 = .ok (.isub, 1) := d_300_145
theorem d_304_146 : decode (js_b 304) 146 = .ok (.lshl, 1) := d_300_146
theorem d_304_147 : decode (js_b 304) 147 = .ok (.goto 4, 3) := d_300_147
theorem d_304_150 : decode (js_b 304) 150 = .ok (.lconst 0, 1) := d_300_150
theorem d_304_151 : decode (js_b 304) 151 = .ok (.lor, 1) := d_300_151
theorem d_304_152 : decode (js_b 304) 152 = .ok (.lstore_n 3, 1) := d_300_152
theorem d_304_153 : decode (js_b 304) 153 = .ok (.iinc 5 1, 3) := d_300_153
theorem d_304_156 : decode (js_b 304) 156 = .ok (.goto (-151), 3) := d_300_156
theorem d_304_159 : decode (js_b 304) 159 = .ok (.lload_n 3, 1) := d_300_159
theorem d_304_160 : decode (js_b 304) 160 = .ok (.lload_n 1, 1) := d_300_160
theorem d_304_161 : decode (js_b 304) 161 = .ok (.lcmp, 1) := d_300_161
theorem d_304_162 : decode (js_b 304) 162 = .ok (.ifCond .ne 7, 3) := d_300_162
theorem d_304_165 : decode (js_b 304) 165 = .ok (.lload_n 1, 1) := d_300_165
theorem d_304_166 : decode (js_b 304) 166 = .ok (.goto 8, 3) := d_300_166
theorem d_304_169 : decode (js_b 304) 169 = .ok (.aload_n 0, 1) := d_300_169
theorem d_304_170 : decode (js_b 304) 170 = .ok (.lload_n 3, 1) := d_300_170
theorem d_304_171 : decode (js_b 304) 171 = .ok (.invokestatic 323, 3) := d_300_171
theorem d_304_174 : decode (js_b 304) 174 = .ok (.lreturn, 1) := d_300_174
theorem ki_304_15 : js_OkG 304 15 (o_Sh (fun x y => (x.toUInt64 >>> (y.toInt64.toUInt64 &&& Int64.toUInt64 63)).toInt64) 16) := js_St.okG (st_lushr d_304_15) (fun _ _ _ _ _ => rfl)
theorem ki_304_13 : js_OkG 304 13 (o_il 5 15) := js_St.okG (st_iload d_304_13) (fun _ _ _ _ _ => rfl)
theorem ki_304_12 : js_OkG 304 12 (o_ll 1 13) := js_St.okG (st_lloadn rfl d_304_12) (fun _ _ _ _ _ => rfl)
theorem ki_304_9 : js_OkG 304 9 (o_cge 159 12) := js_St.okG (st_icge (by decide) d_304_9) (fun _ _ _ _ _ => rfl)
theorem ki_304_7 : js_OkG 304 7 (o_ic 64 9) := js_St.okG (st_bipush rfl d_304_7) (fun _ _ _ _ _ => rfl)
theorem ki_304_5 : js_OkG 304 5 (o_il 5 7) := js_St.okG (st_iload d_304_5) (fun _ _ _ _ _ => rfl)
theorem ki_304_3 : js_OkG 304 3 (o_is 5 5) := js_St.okG (st_istore (Nat.le_of_ble_eq_true rfl) d_304_3) (fun _ _ _ _ _ => rfl)
theorem ki_304_2 : js_OkG 304 2 (o_ic 0 3) := js_St.okG (st_iconst rfl d_304_2) (fun _ _ _ _ _ => rfl)
theorem ki_304_1 : js_OkG 304 1 (o_ls 3 2) := js_St.okG (st_lstoren rfl (Nat.le_of_ble_eq_true rfl) d_304_1) (fun _ _ _ _ _ => rfl)
theorem ki_304_0 : js_OkG 304 0 (o_ll 1 1) := js_St.okG (st_lloadn rfl d_304_0) (fun _ _ _ _ _ => rfl)
theorem ki_304_30 : js_OkG 304 30 (o_il 5 32) := js_St.okG (st_iload d_304_30) (fun _ _ _ _ _ => rfl)
theorem ki_304_29 : js_OkG 304 29 (o_div 30) := js_St.okG (st_idiv d_304_29) (fun _ _ _ _ _ => rfl)
theorem ki_304_27 : js_OkG 304 27 (o_ic 8 29) := js_St.okG (st_bipush rfl d_304_27) (fun _ _ _ _ _ => rfl)
theorem ki_304_25 : js_OkG 304 25 (o_il 5 27) := js_St.okG (st_iload d_304_25) (fun _ _ _ _ _ => rfl)
theorem ki_304_24 : js_OkG 304 24 (o_al 0 25) := js_St.okG (st_aloadn rfl d_304_24) (fun _ _ _ _ _ => rfl)
theorem ki_304_23 : js_OkG 304 23 (o_ll 3 24) := js_St.okG (st_lloadn rfl d_304_23) (fun _ _ _ _ _ => rfl)
theorem ki_304_20 : js_OkG 304 20 (o_ne 153 23) := js_St.okG (st_ifne (by decide) d_304_20) (fun _ _ _ _ _ => rfl)
theorem ki_304_19 : js_OkG 304 19 (o_lcmp 20) := js_St.okG (st_lcmp d_304_19) (fun _ _ _ _ _ => rfl)
theorem ki_304_18 : js_OkG 304 18 (o_lc 1 19) := js_St.okG (st_lconst rfl d_304_18) (fun _ _ _ _ _ => rfl)
theorem ki_304_17 : js_OkG 304 17 (o_B2 (fun x y => x &&& y) 18) := js_St.okG (st_land d_304_17) (fun _ _ _ _ _ => rfl)
theorem ki_304_16 : js_OkG 304 16 (o_lc 1 17) := js_St.okG (st_lconst rfl d_304_16) (fun _ _ _ _ _ => rfl)
theorem ki_304_46 : js_OkG 304 46 (o_ic 8 48) := js_St.okG (st_bipush rfl d_304_46) (fun _ _ _ _ _ => rfl)
theorem ki_304_44 : js_OkG 304 44 (o_il 5 46) := js_St.okG (st_iload d_304_44) (fun _ _ _ _ _ => rfl)
theorem ki_304_43 : js_OkG 304 43 (o_lc 1 44) := js_St.okG (st_lconst rfl d_304_43) (fun _ _ _ _ _ => rfl)
theorem ki_304_40 : js_OkG 304 40 (o_cne 53 43) := js_St.okG (st_icne (by decide) d_304_40) (fun _ _ _ _ _ => rfl)
theorem ki_304_39 : js_OkG 304 39 (o_ic 1 40) := js_St.okG (st_iconst rfl d_304_39) (fun _ _ _ _ _ => rfl)
theorem ki_304_36 : js_OkG 304 36 (o_cI 176 4 0 39) := og_sIP rfl rfl kB_304_176 rfl kw_785 kw_786 d_304_36
theorem ki_304_35 : js_OkG 304 35 (o_ic 0 36) := js_St.okG (st_iconst rfl d_304_35) (fun _ _ _ _ _ => rfl)
theorem ki_304_34 : js_OkG 304 34 (o_rem 35) := js_St.okG (st_irem d_304_34) (fun _ _ _ _ _ => rfl)
theorem ki_304_32 : js_OkG 304 32 (o_ic 8 34) := js_St.okG (st_bipush rfl d_304_32) (fun _ _ _ _ _ => rfl)
theorem ki_304_63 : js_OkG 304 63 (o_il 5 65) := js_St.okG (st_iload d_304_63) (fun _ _ _ _ _ => rfl)
theorem ki_304_62 : js_OkG 304 62 (o_div 63) := js_St.okG (st_idiv d_304_62) (fun _ _ _ _ _ => rfl)
theorem ki_304_60 : js_OkG 304 60 (o_ic 8 62) := js_St.okG (st_bipush rfl d_304_60) (fun _ _ _ _ _ => rfl)
theorem ki_304_58 : js_OkG 304 58 (o_il 5 60) := js_St.okG (st_iload d_304_58) (fun _ _ _ _ _ => rfl)
theorem ki_304_57 : js_OkG 304 57 (o_al 0 58) := js_St.okG (st_aloadn rfl d_304_57) (fun _ _ _ _ _ => rfl)
theorem ki_304_56 : js_OkG 304 56 (o_ll 3 57) := js_St.okG (st_lloadn rfl d_304_56) (fun _ _ _ _ _ => rfl)
theorem ki_304_55 : js_OkG 304 55 (o_ls 3 56) := js_St.okG (st_lstoren rfl (Nat.le_of_ble_eq_true rfl) d_304_55) (fun _ _ _ _ _ => rfl)
theorem ki_304_54 : js_OkG 304 54 (o_B2 (fun x y => x ||| y) 55) := js_St.okG (st_lor d_304_54) (fun _ _ _ _ _ => rfl)
theorem ki_304_53 : js_OkG 304 53 (o_lc 0 54) := js_St.okG (st_lconst rfl d_304_53) (fun _ _ _ _ _ => rfl)
theorem ki_304_50 : js_OkG 304 50 (o_go 54) := js_St.okG (st_goto (by decide) d_304_50) (fun _ _ _ _ _ => rfl)
theorem ki_304_49 : js_OkG 304 49 (o_Sh (fun x y => x <<< (y.toInt64 &&& 63)) 50) := js_St.okG (st_lshl d_304_49) (fun _ _ _ _ _ => rfl)
theorem ki_304_48 : js_OkG 304 48 (o_b2 (fun x y => x - y) 49) := js_St.okG (st_isub d_304_48) (fun _ _ _ _ _ => rfl)
theorem ki_304_79 : js_OkG 304 79 (o_ic 1 80) := js_St.okG (st_iconst rfl d_304_79) (fun _ _ _ _ _ => rfl)
theorem ki_304_77 : js_OkG 304 77 (o_il 5 79) := js_St.okG (st_iload d_304_77) (fun _ _ _ _ _ => rfl)
theorem ki_304_76 : js_OkG 304 76 (o_lc 1 77) := js_St.okG (st_lconst rfl d_304_76) (fun _ _ _ _ _ => rfl)
theorem ki_304_73 : js_OkG 304 73 (o_cne 85 76) := js_St.okG (st_icne (by decide) d_304_73) (fun _ _ _ _ _ => rfl)
theorem ki_304_72 : js_OkG 304 72 (o_ic 1 73) := js_St.okG (st_iconst rfl d_304_72) (fun _ _ _ _ _ => rfl)
theorem ki_304_69 : js_OkG 304 69 (o_cI 176 4 0 72) := og_sIP rfl rfl kB_304_176 rfl kw_785 kw_786 d_304_69
theorem ki_304_68 : js_OkG 304 68 (o_ic 1 69) := js_St.okG (st_iconst rfl d_304_68) (fun _ _ _ _ _ => rfl)
theorem ki_304_67 : js_OkG 304 67 (o_rem 68) := js_St.okG (st_irem d_304_67) (fun _ _ _ _ _ => rfl)
theorem ki_304_65 : js_OkG 304 65 (o_ic 8 67) := js_St.okG (st_bipush rfl d_304_65) (fun _ _ _ _ _ => rfl)
theorem ki_304_95 : js_OkG 304 95 (o_il 5 97) := js_St.okG (st_iload d_304_95) (fun _ _ _ _ _ => rfl)
theorem ki_304_94 : js_OkG 304 94 (o_div 95) := js_St.okG (st_idiv d_304_94) (fun _ _ _ _ _ => rfl)
theorem ki_304_92 : js_OkG 304 92 (o_ic 8 94) := js_St.okG (st_bipush rfl d_304_92) (fun _ _ _ _ _ => rfl)
theorem ki_304_90 : js_OkG 304 90 (o_il 5 92) := js_St.okG (st_iload d_304_90) (fun _ _ _ _ _ => rfl)
theorem ki_304_89 : js_OkG 304 89 (o_al 0 90) := js_St.okG (st_aloadn rfl d_304_89) (fun _ _ _ _ _ => rfl)
theorem ki_304_88 : js_OkG 304 88 (o_ll 3 89) := js_St.okG (st_lloadn rfl d_304_88) (fun _ _ _ _ _ => rfl)
theorem ki_304_87 : js_OkG 304 87 (o_ls 3 88) := js_St.okG (st_lstoren rfl (Nat.le_of_ble_eq_true rfl) d_304_87) (fun _ _ _ _ _ => rfl)
theorem ki_304_86 : js_OkG 304 86 (o_B2 (fun x y => x ||| y) 87) := js_St.okG (st_lor d_304_86) (fun _ _ _ _ _ => rfl)
theorem ki_304_85 : js_OkG 304 85 (o_lc 0 86) := js_St.okG (st_lconst rfl d_304_85) (fun _ _ _ _ _ => rfl)
theorem ki_304_82 : js_OkG 304 82 (o_go 86) := js_St.okG (st_goto (by decide) d_304_82) (fun _ _ _ _ _ => rfl)
theorem ki_304_81 : js_OkG 304 81 (o_Sh (fun x y => x <<< (y.toInt64 &&& 63)) 82) := js_St.okG (st_lshl d_304_81) (fun _ _ _ _ _ => rfl)
theorem ki_304_80 : js_OkG 304 80 (o_b2 (fun x y => x + y) 81) := js_St.okG (st_iadd d_304_80) (fun _ _ _ _ _ => rfl)
theorem ki_304_111 : js_OkG 304 111 (o_ic 8 113) := js_St.okG (st_bipush rfl d_304_111) (fun _ _ _ _ _ => rfl)
theorem ki_304_109 : js_OkG 304 109 (o_il 5 111) := js_St.okG (st_iload d_304_109) (fun _ _ _ _ _ => rfl)
theorem ki_304_108 : js_OkG 304 108 (o_lc 1 109) := js_St.okG (st_lconst rfl d_304_108) (fun _ _ _ _ _ => rfl)
theorem ki_304_105 : js_OkG 304 105 (o_cne 118 108) := js_St.okG (st_icne (by decide) d_304_105) (fun _ _ _ _ _ => rfl)
theorem ki_304_104 : js_OkG 304 104 (o_ic 1 105) := js_St.okG (st_iconst rfl d_304_104) (fun _ _ _ _ _ => rfl)
theorem ki_304_101 : js_OkG 304 101 (o_cI 176 4 0 104) := og_sIP rfl rfl kB_304_176 rfl kw_785 kw_786 d_304_101
theorem ki_304_100 : js_OkG 304 100 (o_ic 2 101) := js_St.okG (st_iconst rfl d_304_100) (fun _ _ _ _ _ => rfl)
theorem ki_304_99 : js_OkG 304 99 (o_rem 100) := js_St.okG (st_irem d_304_99) (fun _ _ _ _ _ => rfl)
theorem ki_304_97 : js_OkG 304 97 (o_ic 8 99) := js_St.okG (st_bipush rfl d_304_97) (fun _ _ _ _ _ => rfl)
theorem ki_304_127 : js_OkG 304 127 (o_div 128) := js_St.okG (st_idiv d_304_127) (fun _ _ _ _ _ => rfl)
theorem ki_304_125 : js_OkG 304 125 (o_ic 8 127) := js_St.okG (st_bipush rfl d_304_125) (fun _ _ _ _ _ => rfl)
theorem ki_304_123 : js_OkG 304 123 (o_il 5 125) := js_St.okG (st_iload d_304_123) (fun _ _ _ _ _ => rfl)
theorem ki_304_122 : js_OkG 304 122 (o_al 0 123) := js_St.okG (st_aloadn rfl d_304_122) (fun _ _ _ _ _ => rfl)
theorem ki_304_121 : js_OkG 304 121 (o_ll 3 122) := js_St.okG (st_lloadn rfl d_304_121) (fun _ _ _ _ _ => rfl)
theorem ki_304_120 : js_OkG 304 120 (o_ls 3 121) := js_St.okG (st_lstoren rfl (Nat.le_of_ble_eq_true rfl) d_304_120) (fun _ _ _ _ _ => rfl)
theorem ki_304_119 : js_OkG 304 119 (o_B2 (fun x y => x ||| y) 120) := js_St.okG (st_lor d_304_119) (fun _ _ _ _ _ => rfl)
theorem ki_304_118 : js_OkG 304 118 (o_lc 0 119) := js_St.okG (st_lconst rfl d_304_118) (fun _ _ _ _ _ => rfl)
theorem ki_304_115 : js_OkG 304 115 (o_go 119) := js_St.okG (st_goto (by decide) d_304_115) (fun _ _ _ _ _ => rfl)
theorem ki_304_114 : js_OkG 304 114 (o_Sh (fun x y => x <<< (y.toInt64 &&& 63)) 115) := js_St.okG (st_lshl d_304_114) (fun _ _ _ _ _ => rfl)
theorem ki_304_113 : js_OkG 304 113 (o_b2 (fun x y => x + y) 114) := js_St.okG (st_iadd d_304_113) (fun _ _ _ _ _ => rfl)
theorem ki_304_142 : js_OkG 304 142 (o_il 5 144) := js_St.okG (st_iload d_304_142) (fun _ _ _ _ _ => rfl)
theorem ki_304_141 : js_OkG 304 141 (o_lc 1 142) := js_St.okG (st_lconst rfl d_304_141) (fun _ _ _ _ _ => rfl)
theorem ki_304_138 : js_OkG 304 138 (o_cne 150 141) := js_St.okG (st_icne (by decide) d_304_138) (fun _ _ _ _ _ => rfl)
theorem ki_304_137 : js_OkG 304 137 (o_ic 1 138) := js_St.okG (st_iconst rfl d_304_137) (fun _ _ _ _ _ => rfl)
theorem ki_304_134 : js_OkG 304 134 (o_cI 176 4 0 137) := og_sIP rfl rfl kB_304_176 rfl kw_785 kw_786 d_304_134
theorem ki_304_133 : js_OkG 304 133 (o_ic 3 134) := js_St.okG (st_iconst rfl d_304_133) (fun _ _ _ _ _ => rfl)
theorem ki_304_132 : js_OkG 304 132 (o_rem 133) := js_St.okG (st_irem d_304_132) (fun _ _ _ _ _ => rfl)
theorem ki_304_130 : js_OkG 304 130 (o_ic 8 132) := js_St.okG (st_bipush rfl d_304_130) (fun _ _ _ _ _ => rfl)
theorem ki_304_128 : js_OkG 304 128 (o_il 5 130) := js_St.okG (st_iload d_304_128) (fun _ _ _ _ _ => rfl)
theorem ki_304_159 : js_OkG 304 159 (o_ll 3 160) := js_St.okG (st_lloadn rfl d_304_159) (fun _ _ _ _ _ => rfl)
theorem ki_304_156 : js_OkG 304 156 (o_go 5) := js_St.okG (st_goto (by decide) d_304_156) (fun _ _ _ _ _ => rfl)
theorem ki_304_153 : js_OkG 304 153 (o_inc 5 1 156) := js_St.okG (st_iinc rfl (Nat.le_of_ble_eq_true rfl) d_304_153) (fun _ _ _ _ _ => rfl)
theorem ki_304_152 : js_OkG 304 152 (o_ls 3 153) := js_St.okG (st_lstoren rfl (Nat.le_of_ble_eq_true rfl) d_304_152) (fun _ _ _ _ _ => rfl)
theorem ki_304_151 : js_OkG 304 151 (o_B2 (fun x y => x ||| y) 152) := js_St.okG (st_lor d_304_151) (fun _ _ _ _ _ => rfl)
theorem ki_304_150 : js_OkG 304 150 (o_lc 0 151) := js_St.okG (st_lconst rfl d_304_150) (fun _ _ _ _ _ => rfl)
theorem ki_304_147 : js_OkG 304 147 (o_go 151) := js_St.okG (st_goto (by decide) d_304_147) (fun _ _ _ _ _ => rfl)
theorem ki_304_146 : js_OkG 304 146 (o_Sh (fun x y => x <<< (y.toInt64 &&& 63)) 147) := js_St.okG (st_lshl d_304_146) (fun _ _ _ _ _ => rfl)
theorem ki_304_145 : js_OkG 304 145 (o_b2 (fun x y => x - y) 146) := js_St.okG (st_isub d_304_145) (fun _ _ _ _ _ => rfl)
theorem ki_304_144 : js_OkG 304 144 (o_ic 1 145) := js_St.okG (st_iconst rfl d_304_144) (fun _ _ _ _ _ => rfl)
theorem ki_304_174 : js_OkG 304 174 (o_rL) := og_rL rfl d_304_174
theorem ki_304_171 : js_OkG 304 171 (o_cL 305 2 0 174) := og_sLP rfl rfl kB_304_305 rfl kw_949 kw_950 d_304_171
theorem ki_304_170 : js_OkG 304 170 (o_ll 3 171) := js_St.okG (st_lloadn rfl d_304_170) (fun _ _ _ _ _ => rfl)
theorem ki_304_169 : js_OkG 304 169 (o_al 0 170) := js_St.okG (st_aloadn rfl d_304_169) (fun _ _ _ _ _ => rfl)
theorem ki_304_166 : js_OkG 304 166 (o_go 174) := js_St.okG (st_goto (by decide) d_304_166) (fun _ _ _ _ _ => rfl)
theorem ki_304_165 : js_OkG 304 165 (o_ll 1 166) := js_St.okG (st_lloadn rfl d_304_165) (fun _ _ _ _ _ => rfl)
theorem ki_304_162 : js_OkG 304 162 (o_ne 169 165) := js_St.okG (st_ifne (by decide) d_304_162) (fun _ _ _ _ _ => rfl)
theorem ki_304_161 : js_OkG 304 161 (o_lcmp 162) := js_St.okG (st_lcmp d_304_161) (fun _ _ _ _ _ => rfl)
theorem ki_304_160 : js_OkG 304 160 (o_ll 1 161) := js_St.okG (st_lloadn rfl d_304_160) (fun _ _ _ _ _ => rfl)
set_option maxRecDepth 20000 in
theorem mk_304 : js_mokG 304 := jk_tab (fun _ => js_St.okG st_bad (fun _ _ _ _ _ => rfl)) (show jk_all (js_OkG 304) 0 (tb_G 304) from ⟨⟨ki_304_0, ⟨ki_304_1, ⟨ki_304_2, ⟨ki_304_3, ⟨kbadG, ⟨ki_304_5, ⟨kbadG, ⟨ki_304_7, ⟨kbadG, ⟨ki_304_9, ⟨kbadG, ⟨kbadG, ⟨ki_304_12, ⟨ki_304_13, ⟨kbadG, ⟨ki_304_15, trivial⟩⟩⟩⟩⟩⟩⟩⟩⟩⟩⟩⟩⟩⟩⟩⟩, ⟨⟨ki_304_16, ⟨ki_304_17, ⟨ki_304_18, ⟨ki_304_19, ⟨ki_304_20, ⟨kbadG, ⟨kbadG, ⟨ki_304_23, ⟨ki_304_24, ⟨ki_304_25, ⟨kbadG, ⟨ki_304_27, ⟨kbadG, ⟨ki_304_29, ⟨ki_304_30, ⟨kbadG, trivial⟩⟩⟩⟩⟩⟩⟩⟩⟩⟩⟩⟩⟩⟩⟩⟩, ⟨⟨ki_304_32, ⟨kbadG, ⟨ki_304_34, ⟨ki_304_35, ⟨ki_304_36, ⟨kbadG, ⟨kbadG, ⟨ki_304_39, ⟨ki_304_40, ⟨kbadG, ⟨kbadG, ⟨ki_304_43, ⟨ki_304_44, ⟨kbadG, ⟨ki_304_46, ⟨kbadG, trivial⟩⟩⟩⟩⟩⟩⟩⟩⟩⟩⟩⟩⟩⟩⟩⟩, ⟨⟨ki_304_48, ⟨ki_304_49, ⟨ki_304_50, ⟨kbadG, ⟨kbadG, ⟨ki_304_53, ⟨ki_304_54, ⟨ki_304_55, ⟨ki_304_56, ⟨ki_304_57, ⟨ki_304_58, ⟨kbadG, ⟨ki_304_60, ⟨kbadG, ⟨ki_304_62, ⟨ki_304_63, trivial⟩⟩⟩⟩⟩⟩⟩⟩⟩⟩⟩⟩⟩⟩⟩⟩, ⟨⟨kbadG, ⟨ki_304_65, ⟨kbadG, ⟨ki_304_67, ⟨ki_304_68, ⟨ki_304_69, ⟨kbadG, ⟨kbadG, ⟨ki_304_72, ⟨ki_304_73, ⟨kbadG, ⟨kbadG, ⟨ki_304_76, ⟨ki_304_77, ⟨kbadG, ⟨ki_304_79, trivial⟩⟩⟩⟩⟩⟩⟩⟩⟩⟩⟩⟩⟩⟩⟩⟩, ⟨⟨ki_304_80, ⟨ki_304_81, ⟨ki_304_82, ⟨kbadG, ⟨kbadG, ⟨ki_304_85, ⟨ki_304_86, ⟨ki_304_87, ⟨ki_304_88, ⟨ki_304_89, ⟨ki_304_90, ⟨kbadG, ⟨ki_304_92, ⟨kbadG, ⟨ki_304_94, ⟨ki_304_95, trivial⟩⟩⟩⟩⟩⟩⟩⟩⟩⟩⟩⟩⟩⟩⟩⟩, ⟨⟨kbadG, ⟨ki_304_97, ⟨kbadG, ⟨ki_304_99, ⟨ki_304_100, ⟨ki_304_101, ⟨kbadG, ⟨kbadG, ⟨ki_304_104, ⟨ki_304_105, ⟨kbadG, ⟨kbadG, ⟨ki_304_108, ⟨ki_304_109, ⟨kbadG, ⟨ki_304_111, trivial⟩⟩⟩⟩⟩⟩⟩⟩⟩⟩⟩⟩⟩⟩⟩⟩, ⟨⟨kbadG, ⟨ki_304_113, ⟨ki_304_114, ⟨ki_304_115, ⟨kbadG, ⟨kbadG, ⟨ki_304_118, ⟨ki_304_119, ⟨ki_304_120, ⟨ki_304_121, ⟨ki_304_122, ⟨ki_304_123, ⟨kbadG, ⟨ki_304_125, ⟨kbadG, ⟨ki_304_127, trivial⟩⟩⟩⟩⟩⟩⟩⟩⟩⟩⟩⟩⟩⟩⟩⟩, ⟨⟨ki_304_128, ⟨kbadG, ⟨ki_304_130, ⟨kbadG, ⟨ki_304_132, ⟨ki_304_133, ⟨ki_304_134, ⟨kbadG, ⟨kbadG, ⟨ki_304_137, ⟨ki_304_138, ⟨kbadG, ⟨kbadG, ⟨ki_304_141, ⟨ki_304_142, ⟨kbadG, trivial⟩⟩⟩⟩⟩⟩⟩⟩⟩⟩⟩⟩⟩⟩⟩⟩, ⟨⟨ki_304_144, ⟨ki_304_145, ⟨ki_304_146, ⟨ki_304_147, ⟨kbadG, ⟨kbadG, ⟨ki_304_150, ⟨ki_304_151, ⟨ki_304_152, ⟨ki_304_153, ⟨kbadG, ⟨kbadG, ⟨ki_304_156, ⟨kbadG, ⟨kbadG, ⟨ki_304_159, trivial⟩⟩⟩⟩⟩⟩⟩⟩⟩⟩⟩⟩⟩⟩⟩⟩, ⟨⟨ki_304_160, ⟨ki_304_161, ⟨ki_304_162, ⟨kbadG, ⟨kbadG, ⟨ki_304_165, ⟨ki_304_166, ⟨kbadG, ⟨kbadG, ⟨ki_304_169, ⟨ki_304_170, ⟨ki_304_171, ⟨kbadG, ⟨kbadG, ⟨ki_304_174, trivial⟩⟩⟩⟩⟩⟩⟩⟩⟩⟩⟩⟩⟩⟩⟩, trivial⟩⟩⟩⟩⟩⟩⟩⟩⟩⟩⟩)
theorem d_305_0 : decode (js_b 305) 0 = .ok (.lload_n 1, 1) := d_300_0
theorem d_305_1 : decode (js_b 305) 1 = .ok (.lstore_n 3, 1) := d_300_1
theorem d_305_2 : decode (js_b 305) 2 = .ok (.iconst 0, 1) := d_300_2
theorem d_305_3 : decode (js_b 305) 3 = .ok (.istore 5, 2) := d_300_3
theorem d_305_5 : decode (js_b 305) 5 = .ok (.iload 5, 2) := d_300_5
theorem d_305_7 : decode (js_b 305) 7 = .ok (.bipush 64, 2) := d_300_7
theorem d_305_9 : decode (js_b 305) 9 = .ok (.if_icmp .ge 150, 3) := d_300_9
theorem d_305_12 : decode (js_b 305) 12 = .ok (.lload_n 1, 1) := d_300_12
theorem d_305_13 : decode (js_b 305) 13 = .ok (.iload 5, 2) := d_300_13
theorem d_305_15 : decode (js_b 305) 15 = .ok (.lushr, 1) := d_300_15
theorem d_305_16 : decode (js_b 305) 16 = .ok (.lconst 1, 1) := d_300_16
theorem d_305_17 : decode (js_b 305) 17 = .ok (.land, 1) := d_300_17
theorem d_305_18 : decode (js_b 305) 18 = .ok (.lconst 1, 1) := d_300_18
theorem d_305_19 : decode (js_b 305) 19 = .ok (.lcmp, 1) := d_300_19
theorem d_305_20 : decode (js_b 305) 20 = .ok (.ifCond .ne 133, 3) := d_300_20
theorem d_305_23 : decode (js_b 305) 23 = .ok (.lload_n 3, 1) := d_300_23
theorem d_305_24 : decode (js_b 305) 24 = .ok (.aload_n 0, 1) := d_300_24
theorem d_305_25 : decode (js_b 305) 25 = .ok (.iload 5, 2) := d_300_25
theorem d_305_27 : decode (js_b 305) 27 = .ok (.bipush 8, 2) := d_300_27
theorem d_305_29 : decode (js_b 305) 29 = .ok (.idiv, 1) := d_300_29
theorem d_305_30 : decode (js_b 305) 30 = .ok (.iload 5, 2) := d_300_30
theorem d_305_32 : decode (js_b 305) 32 = .ok (.bipush 8, 2) := d_300_32
theorem d_305_34 : decode (js_b 305) 34 = .ok (.irem, 1) := d_300_34
theorem d_305_35 : decode (js_b 305) 35 = .ok (.iconst 0, 1) := d_300_35
theorem d_305_36 : decode (js_b 305) 36 = .ok (.invokestatic 198, 3) := d_300_36
theorem d_305_39 : decode (js_b 305) 39 = .ok (.iconst 1, 1) := d_300_39
theorem d_305_40 : decode (js_b 305) 40 = .ok (.if_icmp .ne 13, 3) := d_300_40
theorem d_305_43 : decode (js_b 305) 43 = .ok (.lconst 1, 1) := d_300_43
theorem d_305_44 : decode (js_b 305) 44 = .ok (.iload 5, 2) := d_300_44
theorem d_305_46 : decode (js_b 305) 46 = .ok (.bipush 8, 2) := d_300_46
theorem d_305_48 : decode (js_b 305) 48 = .ok (.isub, 1) := d_300_48
theorem d_305_49 : decode (js_b 305) 49 = .ok (.lshl, 1) := d_300_49
theorem d_305_50 : decode (js_b 305) 50 = .ok (.goto 4, 3) := d_300_50
theorem d_305_53 : decode (js_b 305) 53 = .ok (.lconst 0, 1) := d_300_53
theorem d_305_54 : decode (js_b 305) 54 = .ok (.lor, 1) := d_300_54
theorem d_305_55 : decode (js_b 305) 55 = .ok (.lstore_n 3, 1) := d_300_55
theorem d_305_56 : decode (js_b 305) 56 = .ok (.lload_n 3, 1) := d_300_56
theorem d_305_57 : decode (js_b 305) 57 = .ok (.aload_n 0, 1) := d_300_57
theorem d_305_58 : decode (js_b 305) 58 = .ok (.iload 5, 2) := d_300_58
theorem d_305_60 : decode (js_b 305) 60 = .ok (.bipush 8, 2) := d_300_60
theorem d_305_62 : decode (js_b 305) 62 = .ok (.idiv, 1) := d_300_62
theorem d_305_63 : decode (js_b 305) 63 = .ok (.iload 5, 2) := d_300_63
theorem d_305_65 : decode (js_b 305) 65 = .ok (.bipush 8, 2) := d_300_65
theorem d_305_67 : decode (js_b 305) 67 = .ok (.irem, 1) := d_300_67
theorem d_305_68 : decode (js_b 305) 68 = .ok (.iconst 1, 1) := d_300_68
theorem d_305_69 : decode (js_b 305) 69 = .ok (.invokestatic 198, 3) := d_300_69
theorem d_305_72 : decode (js_b 305) 72 = .ok (.iconst 1, 1) := d_300_72
theorem d_305_73 : decode (js_b 305) 73 = .ok (.if_icmp .ne 12, 3) := d_300_73
theorem d_305_76 : decode (js_b 305) 76 = .ok (.lconst 1, 1) := d_300_76
theorem d_305_77 : decode (js_b 305) 77 = .ok (.iload 5, 2) := d_300_77
theorem d_305_79 : decode (js_b 305) 79 = .ok (.iconst 1, 1) := d_300_79
theorem d_305_80 : decode (js_b 305) 80 = .ok (.iadd, 1) := d_300_80
theorem d_305_81 : decode (js_b 305) 81 = .ok (.lshl, 1) := d_300_81
theorem d_305_82 : decode (js_b 305) 82 = .ok (.goto 4, 3) := d_300_82
theorem d_305_85 : decode (js_b 305) 85 = .ok (.lconst 0, 1) := d_300_85
theorem d_305_86 : decode (js_b 305) 86 = .ok (.lor, 1) := d_300_86
theorem d_305_87 : decode (js_b 305) 87 = .ok (.lstore_n 3, 1) := d_300_87
theorem d_305_88 : decode (js_b 305) 88 = .ok (.lload_n 3, 1) := d_300_88
theorem d_305_89 : decode (js_b 305) 89 = .ok (.aload_n 0, 1) := d_300_89
theorem d_305_90 : decode (js_b 305) 90 = .ok (.iload 5, 2) := d_300_90
theorem d_305_92 : decode (js_b 305) 92 = .ok (.bipush 8, 2) := d_300_92
theorem d_305_94 : decode (js_b 305) 94 = .ok (.idiv, 1) := d_300_94
theorem d_305_95 : decode (js_b 305) 95 = .ok (.iload 5, 2) := d_300_95
theorem d_305_97 : decode (js_b 305) 97 = .ok (.bipush 8, 2) := d_300_97
theorem d_305_99 : decode (js_b 305) 99 = .ok (.irem, 1) := d_300_99
theorem d_305_100 : decode (js_b 305) 100 = .ok (.iconst 2, 1) := d_300_100
theorem d_305_101 : decode (js_b 305) 101 = .ok (.invokestatic 198, 3) := d_300_101
theorem d_305_104 : decode (js_b 305) 104 = .ok (.iconst 1, 1) := d_300_104
theorem d_305_105 : decode (js_b 305) 105 = .ok (.if_icmp .ne 13, 3) := d_300_105
theorem d_305_108 : decode (js_b 305) 108 = .ok (.lconst 1, 1) := d_300_108
theorem d_305_109 : decode (js_b 305) 109 = .ok (.iload 5, 2) := d_300_109
theorem d_305_111 : decode (js_b 305) 111 = .ok (.bipush 8, 2) := d_300_111
theorem d_305_113 : decode (js_b 305) 113 = .ok (.iadd, 1) := d_300_113
theorem d_305_114 : decode (js_b 305) 114 = .ok (.lshl, 1) := d_300_114
theorem d_305_115 : decode (js_b 305) 115 = .ok (.goto 4, 3) := d_300_115
theorem d_305_118 : decode (js_b 305) 118 = .ok (.lconst 0, 1) := d_300_118
theorem d_305_119 : decode (js_b 305) 119 = .ok (.lor, 1) := d_300_119
theorem d_305_120 : decode (js_b 305) 120 = .ok (.lstore_n 3, 1) := d_300_120
theorem d_305_121 : decode (js_b 305) 121 = .ok (.lload_n 3, 1) := d_300_121
theorem d_305_122 : decode (js_b 305) 122 = .ok (.aload_n 0, 1) := d_300_122
theorem d_305_123 : decode (js_b 305) 123 = .ok (.iload 5, 2) := d_300_123
theorem d_305_125 : decode (js_b 305) 125 = .ok (.bipush 8, 2) := d_300_125
theorem d_305_127 : decode (js_b 305) 127 = .ok (.idiv, 1) := d_300_127
theorem d_305_128 : decode (js_b 305) 128 = .ok (.iload 5, 2) := d_300_128
theorem d_305_130 : decode (js_b 305) 130 = .ok (.bipush 8, 2) := d_300_130
theorem d_305_132 : decode (js_b 305) 132 = .ok (.irem, 1) := d_300_132
theorem d_305_133 : decode (js_b 305) 133 = .ok (.iconst 3, 1) := d_300_133
theorem d_305_134 : decode (js_b 305) 134 = .ok (.invokestatic 198, 3) := d_300_134
theorem d_305_137 : decode (js_b 305) 137 = .ok (.iconst 1, 1) := d_300_137
theorem d_305_138 : decode (js_b 305) 138 = .ok (.if_icmp .ne 12, 3) := d_300_138
theorem d_305_141 : decode (js_b 305) 141 = .ok (.lconst 1, 1) := d_300_141
theorem d_305_142 : decode (js_b 305) 142 = .ok (.iload 5, 2) := d_300_142
theorem d_305_144 : decode (js_b 305) 144 = .ok (.iconst 1, 1) := d_300_144
theorem d_305_145 : decode (js_b 305) 145 = .ok (.isub, 1) := d_300_145
theorem d_305_146 : decode (js_b 305) 146 = .ok (.lshl, 1) := d_300_146
theorem d_305_147 : decode (js_b 305) 147 = .ok (.goto 4, 3) := d_300_147
theorem d_305_150 : decode (js_b 305) 150 = .ok (.lconst 0, 1) := d_300_150
theorem d_305_151 : decode (js_b 305) 151 = .ok (.lor, 1) := d_300_151
theorem d_305_152 : decode (js_b 305) 152 = .ok (.lstore_n 3, 1) := d_300_152
theorem d_305_153 : decode (js_b 305) 153 = .ok (.iinc 5 1, 3) := d_300_153
theorem d_305_156 : decode (js_b 305) 156 = .ok (.goto (-151), 3) := d_300_156
theorem d_305_159 : decode (js_b 305) 159 = .ok (.lload_n 3, 1) := d_300_159
theorem d_305_160 : decode (js_b 305) 160 = .ok (.lload_n 1, 1) := d_300_160
theorem d_305_161 : decode (js_b 305) 161 = .ok (.lcmp, 1) := d_300_161
theorem d_305_162 : decode (js_b 305) 162 = .ok (.ifCond .ne 7, 3) := d_300_162
theorem d_305_165 : decode (js_b 305) 165 = .ok (.lload_n 1, 1) := d_300_165
theorem d_305_166 : decode (js_b 305) 166 = .ok (.goto 8, 3) := d_300_166
theorem d_305_169 : decode (js_b 305) 169 = .ok (.aload_n 0, 1) := d_300_169
theorem d_305_170 : decode (js_b 305) 170 = .ok (.lload_n 3, 1) := d_300_170
theorem d_305_171 : decode (js_b 305) 171 = .ok (.invokestatic 323, 3) := d_300_171
theorem d_305_174 : decode (js_b 305) 174 = .ok (.lreturn, 1) := d_300_174
theorem ki_305_15 : js_OkG 305 15 (o_Sh (fun x y => (x.toUInt64 >>> (y.toInt64.toUInt64 &&& Int64.toUInt64 63)).toInt64) 16) := js_St.okG (st_lushr d_305_15) (fun _ _ _ _ _ => rfl)
theorem ki_305_13 : js_OkG 305 13 (o_il 5 15) := js_St.okG (st_iload d_305_13) (fun _ _ _ _ _ => rfl)
theorem ki_305_12 : js_OkG 305 12 (o_ll 1 13) := js_St.okG (st_lloadn rfl d_305_12) (fun _ _ _ _ _ => rfl)
theorem ki_305_9 : js_OkG 305 9 (o_cge 159 12) := js_St.okG (st_icge (by decide) d_305_9) (fun _ _ _ _ _ => rfl)
theorem ki_305_7 : js_OkG 305 7 (o_ic 64 9) := js_St.okG (st_bipush rfl d_305_7) (fun _ _ _ _ _ => rfl)
theorem ki_305_5 : js_OkG 305 5 (o_il 5 7) := js_St.okG (st_iload d_305_5) (fun _ _ _ _ _ => rfl)
theorem ki_305_3 : js_OkG 305 3 (o_is 5 5) := js_St.okG (st_istore (Nat.le_of_ble_eq_true rfl) d_305_3) (fun _ _ _ _ _ => rfl)
theorem ki_305_2 : js_OkG 305 2 (o_ic 0 3) := js_St.okG (st_iconst rfl d_305_2) (fun _ _ _ _ _ => rfl)
theorem ki_305_1 : js_OkG 305 1 (o_ls 3 2) := js_St.okG (st_lstoren rfl (Nat.le_of_ble_eq_true rfl) d_305_1) (fun _ _ _ _ _ => rfl)
theorem ki_305_0 : js_OkG 305 0 (o_ll 1 1) := js_St.okG (st_lloadn rfl d_305_0) (fun _ _ _ _ _ => rfl)
theorem ki_305_30 : js_OkG 305 30 (o_il 5 32) := js_St.okG (st_iload d_305_30) (fun _ _ _ _ _ => rfl)
theorem ki_305_29 : js_OkG 305 29 (o_div 30) := js_St.okG (st_idiv d_305_29) (fun _ _ _ _ _ => rfl)
theorem ki_305_27 : js_OkG 305 27 (o_ic 8 29) := js_St.okG (st_bipush rfl d_305_27) (fun _ _ _ _ _ => rfl)
theorem ki_305_25 : js_OkG 305 25 (o_il 5 27) := js_St.okG (st_iload d_305_25) (fun _ _ _ _ _ => rfl)
theorem ki_305_24 : js_OkG 305 24 (o_al 0 25) := js_St.okG (st_aloadn rfl d_305_24) (fun _ _ _ _ _ => rfl)
theorem ki_305_23 : js_OkG 305 23 (o_ll 3 24) := js_St.okG (st_lloadn rfl d_305_23) (fun _ _ _ _ _ => rfl)
theorem ki_305_20 : js_OkG 305 20 (o_ne 153 23) := js_St.okG (st_ifne (by decide) d_305_20) (fun _ _ _ _ _ => rfl)
theorem ki_305_19 : js_OkG 305 19 (o_lcmp 20) := js_St.okG (st_lcmp d_305_19) (fun _ _ _ _ _ => rfl)
theorem ki_305_18 : js_OkG 305 18 (o_lc 1 19) := js_St.okG (st_lconst rfl d_305_18) (fun _ _ _ _ _ => rfl)
theorem ki_305_17 : js_OkG 305 17 (o_B2 (fun x y => x &&& y) 18) := js_St.okG (st_land d_305_17) (fun _ _ _ _ _ => rfl)
theorem ki_305_16 : js_OkG 305 16 (o_lc 1 17) := js_St.okG (st_lconst rfl d_305_16) (fun _ _ _ _ _ => rfl)
theorem ki_305_46 : js_OkG 305 46 (o_ic 8 48) := js_St.okG (st_bipush rfl d_305_46) (fun _ _ _ _ _ => rfl)
theorem ki_305_44 : js_OkG 305 44 (o_il 5 46) := js_St.okG (st_iload d_305_44) (fun _ _ _ _ _ => rfl)
theorem ki_305_43 : js_OkG 305 43 (o_lc 1 44) := js_St.okG (st_lconst rfl d_305_43) (fun _ _ _ _ _ => rfl)
theorem ki_305_40 : js_OkG 305 40 (o_cne 53 43) := js_St.okG (st_icne (by decide) d_305_40) (fun _ _ _ _ _ => rfl)
theorem ki_305_39 : js_OkG 305 39 (o_ic 1 40) := js_St.okG (st_iconst rfl d_305_39) (fun _ _ _ _ _ => rfl)
theorem ki_305_36 : js_OkG 305 36 (o_cI 176 4 0 39) := og_sIP rfl rfl kB_305_176 rfl kw_785 kw_786 d_305_36
theorem ki_305_35 : js_OkG 305 35 (o_ic 0 36) := js_St.okG (st_iconst rfl d_305_35) (fun _ _ _ _ _ => rfl)
theorem ki_305_34 : js_OkG 305 34 (o_rem 35) := js_St.okG (st_irem d_305_34) (fun _ _ _ _ _ => rfl)
theorem ki_305_32 : js_OkG 305 32 (o_ic 8 34) := js_St.okG (st_bipush rfl d_305_32) (fun _ _ _ _ _ => rfl)
theorem ki_305_63 : js_OkG 305 63 (o_il 5 65) := js_St.okG (st_iload d_305_63) (fun _ _ _ _ _ => rfl)
theorem ki_305_62 : js_OkG 305 62 (o_div 63) := js_St.okG (st_idiv d_305_62) (fun _ _ _ _ _ => rfl)
theorem ki_305_60 : js_OkG 305 60 (o_ic 8 62) := js_St.okG (st_bipush rfl d_305_60) (fun _ _ _ _ _ => rfl)
theorem ki_305_58 : js_OkG 305 58 (o_il 5 60) := js_St.okG (st_iload d_305_58) (fun _ _ _ _ _ => rfl)
theorem ki_305_57 : js_OkG 305 57 (o_al 0 58) := js_St.okG (st_aloadn rfl d_305_57) (fun _ _ _ _ _ => rfl)
theorem ki_305_56 : js_OkG 305 56 (o_ll 3 57) := js_St.okG (st_lloadn rfl d_305_56) (fun _ _ _ _ _ => rfl)
theorem ki_305_55 : js_OkG 305 55 (o_ls 3 56) := js_St.okG (st_lstoren rfl (Nat.le_of_ble_eq_true rfl) d_305_55) (fun _ _ _ _ _ => rfl)
theorem ki_305_54 : js_OkG 305 54 (o_B2 (fun x y => x ||| y) 55) := js_St.okG (st_lor d_305_54) (fun _ _ _ _ _ => rfl)
theorem ki_305_53 : js_OkG 305 53 (o_lc 0 54) := js_St.okG (st_lconst rfl d_305_53) (fun _ _ _ _ _ => rfl)
theorem ki_305_50 : js_OkG 305 50 (o_go 54) := js_St.okG (st_goto (by decide) d_305_50) (fun _ _ _ _ _ => rfl)
theorem ki_305_49 : js_OkG 305 49 (o_Sh (fun x y => x <<< (y.toInt64 &&& 63)) 50) := js_St.okG (st_lshl d_305_49) (fun _ _ _ _ _ => rfl)
theorem ki_305_48 : js_OkG 305 48 (o_b2 (fun x y => x - y) 49) := js_St.okG (st_isub d_305_48) (fun _ _ _ _ _ => rfl)
theorem ki_305_79 : js_OkG 305 79 (o_ic 1 80) := js_St.okG (st_iconst rfl d_305_79) (fun _ _ _ _ _ => rfl)
theorem ki_305_77 : js_OkG 305 77 (o_il 5 79) := js_St.okG (st_iload d_305_77) (fun _ _ _ _ _ => rfl)
theorem ki_305_76 : js_OkG 305 76 (o_lc 1 77) := js_St.okG (st_lconst rfl d_305_76) (fun _ _ _ _ _ => rfl)
theorem ki_305_73 : js_OkG 305 73 (o_cne 85 76) := js_St.okG (st_icne (by decide) d_305_73) (fun _ _ _ _ _ => rfl)
theorem ki_305_72 : js_OkG 305 72 (o_ic 1 73) := js_St.okG (st_iconst rfl d_305_72) (fun _ _ _ _ _ => rfl)
theorem ki_305_69 : js_OkG 305 69 (o_cI 176 4 0 72) := og_sIP rfl rfl kB_305_176 rfl kw_785 kw_786 d_305_69
theorem ki_305_68 : js_OkG 305 68 (o_ic 1 69) := js_St.okG (st_iconst rfl d_305_68) (fun _ _ _ _ _ => rfl)
theorem ki_305_67 : js_OkG 305 67 (o_rem 68) := js_St.okG (st_irem d_305_67) (fun _ _ _ _ _ => rfl)
theorem ki_305_65 : js_OkG 305 65 (o_ic 8 67) := js_St.okG (st_bipush rfl d_305_65) (fun _ _ _ _ _ => rfl)
theorem ki_305_95 : js_OkG 305 95 (o_il 5 97) := js_St.okG (st_iload d_305_95) (fun _ _ _ _ _ => rfl)
theorem ki_305_94 : js_OkG 305 94 (o_div 95) := js_St.okG (st_idiv d_305_94) (fun _ _ _ _ _ => rfl)
theorem ki_305_92 : js_OkG 305 92 (o_ic 8 94) := js_St.okG (st_bipush rfl d_305_92) (fun _ _ _ _ _ => rfl)
theorem ki_305_90 : js_OkG 305 90 (o_il 5 92) := js_St.okG (st_iload d_305_90) (fun _ _ _ _ _ => rfl)
theorem ki_305_89 : js_OkG 305 89 (o_al 0 90) := js_St.okG (st_aloadn rfl d_305_89) (fun _ _ _ _ _ => rfl)
theorem ki_305_88 : js_OkG 305 88 (o_ll 3 89) := js_St.okG (st_lloadn rfl d_305_88) (fun _ _ _ _ _ => rfl)
theorem ki_305_87 : js_OkG 305 87 (o_ls 3 88) := js_St.okG (st_lstoren rfl (Nat.le_of_ble_eq_true rfl) d_305_87) (fun _ _ _ _ _ => rfl)
theorem ki_305_86 : js_OkG 305 86 (o_B2 (fun x y => x ||| y) 87) := js_St.okG (st_lor d_305_86) (fun _ _ _ _ _ => rfl)
theorem ki_305_85 : js_OkG 305 85 (o_lc 0 86) := js_St.okG (st_lconst rfl d_305_85) (fun _ _ _ _ _ => rfl)
theorem ki_305_82 : js_OkG 305 82 (o_go 86) := js_St.okG (st_goto (by decide) d_305_82) (fun _ _ _ _ _ => rfl)
theorem ki_305_81 : js_OkG 305 81 (o_Sh (fun x y => x <<< (y.toInt64 &&& 63)) 82) := js_St.okG (st_lshl d_305_81) (fun _ _ _ _ _ => rfl)
theorem ki_305_80 : js_OkG 305 80 (o_b2 (fun x y => x + y) 81) := js_St.okG (st_iadd d_305_80) (fun _ _ _ _ _ => rfl)
theorem ki_305_111 : js_OkG 305 111 (o_ic 8 113) := js_St.okG (st_bipush rfl d_305_111) (fun _ _ _ _ _ => rfl)
theorem ki_305_109 : js_OkG 305 109 (o_il 5 111) := js_St.okG (st_iload d_305_109) (fun _ _ _ _ _ => rfl)
theorem ki_305_108 : js_OkG 305 108 (o_lc 1 109) := js_St.okG (st_lconst rfl d_305_108) (fun _ _ _ _ _ => rfl)
theorem ki_305_105 : js_OkG 305 105 (o_cne 118 108) := js_St.okG (st_icne (by decide) d_305_105) (fun _ _ _ _ _ => rfl)
theorem ki_305_104 : js_OkG 305 104 (o_ic 1 105) := js_St.okG (st_iconst rfl d_305_104) (fun _ _ _ _ _ => rfl)
theorem ki_305_101 : js_OkG 305 101 (o_cI 176 4 0 104) := og_sIP rfl rfl kB_305_176 rfl kw_785 kw_786 d_305_101
theorem ki_305_100 : js_OkG 305 100 (o_ic 2 101) := js_St.okG (st_iconst rfl d_305_100) (fun _ _ _ _ _ => rfl)
theorem ki_305_99 : js_OkG 305 99 (o_rem 100) := js_St.okG (st_irem d_305_99) (fun _ _ _ _ _ => rfl)
theorem ki_305_97 : js_OkG 305 97 (o_ic 8 99) := js_St.okG (st_bipush rfl d_305_97) (fun _ _ _ _ _ => rfl)
theorem ki_305_127 : js_OkG 305 127 (o_div 128) := js_St.okG (st_idiv d_305_127) (fun _ _ _ _ _ => rfl)
theorem ki_305_125 : js_OkG 305 125 (o_ic 8 127) := js_St.okG (st_bipush rfl d_305_125) (fun _ _ _ _ _ => rfl)
theorem ki_305_123 : js_OkG 305 123 (o_il 5 125) := js_St.okG (st_iload d_305_123) (fun _ _ _ _ _ => rfl)
theorem ki_305_122 : js_OkG 305 122 (o_al 0 123) := js_St.okG (st_aloadn rfl d_305_122) (fun _ _ _ _ _ => rfl)
theorem ki_305_121 : js_OkG 305 121 (o_ll 3 122) := js_St.okG (st_lloadn rfl d_305_121) (fun _ _ _ _ _ => rfl)
theorem ki_305_120 : js_OkG 305 120 (o_ls 3 121) := js_St.okG (st_lstoren rfl (Nat.le_of_ble_eq_true rfl) d_305_120) (fun _ _ _ _ _ => rfl)
theorem ki_305_119 : js_OkG 305 119 (o_B2 (fun x y => x ||| y) 120) := js_St.okG (st_lor d_305_119) (fun _ _ _ _ _ => rfl)
theorem ki_305_118 : js_OkG 305 118 (o_lc 0 119) := js_St.okG (st_lconst rfl d_305_118) (fun _ _ _ _ _ => rfl)
theorem ki_305_115 : js_OkG 305 115 (o_go 119) := js_St.okG (st_goto (by decide) d_305_115) (fun _ _ _ _ _ => rfl)
theorem ki_305_114 : js_OkG 305 114 (o_Sh (fun x y => x <<< (y.toInt64 &&& 63)) 115) := js_St.okG (st_lshl d_305_114) (fun _ _ _ _ _ => rfl)
theorem ki_305_113 : js_OkG 305 113 (o_b2 (fun x y => x + y) 114) := js_St.okG (st_iadd d_305_113) (fun _ _ _ _ _ => rfl)
theorem ki_305_142 : js_OkG 305 142 (o_il 5 144) := js_St.okG (st_iload d_305_142) (fun _ _ _ _ _ => rfl)
theorem ki_305_141 : js_OkG 305 141 (o_lc 1 142) := js_St.okG (st_lconst rfl d_305_141) (fun _ _ _ _ _ => rfl)
theorem ki_305_138 : js_OkG 305 138 (o_cne 150 141) := js_St.okG (st_icne (by decide) d_305_138) (fun _ _ _ _ _ => rfl)
theorem ki_305_137 : js_OkG 305 137 (o_ic 1 138) := js_St.okG (st_iconst rfl d_305_137) (fun _ _ _ _ _ => rfl)
theorem ki_305_134 : js_OkG 305 134 (o_cI 176 4 0 137) := og_sIP rfl rfl kB_305_176 rfl kw_785 kw_786 d_305_134
theorem ki_305_133 : js_OkG 305 133 (o_ic 3 134) := js_St.okG (st_iconst rfl d_305_133) (fun _ _ _ _ _ => rfl)
theorem ki_305_132 : js_OkG 305 132 (o_rem 133) := js_St.okG (st_irem d_305_132) (fun _ _ _ _ _ => rfl)
theorem ki_305_130 : js_OkG 305 130 (o_ic 8 132) := js_St.okG (st_bipush rfl d_305_130) (fun _ _ _ _ _ => rfl)
theorem ki_305_128 : js_OkG 305 128 (o_il 5 130) := js_St.okG (st_iload d_305_128) (fun _ _ _ _ _ => rfl)
theorem ki_305_159 : js_OkG 305 159 (o_ll 3 160) := js_St.okG (st_lloadn rfl d_305_159) (fun _ _ _ _ _ => rfl)
theorem ki_305_156 : js_OkG 305 156 (o_go 5) := js_St.okG (st_goto (by decide) d_305_156) (fun _ _ _ _ _ => rfl)
theorem ki_305_153 : js_OkG 305 153 (o_inc 5 1 156) := js_St.okG (st_iinc rfl (Nat.le_of_ble_eq_true rfl) d_305_153) (fun _ _ _ _ _ => rfl)
theorem ki_305_152 : js_OkG 305 152 (o_ls 3 153) := js_St.okG (st_lstoren rfl (Nat.le_of_ble_eq_true rfl) d_305_152) (fun _ _ _ _ _ => rfl)
theorem ki_305_151 : js_OkG 305 151 (o_B2 (fun x y => x ||| y) 152) := js_St.okG (st_lor d_305_151) (fun _ _ _ _ _ => rfl)
theorem ki_305_150 : js_OkG 305 150 (o_lc 0 151) := js_St.okG (st_lconst rfl d_305_150) (fun _ _ _ _ _ => rfl)
theorem ki_305_147 : js_OkG 305 147 (o_go 151) := js_St.okG (st_goto (by decide) d_305_147) (fun _ _ _ _ _ => rfl)
theorem ki_305_146 : js_OkG 305 146 (o_Sh (fun x y => x <<< (y.toInt64 &&& 63)) 147) := js_St.okG (st_lshl d_305_146) (fun _ _ _ _ _ => rfl)
theorem ki_305_145 : js_OkG 305 145 (o_b2 (fun x y => x - y) 146) := js_St.okG (st_isub d_305_145) (fun _ _ _ _ _ => rfl)
theorem ki_305_144 : js_OkG 305 144 (o_ic 1 145) := js_St.okG (st_iconst rfl d_305_144) (fun _ _ _ _ _ => rfl)
theorem ki_305_174 : js_OkG 305 174 (o_rL) := og_rL rfl d_305_174
theorem ki_305_171 : js_OkG 305 171 (o_cL 306 2 0 174) := og_sLP rfl rfl kB_305_306 rfl kw_949 kw_950 d_305_171
theorem ki_305_170 : js_OkG 305 170 (o_ll 3 171) := js_St.okG (st_lloadn rfl d_305_170) (fun _ _ _ _ _ => rfl)
theorem ki_305_169 : js_OkG 305 169 (o_al 0 170) := js_St.okG (st_aloadn rfl d_305_169) (fun _ _ _ _ _ => rfl)
theorem ki_305_166 : js_OkG 305 166 (o_go 174) := js_St.okG (st_goto (by decide) d_305_166) (fun _ _ _ _ _ => rfl)
theorem ki_305_165 : js_OkG 305 165 (o_ll 1 166) := js_St.okG (st_lloadn rfl d_305_165) (fun _ _ _ _ _ => rfl)
theorem ki_305_162 : js_OkG 305 162 (o_ne 169 165) := js_St.okG (st_ifne (by decide) d_305_162) (fun _ _ _ _ _ => rfl)
theorem ki_305_161 : js_OkG 305 161 (o_lcmp 162) := js_St.okG (st_lcmp d_305_161) (fun _ _ _ _ _ => rfl)
theorem ki_305_160 : js_OkG 305 160 (o_ll 1 161) := js_St.okG (st_lloadn rfl d_305_160) (fun _ _ _ _ _ => rfl)
set_option maxRecDepth 20000 in
theorem mk_305 : js_mokG 305 := jk_tab (fun _ => js_St.okG st_bad (fun _ _ _ _ _ => rfl)) (show jk_all (js_OkG 305) 0 (tb_G 305) from ⟨⟨ki_305_0, ⟨ki_305_1, ⟨ki_305_2, ⟨ki_305_3, ⟨kbadG, ⟨ki_305_5, ⟨kbadG, ⟨ki_305_7, ⟨kbadG, ⟨ki_305_9, ⟨kbadG, ⟨kbadG, ⟨ki_305_12, ⟨ki_305_13, ⟨kbadG, ⟨ki_305_15, trivial⟩⟩⟩⟩⟩⟩⟩⟩⟩⟩⟩⟩⟩⟩⟩⟩, ⟨⟨ki_305_16, ⟨ki_305_17, ⟨ki_305_18, ⟨ki_305_19, ⟨ki_305_20, ⟨kbadG, ⟨kbadG, ⟨ki_305_23, ⟨ki_305_24, ⟨ki_305_25, ⟨kbadG, ⟨ki_305_27, ⟨kbadG, ⟨ki_305_29, ⟨ki_305_30, ⟨kbadG, trivial⟩⟩⟩⟩⟩⟩⟩⟩⟩⟩⟩⟩⟩⟩⟩⟩, ⟨⟨ki_305_32, ⟨kbadG, ⟨ki_305_34, ⟨ki_305_35, ⟨ki_305_36, ⟨kbadG, ⟨kbadG, ⟨ki_305_39, ⟨ki_305_40, ⟨kbadG, ⟨kbadG, ⟨ki_305_43, ⟨ki_305_44, ⟨kbadG, ⟨ki_305_46, ⟨kbadG, trivial⟩⟩⟩⟩⟩⟩⟩⟩⟩⟩⟩⟩⟩⟩⟩⟩, ⟨⟨ki_305_48, ⟨ki_305_49, ⟨ki_305_50, ⟨kbadG, ⟨kbadG, ⟨ki_305_53, ⟨ki_305_54, ⟨ki_305_55, ⟨ki_305_56, ⟨ki_305_57, ⟨ki_305_58, ⟨kbadG, ⟨ki_305_60, ⟨kbadG, ⟨ki_305_62, ⟨ki_305_63, trivial⟩⟩⟩⟩⟩⟩⟩⟩⟩⟩⟩⟩⟩⟩⟩⟩, ⟨⟨kbadG, ⟨ki_305_65, ⟨kbadG, ⟨ki_305_67, ⟨ki_305_68, ⟨ki_305_69, ⟨kbadG, ⟨kbadG, ⟨ki_305_72, ⟨ki_305_73, ⟨kbadG, ⟨kbadG, ⟨ki_305_76, ⟨ki_305_77, ⟨kbadG, ⟨ki_305_79, trivial⟩⟩⟩⟩⟩⟩⟩⟩⟩⟩⟩⟩⟩⟩⟩⟩, ⟨⟨ki_305_80, ⟨ki_305_81, ⟨ki_305_82, ⟨kbadG, ⟨kbadG, ⟨ki_305_85, ⟨ki_305_86, ⟨ki_305_87, ⟨ki_305_88, ⟨ki_305_89, ⟨ki_305_90, ⟨kbadG, ⟨ki_305_92, ⟨kbadG, ⟨ki_305_94, ⟨ki_305_95, trivial⟩⟩⟩⟩⟩⟩⟩⟩⟩⟩⟩⟩⟩⟩⟩⟩, ⟨⟨kbadG, ⟨ki_305_97, ⟨kbadG, ⟨ki_305_99, ⟨ki_305_100, ⟨ki_305_101, ⟨kbadG, ⟨kbadG, ⟨ki_305_104, ⟨ki_305_105, ⟨kbadG, ⟨kbadG, ⟨ki_305_108, ⟨ki_305_109, ⟨kbadG, ⟨ki_305_111, trivial⟩⟩⟩⟩⟩⟩⟩⟩⟩⟩⟩⟩⟩⟩⟩⟩, ⟨⟨kbadG, ⟨ki_305_113, ⟨ki_305_114, ⟨ki_305_115, ⟨kbadG, ⟨kbadG, ⟨ki_305_118, ⟨ki_305_119, ⟨ki_305_120, ⟨ki_305_121, ⟨ki_305_122, ⟨ki_305_123, ⟨kbadG, ⟨ki_305_125, ⟨kbadG, ⟨ki_305_127, trivial⟩⟩⟩⟩⟩⟩⟩⟩⟩⟩⟩⟩⟩⟩⟩⟩, ⟨⟨ki_305_128, ⟨kbadG, ⟨ki_305_130, ⟨kbadG, ⟨ki_305_132, ⟨ki_305_133, ⟨ki_305_134, ⟨kbadG, ⟨kbadG, ⟨ki_305_137, ⟨ki_305_138, ⟨kbadG, ⟨kbadG, ⟨ki_305_141, ⟨ki_305_142, ⟨kbadG, trivial⟩⟩⟩⟩⟩⟩⟩⟩⟩⟩⟩⟩⟩⟩⟩⟩, ⟨⟨ki_305_144, ⟨ki_305_145, ⟨ki_305_146, ⟨ki_305_147, ⟨kbadG, ⟨kbadG, ⟨ki_305_150, ⟨ki_305_151, ⟨ki_305_152, ⟨ki_305_153, ⟨kbadG, ⟨kbadG, ⟨ki_305_156, ⟨kbadG, ⟨kbadG, ⟨ki_305_159, trivial⟩⟩⟩⟩⟩⟩⟩⟩⟩⟩⟩⟩⟩⟩⟩⟩, ⟨⟨ki_305_160, ⟨ki_305_161, ⟨ki_305_162, ⟨kbadG, ⟨kbadG, ⟨ki_305_165, ⟨ki_305_166, ⟨kbadG, ⟨kbadG, ⟨ki_305_169, ⟨ki_305_170, ⟨ki_305_171, ⟨kbadG, ⟨kbadG, ⟨ki_305_174, trivial⟩⟩⟩⟩⟩⟩⟩⟩⟩⟩⟩⟩⟩⟩⟩, trivial⟩⟩⟩⟩⟩⟩⟩⟩⟩⟩⟩)
theorem d_306_0 : decode (js_b 306) 0 = .ok (.lload_n 1, 1) := d_300_0
theorem d_306_1 : decode (js_b 306) 1 = .ok (.lstore_n 3, 1) := d_300_1
theorem d_306_2 : decode (js_b 306) 2 = .ok (.iconst 0, 1) := d_300_2
theorem d_306_3 : decode (js_b 306) 3 = .ok (.istore 5, 2) := d_300_3
theorem d_306_5 : decode (js_b 306) 5 = .ok (.iload 5, 2) := d_300_5
theorem d_306_7 : decode (js_b 306) 7 = .ok (.bipush 64, 2) := d_300_7
theorem d_306_9 : decode (js_b 306) 9 = .ok (.if_icmp .ge 150, 3) := d_300_9
theorem d_306_12 : decode (js_b 306) 12 = .ok (.lload_n 1, 1) := d_300_12
theorem d_306_13 : decode (js_b 306) 13 = .ok (.iload 5, 2) := d_300_13
theorem d_306_15 : decode (js_b 306) 15 = .ok (.lushr, 1) := d_300_15
theorem d_306_16 : decode (js_b 306) 16 = .ok (.lconst 1, 1) := d_300_16
theorem d_306_17 : decode (js_b 306) 17 = .ok (.land, 1) := d_300_17
theorem d_306_18 : decode (js_b 306) 18 = .ok (.lconst 1, 1) := d_300_18
theorem d_306_19 : decode (js_b 306) 19 = .ok (.lcmp, 1) := d_300_19
theorem d_306_20 : decode (js_b 306) 20 = .ok (.ifCond .ne 133, 3) := d_300_20
theorem d_306_23 : decode (js_b 306) 23 = .ok (.lload_n 3, 1) := d_300_23
theorem d_306_24 : decode (js_b 306) 24 = .ok (.aload_n 0, 1) := d_300_24
theorem d_306_25 : decode (js_b 306) 25 = .ok (.iload 5, 2) := d_300_25
theorem d_306_27 : decode (js_b 306) 27 = .ok (.bipush 8, 2) := d_300_27
theorem d_306_29 : decode (js_b 306) 29 = .ok (.idiv, 1) := d_300_29
theorem d_306_30 : decode (js_b 306) 30 = .ok (.iload 5, 2) := d_300_30
theorem d_306_32 : decode (js_b 306) 32 = .ok (.bipush 8, 2) := d_300_32
theorem d_306_34 : decode (js_b 306) 34 = .ok (.irem, 1) := d_300_34
theorem d_306_35 : decode (js_b 306) 35 = .ok (.iconst 0, 1) := d_300_35
theorem d_306_36 : decode (js_b 306) 36 = .ok (.invokestatic 198, 3) := d_300_36
theorem d_306_39 : decode (js_b 306) 39 = .ok (.iconst 1, 1) := d_300_39
theorem d_306_40 : decode (js_b 306) 40 = .ok (.if_icmp .ne 13, 3) := d_300_40
theorem d_306_43 : decode (js_b 306) 43 = .ok (.lconst 1, 1) := d_300_43
theorem d_306_44 : decode (js_b 306) 44 = .ok (.iload 5, 2) := d_300_44
theorem d_306_46 : decode (js_b 306) 46 = .ok (.bipush 8, 2) := d_300_46
theorem d_306_48 : decode (js_b 306) 48 = .ok (.isub, 1) := d_300_48
theorem d_306_49 : decode (js_b 306) 49 = .ok (.lshl, 1) := d_300_49
theorem d_306_50 : decode (js_b 306) 50 = .ok (.goto 4, 3) := d_300_50
theorem d_306_53 : decode (js_b 306) 53 = .ok (.lconst 0, 1) := d_300_53
theorem d_306_54 : decode (js_b 306) 54 = .ok (.lor, 1) := d_300_54
theorem d_306_55 : decode (js_b 306) 55 = .ok (.lstore_n 3, 1) := d_300_55
theorem d_306_56 : decode (js_b 306) 56 = .ok (.lload_n 3, 1) := d_300_56
theorem d_306_57 : decode (js_b 306) 57 = .ok (.aload_n 0, 1) := d_300_57
theorem d_306_58 : decode (js_b 306) 58 = .ok (.iload 5, 2) := d_300_58
theorem d_306_60 : decode (js_b 306) 60 = .ok (.bipush 8, 2) := d_300_60
theorem d_306_62 : decode (js_b 306) 62 = .ok (.idiv, 1) := d_300_62
theorem d_306_63 : decode (js_b 306) 63 = .ok (.iload 5, 2) := d_300_63
theorem d_306_65 : decode (js_b 306) 65 = .ok (.bipush 8, 2) := d_300_65
theorem d_306_67 : decode (js_b 306) 67 = .ok (.irem, 1) := d_300_67
theorem d_306_68 : decode (js_b 306) 68 = .ok (.iconst 1, 1) := d_300_68
theorem d_306_69 : decode (js_b 306) 69 = .ok (.invokestatic 198, 3) := d_300_69
theorem d_306_72 : decode (js_b 306) 72 = .ok (.iconst 1, 1) := d_300_72
theorem d_306_73 : decode (js_b 306) 73 = .ok (.if_icmp .ne 12, 3) := d_300_73
theorem d_306_76 : decode (js_b 306) 76 = .ok (.lconst 1, 1) := d_300_76
theorem d_306_77 : decode (js_b 306) 77 = .ok (.iload 5, 2) := d_300_77
theorem d_306_79 : decode (js_b 306) 79 = .ok (.iconst 1, 1) := d_300_79
theorem d_306_80 : decode (js_b 306) 80 = .ok (.iadd, 1) := d_300_80
theorem d_306_81 : decode (js_b 306) 81 = .ok (.lshl, 1) := d_300_81
theorem d_306_82 : decode (js_b 306) 82 = .ok (.goto 4, 3) := d_300_82
theorem d_306_85 : decode (js_b 306) 85 = .ok (.lconst 0, 1) := d_300_85
theorem d_306_86 : decode (js_b 306) 86 = .ok (.lor, 1) := d_300_86
theorem d_306_87 : decode (js_b 306) 87 = .ok (.lstore_n 3, 1) := d_300_87
theorem d_306_88 : decode (js_b 306) 88 = .ok (.lload_n 3, 1) := d_300_88
theorem d_306_89 : decode (js_b 306) 89 = .ok (.aload_n 0, 1) := d_300_89
theorem d_306_90 : decode (js_b 306) 90 = .ok (.iload 5, 2) := d_300_90
theorem d_306_92 : decode (js_b 306) 92 = .ok (.bipush 8, 2) := d_300_92
theorem d_306_94 : decode (js_b 306) 94 = .ok (.idiv, 1) := d_300_94
theorem d_306_95 : decode (js_b 306) 95 = .ok (.iload 5, 2) := d_300_95
theorem d_306_97 : decode (js_b 306) 97 = .ok (.bipush 8, 2) := d_300_97
theorem d_306_99 : decode (js_b 306) 99 = .ok (.irem, 1) := d_300_99
theorem d_306_100 : decode (js_b 306) 100 = .ok (.iconst 2, 1) := d_300_100
theorem d_306_101 : decode (js_b 306) 101 = .ok (.invokestatic 198, 3) := d_300_101
theorem d_306_104 : decode (js_b 306) 104 = .ok (.iconst 1, 1) := d_300_104
theorem d_306_105 : decode (js_b 306) 105 = .ok (.if_icmp .ne 13, 3) := d_300_105
theorem d_306_108 : decode (js_b 306) 108 = .ok (.lconst 1, 1) := d_300_108
theorem d_306_109 : decode (js_b 306) 109 = .ok (.iload 5, 2) := d_300_109
theorem d_306_111 : decode (js_b 306) 111 = .ok (.bipush 8, 2) := d_300_111
theorem d_306_113 : decode (js_b 306) 113 = .ok (.iadd, 1) := d_300_113
theorem d_306_114 : decode (js_b 306) 114 = .ok (.lshl, 1) := d_300_114
theorem d_306_115 : decode (js_b 306) 115 = .ok (.goto 4, 3) := d_300_115
theorem d_306_118 : decode (js_b 306) 118 = .ok (.lconst 0, 1) := d_300_118
theorem d_306_119 : decode (js_b 306) 119 = .ok (.lor, 1) := d_300_119
theorem d_306_120 : decode (js_b 306) 120 = .ok (.lstore_n 3, 1) := d_300_120
theorem d_306_121 : decode (js_b 306) 121 = .ok (.lload_n 3, 1) := d_300_121
theorem d_306_122 : decode (js_b 306) 122 = .ok (.aload_n 0, 1) := d_300_122
theorem d_306_123 : decode (js_b 306) 123 = .ok (.iload 5, 2) := d_300_123
theorem d_306_125 : decode (js_b 306) 125 = .ok (.bipush 8, 2) := d_300_125
theorem d_306_127 : decode (js_b 306) 127 = .ok (.idiv, 1) := d_300_127
theorem d_306_128 : decode (js_b 306) 128 = .ok (.iload 5, 2) := d_300_128
theorem d_306_130 : decode (js_b 306) 130 = .ok (.bipush 8, 2) := d_300_130
theorem d_306_132 : decode (js_b 306) 132 = .ok (.irem, 1) := d_300_132
theorem d_306_133 : decode (js_b 306) 133 = .ok (.iconst 3, 1) := d_300_133
theorem d_306_134 : decode (js_b 306) 134 = .ok (.invokestatic 198, 3) := d_300_134
theorem d_306_137 : decode (js_b 306) 137 = .ok (.iconst 1, 1) := d_300_137
theorem d_306_138 : decode (js_b 306) 138 = .ok (.if_icmp .ne 12, 3) := d_300_138
theorem d_306_141 : decode (js_b 306) 141 = .ok (.lconst 1, 1) := d_300_141
theorem d_306_142 : decode (js_b 306) 142 = .ok (.iload 5, 2) := d_300_142
theorem d_306_144 : decode (js_b 306) 144 = .ok (.iconst 1, 1) := d_300_144
theorem d_306_145 : decode (js_b 306) 145 = .ok (.isub, 1) := d_300_145
theorem d_306_146 : decode (js_b 306) 146 = .ok (.lshl, 1) := d_300_146
theorem d_306_147 : decode (js_b 306) 147 = .ok (.goto 4, 3) := d_300_147
theorem d_306_150 : decode (js_b 306) 150 = .ok (.lconst 0, 1) := d_300_150
theorem d_306_151 : decode (js_b 306) 151 = .ok (.lor, 1) := d_300_151
theorem d_306_152 : decode (js_b 306) 152 = .ok (.lstore_n 3, 1) := d_300_152
theorem d_306_153 : decode (js_b 306) 153 = .ok (.iinc 5 1, 3) := d_300_153
theorem d_306_156 : decode (js_b 306) 156 = .ok (.goto (-151), 3) := d_300_156
theorem d_306_159 : decode (js_b 306) 159 = .ok (.lload_n 3, 1) := d_300_159
theorem d_306_160 : decode (js_b 306) 160 = .ok (.lload_n 1, 1) := d_300_160
theorem d_306_161 : decode (js_b 306) 161 = .ok (.lcmp, 1) := d_300_161
theorem d_306_162 : decode (js_b 306) 162 = .ok (.ifCond .ne 7, 3) := d_300_162
theorem d_306_165 : decode (js_b 306) 165 = .ok (.lload_n 1, 1) := d_300_165
theorem d_306_166 : decode (js_b 306) 166 = .ok (.goto 8, 3) := d_300_166
theorem d_306_169 : decode (js_b 306) 169 = .ok (.aload_n 0, 1) := d_300_169
theorem d_306_170 : decode (js_b 306) 170 = .ok (.lload_n 3, 1) := d_300_170
theorem d_306_171 : decode (js_b 306) 171 = .ok (.invokestatic 323, 3) := d_300_171
theorem d_306_174 : decode (js_b 306) 174 = .ok (.lreturn, 1) := d_300_174
theorem ki_306_15 : js_OkG 306 15 (o_Sh (fun x y => (x.toUInt64 >>> (y.toInt64.toUInt64 &&& Int64.toUInt64 63)).toInt64) 16) := js_St.okG (st_lushr d_306_15) (fun _ _ _ _ _ => rfl)
theorem ki_306_13 : js_OkG 306 13 (o_il 5 15) := js_St.okG (st_iload d_306_13) (fun _ _ _ _ _ => rfl)
theorem ki_306_12 : js_OkG 306 12 (o_ll 1 13) := js_St.okG (st_lloadn rfl d_306_12) (fun _ _ _ _ _ => rfl)
theorem ki_306_9 : js_OkG 306 9 (o_cge 159 12) := js_St.okG (st_icge (by decide) d_306_9) (fun _ _ _ _ _ => rfl)
theorem ki_306_7 : js_OkG 306 7 (o_ic 64 9) := js_St.okG (st_bipush rfl d_306_7) (fun _ _ _ _ _ => rfl)
theorem ki_306_5 : js_OkG 306 5 (o_il 5 7) := js_St.okG (st_iload d_306_5) (fun _ _ _ _ _ => rfl)
theorem ki_306_3 : js_OkG 306 3 (o_is 5 5) := js_St.okG (st_istore (Nat.le_of_ble_eq_true rfl) d_306_3) (fun _ _ _ _ _ => rfl)
theorem ki_306_2 : js_OkG 306 2 (o_ic 0 3) := js_St.okG (st_iconst rfl d_306_2) (fun _ _ _ _ _ => rfl)
theorem ki_306_1 : js_OkG 306 1 (o_ls 3 2) := js_St.okG (st_lstoren rfl (Nat.le_of_ble_eq_true rfl) d_306_1) (fun _ _ _ _ _ => rfl)
theorem ki_306_0 : js_OkG 306 0 (o_ll 1 1) := js_St.okG (st_lloadn rfl d_306_0) (fun _ _ _ _ _ => rfl)
theorem ki_306_30 : js_OkG 306 30 (o_il 5 32) := js_St.okG (st_iload d_306_30) (fun _ _ _ _ _ => rfl)
theorem ki_306_29 : js_OkG 306 29 (o_div 30) := js_St.okG (st_idiv d_306_29) (fun _ _ _ _ _ => rfl)
theorem ki_306_27 : js_OkG 306 27 (o_ic 8 29) := js_St.okG (st_bipush rfl d_306_27) (fun _ _ _ _ _ => rfl)
theorem ki_306_25 : js_OkG 306 25 (o_il 5 27) := js_St.okG (st_iload d_306_25) (fun _ _ _ _ _ => rfl)
theorem ki_306_24 : js_OkG 306 24 (o_al 0 25) := js_St.okG (st_aloadn rfl d_306_24) (fun _ _ _ _ _ => rfl)
theorem ki_306_23 : js_OkG 306 23 (o_ll 3 24) := js_St.okG (st_lloadn rfl d_306_23) (fun _ _ _ _ _ => rfl)
theorem ki_306_20 : js_OkG 306 20 (o_ne 153 23) := js_St.okG (st_ifne (by decide) d_306_20) (fun _ _ _ _ _ => rfl)
theorem ki_306_19 : js_OkG 306 19 (o_lcmp 20) := js_St.okG (st_lcmp d_306_19) (fun _ _ _ _ _ => rfl)
theorem ki_306_18 : js_OkG 306 18 (o_lc 1 19) := js_St.okG (st_lconst rfl d_306_18) (fun _ _ _ _ _ => rfl)
theorem ki_306_17 : js_OkG 306 17 (o_B2 (fun x y => x &&& y) 18) := js_St.okG (st_land d_306_17) (fun _ _ _ _ _ => rfl)
theorem ki_306_16 : js_OkG 306 16 (o_lc 1 17) := js_St.okG (st_lconst rfl d_306_16) (fun _ _ _ _ _ => rfl)
theorem ki_306_46 : js_OkG 306 46 (o_ic 8 48) := js_St.okG (st_bipush rfl d_306_46) (fun _ _ _ _ _ => rfl)
theorem ki_306_44 : js_OkG 306 44 (o_il 5 46) := js_St.okG (st_iload d_306_44) (fun _ _ _ _ _ => rfl)
theorem ki_306_43 : js_OkG 306 43 (o_lc 1 44) := js_St.okG (st_lconst rfl d_306_43) (fun _ _ _ _ _ => rfl)
theorem ki_306_40 : js_OkG 306 40 (o_cne 53 43) := js_St.okG (st_icne (by decide) d_306_40) (fun _ _ _ _ _ => rfl)
theorem ki_306_39 : js_OkG 306 39 (o_ic 1 40) := js_St.okG (st_iconst rfl d_306_39) (fun _ _ _ _ _ => rfl)
theorem ki_306_36 : js_OkG 306 36 (o_cI 176 4 0 39) := og_sIP rfl rfl kB_306_176 rfl kw_785 kw_786 d_306_36
theorem ki_306_35 : js_OkG 306 35 (o_ic 0 36) := js_St.okG (st_iconst rfl d_306_35) (fun _ _ _ _ _ => rfl)
theorem ki_306_34 : js_OkG 306 34 (o_rem 35) := js_St.okG (st_irem d_306_34) (fun _ _ _ _ _ => rfl)
theorem ki_306_32 : js_OkG 306 32 (o_ic 8 34) := js_St.okG (st_bipush rfl d_306_32) (fun _ _ _ _ _ => rfl)
theorem ki_306_63 : js_OkG 306 63 (o_il 5 65) := js_St.okG (st_iload d_306_63) (fun _ _ _ _ _ => rfl)
theorem ki_306_62 : js_OkG 306 62 (o_div 63) := js_St.okG (st_idiv d_306_62) (fun _ _ _ _ _ => rfl)
theorem ki_306_60 : js_OkG 306 60 (o_ic 8 62) := js_St.okG (st_bipush rfl d_306_60) (fun _ _ _ _ _ => rfl)
theorem ki_306_58 : js_OkG 306 58 (o_il 5 60) := js_St.okG (st_iload d_306_58) (fun _ _ _ _ _ => rfl)
theorem ki_306_57 : js_OkG 306 57 (o_al 0 58) := js_St.okG (st_aloadn rfl d_306_57) (fun _ _ _ _ _ => rfl)
theorem ki_306_56 : js_OkG 306 56 (o_ll 3 57) := js_St.okG (st_lloadn rfl d_306_56) (fun _ _ _ _ _ => rfl)
theorem ki_306_55 : js_OkG 306 55 (o_ls 3 56) := js_St.okG (st_lstoren rfl (Nat.le_of_ble_eq_true rfl) d_306_55) (fun _ _ _ _ _ => rfl)
theorem ki_306_54 : js_OkG 306 54 (o_B2 (fun x y => x ||| y) 55) := js_St.okG (st_lor d_306_54) (fun _ _ _ _ _ => rfl)
theorem ki_306_53 : js_OkG 306 53 (o_lc 0 54) := js_St.okG (st_lconst rfl d_306_53) (fun _ _ _ _ _ => rfl)
theorem ki_306_50 : js_OkG 306 50 (o_go 54) := js_St.okG (st_goto (by decide) d_306_50) (fun _ _ _ _ _ => rfl)
theorem ki_306_49 : js_OkG 306 49 (o_Sh (fun x y => x <<< (y.toInt64 &&& 63)) 50) := js_St.okG (st_lshl d_306_49) (fun _ _ _ _ _ => rfl)
theorem ki_306_48 : js_OkG 306 48 (o_b2 (fun x y => x - y) 49) := js_St.okG (st_isub d_306_48) (fun _ _ _ _ _ => rfl)
theorem ki_306_79 : js_OkG 306 79 (o_ic 1 80) := js_St.okG (st_iconst rfl d_306_79) (fun _ _ _ _ _ => rfl)
theorem ki_306_77 : js_OkG 306 77 (o_il 5 79) := js_St.okG (st_iload d_306_77) (fun _ _ _ _ _ => rfl)
theorem ki_306_76 : js_OkG 306 76 (o_lc 1 77) := js_St.okG (st_lconst rfl d_306_76) (fun _ _ _ _ _ => rfl)
theorem ki_306_73 : js_OkG 306 73 (o_cne 85 76) := js_St.okG (st_icne (by decide) d_306_73) (fun _ _ _ _ _ => rfl)
theorem ki_306_72 : js_OkG 306 72 (o_ic 1 73) := js_St.okG (st_iconst rfl d_306_72) (fun _ _ _ _ _ => rfl)
theorem ki_306_69 : js_OkG 306 69 (o_cI 176 4 0 72) := og_sIP rfl rfl kB_306_176 rfl kw_785 kw_786 d_306_69
theorem ki_306_68 : js_OkG 306 68 (o_ic 1 69) := js_St.okG (st_iconst rfl d_306_68) (fun _ _ _ _ _ => rfl)
theorem ki_306_67 : js_OkG 306 67 (o_rem 68) := js_St.okG (st_irem d_306_67) (fun _ _ _ _ _ => rfl)
theorem ki_306_65 : js_OkG 306 65 (o_ic 8 67) := js_St.okG (st_bipush rfl d_306_65) (fun _ _ _ _ _ => rfl)
theorem ki_306_95 : js_OkG 306 95 (o_il 5 97) := js_St.okG (st_iload d_306_95) (fun _ _ _ _ _ => rfl)
theorem ki_306_94 : js_OkG 306 94 (o_div 95) := js_St.okG (st_idiv d_306_94) (fun _ _ _ _ _ => rfl)
theorem ki_306_92 : js_OkG 306 92 (o_ic 8 94) := js_St.okG (st_bipush rfl d_306_92) (fun _ _ _ _ _ => rfl)
theorem ki_306_90 : js_OkG 306 90 (o_il 5 92) := js_St.okG (st_iload d_306_90) (fun _ _ _ _ _ => rfl)
theorem ki_306_89 : js_OkG 306 89 (o_al 0 90) := js_St.okG (st_aloadn rfl d_306_89) (fun _ _ _ _ _ => rfl)
theorem ki_306_88 : js_OkG 306 88 (o_ll 3 89) := js_St.okG (st_lloadn rfl d_306_88) (fun _ _ _ _ _ => rfl)
theorem ki_306_87 : js_OkG 306 87 (o_ls 3 88) := js_St.okG (st_lstoren rfl (Nat.le_of_ble_eq_true rfl) d_306_87) (fun _ _ _ _ _ => rfl)
theorem ki_306_86 : js_OkG 306 86 (o_B2 (fun x y => x ||| y) 87) := js_St.okG (st_lor d_306_86) (fun _ _ _ _ _ => rfl)
theorem ki_306_85 : js_OkG 306 85 (o_lc 0 86) := js_St.okG (st_lconst rfl d_306_85) (fun _ _ _ _ _ => rfl)
theorem ki_306_82 : js_OkG 306 82 (o_go 86) := js_St.okG (st_goto (by decide) d_306_82) (fun _ _ _ _ _ => rfl)
theorem ki_306_81 : js_OkG 306 81 (o_Sh (fun x y => x <<< (y.toInt64 &&& 63)) 82) := js_St.okG (st_lshl d_306_81) (fun _ _ _ _ _ => rfl)
theorem ki_306_80 : js_OkG 306 80 (o_b2 (fun x y => x + y) 81) := js_St.okG (st_iadd d_306_80) (fun _ _ _ _ _ => rfl)
theorem ki_306_111 : js_OkG 306 111 (o_ic 8 113) := js_St.okG (st_bipush rfl d_306_111) (fun _ _ _ _ _ => rfl)
theorem ki_306_109 : js_OkG 306 109 (o_il 5 111) := js_St.okG (st_iload d_306_109) (fun _ _ _ _ _ => rfl)
theorem ki_306_108 : js_OkG 306 108 (o_lc 1 109) := js_St.okG (st_lconst rfl d_306_108) (fun _ _ _ _ _ => rfl)
theorem ki_306_105 : js_OkG 306 105 (o_cne 118 108) := js_St.okG (st_icne (by decide) d_306_105) (fun _ _ _ _ _ => rfl)
theorem ki_306_104 : js_OkG 306 104 (o_ic 1 105) := js_St.okG (st_iconst rfl d_306_104) (fun _ _ _ _ _ => rfl)
theorem ki_306_101 : js_OkG 306 101 (o_cI 176 4 0 104) := og_sIP rfl rfl kB_306_176 rfl kw_785 kw_786 d_306_101
theorem ki_306_100 : js_OkG 306 100 (o_ic 2 101) := js_St.okG (st_iconst rfl d_306_100) (fun _ _ _ _ _ => rfl)
theorem ki_306_99 : js_OkG 306 99 (o_rem 100) := js_St.okG (st_irem d_306_99) (fun _ _ _ _ _ => rfl)
theorem ki_306_97 : js_OkG 306 97 (o_ic 8 99) := js_St.okG (st_bipush rfl d_306_97) (fun _ _ _ _ _ => rfl)
theorem ki_306_127 : js_OkG 306 127 (o_div 128) := js_St.okG (st_idiv d_306_127) (fun _ _ _ _ _ => rfl)
theorem ki_306_125 : js_OkG 306 125 (o_ic 8 127) := js_St.okG (st_bipush rfl d_306_125) (fun _ _ _ _ _ => rfl)
theorem ki_306_123 : js_OkG 306 123 (o_il 5 125) := js_St.okG (st_iload d_306_123) (fun _ _ _ _ _ => rfl)
theorem ki_306_122 : js_OkG 306 122 (o_al 0 123) := js_St.okG (st_aloadn rfl d_306_122) (fun _ _ _ _ _ => rfl)
theorem ki_306_121 : js_OkG 306 121 (o_ll 3 122) := js_St.okG (st_lloadn rfl d_306_121) (fun _ _ _ _ _ => rfl)
theorem ki_306_120 : js_OkG 306 120 (o_ls 3 121) := js_St.okG (st_lstoren rfl (Nat.le_of_ble_eq_true rfl) d_306_120) (fun _ _ _ _ _ => rfl)
theorem ki_306_119 : js_OkG 306 119 (o_B2 (fun x y => x ||| y) 120) := js_St.okG (st_lor d_306_119) (fun _ _ _ _ _ => rfl)
theorem ki_306_118 : js_OkG 306 118 (o_lc 0 119) := js_St.okG (st_lconst rfl d_306_118) (fun _ _ _ _ _ => rfl)
theorem ki_306_115 : js_OkG 306 115 (o_go 119) := js_St.okG (st_goto (by decide) d_306_115) (fun _ _ _ _ _ => rfl)
theorem ki_306_114 : js_OkG 306 114 (o_Sh (fun x y => x <<< (y.toInt64 &&& 63)) 115) := js_St.okG (st_lshl d_306_114) (fun _ _ _ _ _ => rfl)
theorem ki_306_113 : js_OkG 306 113 (o_b2 (fun x y => x + y) 114) := js_St.okG (st_iadd d_306_113) (fun _ _ _ _ _ => rfl)
theorem ki_306_142 : js_OkG 306 142 (o_il 5 144) := js_St.okG (st_iload d_306_142) (fun _ _ _ _ _ => rfl)
theorem ki_306_141 : js_OkG 306 141 (o_lc 1 142) := js_St.okG (st_lconst rfl d_306_141) (fun _ _ _ _ _ => rfl)
theorem ki_306_138 : js_OkG 306 138 (o_cne 150 141) := js_St.okG (st_icne (by decide) d_306_138) (fun _ _ _ _ _ => rfl)
theorem ki_306_137 : js_OkG 306 137 (o_ic 1 138) := js_St.okG (st_iconst rfl d_306_137) (fun _ _ _ _ _ => rfl)
theorem ki_306_134 : js_OkG 306 134 (o_cI 176 4 0 137) := og_sIP rfl rfl kB_306_176 rfl kw_785 kw_786 d_306_134
theorem ki_306_133 : js_OkG 306 133 (o_ic 3 134) := js_St.okG (st_iconst rfl d_306_133) (fun _ _ _ _ _ => rfl)
theorem ki_306_132 : js_OkG 306 132 (o_rem 133) := js_St.okG (st_irem d_306_132) (fun _ _ _ _ _ => rfl)
theorem ki_306_130 : js_OkG 306 130 (o_ic 8 132) := js_St.okG (st_bipush rfl d_306_130) (fun _ _ _ _ _ => rfl)
theorem ki_306_128 : js_OkG 306 128 (o_il 5 130) := js_St.okG (st_iload d_306_128) (fun _ _ _ _ _ => rfl)
theorem ki_306_159 : js_OkG 306 159 (o_ll 3 160) := js_St.okG (st_lloadn rfl d_306_159) (fun _ _ _ _ _ => rfl)
theorem ki_306_156 : js_OkG 306 156 (o_go 5) := js_St.okG (st_goto (by decide) d_306_156) (fun _ _ _ _ _ => rfl)
theorem ki_306_153 : js_OkG 306 153 (o_inc 5 1 156) := js_St.okG (st_iinc rfl (Nat.le_of_ble_eq_true rfl) d_306_153) (fun _ _ _ _ _ => rfl)
theorem ki_306_152 : js_OkG 306 152 (o_ls 3 153) := js_St.okG (st_lstoren rfl (Nat.le_of_ble_eq_true rfl) d_306_152) (fun _ _ _ _ _ => rfl)
theorem ki_306_151 : js_OkG 306 151 (o_B2 (fun x y => x ||| y) 152) := js_St.okG (st_lor d_306_151) (fun _ _ _ _ _ => rfl)
theorem ki_306_150 : js_OkG 306 150 (o_lc 0 151) := js_St.okG (st_lconst rfl d_306_150) (fun _ _ _ _ _ => rfl)
theorem ki_306_147 : js_OkG 306 147 (o_go 151) := js_St.okG (st_goto (by decide) d_306_147) (fun _ _ _ _ _ => rfl)
theorem ki_306_146 : js_OkG 306 146 (o_Sh (fun x y => x <<< (y.toInt64 &&& 63)) 147) := js_St.okG (st_lshl d_306_146) (fun _ _ _ _ _ => rfl)
theorem ki_306_145 : js_OkG 306 145 (o_b2 (fun x y => x - y) 146) := js_St.okG (st_isub d_306_145) (fun _ _ _ _ _ => rfl)
theorem ki_306_144 : js_OkG 306 144 (o_ic 1 145) := js_St.okG (st_iconst rfl d_306_144) (fun _ _ _ _ _ => rfl)
theorem ki_306_174 : js_OkG 306 174 (o_rL) := og_rL rfl d_306_174
theorem ki_306_171 : js_OkG 306 171 (o_cL 307 2 0 174) := og_sLP rfl rfl kB_306_307 rfl kw_949 kw_950 d_306_171
theorem ki_306_170 : js_OkG 306 170 (o_ll 3 171) := js_St.okG (st_lloadn rfl d_306_170) (fun _ _ _ _ _ => rfl)
theorem ki_306_169 : js_OkG 306 169 (o_al 0 170) := js_St.okG (st_aloadn rfl d_306_169) (fun _ _ _ _ _ => rfl)
theorem ki_306_166 : js_OkG 306 166 (o_go 174) := js_St.okG (st_goto (by decide) d_306_166) (fun _ _ _ _ _ => rfl)
theorem ki_306_165 : js_OkG 306 165 (o_ll 1 166) := js_St.okG (st_lloadn rfl d_306_165) (fun _ _ _ _ _ => rfl)
theorem ki_306_162 : js_OkG 306 162 (o_ne 169 165) := js_St.okG (st_ifne (by decide) d_306_162) (fun _ _ _ _ _ => rfl)
theorem ki_306_161 : js_OkG 306 161 (o_lcmp 162) := js_St.okG (st_lcmp d_306_161) (fun _ _ _ _ _ => rfl)
theorem ki_306_160 : js_OkG 306 160 (o_ll 1 161) := js_St.okG (st_lloadn rfl d_306_160) (fun _ _ _ _ _ => rfl)
set_option maxRecDepth 20000 in
theorem mk_306 : js_mokG 306 := jk_tab (fun _ => js_St.okG st_bad (fun _ _ _ _ _ => rfl)) (show jk_all (js_OkG 306) 0 (tb_G 306) from ⟨⟨ki_306_0, ⟨ki_306_1, ⟨ki_306_2, ⟨ki_306_3, ⟨kbadG, ⟨ki_306_5, ⟨kbadG, ⟨ki_306_7, ⟨kbadG, ⟨ki_306_9, ⟨kbadG, ⟨kbadG, ⟨ki_306_12, ⟨ki_306_13, ⟨kbadG, ⟨ki_306_15, trivial⟩⟩⟩⟩⟩⟩⟩⟩⟩⟩⟩⟩⟩⟩⟩⟩, ⟨⟨ki_306_16, ⟨ki_306_17, ⟨ki_306_18, ⟨ki_306_19, ⟨ki_306_20, ⟨kbadG, ⟨kbadG, ⟨ki_306_23, ⟨ki_306_24, ⟨ki_306_25, ⟨kbadG, ⟨ki_306_27, ⟨kbadG, ⟨ki_306_29, ⟨ki_306_30, ⟨kbadG, trivial⟩⟩⟩⟩⟩⟩⟩⟩⟩⟩⟩⟩⟩⟩⟩⟩, ⟨⟨ki_306_32, ⟨kbadG, ⟨ki_306_34, ⟨ki_306_35, ⟨ki_306_36, ⟨kbadG, ⟨kbadG, ⟨ki_306_39, ⟨ki_306_40, ⟨kbadG, ⟨kbadG, ⟨ki_306_43, ⟨ki_306_44, ⟨kbadG, ⟨ki_306_46, ⟨kbadG, trivial⟩⟩⟩⟩⟩⟩⟩⟩⟩⟩⟩⟩⟩⟩⟩⟩, ⟨⟨ki_306_48, ⟨ki_306_49, ⟨ki_306_50, ⟨kbadG, ⟨kbadG, ⟨ki_306_53, ⟨ki_306_54, ⟨ki_306_55, ⟨ki_306_56, ⟨ki_306_57, ⟨ki_306_58, ⟨kbadG, ⟨ki_306_60, ⟨kbadG, ⟨ki_306_62, ⟨ki_306_63, trivial⟩⟩⟩⟩⟩⟩⟩⟩⟩⟩⟩⟩⟩⟩⟩⟩, ⟨⟨kbadG, ⟨ki_306_65, ⟨kbadG, ⟨ki_306_67, ⟨ki_306_68, ⟨ki_306_69, ⟨kbadG, ⟨kbadG, ⟨ki_306_72, ⟨ki_306_73, ⟨kbadG, ⟨kbadG, ⟨ki_306_76, ⟨ki_306_77, ⟨kbadG, ⟨ki_306_79, trivial⟩⟩⟩⟩⟩⟩⟩⟩⟩⟩⟩⟩⟩⟩⟩⟩, ⟨⟨ki_306_80, ⟨ki_306_81, ⟨ki_306_82, ⟨kbadG, ⟨kbadG, ⟨ki_306_85, ⟨ki_306_86, ⟨ki_306_87, ⟨ki_306_88, ⟨ki_306_89, ⟨ki_306_90, ⟨kbadG, ⟨ki_306_92, ⟨kbadG, ⟨ki_306_94, ⟨ki_306_95, trivial⟩⟩⟩⟩⟩⟩⟩⟩⟩⟩⟩⟩⟩⟩⟩⟩, ⟨⟨kbadG, ⟨ki_306_97, ⟨kbadG, ⟨ki_306_99, ⟨ki_306_100, ⟨ki_306_101, ⟨kbadG, ⟨kbadG, ⟨ki_306_104, ⟨ki_306_105, ⟨kbadG, ⟨kbadG, ⟨ki_306_108, ⟨ki_306_109, ⟨kbadG, ⟨ki_306_111, trivial⟩⟩⟩⟩⟩⟩⟩⟩⟩⟩⟩⟩⟩⟩⟩⟩, ⟨⟨kbadG, ⟨ki_306_113, ⟨ki_306_114, ⟨ki_306_115, ⟨kbadG, ⟨kbadG, ⟨ki_306_118, ⟨ki_306_119, ⟨ki_306_120, ⟨ki_306_121, ⟨ki_306_122, ⟨ki_306_123, ⟨kbadG, ⟨ki_306_125, ⟨kbadG, ⟨ki_306_127, trivial⟩⟩⟩⟩⟩⟩⟩⟩⟩⟩⟩⟩⟩⟩⟩⟩, ⟨⟨ki_306_128, ⟨kbadG, ⟨ki_306_130, ⟨kbadG, ⟨ki_306_132, ⟨ki_306_133, ⟨ki_306_134, ⟨kbadG, ⟨kbadG, ⟨ki_306_137, ⟨ki_306_138, ⟨kbadG, ⟨kbadG, ⟨ki_306_141, ⟨ki_306_142, ⟨kbadG, trivial⟩⟩⟩⟩⟩⟩⟩⟩⟩⟩⟩⟩⟩⟩⟩⟩, ⟨⟨ki_306_144, ⟨ki_306_145, ⟨ki_306_146, ⟨ki_306_147, ⟨kbadG, ⟨kbadG, ⟨ki_306_150, ⟨ki_306_151, ⟨ki_306_152, ⟨ki_306_153, ⟨kbadG, ⟨kbadG, ⟨ki_306_156, ⟨kbadG, ⟨kbadG, ⟨ki_306_159, trivial⟩⟩⟩⟩⟩⟩⟩⟩⟩⟩⟩⟩⟩⟩⟩⟩, ⟨⟨ki_306_160, ⟨ki_306_161, ⟨ki_306_162, ⟨kbadG, ⟨kbadG, ⟨ki_306_165, ⟨ki_306_166, ⟨kbadG, ⟨kbadG, ⟨ki_306_169, ⟨ki_306_170, ⟨ki_306_171, ⟨kbadG, ⟨kbadG, ⟨ki_306_174, trivial⟩⟩⟩⟩⟩⟩⟩⟩⟩⟩⟩⟩⟩⟩⟩, trivial⟩⟩⟩⟩⟩⟩⟩⟩⟩⟩⟩)
theorem d_307_0 : decode (js_b 307) 0 = .ok (.lload_n 1, 1) := d_300_0
theorem d_307_1 : decode (js_b 307) 1 = .ok (.lstore_n 3, 1) := d_300_1
theorem d_307_2 : decode (js_b 307) 2 = .ok (.iconst 0, 1) := d_300_2
theorem d_307_3 : decode (js_b 307) 3 = .ok (.istore 5, 2) := d_300_3
theorem d_307_5 : decode (js_b 307) 5 = .ok (.iload 5, 2) := d_300_5
theorem d_307_7 : decode (js_b 307) 7 = .ok (.bipush 64, 2) := d_300_7
theorem d_307_9 : decode (js_b 307) 9 = .ok (.if_icmp .ge 150, 3) := d_300_9
theorem d_307_12 : decode (js_b 307) 12 = .ok (.lload_n 1, 1) := d_300_12
theorem d_307_13 : decode (js_b 307) 13 = .ok (.iload 5, 2) := d_300_13
theorem d_307_15 : decode (js_b 307) 15 = .ok (.lushr, 1) := d_300_15
theorem d_307_16 : decode (js_b 307) 16 = .ok (.lconst 1, 1) := d_300_16
theorem d_307_17 : decode (js_b 307) 17 = .ok (.land, 1) := d_300_17
theorem d_307_18 : decode (js_b 307) 18 = .ok (.lconst 1, 1) := d_300_18
theorem d_307_19 : decode (js_b 307) 19 = .ok (.lcmp, 1) := d_300_19
theorem d_307_20 : decode (js_b 307) 20 = .ok (.ifCond .ne 133, 3) := d_300_20
theorem d_307_23 : decode (js_b 307) 23 = .ok (.lload_n 3, 1) := d_300_23
theorem d_307_24 : decode (js_b 307) 24 = .ok (.aload_n 0, 1) := d_300_24
theorem d_307_25 : decode (js_b 307) 25 = .ok (.iload 5, 2) := d_300_25
theorem d_307_27 : decode (js_b 307) 27 = .ok (.bipush 8, 2) := d_300_27
theorem d_307_29 : decode (js_b 307) 29 = .ok (.idiv, 1) := d_300_29
theorem d_307_30 : decode (js_b 307) 30 = .ok (.iload 5, 2) := d_300_30
theorem d_307_32 : decode (js_b 307) 32 = .ok (.bipush 8, 2) := d_300_32
theorem d_307_34 : decode (js_b 307) 34 = .ok (.irem, 1) := d_300_34
theorem d_307_35 : decode (js_b 307) 35 = .ok (.iconst 0, 1) := d_300_35
theorem d_307_36 : decode (js_b 307) 36 = .ok (.invokestatic 198, 3) := d_300_36
theorem d_307_39 : decode (js_b 307) 39 = .ok (.iconst 1, 1) := d_300_39
theorem d_307_40 : decode (js_b 307) 40 = .ok (.if_icmp .ne 13, 3) := d_300_40
theorem d_307_43 : decode (js_b 307) 43 = .ok (.lconst 1, 1) := d_300_43
theorem d_307_44 : decode (js_b 307) 44 = .ok (.iload 5, 2) := d_300_44
theorem d_307_46 : decode (js_b 307) 46 = .ok (.bipush 8, 2) := d_300_46
theorem d_307_48 : decode (js_b 307) 48 = .ok (.isub, 1) := d_300_48
theorem d_307_49 : decode (js_b 307) 49 = .ok (.lshl, 1) := d_300_49
theorem d_307_50 : decode (js_b 307) 50 = .ok (.goto 4, 3) := d_300_50
theorem d_307_53 : decode (js_b 307) 53 = .ok (.lconst 0, 1) := d_300_53
theorem d_307_54 : decode (js_b 307) 54 = .ok (.lor, 1) := d_300_54
theorem d_307_55 : decode (js_b 307) 55 = .ok (.lstore_n 3, 1) := d_300_55
theorem d_307_56 : decode (js_b 307) 56 = .ok (.lload_n 3, 1) := d_300_56
theorem d_307_57 : decode (js_b 307) 57 = .ok (.aload_n 0, 1) := d_300_57
theorem d_307_58 : decode (js_b 307) 58 = .ok (.iload 5, 2) := d_300_58
theorem d_307_60 : decode (js_b 307) 60 = .ok (.bipush 8, 2) := d_300_60
theorem d_307_62 : decode (js_b 307) 62 = .ok (.idiv, 1) := d_300_62
theorem d_307_63 : decode (js_b 307) 63 = .ok (.iload 5, 2) := d_300_63
theorem d_307_65 : decode (js_b 307) 65 = .ok (.bipush 8, 2) := d_300_65
theorem d_307_67 : decode (js_b 307) 67 = .ok (.irem, 1) := d_300_67
theorem d_307_68 : decode (js_b 307) 68 = .ok (.iconst 1, 1) := d_300_68
theorem d_307_69 : decode (js_b 307) 69 = .ok (.invokestatic 198, 3) := d_300_69
theorem d_307_72 : decode (js_b 307) 72 = .ok (.iconst 1, 1) := d_300_72
theorem d_307_73 : decode (js_b 307) 73 = .ok (.if_icmp .ne 12, 3) := d_300_73
theorem d_307_76 : decode (js_b 307) 76 = .ok (.lconst 1, 1) := d_300_76
theorem d_307_77 : decode (js_b 307) 77 = .ok (.iload 5, 2) := d_300_77
theorem d_307_79 : decode (js_b 307) 79 = .ok (.iconst 1, 1) := d_300_79
theorem d_307_80 : decode (js_b 307) 80 = .ok (.iadd, 1) := d_300_80
theorem d_307_81 : decode (js_b 307) 81 = .ok (.lshl, 1) := d_300_81
theorem d_307_82 : decode (js_b 307) 82 = .ok (.goto 4, 3) := d_300_82
theorem d_307_85 : decode (js_b 307) 85 = .ok (.lconst 0, 1) := d_300_85
theorem d_307_86 : decode (js_b 307) 86 = .ok (.lor, 1) := d_300_86
theorem d_307_87 : decode (js_b 307) 87 = .ok (.lstore_n 3, 1) := d_300_87
theorem d_307_88 : decode (js_b 307) 88 = .ok (.lload_n 3, 1) := d_300_88
theorem d_307_89 : decode (js_b 307) 89 = .ok (.aload_n 0, 1) := d_300_89
theorem d_307_90 : decode (js_b 307) 90 = .ok (.iload 5, 2) := d_300_90
theorem d_307_92 : decode (js_b 307) 92 = .ok (.bipush 8, 2) := d_300_92
theorem d_307_94 : decode (js_b 307) 94 = .ok (.idiv, 1) := d_300_94
theorem d_307_95 : decode (js_b 307) 95 = .ok (.iload 5, 2) := d_300_95
theorem d_307_97 : decode (js_b 307) 97 = .ok (.bipush 8, 2) := d_300_97
theorem d_307_99 : decode (js_b 307) 99 = .ok (.irem, 1) := d_300_99
theorem d_307_100 : decode (js_b 307) 100 = .ok (.iconst 2, 1) := d_300_100
theorem d_307_101 : decode (js_b 307) 101 = .ok (.invokestatic 198, 3) := d_300_101
theorem d_307_104 : decode (js_b 307) 104 = .ok (.iconst 1, 1) := d_300_104
theorem d_307_105 : decode (js_b 307) 105 = .ok (.if_icmp .ne 13, 3) := d_300_105
theorem d_307_108 : decode (js_b 307) 108 = .ok (.lconst 1, 1) := d_300_108
theorem d_307_109 : decode (js_b 307) 109 = .ok (.iload 5, 2) := d_300_109
theorem d_307_111 : decode (js_b 307) 111 = .ok (.bipush 8, 2) := d_300_111
theorem d_307_113 : decode (js_b 307) 113 = .ok (.iadd, 1) := d_300_113
theorem d_307_114 : decode (js_b 307) 114 = .ok (.lshl, 1) := d_300_114
theorem d_307_115 : decode (js_b 307) 115 = .ok (.goto 4, 3) := d_300_115
theorem d_307_118 : decode (js_b 307) 118 = .ok (.lconst 0, 1) := d_300_118
theorem d_307_119 : decode (js_b 307) 119 = .ok (.lor, 1) := d_300_119
theorem d_307_120 : decode (js_b 307) 120 = .ok (.lstore_n 3, 1) := d_300_120
theorem d_307_121 : decode (js_b 307) 121 = .ok (.lload_n 3, 1) := d_300_121
theorem d_307_122 : decode (js_b 307) 122 = .ok (.aload_n 0, 1) := d_300_122
theorem d_307_123 : decode (js_b 307) 123 = .ok (.iload 5, 2) := d_300_123
theorem d_307_125 : decode (js_b 307) 125 = .ok (.bipush 8, 2) := d_300_125
theorem d_307_127 : decode (js_b 307) 127 = .ok (.idiv, 1) := d_300_127
theorem d_307_128 : decode (js_b 307) 128 = .ok (.iload 5, 2) := d_300_128
theorem d_307_130 : decode (js_b 307) 130 = .ok (.bipush 8, 2) := d_300_130
theorem d_307_132 : decode (js_b 307) 132 = .ok (.irem, 1) := d_300_132
theorem d_307_133 : decode (js_b 307) 133 = .ok (.iconst 3, 1) := d_300_133
theorem d_307_134 : decode (js_b 307) 134 = .ok (.invokestatic 198, 3) := d_300_134
theorem d_307_137 : decode (js_b 307) 137 = .ok (.iconst 1, 1) := d_300_137
theorem d_307_138 : decode (js_b 307) 138 = .ok (.if_icmp .ne 12, 3) := d_300_138
theorem d_307_141 : decode (js_b 307) 141 = .ok (.lconst 1, 1) := d_300_141
theorem d_307_142 : decode (js_b 307) 142 = .ok (.iload 5, 2) := d_300_142
theorem d_307_144 : decode (js_b 307) 144 = .ok (.iconst 1, 1) := d_300_144
theorem d_307_145 : decode (js_b 307) 145 = .ok (.isub, 1) := d_300_145
theorem d_307_146 : decode (js_b 307) 146 = .ok (.lshl, 1) := d_300_146
theorem d_307_147 : decode (js_b 307) 147 = .ok (.goto 4, 3) := d_300_147
theorem d_307_150 : decode (js_b 307) 150 = .ok (.lconst 0, 1) := d_300_150
theorem d_307_151 : decode (js_b 307) 151 = .ok (.lor, 1) := d_300_151
theorem d_307_152 : decode (js_b 307) 152 = .ok (.lstore_n 3, 1) := d_300_152
theorem d_307_153 : decode (js_b 307) 153 = .ok (.iinc 5 1, 3) := d_300_153
theorem d_307_156 : decode (js_b 307) 156 = .ok (.goto (-151), 3) := d_300_156
theorem d_307_159 : decode (js_b 307) 159 = .ok (.lload_n 3, 1) := d_300_159
theorem d_307_160 : decode (js_b 307) 160 = .ok (.lload_n 1, 1) := d_300_160
theorem d_307_161 : decode (js_b 307) 161 = .ok (.lcmp, 1) := d_300_161
theorem d_307_162 : decode (js_b 307) 162 = .ok (.ifCond .ne 7, 3) := d_300_162
theorem d_307_165 : decode (js_b 307) 165 = .ok (.lload_n 1, 1) := d_300_165
theorem d_307_166 : decode (js_b 307) 166 = .ok (.goto 8, 3) := d_300_166
theorem d_307_169 : decode (js_b 307) 169 = .ok (.aload_n 0, 1) := d_300_169
theorem d_307_170 : decode (js_b 307) 170 = .ok (.lload_n 3, 1) := d_300_170
theorem d_307_171 : decode (js_b 307) 171 = .ok (.invokestatic 323, 3) := d_300_171
theorem d_307_174 : decode (js_b 307) 174 = .ok (.lreturn, 1) := d_300_174
theorem ki_307_15 : js_OkG 307 15 (o_Sh (fun x y => (x.toUInt64 >>> (y.toInt64.toUInt64 &&& Int64.toUInt64 63)).toInt64) 16) := js_St.okG (st_lushr d_307_15) (fun _ _ _ _ _ => rfl)
theorem ki_307_13 : js_OkG 307 13 (o_il 5 15) := js_St.okG (st_iload d_307_13) (fun _ _ _ _ _ => rfl)
theorem ki_307_12 : js_OkG 307 12 (o_ll 1 13) := js_St.okG (st_lloadn rfl d_307_12) (fun _ _ _ _ _ => rfl)
theorem ki_307_9 : js_OkG 307 9 (o_cge 159 12) := js_St.okG (st_icge (by decide) d_307_9) (fun _ _ _ _ _ => rfl)
theorem ki_307_7 : js_OkG 307 7 (o_ic 64 9) := js_St.okG (st_bipush rfl d_307_7) (fun _ _ _ _ _ => rfl)
theorem ki_307_5 : js_OkG 307 5 (o_il 5 7) := js_St.okG (st_iload d_307_5) (fun _ _ _ _ _ => rfl)
theorem ki_307_3 : js_OkG 307 3 (o_is 5 5) := js_St.okG (st_istore (Nat.le_of_ble_eq_true rfl) d_307_3) (fun _ _ _ _ _ => rfl)
theorem ki_307_2 : js_OkG 307 2 (o_ic 0 3) := js_St.okG (st_iconst rfl d_307_2) (fun _ _ _ _ _ => rfl)
theorem ki_307_1 : js_OkG 307 1 (o_ls 3 2) := js_St.okG (st_lstoren rfl (Nat.le_of_ble_eq_true rfl) d_307_1) (fun _ _ _ _ _ => rfl)
theorem ki_307_0 : js_OkG 307 0 (o_ll 1 1) := js_St.okG (st_lloadn rfl d_307_0) (fun _ _ _ _ _ => rfl)
theorem ki_307_30 : js_OkG 307 30 (o_il 5 32) := js_St.okG (st_iload d_307_30) (fun _ _ _ _ _ => rfl)
theorem ki_307_29 : js_OkG 307 29 (o_div 30) := js_St.okG (st_idiv d_307_29) (fun _ _ _ _ _ => rfl)
theorem ki_307_27 : js_OkG 307 27 (o_ic 8 29) := js_St.okG (st_bipush rfl d_307_27) (fun _ _ _ _ _ => rfl)
theorem ki_307_25 : js_OkG 307 25 (o_il 5 27) := js_St.okG (st_iload d_307_25) (fun _ _ _ _ _ => rfl)
theorem ki_307_24 : js_OkG 307 24 (o_al 0 25) := js_St.okG (st_aloadn rfl d_307_24) (fun _ _ _ _ _ => rfl)
theorem ki_307_23 : js_OkG 307 23 (o_ll 3 24) := js_St.okG (st_lloadn rfl d_307_23) (fun _ _ _ _ _ => rfl)
theorem ki_307_20 : js_OkG 307 20 (o_ne 153 23) := js_St.okG (st_ifne (by decide) d_307_20) (fun _ _ _ _ _ => rfl)
theorem ki_307_19 : js_OkG 307 19 (o_lcmp 20) := js_St.okG (st_lcmp d_307_19) (fun _ _ _ _ _ => rfl)
theorem ki_307_18 : js_OkG 307 18 (o_lc 1 19) := js_St.okG (st_lconst rfl d_307_18) (fun _ _ _ _ _ => rfl)
theorem ki_307_17 : js_OkG 307 17 (o_B2 (fun x y => x &&& y) 18) := js_St.okG (st_land d_307_17) (fun _ _ _ _ _ => rfl)
theorem ki_307_16 : js_OkG 307 16 (o_lc 1 17) := js_St.okG (st_lconst rfl d_307_16) (fun _ _ _ _ _ => rfl)
theorem ki_307_46 : js_OkG 307 46 (o_ic 8 48) := js_St.okG (st_bipush rfl d_307_46) (fun _ _ _ _ _ => rfl)
theorem ki_307_44 : js_OkG 307 44 (o_il 5 46) := js_St.okG (st_iload d_307_44) (fun _ _ _ _ _ => rfl)
theorem ki_307_43 : js_OkG 307 43 (o_lc 1 44) := js_St.okG (st_lconst rfl d_307_43) (fun _ _ _ _ _ => rfl)
theorem ki_307_40 : js_OkG 307 40 (o_cne 53 43) := js_St.okG (st_icne (by decide) d_307_40) (fun _ _ _ _ _ => rfl)
theorem ki_307_39 : js_OkG 307 39 (o_ic 1 40) := js_St.okG (st_iconst rfl d_307_39) (fun _ _ _ _ _ => rfl)
theorem ki_307_36 : js_OkG 307 36 (o_cI 176 4 0 39) := og_sIP rfl rfl kB_307_176 rfl kw_785 kw_786 d_307_36
theorem ki_307_35 : js_OkG 307 35 (o_ic 0 36) := js_St.okG (st_iconst rfl d_307_35) (fun _ _ _ _ _ => rfl)
theorem ki_307_34 : js_OkG 307 34 (o_rem 35) := js_St.okG (st_irem d_307_34) (fun _ _ _ _ _ => rfl)
theorem ki_307_32 : js_OkG 307 32 (o_ic 8 34) := js_St.okG (st_bipush rfl d_307_32) (fun _ _ _ _ _ => rfl)
theorem ki_307_63 : js_OkG 307 63 (o_il 5 65) := js_St.okG (st_iload d_307_63) (fun _ _ _ _ _ => rfl)
theorem ki_307_62 : js_OkG 307 62 (o_div 63) := js_St.okG (st_idiv d_307_62) (fun _ _ _ _ _ => rfl)
theorem ki_307_60 : js_OkG 307 60 (o_ic 8 62) := js_St.okG (st_bipush rfl d_307_60) (fun _ _ _ _ _ => rfl)
theorem ki_307_58 : js_OkG 307 58 (o_il 5 60) := js_St.okG (st_iload d_307_58) (fun _ _ _ _ _ => rfl)
theorem ki_307_57 : js_OkG 307 57 (o_al 0 58) := js_St.okG (st_aloadn rfl d_307_57) (fun _ _ _ _ _ => rfl)
theorem ki_307_56 : js_OkG 307 56 (o_ll 3 57) := js_St.okG (st_lloadn rfl d_307_56) (fun _ _ _ _ _ => rfl)
theorem ki_307_55 : js_OkG 307 55 (o_ls 3 56) := js_St.okG (st_lstoren rfl (Nat.le_of_ble_eq_true rfl) d_307_55) (fun _ _ _ _ _ => rfl)
theorem ki_307_54 : js_OkG 307 54 (o_B2 (fun x y => x ||| y) 55) := js_St.okG (st_lor d_307_54) (fun _ _ _ _ _ => rfl)
theorem ki_307_53 : js_OkG 307 53 (o_lc 0 54) := js_St.okG (st_lconst rfl d_307_53) (fun _ _ _ _ _ => rfl)
theorem ki_307_50 : js_OkG 307 50 (o_go 54) := js_St.okG (st_goto (by decide) d_307_50) (fun _ _ _ _ _ => rfl)
theorem ki_307_49 : js_OkG 307 49 (o_Sh (fun x y => x <<< (y.toInt64 &&& 63)) 50) := js_St.okG (st_lshl d_307_49) (fun _ _ _ _ _ => rfl)
theorem ki_307_48 : js_OkG 307 48 (o_b2 (fun x y => x - y) 49) := js_St.okG (st_isub d_307_48) (fun _ _ _ _ _ => rfl)
theorem ki_307_79 : js_OkG 307 79 (o_ic 1 80) := js_St.okG (st_iconst rfl d_307_79) (fun _ _ _ _ _ => rfl)
theorem ki_307_77 : js_OkG 307 77 (o_il 5 79) := js_St.okG (st_iload d_307_77) (fun _ _ _ _ _ => rfl)
theorem ki_307_76 : js_OkG 307 76 (o_lc 1 77) := js_St.okG (st_lconst rfl d_307_76) (fun _ _ _ _ _ => rfl)
theorem ki_307_73 : js_OkG 307 73 (o_cne 85 76) := js_St.okG (st_icne (by decide) d_307_73) (fun _ _ _ _ _ => rfl)
theorem ki_307_72 : js_OkG 307 72 (o_ic 1 73) := js_St.okG (st_iconst rfl d_307_72) (fun _ _ _ _ _ => rfl)
theorem ki_307_69 : js_OkG 307 69 (o_cI 176 4 0 72) := og_sIP rfl rfl kB_307_176 rfl kw_785 kw_786 d_307_69
theorem ki_307_68 : js_OkG 307 68 (o_ic 1 69) := js_St.okG (st_iconst rfl d_307_68) (fun _ _ _ _ _ => rfl)
theorem ki_307_67 : js_OkG 307 67 (o_rem 68) := js_St.okG (st_irem d_307_67) (fun _ _ _ _ _ => rfl)
theorem ki_307_65 : js_OkG 307 65 (o_ic 8 67) := js_St.okG (st_bipush rfl d_307_65) (fun _ _ _ _ _ => rfl)
theorem ki_307_95 : js_OkG 307 95 (o_il 5 97) := js_St.okG (st_iload d_307_95) (fun _ _ _ _ _ => rfl)
theorem ki_307_94 : js_OkG 307 94 (o_div 95) := js_St.okG (st_idiv d_307_94) (fun _ _ _ _ _ => rfl)
theorem ki_307_92 : js_OkG 307 92 (o_ic 8 94) := js_St.okG (st_bipush rfl d_307_92) (fun _ _ _ _ _ => rfl)
theorem ki_307_90 : js_OkG 307 90 (o_il 5 92) := js_St.okG (st_iload d_307_90) (fun _ _ _ _ _ => rfl)
theorem ki_307_89 : js_OkG 307 89 (o_al 0 90) := js_St.okG (st_aloadn rfl d_307_89) (fun _ _ _ _ _ => rfl)
theorem ki_307_88 : js_OkG 307 88 (o_ll 3 89) := js_St.okG (st_lloadn rfl d_307_88) (fun _ _ _ _ _ => rfl)
theorem ki_307_87 : js_OkG 307 87 (o_ls 3 88) := js_St.okG (st_lstoren rfl (Nat.le_of_ble_eq_true rfl) d_307_87) (fun _ _ _ _ _ => rfl)
theorem ki_307_86 : js_OkG 307 86 (o_B2 (fun x y => x ||| y) 87) := js_St.okG (st_lor d_307_86) (fun _ _ _ _ _ => rfl)
theorem ki_307_85 : js_OkG 307 85 (o_lc 0 86) := js_St.okG (st_lconst rfl d_307_85) (fun _ _ _ _ _ => rfl)
theorem ki_307_82 : js_OkG 307 82 (o_go 86) := js_St.okG (st_goto (by decide) d_307_82) (fun _ _ _ _ _ => rfl)
theorem ki_307_81 : js_OkG 307 81 (o_Sh (fun x y => x <<< (y.toInt64 &&& 63)) 82) := js_St.okG (st_lshl d_307_81) (fun _ _ _ _ _ => rfl)
theorem ki_307_80 : js_OkG 307 80 (o_b2 (fun x y => x + y) 81) := js_St.okG (st_iadd d_307_80) (fun _ _ _ _ _ => rfl)
theorem ki_307_111 : js_OkG 307 111 (o_ic 8 113) := js_St.okG (st_bipush rfl d_307_111) (fun _ _ _ _ _ => rfl)
theorem ki_307_109 : js_OkG 307 109 (o_il 5 111) := js_St.okG (st_iload d_307_109) (fun _ _ _ _ _ => rfl)
theorem ki_307_108 : js_OkG 307 108 (o_lc 1 109) := js_St.okG (st_lconst rfl d_307_108) (fun _ _ _ _ _ => rfl)
theorem ki_307_105 : js_OkG 307 105 (o_cne 118 108) := js_St.okG (st_icne (by decide) d_307_105) (fun _ _ _ _ _ => rfl)
theorem ki_307_104 : js_OkG 307 104 (o_ic 1 105) := js_St.okG (st_iconst rfl d_307_104) (fun _ _ _ _ _ => rfl)
theorem ki_307_101 : js_OkG 307 101 (o_cI 176 4 0 104) := og_sIP rfl rfl kB_307_176 rfl kw_785 kw_786 d_307_101
theorem ki_307_100 : js_OkG 307 100 (o_ic 2 101) := js_St.okG (st_iconst rfl d_307_100) (fun _ _ _ _ _ => rfl)
theorem ki_307_99 : js_OkG 307 99 (o_rem 100) := js_St.okG (st_irem d_307_99) (fun _ _ _ _ _ => rfl)
theorem ki_307_97 : js_OkG 307 97 (o_ic 8 99) := js_St.okG (st_bipush rfl d_307_97) (fun _ _ _ _ _ => rfl)
theorem ki_307_127 : js_OkG 307 127 (o_div 128) := js_St.okG (st_idiv d_307_127) (fun _ _ _ _ _ => rfl)
theorem ki_307_125 : js_OkG 307 125 (o_ic 8 127) := js_St.okG (st_bipush rfl d_307_125) (fun _ _ _ _ _ => rfl)
theorem ki_307_123 : js_OkG 307 123 (o_il 5 125) := js_St.okG (st_iload d_307_123) (fun _ _ _ _ _ => rfl)
theorem ki_307_122 : js_OkG 307 122 (o_al 0 123) := js_St.okG (st_aloadn rfl d_307_122) (fun _ _ _ _ _ => rfl)
theorem ki_307_121 : js_OkG 307 121 (o_ll 3 122) := js_St.okG (st_lloadn rfl d_307_121) (fun _ _ _ _ _ => rfl)
theorem ki_307_120 : js_OkG 307 120 (o_ls 3 121) := js_St.okG (st_lstoren rfl (Nat.le_of_ble_eq_true rfl) d_307_120) (fun _ _ _ _ _ => rfl)
theorem ki_307_119 : js_OkG 307 119 (o_B2 (fun x y => x ||| y) 120) := js_St.okG (st_lor d_307_119) (fun _ _ _ _ _ => rfl)
theorem ki_307_118 : js_OkG 307 118 (o_lc 0 119) := js_St.okG (st_lconst rfl d_307_118) (fun _ _ _ _ _ => rfl)
theorem ki_307_115 : js_OkG 307 115 (o_go 119) := js_St.okG (st_goto (by decide) d_307_115) (fun _ _ _ _ _ => rfl)
theorem ki_307_114 : js_OkG 307 114 (o_Sh (fun x y => x <<< (y.toInt64 &&& 63)) 115) := js_St.okG (st_lshl d_307_114) (fun _ _ _ _ _ => rfl)
theorem ki_307_113 : js_OkG 307 113 (o_b2 (fun x y => x + y) 114) := js_St.okG (st_iadd d_307_113) (fun _ _ _ _ _ => rfl)
theorem ki_307_142 : js_OkG 307 142 (o_il 5 144) := js_St.okG (st_iload d_307_142) (fun _ _ _ _ _ => rfl)
theorem ki_307_141 : js_OkG 307 141 (o_lc 1 142) := js_St.okG (st_lconst rfl d_307_141) (fun _ _ _ _ _ => rfl)
theorem ki_307_138 : js_OkG 307 138 (o_cne 150 141) := js_St.okG (st_icne (by decide) d_307_138) (fun _ _ _ _ _ => rfl)
theorem ki_307_137 : js_OkG 307 137 (o_ic 1 138) := js_St.okG (st_iconst rfl d_307_137) (fun _ _ _ _ _ => rfl)
theorem ki_307_134 : js_OkG 307 134 (o_cI 176 4 0 137) := og_sIP rfl rfl kB_307_176 rfl kw_785 kw_786 d_307_134
theorem ki_307_133 : js_OkG 307 133 (o_ic 3 134) := js_St.okG (st_iconst rfl d_307_133) (fun _ _ _ _ _ => rfl)
theorem ki_307_132 : js_OkG 307 132 (o_rem 133) := js_St.okG (st_irem d_307_132) (fun _ _ _ _ _ => rfl)
theorem ki_307_130 : js_OkG 307 130 (o_ic 8 132) := js_St.okG (st_bipush rfl d_307_130) (fun _ _ _ _ _ => rfl)
theorem ki_307_128 : js_OkG 307 128 (o_il 5 130) := js_St.okG (st_iload d_307_128) (fun _ _ _ _ _ => rfl)
theorem ki_307_159 : js_OkG 307 159 (o_ll 3 160) := js_St.okG (st_lloadn rfl d_307_159) (fun _ _ _ _ _ => rfl)
theorem ki_307_156 : js_OkG 307 156 (o_go 5) := js_St.okG (st_goto (by decide) d_307_156) (fun _ _ _ _ _ => rfl)
theorem ki_307_153 : js_OkG 307 153 (o_inc 5 1 156) := js_St.okG (st_iinc rfl (Nat.le_of_ble_eq_true rfl) d_307_153) (fun _ _ _ _ _ => rfl)
theorem ki_307_152 : js_OkG 307 152 (o_ls 3 153) := js_St.okG (st_lstoren rfl (Nat.le_of_ble_eq_true rfl) d_307_152) (fun _ _ _ _ _ => rfl)
theorem ki_307_151 : js_OkG 307 151 (o_B2 (fun x y => x ||| y) 152) := js_St.okG (st_lor d_307_151) (fun _ _ _ _ _ => rfl)
theorem ki_307_150 : js_OkG 307 150 (o_lc 0 151) := js_St.okG (st_lconst rfl d_307_150) (fun _ _ _ _ _ => rfl)
theorem ki_307_147 : js_OkG 307 147 (o_go 151) := js_St.okG (st_goto (by decide) d_307_147) (fun _ _ _ _ _ => rfl)
theorem ki_307_146 : js_OkG 307 146 (o_Sh (fun x y => x <<< (y.toInt64 &&& 63)) 147) := js_St.okG (st_lshl d_307_146) (fun _ _ _ _ _ => rfl)
theorem ki_307_145 : js_OkG 307 145 (o_b2 (fun x y => x - y) 146) := js_St.okG (st_isub d_307_145) (fun _ _ _ _ _ => rfl)
theorem ki_307_144 : js_OkG 307 144 (o_ic 1 145) := js_St.okG (st_iconst rfl d_307_144) (fun _ _ _ _ _ => rfl)
theorem ki_307_174 : js_OkG 307 174 (o_rL) := og_rL rfl d_307_174
theorem ki_307_171 : js_OkG 307 171 (o_cL 308 2 0 174) := og_sLP rfl rfl kB_307_308 rfl kw_949 kw_950 d_307_171
theorem ki_307_170 : js_OkG 307 170 (o_ll 3 171) := js_St.okG (st_lloadn rfl d_307_170) (fun _ _ _ _ _ => rfl)
theorem ki_307_169 : js_OkG 307 169 (o_al 0 170) := js_St.okG (st_aloadn rfl d_307_169) (fun _ _ _ _ _ => rfl)
theorem ki_307_166 : js_OkG 307 166 (o_go 174) := js_St.okG (st_goto (by decide) d_307_166) (fun _ _ _ _ _ => rfl)
theorem ki_307_165 : js_OkG 307 165 (o_ll 1 166) := js_St.okG (st_lloadn rfl d_307_165) (fun _ _ _ _ _ => rfl)
theorem ki_307_162 : js_OkG 307 162 (o_ne 169 165) := js_St.okG (st_ifne (by decide) d_307_162) (fun _ _ _ _ _ => rfl)
theorem ki_307_161 : js_OkG 307 161 (o_lcmp 162) := js_St.okG (st_lcmp d_307_161) (fun _ _ _ _ _ => rfl)
theorem ki_307_160 : js_OkG 307 160 (o_ll 1 161) := js_St.okG (st_lloadn rfl d_307_160) (fun _ _ _ _ _ => rfl)
set_option maxRecDepth 20000 in
theorem mk_307 : js_mokG 307 := jk_tab (fun _ => js_St.okG st_bad (fun _ _ _ _ _ => rfl)) (show jk_all (js_OkG 307) 0 (tb_G 307) from ⟨⟨ki_307_0, ⟨ki_307_1, ⟨ki_307_2, ⟨ki_307_3, ⟨kbadG, ⟨ki_307_5, ⟨kbadG, ⟨ki_307_7, ⟨kbadG, ⟨ki_307_9, ⟨kbadG, ⟨kbadG, ⟨ki_307_12, ⟨ki_307_13, ⟨kbadG, ⟨ki_307_15, trivial⟩⟩⟩⟩⟩⟩⟩⟩⟩⟩⟩⟩⟩⟩⟩⟩, ⟨⟨ki_307_16, ⟨ki_307_17, ⟨ki_307_18, ⟨ki_307_19, ⟨ki_307_20, ⟨kbadG, ⟨kbadG, ⟨ki_307_23, ⟨ki_307_24, ⟨ki_307_25, ⟨kbadG, ⟨ki_307_27, ⟨kbadG, ⟨ki_307_29, ⟨ki_307_30, ⟨kbadG, trivial⟩⟩⟩⟩⟩⟩⟩⟩⟩⟩⟩⟩⟩⟩⟩⟩, ⟨⟨ki_307_32, ⟨kbadG, ⟨ki_307_34, ⟨ki_307_35, ⟨ki_307_36, ⟨kbadG, ⟨kbadG, ⟨ki_307_39, ⟨ki_307_40, ⟨kbadG, ⟨kbadG, ⟨ki_307_43, ⟨ki_307_44, ⟨kbadG, ⟨ki_307_46, ⟨kbadG, trivial⟩⟩⟩⟩⟩⟩⟩⟩⟩⟩⟩⟩⟩⟩⟩⟩, ⟨⟨ki_307_48, ⟨ki_307_49, ⟨ki_307_50, ⟨kbadG, ⟨kbadG, ⟨ki_307_53, ⟨ki_307_54, ⟨ki_307_55, ⟨ki_307_56, ⟨ki_307_57, ⟨ki_307_58, ⟨kbadG, ⟨ki_307_60, ⟨kbadG, ⟨ki_307_62, ⟨ki_307_63, trivial⟩⟩⟩⟩⟩⟩⟩⟩⟩⟩⟩⟩⟩⟩⟩⟩, ⟨⟨kbadG, ⟨ki_307_65, ⟨kbadG, ⟨ki_307_67, ⟨ki_307_68, ⟨ki_307_69, ⟨kbadG, ⟨kbadG, ⟨ki_307_72, ⟨ki_307_73, ⟨kbadG, ⟨kbadG, ⟨ki_307_76, ⟨ki_307_77, ⟨kbadG, ⟨ki_307_79, trivial⟩⟩⟩⟩⟩⟩⟩⟩⟩⟩⟩⟩⟩⟩⟩⟩, ⟨⟨ki_307_80, ⟨ki_307_81, ⟨ki_307_82, ⟨kbadG, ⟨kbadG, ⟨ki_307_85, ⟨ki_307_86, ⟨ki_307_87, ⟨ki_307_88, ⟨ki_307_89, ⟨ki_307_90, ⟨kbadG, ⟨ki_307_92, ⟨kbadG, ⟨ki_307_94, ⟨ki_307_95, trivial⟩⟩⟩⟩⟩⟩⟩⟩⟩⟩⟩⟩⟩⟩⟩⟩, ⟨⟨kbadG, ⟨ki_307_97, ⟨kbadG, ⟨ki_307_99, ⟨ki_307_100, ⟨ki_307_101, ⟨kbadG, ⟨kbadG, ⟨ki_307_104, ⟨ki_307_105, ⟨kbadG, ⟨kbadG, ⟨ki_307_108, ⟨ki_307_109, ⟨kbadG, ⟨ki_307_111, trivial⟩⟩⟩⟩⟩⟩⟩⟩⟩⟩⟩⟩⟩⟩⟩⟩, ⟨⟨kbadG, ⟨ki_307_113, ⟨ki_307_114, ⟨ki_307_115, ⟨kbadG, ⟨kbadG, ⟨ki_307_118, ⟨ki_307_119, ⟨ki_307_120, ⟨ki_307_121, ⟨ki_307_122, ⟨ki_307_123, ⟨kbadG, ⟨ki_307_125, ⟨kbadG, ⟨ki_307_127, trivial⟩⟩⟩⟩⟩⟩⟩⟩⟩⟩⟩⟩⟩⟩⟩⟩, ⟨⟨ki_307_128, ⟨kbadG, ⟨ki_307_130, ⟨kbadG, ⟨ki_307_132, ⟨ki_307_133, ⟨ki_307_134, ⟨kbadG, ⟨kbadG, ⟨ki_307_137, ⟨ki_307_138, ⟨kbadG, ⟨kbadG, ⟨ki_307_141, ⟨ki_307_142, ⟨kbadG, trivial⟩⟩⟩⟩⟩⟩⟩⟩⟩⟩⟩⟩⟩⟩⟩⟩, ⟨⟨ki_307_144, ⟨ki_307_145, ⟨ki_307_146, ⟨ki_307_147, ⟨kbadG, ⟨kbadG, ⟨ki_307_150, ⟨ki_307_151, ⟨ki_307_152, ⟨ki_307_153, ⟨kbadG, ⟨kbadG, ⟨ki_307_156, ⟨kbadG, ⟨kbadG, ⟨ki_307_159, trivial⟩⟩⟩⟩⟩⟩⟩⟩⟩⟩⟩⟩⟩⟩⟩⟩, ⟨⟨ki_307_160, ⟨ki_307_161, ⟨ki_307_162, ⟨kbadG, ⟨kbadG, ⟨ki_307_165, ⟨ki_307_166, ⟨kbadG, ⟨kbadG, ⟨ki_307_169, ⟨ki_307_170, ⟨ki_307_171, ⟨kbadG, ⟨kbadG, ⟨ki_307_174, trivial⟩⟩⟩⟩⟩⟩⟩⟩⟩⟩⟩⟩⟩⟩⟩, trivial⟩⟩⟩⟩⟩⟩⟩⟩⟩⟩⟩)
theorem d_308_0 : decode (js_b 308) 0 = .ok (.lload_n 1, 1) := d_300_0
theorem d_308_1 : decode (js_b 308) 1 = .ok (.lstore_n 3, 1) := d_300_1
theorem d_308_2 : decode (js_b 308) 2 = .ok (.iconst 0, 1) := d_300_2
theorem d_308_3 : decode (js_b 308) 3 = .ok (.istore 5, 2) := d_300_3
theorem d_308_5 : decode (js_b 308) 5 = .ok (.iload 5, 2) := d_300_5
theorem d_308_7 : decode (js_b 308) 7 = .ok (.bipush 64, 2) := d_300_7
theorem d_308_9 : decode (js_b 308) 9 = .ok (.if_icmp .ge 150, 3) := d_300_9
theorem d_308_12 : decode (js_b 308) 12 = .ok (.lload_n 1, 1) := d_300_12
theorem d_308_13 : decode (js_b 308) 13 = .ok (.iload 5, 2) := d_300_13
theorem d_308_15 : decode (js_b 308) 15 = .ok (.lushr, 1) := d_300_15
theorem d_308_16 : decode (js_b 308) 16 = .ok (.lconst 1, 1) := d_300_16
theorem d_308_17 : decode (js_b 308) 17 = .ok (.land, 1) := d_300_17
theorem d_308_18 : decode (js_b 308) 18 = .ok (.lconst 1, 1) := d_300_18
theorem d_308_19 : decode (js_b 308) 19 = .ok (.lcmp, 1) := d_300_19
theorem d_308_20 : decode (js_b 308) 20 = .ok (.ifCond .ne 133, 3) := d_300_20
theorem d_308_23 : decode (js_b 308) 23 = .ok (.lload_n 3, 1) := d_300_23
theorem d_308_24 : decode (js_b 308) 24 = .ok (.aload_n 0, 1) := d_300_24
theorem d_308_25 : decode (js_b 308) 25 = .ok (.iload 5, 2) := d_300_25
theorem d_308_27 : decode (js_b 308) 27 = .ok (.bipush 8, 2) := d_300_27
theorem d_308_29 : decode (js_b 308) 29 = .ok (.idiv, 1) := d_300_29
theorem d_308_30 : decode (js_b 308) 30 = .ok (.iload 5, 2) := d_300_30
theorem d_308_32 : decode (js_b 308) 32 = .ok (.bipush 8, 2) := d_300_32
theorem d_308_34 : decode (js_b 308) 34 = .ok (.irem, 1) := d_300_34
theorem d_308_35 : decode (js_b 308) 35 = .ok (.iconst 0, 1) := d_300_35
theorem d_308_36 : decode (js_b 308) 36 = .ok (.invokestatic 198, 3) := d_300_36
theorem d_308_39 : decode (js_b 308) 39 = .ok (.iconst 1, 1) := d_300_39
theorem d_308_40 : decode (js_b 308) 40 = .ok (.if_icmp .ne 13, 3) := d_300_40
theorem d_308_43 : decode (js_b 308) 43 = .ok (.lconst 1, 1) := d_300_43
theorem d_308_44 : decode (js_b 308) 44 = .ok (.iload 5, 2) := d_300_44
theorem d_308_46 : decode (js_b 308) 46 = .ok (.bipush 8, 2) := d_300_46
theorem d_308_48 : decode (js_b 308) 48 = .ok (.isub, 1) := d_300_48
theorem d_308_49 : decode (js_b 308) 49 = .ok (.lshl, 1) := d_300_49
theorem d_308_50 : decode (js_b 308) 50 = .ok (.goto 4, 3) := d_300_50
theorem d_308_53 : decode (js_b 308) 53 = .ok (.lconst 0, 1) := d_300_53
theorem d_308_54 : decode (js_b 308) 54 = .ok (.lor, 1) := d_300_54
theorem d_308_55 : decode (js_b 308) 55 = .ok (.lstore_n 3, 1) := d_300_55
theorem d_308_56 : decode (js_b 308) 56 = .ok (.lload_n 3, 1) := d_300_56
theorem d_308_57 : decode (js_b 308) 57 = .ok (.aload_n 0, 1) := d_300_57
theorem d_308_58 : decode (js_b 308) 58 = .ok (.iload 5, 2) := d_300_58
theorem d_308_60 : decode (js_b 308) 60 = .ok (.bipush 8, 2) := d_300_60
theorem d_308_62 : decode (js_b 308) 62 = .ok (.idiv, 1) := d_300_62
theorem d_308_63 : decode (js_b 308) 63 = .ok (.iload 5, 2) := d_300_63
theorem d_308_65 : decode (js_b 308) 65 = .ok (.bipush 8, 2) := d_300_65
theorem d_308_67 : decode (js_b 308) 67 = .ok (.irem, 1) := d_300_67
theorem d_308_68 : decode (js_b 308) 68 = .ok (.iconst 1, 1) := d_300_68
theorem d_308_69 : decode (js_b 308) 69 = .ok (.invokestatic 198, 3) := d_300_69
theorem d_308_72 : decode (js_b 308) 72 = .ok (.iconst 1, 1) := d_300_72
theorem d_308_73 : decode (js_b 308) 73 = .ok (.if_icmp .ne 12, 3) := d_300_73
theorem d_308_76 : decode (js_b 308) 76 = .ok (.lconst 1, 1) := d_300_76
theorem d_308_77 : decode (js_b 308) 77 = .ok (.iload 5, 2) := d_300_77
theorem d_308_79 : decode (js_b 308) 79 = .ok (.iconst 1, 1) := d_300_79
theorem d_308_80 : decode (js_b 308) 80 = .ok (.iadd, 1) := d_300_80
theorem d_308_81 : decode (js_b 308) 81 = .ok (.lshl, 1) := d_300_81
theorem d_308_82 : decode (js_b 308) 82 = .ok (.goto 4, 3) := d_300_82
theorem d_308_85 : decode (js_b 308) 85 = .ok (.lconst 0, 1) := d_300_85
theorem d_308_86 : decode (js_b 308) 86 = .ok (.lor, 1) := d_300_86
theorem d_308_87 : decode (js_b 308) 87 = .ok (.lstore_n 3, 1) := d_300_87
theorem d_308_88 : decode (js_b 308) 88 = .ok (.lload_n 3, 1) := d_300_88
theorem d_308_89 : decode (js_b 308) 89 = .ok (.aload_n 0, 1) := d_300_89
theorem d_308_90 : decode (js_b 308) 90 = .ok (.iload 5, 2) := d_300_90
theorem d_308_92 : decode (js_b 308) 92 = .ok (.bipush 8, 2) := d_300_92
theorem d_308_94 : decode (js_b 308) 94 = .ok (.idiv, 1) := d_300_94
theorem d_308_95 : decode (js_b 308) 95 = .ok (.iload 5, 2) := d_300_95
theorem d_308_97 : decode (js_b 308) 97 = .ok (.bipush 8, 2) := d_300_97
theorem d_308_99 : decode (js_b 308) 99 = .ok (.irem, 1) := d_300_99
theorem d_308_100 : decode (js_b 308) 100 = .ok (.iconst 2, 1) := d_300_100
theorem d_308_101 : decode (js_b 308) 101 = .ok (.invokestatic 198, 3) := d_300_101
theorem d_308_104 : decode (js_b 308) 104 = .ok (.iconst 1, 1) := d_300_104
theorem d_308_105 : decode (js_b 308) 105 = .ok (.if_icmp .ne 13, 3) := d_300_105
theorem d_308_108 : decode (js_b 308) 108 = .ok (.lconst 1, 1) := d_300_108
theorem d_308_109 : decode (js_b 308) 109 = .ok (.iload 5, 2) := d_300_109
theorem d_308_111 : decode (js_b 308) 111 = .ok (.bipush 8, 2) := d_300_111
theorem d_308_113 : decode (js_b 308) 113 = .ok (.iadd, 1) := d_300_113
theorem d_308_114 : decode (js_b 308) 114 = .ok (.lshl, 1) := d_300_114
theorem d_308_115 : decode (js_b 308) 115 = .ok (.goto 4, 3) := d_300_115
theorem d_308_118 : decode (js_b 308) 118 = .ok (.lconst 0, 1) := d_300_118
theorem d_308_119 : decode (js_b 308) 119 = .ok (.lor, 1) := d_300_119
theorem d_308_120 : decode (js_b 308) 120 = .ok (.lstore_n 3, 1) := d_300_120
theorem d_308_121 : decode (js_b 308) 121 = .ok (.lload_n 3, 1) := d_300_121
theorem d_308_122 : decode (js_b 308) 122 = .ok (.aload_n 0, 1) := d_300_122
theorem d_308_123 : decode (js_b 308) 123 = .ok (.iload 5, 2) := d_300_123
theorem d_308_125 : decode (js_b 308) 125 = .ok (.bipush 8, 2) := d_300_125
theorem d_308_127 : decode (js_b 308) 127 = .ok (.idiv, 1) := d_300_127
theorem d_308_128 : decode (js_b 308) 128 = .ok (.iload 5, 2) := d_300_128
theorem d_308_130 : decode (js_b 308) 130 = .ok (.bipush 8, 2) := d_300_130
theorem d_308_132 : decode (js_b 308) 132 = .ok (.irem, 1) := d_300_132
theorem d_308_133 : decode (js_b 308) 133 = .ok (.iconst 3, 1) := d_300_133
theorem d_308_134 : decode (js_b 308) 134 = .ok (.invokestatic 198, 3) := d_300_134
theorem d_308_137 : decode (js_b 308) 137 = .ok (.iconst 1, 1) := d_300_137
theorem d_308_138 : decode (js_b 308) 138 = .ok (.if_icmp .ne 12, 3) := d_300_138
theorem d_308_141 : decode (js_b 308) 141 = .ok (.lconst 1, 1) := d_300_141
theorem d_308_142 : decode (js_b 308) 142 = .ok (.iload 5, 2) := d_300_142
theorem d_308_144 : decode (js_b 308) 144 = .ok (.iconst 1, 1) := d_300_144
theorem d_308_145 : decode (js_b 308) 145 = .ok (.isub, 1) := d_300_145
theorem d_308_146 : decode (js_b 308) 146 = .ok (.lshl, 1) := d_300_146
theorem d_308_147 : decode (js_b 308) 147 = .ok (.goto 4, 3) := d_300_147
theorem d_308_150 : decode (js_b 308) 150 = .ok (.lconst 0, 1) := d_300_150
theorem d_308_151 : decode (js_b 308) 151 = .ok (.lor, 1) := d_300_151
theorem d_308_152 : decode (js_b 308) 152 = .ok (.lstore_n 3, 1) := d_300_152
theorem d_308_153 : decode (js_b 308) 153 = .ok (.iinc 5 1, 3) := d_300_153
theorem d_308_156 : decode (js_b 308) 156 = .ok (.goto (-151), 3) := d_300_156
theorem d_308_159 : decode (js_b 308) 159 = .ok (.lload_n 3, 1) := d_300_159
theorem d_308_160 : decode (js_b 308) 160 = .ok (.lload_n 1, 1) := d_300_160
theorem d_308_161 : decode (js_b 308) 161 = .ok (.lcmp, 1) := d_300_161
theorem d_308_162 : decode (js_b 308) 162 = .ok (.ifCond .ne 7, 3) := d_300_162
theorem d_308_165 : decode (js_b 308) 165 = .ok (.lload_n 1, 1) := d_300_165
theorem d_308_166 : decode (js_b 308) 166 = .ok (.goto 8, 3) := d_300_166
theorem d_308_169 : decode (js_b 308) 169 = .ok (.aload_n 0, 1) := d_300_169
theorem d_308_170 : decode (js_b 308) 170 = .ok (.lload_n 3, 1) := d_300_170
theorem d_308_171 : decode (js_b 308) 171 = .ok (.invokestatic 323, 3) := d_300_171
theorem d_308_174 : decode (js_b 308) 174 = .ok (.lreturn, 1) := d_300_174
theorem ki_308_15 : js_OkG 308 15 (o_Sh (fun x y => (x.toUInt64 >>> (y.toInt64.toUInt64 &&& Int64.toUInt64 63)).toInt64) 16) := js_St.okG (st_lushr d_308_15) (fun _ _ _ _ _ => rfl)
theorem ki_308_13 : js_OkG 308 13 (o_il 5 15) := js_St.okG (st_iload d_308_13) (fun _ _ _ _ _ => rfl)
theorem ki_308_12 : js_OkG 308 12 (o_ll 1 13) := js_St.okG (st_lloadn rfl d_308_12) (fun _ _ _ _ _ => rfl)
theorem ki_308_9 : js_OkG 308 9 (o_cge 159 12) := js_St.okG (st_icge (by decide) d_308_9) (fun _ _ _ _ _ => rfl)
theorem ki_308_7 : js_OkG 308 7 (o_ic 64 9) := js_St.okG (st_bipush rfl d_308_7) (fun _ _ _ _ _ => rfl)
theorem ki_308_5 : js_OkG 308 5 (o_il 5 7) := js_St.okG (st_iload d_308_5) (fun _ _ _ _ _ => rfl)
theorem ki_308_3 : js_OkG 308 3 (o_is 5 5) := js_St.okG (st_istore (Nat.le_of_ble_eq_true rfl) d_308_3) (fun _ _ _ _ _ => rfl)
theorem ki_308_2 : js_OkG 308 2 (o_ic 0 3) := js_St.okG (st_iconst rfl d_308_2) (fun _ _ _ _ _ => rfl)
theorem ki_308_1 : js_OkG 308 1 (o_ls 3 2) := js_St.okG (st_lstoren rfl (Nat.le_of_ble_eq_true rfl) d_308_1) (fun _ _ _ _ _ => rfl)
theorem ki_308_0 : js_OkG 308 0 (o_ll 1 1) := js_St.okG (st_lloadn rfl d_308_0) (fun _ _ _ _ _ => rfl)
theorem ki_308_30 : js_OkG 308 30 (o_il 5 32) := js_St.okG (st_iload d_308_30) (fun _ _ _ _ _ => rfl)
theorem ki_308_29 : js_OkG 308 29 (o_div 30) := js_St.okG (st_idiv d_308_29) (fun _ _ _ _ _ => rfl)
theorem ki_308_27 : js_OkG 308 27 (o_ic 8 29) := js_St.okG (st_bipush rfl d_308_27) (fun _ _ _ _ _ => rfl)
theorem ki_308_25 : js_OkG 308 25 (o_il 5 27) := js_St.okG (st_iload d_308_25) (fun _ _ _ _ _ => rfl)
theorem ki_308_24 : js_OkG 308 24 (o_al 0 25) := js_St.okG (st_aloadn rfl d_308_24) (fun _ _ _ _ _ => rfl)
theorem ki_308_23 : js_OkG 308 23 (o_ll 3 24) := js_St.okG (st_lloadn rfl d_308_23) (fun _ _ _ _ _ => rfl)
theorem ki_308_20 : js_OkG 308 20 (o_ne 153 23) := js_St.okG (st_ifne (by decide) d_308_20) (fun _ _ _ _ _ => rfl)
theorem ki_308_19 : js_OkG 308 19 (o_lcmp 20) := js_St.okG (st_lcmp d_308_19) (fun _ _ _ _ _ => rfl)
theorem ki_308_18 : js_OkG 308 18 (o_lc 1 19) := js_St.okG (st_lconst rfl d_308_18) (fun _ _ _ _ _ => rfl)
theorem ki_308_17 : js_OkG 308 17 (o_B2 (fun x y => x &&& y) 18) := js_St.okG (st_land d_308_17) (fun _ _ _ _ _ => rfl)
theorem ki_308_16 : js_OkG 308 16 (o_lc 1 17) := js_St.okG (st_lconst rfl d_308_16) (fun _ _ _ _ _ => rfl)
theorem ki_308_46 : js_OkG 308 46 (o_ic 8 48) := js_St.okG (st_bipush rfl d_308_46) (fun _ _ _ _ _ => rfl)
theorem ki_308_44 : js_OkG 308 44 (o_il 5 46) := js_St.okG (st_iload d_308_44) (fun _ _ _ _ _ => rfl)
theorem ki_308_43 : js_OkG 308 43 (o_lc 1 44) := js_St.okG (st_lconst rfl d_308_43) (fun _ _ _ _ _ => rfl)
theorem ki_308_40 : js_OkG 308 40 (o_cne 53 43) := js_St.okG (st_icne (by decide) d_308_40) (fun _ _ _ _ _ => rfl)
theorem ki_308_39 : js_OkG 308 39 (o_ic 1 40) := js_St.okG (st_iconst rfl d_308_39) (fun _ _ _ _ _ => rfl)
theorem ki_308_36 : js_OkG 308 36 (o_cI 176 4 0 39) := og_sIP rfl rfl kB_308_176 rfl kw_785 kw_786 d_308_36
theorem ki_308_35 : js_OkG 308 35 (o_ic 0 36) := js_St.okG (st_iconst rfl d_308_35) (fun _ _ _ _ _ => rfl)
theorem ki_308_34 : js_OkG 308 34 (o_rem 35) := js_St.okG (st_irem d_308_34) (fun _ _ _ _ _ => rfl)
theorem ki_308_32 : js_OkG 308 32 (o_ic 8 34) := js_St.okG (st_bipush rfl d_308_32) (fun _ _ _ _ _ => rfl)
theorem ki_308_63 : js_OkG 308 63 (o_il 5 65) := js_St.okG (st_iload d_308_63) (fun _ _ _ _ _ => rfl)
theorem ki_308_62 : js_OkG 308 62 (o_div 63) := js_St.okG (st_idiv d_308_62) (fun _ _ _ _ _ => rfl)
theorem ki_308_60 : js_OkG 308 60 (o_ic 8 62) := js_St.okG (st_bipush rfl d_308_60) (fun _ _ _ _ _ => rfl)
theorem ki_308_58 : js_OkG 308 58 (o_il 5 60) := js_St.okG (st_iload d_308_58) (fun _ _ _ _ _ => rfl)
theorem ki_308_57 : js_OkG 308 57 (o_al 0 58) := js_St.okG (st_aloadn rfl d_308_57) (fun _ _ _ _ _ => rfl)
theorem ki_308_56 : js_OkG 308 56 (o_ll 3 57) := js_St.okG (st_lloadn rfl d_308_56) (fun _ _ _ _ _ => rfl)
theorem ki_308_55 : js_OkG 308 55 (o_ls 3 56) := js_St.okG (st_lstoren rfl (Nat.le_of_ble_eq_true rfl) d_308_55) (fun _ _ _ _ _ => rfl)
theorem ki_308_54 : js_OkG 308 54 (o_B2 (fun x y => x ||| y) 55) := js_St.okG (st_lor d_308_54) (fun _ _ _ _ _ => rfl)
theorem ki_308_53 : js_OkG 308 53 (o_lc 0 54) := js_St.okG (st_lconst rfl d_308_53) (fun _ _ _ _ _ => rfl)
theorem ki_308_50 : js_OkG 308 50 (o_go 54) := js_St.okG (st_goto (by decide) d_308_50) (fun _ _ _ _ _ => rfl)
theorem ki_308_49 : js_OkG 308 49 (o_Sh (fun x y => x <<< (y.toInt64 &&& 63)) 50) := js_St.okG (st_lshl d_308_49) (fun _ _ _ _ _ => rfl)
theorem ki_308_48 : js_OkG 308 48 (o_b2 (fun x y => x - y) 49) := js_St.okG (st_isub d_308_48) (fun _ _ _ _ _ => rfl)
theorem ki_308_79 : js_OkG 308 79 (o_ic 1 80) := js_St.okG (st_iconst rfl d_308_79) (fun _ _ _ _ _ => rfl)
theorem ki_308_77 : js_OkG 308 77 (o_il 5 79) := js_St.okG (st_iload d_308_77) (fun _ _ _ _ _ => rfl)
theorem ki_308_76 : js_OkG 308 76 (o_lc 1 77) := js_St.okG (st_lconst rfl d_308_76) (fun _ _ _ _ _ => rfl)
theorem ki_308_73 : js_OkG 308 73 (o_cne 85 76) := js_St.okG (st_icne (by decide) d_308_73) (fun _ _ _ _ _ => rfl)
theorem ki_308_72 : js_OkG 308 72 (o_ic 1 73) := js_St.okG (st_iconst rfl d_308_72) (fun _ _ _ _ _ => rfl)
theorem ki_308_69 : js_OkG 308 69 (o_cI 176 4 0 72) := og_sIP rfl rfl kB_308_176 rfl kw_785 kw_786 d_308_69
theorem ki_308_68 : js_OkG 308 68 (o_ic 1 69) := js_St.okG (st_iconst rfl d_308_68) (fun _ _ _ _ _ => rfl)
theorem ki_308_67 : js_OkG 308 67 (o_rem 68) := js_St.okG (st_irem d_308_67) (fun _ _ _ _ _ => rfl)
theorem ki_308_65 : js_OkG 308 65 (o_ic 8 67) := js_St.okG (st_bipush rfl d_308_65) (fun _ _ _ _ _ => rfl)
theorem ki_308_95 : js_OkG 308 95 (o_il 5 97) := js_St.okG (st_iload d_308_95) (fun _ _ _ _ _ => rfl)
theorem ki_308_94 : js_OkG 308 94 (o_div 95) := js_St.okG (st_idiv d_308_94) (fun _ _ _ _ _ => rfl)
theorem ki_308_92 : js_OkG 308 92 (o_ic 8 94) := js_St.okG (st_bipush rfl d_308_92) (fun _ _ _ _ _ => rfl)
theorem ki_308_90 : js_OkG 308 90 (o_il 5 92) := js_St.okG (st_iload d_308_90) (fun _ _ _ _ _ => rfl)
theorem ki_308_89 : js_OkG 308 89 (o_al 0 90) := js_St.okG (st_aloadn rfl d_308_89) (fun _ _ _ _ _ => rfl)
theorem ki_308_88 : js_OkG 308 88 (o_ll 3 89) := js_St.okG (st_lloadn rfl d_308_88) (fun _ _ _ _ _ => rfl)
theorem ki_308_87 : js_OkG 308 87 (o_ls 3 88) := js_St.okG (st_lstoren rfl (Nat.le_of_ble_eq_true rfl) d_308_87) (fun _ _ _ _ _ => rfl)
theorem ki_308_86 : js_OkG 308 86 (o_B2 (fun x y => x ||| y) 87) := js_St.okG (st_lor d_308_86) (fun _ _ _ _ _ => rfl)
theorem ki_308_85 : js_OkG 308 85 (o_lc 0 86) := js_St.okG (st_lconst rfl d_308_85) (fun _ _ _ _ _ => rfl)
theorem ki_308_82 : js_OkG 308 82 (o_go 86) := js_St.okG (st_goto (by decide) d_308_82) (fun _ _ _ _ _ => rfl)
theorem ki_308_81 : js_OkG 308 81 (o_Sh (fun x y => x <<< (y.toInt64 &&& 63)) 82) := js_St.okG (st_lshl d_308_81) (fun _ _ _ _ _ => rfl)
theorem ki_308_80 : js_OkG 308 80 (o_b2 (fun x y => x + y) 81) := js_St.okG (st_iadd d_308_80) (fun _ _ _ _ _ => rfl)
theorem ki_308_111 : js_OkG 308 111 (o_ic 8 113) := js_St.okG (st_bipush rfl d_308_111) (fun _ _ _ _ _ => rfl)
theorem ki_308_109 : js_OkG 308 109 (o_il 5 111) := js_St.okG (st_iload d_308_109) (fun _ _ _ _ _ => rfl)
theorem ki_308_108 : js_OkG 308 108 (o_lc 1 109) := js_St.okG (st_lconst rfl d_308_108) (fun _ _ _ _ _ => rfl)
theorem ki_308_105 : js_OkG 308 105 (o_cne 118 108) := js_St.okG (st_icne (by decide) d_308_105) (fun _ _ _ _ _ => rfl)
theorem ki_308_104 : js_OkG 308 104 (o_ic 1 105) := js_St.okG (st_iconst rfl d_308_104) (fun _ _ _ _ _ => rfl)
theorem ki_308_101 : js_OkG 308 101 (o_cI 176 4 0 104) := og_sIP rfl rfl kB_308_176 rfl kw_785 kw_786 d_308_101
theorem ki_308_100 : js_OkG 308 100 (o_ic 2 101) := js_St.okG (st_iconst rfl d_308_100) (fun _ _ _ _ _ => rfl)
theorem ki_308_99 : js_OkG 308 99 (o_rem 100) := js_St.okG (st_irem d_308_99) (fun _ _ _ _ _ => rfl)
theorem ki_308_97 : js_OkG 308 97 (o_ic 8 99) := js_St.okG (st_bipush rfl d_308_97) (fun _ _ _ _ _ => rfl)
theorem ki_308_127 : js_OkG 308 127 (o_div 128) := js_St.okG (st_idiv d_308_127) (fun _ _ _ _ _ => rfl)
theorem ki_308_125 : js_OkG 308 125 (o_ic 8 127) := js_St.okG (st_bipush rfl d_308_125) (fun _ _ _ _ _ => rfl)
theorem ki_308_123 : js_OkG 308 123 (o_il 5 125) := js_St.okG (st_iload d_308_123) (fun _ _ _ _ _ => rfl)
theorem ki_308_122 : js_OkG 308 122 (o_al 0 123) := js_St.okG (st_aloadn rfl d_308_122) (fun _ _ _ _ _ => rfl)
theorem ki_308_121 : js_OkG 308 121 (o_ll 3 122) := js_St.okG (st_lloadn rfl d_308_121) (fun _ _ _ _ _ => rfl)
theorem ki_308_120 : js_OkG 308 120 (o_ls 3 121) := js_St.okG (st_lstoren rfl (Nat.le_of_ble_eq_true rfl) d_308_120) (fun _ _ _ _ _ => rfl)
theorem ki_308_119 : js_OkG 308 119 (o_B2 (fun x y => x ||| y) 120) := js_St.okG (st_lor d_308_119) (fun _ _ _ _ _ => rfl)
theorem ki_308_118 : js_OkG 308 118 (o_lc 0 119) := js_St.okG (st_lconst rfl d_308_118) (fun _ _ _ _ _ => rfl)
theorem ki_308_115 : js_OkG 308 115 (o_go 119) := js_St.okG (st_goto (by decide) d_308_115) (fun _ _ _ _ _ => rfl)
theorem ki_308_114 : js_OkG 308 114 (o_Sh (fun x y => x <<< (y.toInt64 &&& 63)) 115) := js_St.okG (st_lshl d_308_114) (fun _ _ _ _ _ => rfl)
theorem ki_308_113 : js_OkG 308 113 (o_b2 (fun x y => x + y) 114) := js_St.okG (st_iadd d_308_113) (fun _ _ _ _ _ => rfl)
theorem ki_308_142 : js_OkG 308 142 (o_il 5 144) := js_St.okG (st_iload d_308_142) (fun _ _ _ _ _ => rfl)
theorem ki_308_141 : js_OkG 308 141 (o_lc 1 142) := js_St.okG (st_lconst rfl d_308_141) (fun _ _ _ _ _ => rfl)
theorem ki_308_138 : js_OkG 308 138 (o_cne 150 141) := js_St.okG (st_icne (by decide) d_308_138) (fun _ _ _ _ _ => rfl)
theorem ki_308_137 : js_OkG 308 137 (o_ic 1 138) := js_St.okG (st_iconst rfl d_308_137) (fun _ _ _ _ _ => rfl)
theorem ki_308_134 : js_OkG 308 134 (o_cI 176 4 0 137) := og_sIP rfl rfl kB_308_176 rfl kw_785 kw_786 d_308_134
theorem ki_308_133 : js_OkG 308 133 (o_ic 3 134) := js_St.okG (st_iconst rfl d_308_133) (fun _ _ _ _ _ => rfl)
theorem ki_308_132 : js_OkG 308 132 (o_rem 133) := js_St.okG (st_irem d_308_132) (fun _ _ _ _ _ => rfl)
theorem ki_308_130 : js_OkG 308 130 (o_ic 8 132) := js_St.okG (st_bipush rfl d_308_130) (fun _ _ _ _ _ => rfl)
theorem ki_308_128 : js_OkG 308 128 (o_il 5 130) := js_St.okG (st_iload d_308_128) (fun _ _ _ _ _ => rfl)
theorem ki_308_159 : js_OkG 308 159 (o_ll 3 160) := js_St.okG (st_lloadn rfl d_308_159) (fun _ _ _ _ _ => rfl)
theorem ki_308_156 : js_OkG 308 156 (o_go 5) := js_St.okG (st_goto (by decide) d_308_156) (fun _ _ _ _ _ => rfl)
theorem ki_308_153 : js_OkG 308 153 (o_inc 5 1 156) := js_St.okG (st_iinc rfl (Nat.le_of_ble_eq_true rfl) d_308_153) (fun _ _ _ _ _ => rfl)
theorem ki_308_152 : js_OkG 308 152 (o_ls 3 153) := js_St.okG (st_lstoren rfl (Nat.le_of_ble_eq_true rfl) d_308_152) (fun _ _ _ _ _ => rfl)
theorem ki_308_151 : js_OkG 308 151 (o_B2 (fun x y => x ||| y) 152) := js_St.okG (st_lor d_308_151) (fun _ _ _ _ _ => rfl)
theorem ki_308_150 : js_OkG 308 150 (o_lc 0 151) := js_St.okG (st_lconst rfl d_308_150) (fun _ _ _ _ _ => rfl)
theorem ki_308_147 : js_OkG 308 147 (o_go 151) := js_St.okG (st_goto (by decide) d_308_147) (fun _ _ _ _ _ => rfl)
theorem ki_308_146 : js_OkG 308 146 (o_Sh (fun x y => x <<< (y.toInt64 &&& 63)) 147) := js_St.okG (st_lshl d_308_146) (fun _ _ _ _ _ => rfl)
theorem ki_308_145 : js_OkG 308 145 (o_b2 (fun x y => x - y) 146) := js_St.okG (st_isub d_308_145) (fun _ _ _ _ _ => rfl)
theorem ki_308_144 : js_OkG 308 144 (o_ic 1 145) := js_St.okG (st_iconst rfl d_308_144) (fun _ _ _ _ _ => rfl)
theorem ki_308_174 : js_OkG 308 174 (o_rL) := og_rL rfl d_308_174
theorem ki_308_171 : js_OkG 308 171 (o_cL 309 2 0 174) := og_sLP rfl rfl kB_308_309 rfl kw_949 kw_950 d_308_171
theorem ki_308_170 : js_OkG 308 170 (o_ll 3 171) := js_St.okG (st_lloadn rfl d_308_170) (fun _ _ _ _ _ => rfl)
theorem ki_308_169 : js_OkG 308 169 (o_al 0 170) := js_St.okG (st_aloadn rfl d_308_169) (fun _ _ _ _ _ => rfl)
theorem ki_308_166 : js_OkG 308 166 (o_go 174) := js_St.okG (st_goto (by decide) d_308_166) (fun _ _ _ _ _ => rfl)
theorem ki_308_165 : js_OkG 308 165 (o_ll 1 166) := js_St.okG (st_lloadn rfl d_308_165) (fun _ _ _ _ _ => rfl)
theorem ki_308_162 : js_OkG 308 162 (o_ne 169 165) := js_St.okG (st_ifne (by decide) d_308_162) (fun _ _ _ _ _ => rfl)
theorem ki_308_161 : js_OkG 308 161 (o_lcmp 162) := js_St.okG (st_lcmp d_308_161) (fun _ _ _ _ _ => rfl)
theorem ki_308_160 : js_OkG 308 160 (o_ll 1 161) := js_St.okG (st_lloadn rfl d_308_160) (fun _ _ _ _ _ => rfl)
set_option maxRecDepth 20000 in
theorem mk_308 : js_mokG 308 := jk_tab (fun _ => js_St.okG st_bad (fun _ _ _ _ _ => rfl)) (show jk_all (js_OkG 308) 0 (tb_G 308) from ⟨⟨ki_308_0, ⟨ki_308_1, ⟨ki_308_2, ⟨ki_308_3, ⟨kbadG, ⟨ki_308_5, ⟨kbadG, ⟨ki_308_7, ⟨kbadG, ⟨ki_308_9, ⟨kbadG, ⟨kbadG, ⟨ki_308_12, ⟨ki_308_13, ⟨kbadG, ⟨ki_308_15, trivial⟩⟩⟩⟩⟩⟩⟩⟩⟩⟩⟩⟩⟩⟩⟩⟩, ⟨⟨ki_308_16, ⟨ki_308_17, ⟨ki_308_18, ⟨ki_308_19, ⟨ki_308_20, ⟨kbadG, ⟨kbadG, ⟨ki_308_23, ⟨ki_308_24, ⟨ki_308_25, ⟨kbadG, ⟨ki_308_27, ⟨kbadG, ⟨ki_308_29, ⟨ki_308_30, ⟨kbadG, trivial⟩⟩⟩⟩⟩⟩⟩⟩⟩⟩⟩⟩⟩⟩⟩⟩, ⟨⟨ki_308_32, ⟨kbadG, ⟨ki_308_34, ⟨ki_308_35, ⟨ki_308_36, ⟨kbadG, ⟨kbadG, ⟨ki_308_39, ⟨ki_308_40, ⟨kbadG, ⟨kbadG, ⟨ki_308_43, ⟨ki_308_44, ⟨kbadG, ⟨ki_308_46, ⟨kbadG, trivial⟩⟩⟩⟩⟩⟩⟩⟩⟩⟩⟩⟩⟩⟩⟩⟩, ⟨⟨ki_308_48, ⟨ki_308_49, ⟨ki_308_50, ⟨kbadG, ⟨kbadG, ⟨ki_308_53, ⟨ki_308_54, ⟨ki_308_55, ⟨ki_308_56, ⟨ki_308_57, ⟨ki_308_58, ⟨kbadG, ⟨ki_308_60, ⟨kbadG, ⟨ki_308_62, ⟨ki_308_63, trivial⟩⟩⟩⟩⟩⟩⟩⟩⟩⟩⟩⟩⟩⟩⟩⟩, ⟨⟨kbadG, ⟨ki_308_65, ⟨kbadG, ⟨ki_308_67, ⟨ki_308_68, ⟨ki_308_69, ⟨kbadG, ⟨kbadG, ⟨ki_308_72, ⟨ki_308_73, ⟨kbadG, ⟨kbadG, ⟨ki_308_76, ⟨ki_308_77, ⟨kbadG, ⟨ki_308_79, trivial⟩⟩⟩⟩⟩⟩⟩⟩⟩⟩⟩⟩⟩⟩⟩⟩, ⟨⟨ki_308_80, ⟨ki_308_81, ⟨ki_308_82, ⟨kbadG, ⟨kbadG, ⟨ki_308_85, ⟨ki_308_86, ⟨ki_308_87, ⟨ki_308_88, ⟨ki_308_89, ⟨ki_308_90, ⟨kbadG, ⟨ki_308_92, ⟨kbadG, ⟨ki_308_94, ⟨ki_308_95, trivial⟩⟩⟩⟩⟩⟩⟩⟩⟩⟩⟩⟩⟩⟩⟩⟩, ⟨⟨kbadG, ⟨ki_308_97, ⟨kbadG, ⟨ki_308_99, ⟨ki_308_100, ⟨ki_308_101, ⟨kbadG, ⟨kbadG, ⟨ki_308_104, ⟨ki_308_105, ⟨kbadG, ⟨kbadG, ⟨ki_308_108, ⟨ki_308_109, ⟨kbadG, ⟨ki_308_111, trivial⟩⟩⟩⟩⟩⟩⟩⟩⟩⟩⟩⟩⟩⟩⟩⟩, ⟨⟨kbadG, ⟨ki_308_113, ⟨ki_308_114, ⟨ki_308_115, ⟨kbadG, ⟨kbadG, ⟨ki_308_118, ⟨ki_308_119, ⟨ki_308_120, ⟨ki_308_121, ⟨ki_308_122, ⟨ki_308_123, ⟨kbadG, ⟨ki_308_125, ⟨kbadG, ⟨ki_308_127, trivial⟩⟩⟩⟩⟩⟩⟩⟩⟩⟩⟩⟩⟩⟩⟩⟩, ⟨⟨ki_308_128, ⟨kbadG, ⟨ki_308_130, ⟨kbadG, ⟨ki_308_132, ⟨ki_308_133, ⟨ki_308_134, ⟨kbadG, ⟨kbadG, ⟨ki_308_137, ⟨ki_308_138, ⟨kbadG, ⟨kbadG, ⟨ki_308_141, ⟨ki_308_142, ⟨kbadG, trivial⟩⟩⟩⟩⟩⟩⟩⟩⟩⟩⟩⟩⟩⟩⟩⟩, ⟨⟨ki_308_144, ⟨ki_308_145, ⟨ki_308_146, ⟨ki_308_147, ⟨kbadG, ⟨kbadG, ⟨ki_308_150, ⟨ki_308_151, ⟨ki_308_152, ⟨ki_308_153, ⟨kbadG, ⟨kbadG, ⟨ki_308_156, ⟨kbadG, ⟨kbadG, ⟨ki_308_159, trivial⟩⟩⟩⟩⟩⟩⟩⟩⟩⟩⟩⟩⟩⟩⟩⟩, ⟨⟨ki_308_160, ⟨ki_308_161, ⟨ki_308_162, ⟨kbadG, ⟨kbadG, ⟨ki_308_165, ⟨ki_308_166, ⟨kbadG, ⟨kbadG, ⟨ki_308_169, ⟨ki_308_170, ⟨ki_308_171, ⟨kbadG, ⟨kbadG, ⟨ki_308_174, trivial⟩⟩⟩⟩⟩⟩⟩⟩⟩⟩⟩⟩⟩⟩⟩, trivial⟩⟩⟩⟩⟩⟩⟩⟩⟩⟩⟩)
end JS
