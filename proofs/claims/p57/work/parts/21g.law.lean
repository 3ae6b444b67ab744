section JS
theorem d_323_0 : decode (js_b 323) 0 = .ok (.lload_n 1, 1) := d_300_0
theorem d_323_1 : decode (js_b 323) 1 = .ok (.lstore_n 3, 1) := d_300_1
theorem d_323_2 : decode (js_b 323) 2 = .ok (.iconst 0, 1) := d_300_2
theorem d_323_3 : decode (js_b 323) 3 = .ok (.istore 5, 2) := d_300_3
theorem d_323_5 : decode (js_b 323) 5 = .ok (.iload 5, 2) := d_300_5
theorem d_323_7 : decode (js_b 323) 7 = .ok (.bipush 64, 2) := d_300_7
theorem d_323_9 : decode (js_b 323) 9 = .ok (.if_icmp .ge 150, 3) := d_300_9
theorem d_323_12 : decode (js_b 323) 12 = .ok (.lload_n 1, 1) := d_300_12
theorem d_323_13 : decode (js_b 323) 13 = .ok (.iload 5, 2) := d_300_13
theorem d_323_15 : decode (js_b 323) 15 = .ok (.lushr, 1) := d_300_15
theorem d_323_16 : decode (js_b 323) 16 = .ok (.lconst 1, 1) := d_300_16
theorem d_323_17 : decode (js_b 323) 17 = .ok (.land, 1) := d_300_17
theorem d_323_18 : decode (js_b 323) 18 = .ok (.lconst 1, 1) := d_300_18
theorem d_323_19 : decode (js_b 323) 19 = .ok (.lcmp, 1) := d_300_19
theorem d_323_20 : decode (js_b 323) 20 = .ok (.ifCond .ne 133, 3) := d_300_20
theorem d_323_23 : decode (js_b 323) 23 = .ok (.lload_n 3, 1) := d_300_23
theorem d_323_24 : decode (js_b 323) 24 = .ok (.aload_n 0, 1) := d_300_24
theorem d_323_25 : decode (js_b 323) 25 = .ok (.iload 5, 2) := d_300_25
theorem d_323_27 : decode (js_b 323) 27 = .ok (.bipush 8, 2) := d_300_27
theorem d_323_29 : decode (js_b 323) 29 = .ok (.idiv, 1) := d_300_29
theorem d_323_30 : decode (js_b 323) 30 = .ok (.iload 5, 2) := d_300_30
theorem d_323_32 : decode (js_b 323) 32 = .ok (.bipush 8, 2) := d_300_32
theorem d_323_34 : decode (js_b 323) 34 = .ok (.irem, 1) := d_300_34
theorem d_323_35 : decode (js_b 323) 35 = .ok (.iconst 0, 1) := d_300_35
theorem d_323_36 : decode (js_b 323) 36 = .ok (.invokestatic 198, 3) := d_300_36
theorem d_323_39 : decode (js_b 323) 39 = .ok (.iconst 1, 1) := d_300_39
theorem d_323_40 : decode (js_b 323) 40 = .ok (.if_icmp .ne 13, 3) := d_300_40
theorem d_323_43 : decode (js_b 323) 43 = .ok (.lconst 1, 1) := d_300_43
theorem d_323_44 : decode (js_b 323) 44 = .ok (.iload 5, 2) := d_300_44
theorem d_323_46 : decode (js_b 323) 46 = .ok (.bipush 8, 2) := d_300_46
theorem d_323_48 : decode (js_b 323) 48 = .ok (.isub, 1) := d_300_48
theorem d_323_49 : decode (js_b 323) 49 = .ok (.lshl, 1) := d_300_49
theorem d_323_50 : decode (js_b 323) 50 = .ok (.goto 4, 3) := d_300_50
theorem d_323_53 : decode (js_b 323) 53 = .ok (.lconst 0, 1) := d_300_53
theorem d_323_54 : decode (js_b 323) 54 = .ok (.lor, 1) := d_300_54
theorem d_323_55 : decode (js_b 323) 55 = .ok (.lstore_n 3, 1) := d_300_55
theorem d_323_56 : decode (js_b 323) 56 = .ok (.lload_n 3, 1) := d_300_56
theorem d_323_57 : decode (js_b 323) 57 = .ok (.aload_n 0, 1) := d_300_57
theorem d_323_58 : decode (js_b 323) 58 = .ok (.iload 5, 2) := d_300_58
theorem d_323_60 : decode (js_b 323) 60 = .ok (.bipush 8, 2) := d_300_60
theorem d_323_62 : decode (js_b 323) 62 = .ok (.idiv, 1) := d_300_62
theorem d_323_63 : decode (js_b 323) 63 = .ok (.iload 5, 2) := d_300_63
theorem d_323_65 : decode (js_b 323) 65 = .ok (.bipush 8, 2) := d_300_65
theorem d_323_67 : decode (js_b 323) 67 = .ok (.irem, 1) := d_300_67
theorem d_323_68 : decode (js_b 323) 68 = .ok (.iconst 1, 1) := d_300_68
theorem d_323_69 : decode (js_b 323) 69 = .ok (.invokestatic 198, 3) := d_300_69
theorem d_323_72 : decode (js_b 323) 72 = .ok (.iconst 1, 1) := d_300_72
theorem d_323_73 : decode (js_b 323) 73 = .ok (.if_icmp .ne 12, 3) := d_300_73
theorem d_323_76 : decode (js_b 323) 76 = .ok (.lconst 1, 1) := d_300_76
theorem d_323_77 : decode (js_b 323) 77 = .ok (.iload 5, 2) := d_300_77
theorem d_323_79 : decode (js_b 323) 79 = .ok (.iconst 1, 1) := d_300_79
theorem d_323_80 : decode (js_b 323) 80 = .ok (.iadd, 1) := d_300_80
theorem d_323_81 : decode (js_b 323) 81 = .ok (.lshl, 1) := d_300_81
theorem d_323_82 : decode (js_b 323) 82 = .ok (.goto 4, 3) := d_300_82
theorem d_323_85 : decode (js_b 323) 85 = .ok (.lconst 0, 1) := d_300_85
theorem d_323_86 : decode (js_b 323) 86 = .ok (.lor, 1) := d_300_86
theorem d_323_87 : decode (js_b 323) 87 = .ok (.lstore_n 3, 1) := d_300_87
theorem d_323_88 : decode (js_b 323) 88 = .ok (.lload_n 3, 1) := d_300_88
theorem d_323_89 : decode (js_b 323) 89 = .ok (.aload_n 0, 1) := d_300_89
theorem d_323_90 : decode (js_b 323) 90 = .ok (.iload 5, 2) := d_300_90
theorem d_323_92 : decode (js_b 323) 92 = .ok (.bipush 8, 2) := d_300_92
theorem d_323_94 : decode (js_b 323) 94 = .ok (.idiv, 1) := d_300_94
theorem d_323_95 : decode (js_b 323) 95 = .ok (.iload 5, 2) := d_300_95
theorem d_323_97 : decode (js_b 323) 97 = .ok (.bipush 8, 2) := d_300_97
theorem d_323_99 : decode (js_b 323) 99 = .ok (.irem, 1) := d_300_99
theorem d_323_100 : decode (js_b 323) 100 = .ok (.iconst 2, 1) := d_300_100
theorem d_323_101 : decode (js_b 323) 101 = .ok (.invokestatic 198, 3) := d_300_101
theorem d_323_104 : decode (js_b 323) 104 = .ok (.iconst 1, 1) := d_300_104
theorem d_323_105 : decode (js_b 323) 105 = .ok (.if_icmp .ne 13, 3) := d_300_105
theorem d_323_108 : decode (js_b 323) 108 = .ok (.lconst 1, 1) := d_300_108
theorem d_323_109 : decode (js_b 323) 109 = .ok (.iload 5, 2) := d_300_109
theorem d_323_111 : decode (js_b 323) 111 = .ok (.bipush 8, 2) := d_300_111
theorem d_323_113 : decode (js_b 323) 113 = .ok (.iadd, 1) := d_300_113
theorem d_323_114 : decode (js_b 323) 114 = .ok (.lshl, 1) := d_300_114
theorem d_323_115 : decode (js_b 323) 115 = .ok (.goto 4, 3) := d_300_115
theorem d_323_118 : decode (js_b 323) 118 = .ok (.lconst 0, 1) := d_300_118
theorem d_323_119 : decode (js_b 323) 119 = .ok (.lor, 1) := d_300_119
theorem d_323_120 : decode (js_b 323) 120 = .ok (.lstore_n 3, 1) := d_300_120
theorem d_323_121 : decode (js_b 323) 121 = .ok (.lload_n 3, 1) := d_300_121
theorem d_323_122 : decode (js_b 323) 122 = .ok (.aload_n 0, 1) := d_300_122
theorem d_323_123 : decode (js_b 323) 123 = .ok (.iload 5, 2) := d_300_123
theorem d_323_125 : decode (js_b 323) 125 = .ok (.bipush 8, 2) := d_300_125
theorem d_323_127 : decode (js_b 323) 127 = .ok (.idiv, 1) := d_300_127
theorem d_323_128 : decode (js_b 323) 128 = .ok (.iload 5, 2) := d_300_128
theorem d_323_130 : decode (js_b 323) 130 = .ok (.bipush 8, 2) := d_300_130
theorem d_323_132 : decode (js_b 323) 132 = .ok (.irem, 1) := d_300_132
theorem d_323_133 : decode (js_b 323) 133 = .ok (.iconst 3, 1) := d_300_133
theorem d_323_134 : decode (js_b 323) 134 = .ok (.invokestatic 198, 3) := d_300_134
theorem d_323_137 : decode (js_b 323) 137 = .ok (.iconst 1, 1) := d_300_137
theorem d_323_138 : decode (js_b 323) 138 = .ok (.if_icmp .ne 12, 3) := d_300_138
theorem d_323_141 : decode (js_b 323) 141 = .ok (.lconst 1, 1) := d_300_141
theorem d_323_142 : decode (js_b 323) 142 = .ok (.iload 5, 2) := d_300_142
theorem d_323_144 : decode (js_b 323) 144 = .ok (.iconst 1, 1) := d_300_144
theorem d_323_145 : decode (js_b 323) 145 = .ok (.isub, 1) := d_300_145
theorem d_323_146 : decode (js_b 323) 146 = .ok (.lshl, 1) := d_300_146
theorem d_323_147 : decode (js_b 323) 147 = .ok (.goto 4, 3) := d_300_147
theorem d_323_150 : decode (js_b 323) 150 = .ok (.lconst 0, 1) := d_300_150
theorem d_323_151 : decode (js_b 323) 151 = .ok (.lor, 1) := d_300_151
theorem d_323_152 : decode (js_b 323) 152 = .ok (.lstore_n 3, 1) := d_300_152
theorem d_323_153 : decode (js_b 323) 153 = .ok (.iinc 5 1, 3) := d_300_153
theorem d_323_156 : decode (js_b 323) 156 = .ok (.goto (-151), 3) := d_300_156
theorem d_323_159 : decode (js_b 323) 159 = .ok (.lload_n 3, 1) := d_300_159
theorem d_323_160 : decode (js_b 323) 160 = .ok (.lload_n 1, 1) := d_300_160
theorem d_323_161 : decode (js_b 323) 161 = .ok (.lcmp, 1) := d_300_161
theorem d_323_162 : decode (js_b 323) 162 = .ok (.ifCond .ne 7, 3) := d_300_162
theorem d_323_165 : decode (js_b 323) 165 = .ok (.lload_n 1, 1) := d_300_165
theorem d_323_166 : decode (js_b 323) 166 = .ok (.goto 8, 3) := d_300_166
theorem d_323_169 : decode (js_b 323) 169 = .ok (.aload_n 0, 1) := d_300_169
theorem d_323_170 : decode (js_b 323) 170 = .ok (.lload_n 3, 1) := d_300_170
theorem d_323_171 : decode (js_b 323) 171 = .ok (.invokestatic 323, 3) := d_300_171
theorem d_323_174 : decode (js_b 323) 174 = .ok (.lreturn, 1) := d_300_174
theorem ki_323_15 : js_OkG 323 15 (o_Sh (fun x y => (x.toUInt64 >>> (y.toInt64.toUInt64 &&& Int64.toUInt64 63)).toInt64) 16) := js_St.okG (st_lushr d_323_15) (fun _ _ _ _ _ => rfl)
theorem ki_323_13 : js_OkG 323 13 (o_il 5 15) := js_St.okG (st_iload d_323_13) (fun _ _ _ _ _ => rfl)
theorem ki_323_12 : js_OkG 323 12 (o_ll 1 13) := js_St.okG (st_lloadn rfl d_323_12) (fun _ _ _ _ _ => rfl)
theorem ki_323_9 : js_OkG 323 9 (o_cge 159 12) := js_St.okG (st_icge (by decide) d_323_9) (fun _ _ _ _ _ => rfl)
theorem ki_323_7 : js_OkG 323 7 (o_ic 64 9) := js_St.okG (st_bipush rfl d_323_7) (fun _ _ _ _ _ => rfl)
theorem ki_323_5 : js_OkG 323 5 (o_il 5 7) := js_St.okG (st_iload d_323_5) (fun _ _ _ _ _ => rfl)
theorem ki_323_3 : js_OkG 323 3 (o_is 5 5) := js_St.okG (st_istore (Nat.le_of_ble_eq_true rfl) d_323_3) (fun _ _ _ _ _ => rfl)
theorem ki_323_2 : js_OkG 323 2 (o_ic 0 3) := js_St.okG (st_iconst rfl d_323_2) (fun _ _ _ _ _ => rfl)
theorem ki_323_1 : js_OkG 323 1 (o_ls 3 2) := js_St.okG (st_lstoren rfl (Nat.le_of_ble_eq_true rfl) d_323_1) (fun _ _ _ _ _ => rfl)
theorem ki_323_0 : js_OkG 323 0 (o_ll 1 1) := js_St.okG (st_lloadn rfl d_323_0) (fun _ _ _ _ _ => rfl)
theorem ki_323_30 : js_OkG 323 30 (o_il 5 32) := js_St.okG (st_iload d_323_30) (fun _ _ _ _ _ => rfl)
theorem ki_323_29 : js_OkG 323 29 (o_div 30) := js_St.okG (st_idiv d_323_29) (fun _ _ _ _ _ => rfl)
theorem ki_323_27 : js_OkG 323 27 (o_ic 8 29) := js_St.okG (st_bipush rfl d_323_27) (fun _ _ _ _ _ => rfl)
theorem ki_323_25 : js_OkG 323 25 (o_il 5 27) := js_St.okG (st_iload d_323_25) (fun _ _ _ _ _ => rfl)
theorem ki_323_24 : js_OkG 323 24 (o_al 0 25) := js_St.okG (st_aloadn rfl d_323_24) (fun _ _ _ _ _ => rfl)
theorem ki_323_23 : js_OkG 323 23 (o_ll 3 24) := js_St.okG (st_lloadn rfl d_323_23) (fun _ _ _ _ _ => rfl)
theorem ki_323_20 : js_OkG 323 20 (o_ne 153 23) := js_St.okG (st_ifne (by decide) d_323_20) (fun _ _ _ _ _ => rfl)
theorem ki_323_19 : js_OkG 323 19 (o_lcmp 20) := js_St.okG (st_lcmp d_323_19) (fun _ _ _ _ _ => rfl)
theorem ki_323_18 : js_OkG 323 18 (o_lc 1 19) := js_St.okG (st_lconst rfl d_323_18) (fun _ _ _ _ _ => rfl)
theorem ki_323_17 : js_OkG 323 17 (o_B2 (fun x y => x &&& y) 18) := js_St.okG (st_land d_323_17) (fun _ _ _ _ _ => rfl)
theorem ki_323_16 : js_OkG 323 16 (o_lc 1 17) := js_St.okG (st_lconst rfl d_323_16) (fun _ _ _ _ _ => rfl)
theorem ki_323_46 : js_OkG 323 46 (o_ic 8 48) := js_St.okG (st_bipush rfl d_323_46) (fun _ _ _ _ _ => rfl)
theorem ki_323_44 : js_OkG 323 44 (o_il 5 46) := js_St.okG (st_iload d_323_44) (fun _ _ _ _ _ => rfl)
theorem ki_323_43 : js_OkG 323 43 (o_lc 1 44) := js_St.okG (st_lconst rfl d_323_43) (fun _ _ _ _ _ => rfl)
theorem ki_323_40 : js_OkG 323 40 (o_cne 53 43) := js_St.okG (st_icne (by decide) d_323_40) (fun _ _ _ _ _ => rfl)
theorem ki_323_39 : js_OkG 323 39 (o_ic 1 40) := js_St.okG (st_iconst rfl d_323_39) (fun _ _ _ _ _ => rfl)
theorem ki_323_36 : js_OkG 323 36 (o_cI 176 4 0 39) := og_sIP rfl rfl kB_323_176 rfl kw_785 kw_786 d_323_36
theorem ki_323_35 : js_OkG 323 35 (o_ic 0 36) := js_St.okG (st_iconst rfl d_323_35) (fun _ _ _ _ _ => rfl)
theorem ki_323_34 : js_OkG 323 34 (o_rem 35) := js_St.okG (st_irem d_323_34) (fun _ _ _ _ _ => rfl)
theorem ki_323_32 : js_OkG 323 32 (o_ic 8 34) := js_St.okG (st_bipush rfl d_323_32) (fun _ _ _ _ _ => rfl)
theorem ki_323_63 : js_OkG 323 63 (o_il 5 65) := js_St.okG (st_iload d_323_63) (fun _ _ _ _ _ => rfl)
theorem ki_323_62 : js_OkG 323 62 (o_div 63) := js_St.okG (st_idiv d_323_62) (fun _ _ _ _ _ => rfl)
theorem ki_323_60 : js_OkG 323 60 (o_ic 8 62) := js_St.okG (st_bipush rfl d_323_60) (fun _ _ _ _ _ => rfl)
theorem ki_323_58 : js_OkG 323 58 (o_il 5 60) := js_St.okG (st_iload d_323_58) (fun _ _ _ _ _ => rfl)
theorem ki_323_57 : js_OkG 323 57 (o_al 0 58) := js_St.okG (st_aloadn rfl d_323_57) (fun _ _ _ _ _ => rfl)
theorem ki_323_56 : js_OkG 323 56 (o_ll 3 57) := js_St.okG (st_lloadn rfl d_323_56) (fun _ _ _ _ _ => rfl)
theorem ki_323_55 : js_OkG 323 55 (o_ls 3 56) := js_St.okG (st_lstoren rfl (Nat.le_of_ble_eq_true rfl) d_323_55) (fun _ _ _ _ _ => rfl)
theorem ki_323_54 : js_OkG 323 54 (o_B2 (fun x y => x ||| y) 55) := js_St.okG (st_lor d_323_54) (fun _ _ _ _ _ => rfl)
theorem ki_323_53 : js_OkG 323 53 (o_lc 0 54) := js_St.okG (st_lconst rfl d_323_53) (fun _ _ _ _ _ => rfl)
theorem ki_323_50 : js_OkG 323 50 (o_go 54) := js_St.okG (st_goto (by decide) d_323_50) (fun _ _ _ _ _ => rfl)
theorem ki_323_49 : js_OkG 323 49 (o_Sh (fun x y => x <<< (y.toInt64 &&& 63)) 50) := js_St.okG (st_lshl d_323_49) (fun _ _ _ _ _ => rfl)
theorem ki_323_48 : js_OkG 323 48 (o_b2 (fun x y => x - y) 49) := js_St.okG (st_isub d_323_48) (fun _ _ _ _ _ => rfl)
theorem ki_323_79 : js_OkG 323 79 (o_ic 1 80) := js_St.okG (st_iconst rfl d_323_79) (fun _ _ _ _ _ => rfl)
theorem ki_323_77 : js_OkG 323 77 (o_il 5 79) := js_St.okG (st_iload d_323_77) (fun _ _ _ _ _ => rfl)
theorem ki_323_76 : js_OkG 323 76 (o_lc 1 77) := js_St.okG (st_lconst rfl d_323_76) (fun _ _ _ _ _ => rfl)
theorem ki_323_73 : js_OkG 323 73 (o_cne 85 76) := js_St.okG (st_icne (by decide) d_323_73) (fun _ _ _ _ _ => rfl)
theorem ki_323_72 : js_OkG 323 72 (o_ic 1 73) := js_St.okG (st_iconst rfl d_323_72) (fun _ _ _ _ _ => rfl)
theorem ki_323_69 : js_OkG 323 69 (o_cI 176 4 0 72) := og_sIP rfl rfl kB_323_176 rfl kw_785 kw_786 d_323_69
theorem ki_323_68 : js_OkG 323 68 (o_ic 1 69) := js_St.okG (st_iconst rfl d_323_68) (fun _ _ _ _ _ => rfl)
theorem ki_323_67 : js_OkG 323 67 (o_rem 68) := js_St.okG (st_irem d_323_67) (fun _ _ _ _ _ => rfl)
theorem ki_323_65 : js_OkG 323 65 (o_ic 8 67) := js_St.okG (st_bipush rfl d_323_65) (fun _ _ _ _ _ => rfl)
theorem ki_323_95 : js_OkG 323 95 (o_il 5 97) := js_St.okG (st_iload d_323_95) (fun _ _ _ _ _ => rfl)
theorem ki_323_94 : js_OkG 323 94 (o_div 95) := js_St.okG (st_idiv d_323_94) (fun _ _ _ _ _ => rfl)
theorem ki_323_92 : js_OkG 323 92 (o_ic 8 94) := js_St.okG (st_bipush rfl d_323_92) (fun _ _ _ _ _ => rfl)
theorem ki_323_90 : js_OkG 323 90 (o_il 5 92) := js_St.okG (st_iload d_323_90) (fun _ _ _ _ _ => rfl)
theorem ki_323_89 : js_OkG 323 89 (o_al 0 90) := js_St.okG (st_aloadn rfl d_323_89) (fun _ _ _ _ _ => rfl)
theorem ki_323_88 : js_OkG 323 88 (o_ll 3 89) := js_St.okG (st_lloadn rfl d_323_88) (fun _ _ _ _ _ => rfl)
theorem ki_323_87 : js_OkG 323 87 (o_ls 3 88) := js_St.okG (st_lstoren rfl (Nat.le_of_ble_eq_true rfl) d_323_87) (fun _ _ _ _ _ => rfl)
theorem ki_323_86 : js_OkG 323 86 (o_B2 (fun x y => x ||| y) 87) := js_St.okG (st_lor d_323_86) (fun _ _ _ _ _ => rfl)
theorem ki_323_85 : js_OkG 323 85 (o_lc 0 86) := js_St.okG (st_lconst rfl d_323_85) (fun _ _ _ _ _ => rfl)
theorem ki_323_82 : js_OkG 323 82 (o_go 86) := js_St.okG (st_goto (by decide) d_323_82) (fun _ _ _ _ _ => rfl)
theorem ki_323_81 : js_OkG 323 81 (o_Sh (fun x y => x <<< (y.toInt64 &&& 63)) 82) := js_St.okG (st_lshl d_323_81) (fun _ _ _ _ _ => rfl)
theorem ki_323_80 : js_OkG 323 80 (o_b2 (fun x y => x + y) 81) := js_St.okG (st_iadd d_323_80) (fun _ _ _ _ _ => rfl)
theorem ki_323_111 : js_OkG 323 111 (o_ic 8 113) := js_St.okG (st_bipush rfl d_323_111) (fun _ _ _ _ _ => rfl)
theorem ki_323_109 : js_OkG 323 109 (o_il 5 111) := js_St.okG (st_iload d_323_109) (fun _ _ _ _ _ => rfl)
theorem ki_323_108 : js_OkG 323 108 (o_lc 1 109) := js_St.okG (st_lconst rfl d_323_108) (fun _ _ _ _ _ => rfl)
theorem ki_323_105 : js_OkG 323 105 (o_cne 118 108) := js_St.okG (st_icne (by decide) d_323_105) (fun _ _ _ _ _ => rfl)
theorem ki_323_104 : js_OkG 323 104 (o_ic 1 105) := js_St.okG (st_iconst rfl d_323_104) (fun _ _ _ _ _ => rfl)
theorem ki_323_101 : js_OkG 323 101 (o_cI 176 4 0 104) := og_sIP rfl rfl kB_323_176 rfl kw_785 kw_786 d_323_101
theorem ki_323_100 : js_OkG 323 100 (o_ic 2 101) := js_St.okG (st_iconst rfl d_323_100) (fun _ _ _ _ _ => rfl)
theorem ki_323_99 : js_OkG 323 99 (o_rem 100) := js_St.okG (st_irem d_323_99) (fun _ _ _ _ _ => rfl)
theorem ki_323_97 : js_OkG 323 97 (o_ic 8 99) := js_St.okG (st_bipush rfl d_323_97) (fun _ _ _ _ _ => rfl)
theorem ki_323_127 : js_OkG 323 127 (o_div 128) := js_St.okG (st_idiv d_323_127) (fun _ _ _ _ _ => rfl)
theorem ki_323_125 : js_OkG 323 125 (o_ic 8 127) := js_St.okG (st_bipush rfl d_323_125) (fun _ _ _ _ _ => rfl)
theorem ki_323_123 : js_OkG 323 123 (o_il 5 125) := js_St.okG (st_iload d_323_123) (fun _ _ _ _ _ => rfl)
theorem ki_323_122 : js_OkG 323 122 (o_al 0 123) := js_St.okG (st_aloadn rfl d_323_122) (fun _ _ _ _ _ => rfl)
theorem ki_323_121 : js_OkG 323 121 (o_ll 3 122) := js_St.okG (st_lloadn rfl d_323_121) (fun _ _ _ _ _ => rfl)
theorem ki_323_120 : js_OkG 323 120 (o_ls 3 121) := js_St.okG (st_lstoren rfl (Nat.le_of_ble_eq_true rfl) d_323_120) (fun _ _ _ _ _ => rfl)
theorem ki_323_119 : js_OkG 323 119 (o_B2 (fun x y => x ||| y) 120) := js_St.okG (st_lor d_323_119) (fun _ _ _ _ _ => rfl)
theorem ki_323_118 : js_OkG 323 118 (o_lc 0 119) := js_St.okG (st_lconst rfl d_323_118) (fun _ _ _ _ _ => rfl)
theorem ki_323_115 : js_OkG 323 115 (o_go 119) := js_St.okG (st_goto (by decide) d_323_115) (fun _ _ _ _ _ => rfl)
theorem ki_323_114 : js_OkG 323 114 (o_Sh (fun x y => x <<< (y.toInt64 &&& 63)) 115) := js_St.okG (st_lshl d_323_114) (fun _ _ _ _ _ => rfl)
theorem ki_323_113 : js_OkG 323 113 (o_b2 (fun x y => x + y) 114) := js_St.okG (st_iadd d_323_113) (fun _ _ _ _ _ => rfl)
theorem ki_323_142 : js_OkG 323 142 (o_il 5 144) := js_St.okG (st_iload d_323_142) (fun _ _ _ _ _ => rfl)
theorem ki_323_141 : js_OkG 323 141 (o_lc 1 142) := js_St.okG (st_lconst rfl d_323_141) (fun _ _ _ _ _ => rfl)
theorem ki_323_138 : js_OkG 323 138 (o_cne 150 141) := js_St.okG (st_icne (by decide) d_323_138) (fun _ _ _ _ _ => rfl)
theorem ki_323_137 : js_OkG 323 137 (o_ic 1 138) := js_St.okG (st_iconst rfl d_323_137) (fun _ _ _ _ _ => rfl)
theorem ki_323_134 : js_OkG 323 134 (o_cI 176 4 0 137) := og_sIP rfl rfl kB_323_176 rfl kw_785 kw_786 d_323_134
theorem ki_323_133 : js_OkG 323 133 (o_ic 3 134) := js_St.okG (st_iconst rfl d_323_133) (fun _ _ _ _ _ => rfl)
theorem ki_323_132 : js_OkG 323 132 (o_rem 133) := js_St.okG (st_irem d_323_132) (fun _ _ _ _ _ => rfl)
theorem ki_323_130 : js_OkG 323 130 (o_ic 8 132) := js_St.okG (st_bipush rfl d_323_130) (fun _ _ _ _ _ => rfl)
theorem ki_323_128 : js_OkG 323 128 (o_il 5 130) := js_St.okG (st_iload d_323_128) (fun _ _ _ _ _ => rfl)
theorem ki_323_159 : js_OkG 323 159 (o_ll 3 160) := js_St.okG (st_lloadn rfl d_323_159) (fun _ _ _ _ _ => rfl)
theorem ki_323_156 : js_OkG 323 156 (o_go 5) := js_St.okG (st_goto (by decide) d_323_156) (fun _ _ _ _ _ => rfl)
theorem ki_323_153 : js_OkG 323 153 (o_inc 5 1 156) := js_St.okG (st_iinc rfl (Nat.le_of_ble_eq_true rfl) d_323_153) (fun _ _ _ _ _ => rfl)
theorem ki_323_152 : js_OkG 323 152 (o_ls 3 153) := js_St.okG (st_lstoren rfl (Nat.le_of_ble_eq_true rfl) d_323_152) (fun _ _ _ _ _ => rfl)
theorem ki_323_151 : js_OkG 323 151 (o_B2 (fun x y => x ||| y) 152) := js_St.okG (st_lor d_323_151) (fun _ _ _ _ _ => rfl)
theorem ki_323_150 : js_OkG 323 150 (o_lc 0 151) := js_St.okG (st_lconst rfl d_323_150) (fun _ _ _ _ _ => rfl)
theorem ki_323_147 : js_OkG 323 147 (o_go 151) := js_St.okG (st_goto (by decide) d_323_147) (fun _ _ _ _ _ => rfl)
theorem ki_323_146 : js_OkG 323 146 (o_Sh (fun x y => x <<< (y.toInt64 &&& 63)) 147) := js_St.okG (st_lshl d_323_146) (fun _ _ _ _ _ => rfl)
theorem ki_323_145 : js_OkG 323 145 (o_b2 (fun x y => x - y) 146) := js_St.okG (st_isub d_323_145) (fun _ _ _ _ _ => rfl)
theorem ki_323_144 : js_OkG 323 144 (o_ic 1 145) := js_St.okG (st_iconst rfl d_323_144) (fun _ _ _ _ _ => rfl)
theorem ki_323_174 : js_OkG 323 174 (o_rL) := og_rL rfl d_323_174
theorem ki_323_171 : js_OkG 323 171 (o_cL 324 2 0 174) := og_sLP rfl rfl kB_323_324 rfl kw_949 kw_950 d_323_171
theorem ki_323_170 : js_OkG 323 170 (o_ll 3 171) := js_St.okG (st_lloadn rfl d_323_170) (fun _ _ _ _ _ => rfl)
theorem ki_323_169 : js_OkG 323 169 (o_al 0 170) := js_St.okG (st_aloadn rfl d_323_169) (fun _ _ _ _ _ => rfl)
theorem ki_323_166 : js_OkG 323 166 (o_go 174) := js_St.okG (st_goto (by decide) d_323_166) (fun _ _ _ _ _ => rfl)
theorem ki_323_165 : js_OkG 323 165 (o_ll 1 166) := js_St.okG (st_lloadn rfl d_323_165) (fun _ _ _ _ _ => rfl)
theorem ki_323_162 : js_OkG 323 162 (o_ne 169 165) := js_St.okG (st_ifne (by decide) d_323_162) (fun _ _ _ _ _ => rfl)
theorem ki_323_161 : js_OkG 323 161 (o_lcmp 162) := js_St.okG (st_lcmp d_323_161) (fun _ _ _ _ _ => rfl)
theorem ki_323_160 : js_OkG 323 160 (o_ll 1 161) := js_St.okG (st_lloadn rfl d_323_160) (fun _ _ _ _ _ => rfl)
set_option maxRecDepth 20000 in
theorem mk_323 : js_mokG 323 := jk_tab (fun _ => js_St.okG st_bad (fun _ _ _ _ _ => rfl)) (show jk_all (js_OkG 323) 0 (tb_G 323) from ⟨⟨ki_323_0, ⟨ki_323_1, ⟨ki_323_2, ⟨ki_323_3, ⟨kbadG, ⟨ki_323_5, ⟨kbadG, ⟨ki_323_7, ⟨kbadG, ⟨ki_323_9, ⟨kbadG, ⟨kbadG, ⟨ki_323_12, ⟨ki_323_13, ⟨kbadG, ⟨ki_323_15, trivial⟩⟩⟩⟩⟩⟩⟩⟩⟩⟩⟩⟩⟩⟩⟩⟩, ⟨⟨ki_323_16, ⟨ki_323_17, ⟨ki_323_18, ⟨ki_323_19, ⟨ki_323_20, ⟨kbadG, ⟨kbadG, ⟨ki_323_23, ⟨ki_323_24, ⟨ki_323_25, ⟨kbadG, ⟨ki_323_27, ⟨kbadG, ⟨ki_323_29, ⟨ki_323_30, ⟨kbadG, trivial⟩⟩⟩⟩⟩⟩⟩⟩⟩⟩⟩⟩⟩⟩⟩⟩, ⟨⟨ki_323_32, ⟨kbadG, ⟨ki_323_34, ⟨ki_323_35, ⟨ki_323_36, ⟨kbadG, ⟨kbadG, ⟨ki_323_39, ⟨ki_323_40, ⟨kbadG, ⟨kbadG, ⟨ki_323_43, ⟨ki_323_44, ⟨kbadG, ⟨ki_323_46, ⟨kbadG, trivial⟩⟩⟩⟩⟩⟩⟩⟩⟩⟩⟩⟩⟩⟩⟩⟩, ⟨⟨ki_323_48, ⟨ki_323_49, ⟨ki_323_50, ⟨kbadG, ⟨kbadG, ⟨ki_323_53, ⟨ki_323_54, ⟨ki_323_55, ⟨ki_323_56, ⟨ki_323_57, ⟨ki_323_58, ⟨kbadG, ⟨ki_323_60, ⟨kbadG, ⟨ki_323_62, ⟨ki_323_63, trivial⟩⟩⟩⟩⟩⟩⟩⟩⟩⟩⟩⟩⟩⟩⟩⟩, ⟨⟨kbadG, ⟨ki_323_65, ⟨kbadG, ⟨ki_323_67, ⟨ki_323_68, ⟨ki_323_69, ⟨kbadG, ⟨kbadG, ⟨ki_323_72, ⟨ki_323_73, ⟨kbadG, ⟨kbadG, ⟨ki_323_76, ⟨ki_323_77, ⟨kbadG, ⟨ki_323_79, trivial⟩⟩⟩⟩⟩⟩⟩⟩⟩⟩⟩⟩⟩⟩⟩⟩, ⟨⟨ki_323_80, ⟨ki_323_81, ⟨ki_323_82, ⟨kbadG, ⟨kbadG, ⟨ki_323_85, ⟨ki_323_86, ⟨ki_323_87, ⟨ki_323_88, ⟨ki_323_89, ⟨ki_323_90, ⟨kbadG, ⟨ki_323_92, ⟨kbadG, ⟨ki_323_94, ⟨ki_323_95, trivial⟩⟩⟩⟩⟩⟩⟩⟩⟩⟩⟩⟩⟩⟩⟩⟩, ⟨⟨kbadG, ⟨ki_323_97, ⟨kbadG, ⟨ki_323_99, ⟨ki_323_100, ⟨ki_323_101, ⟨kbadG, ⟨kbadG, ⟨ki_323_104, ⟨ki_323_105, ⟨kbadG, ⟨kbadG, ⟨ki_323_108, ⟨ki_323_109, ⟨kbadG, ⟨ki_323_111, trivial⟩⟩⟩⟩⟩⟩⟩⟩⟩⟩⟩⟩⟩⟩⟩⟩, ⟨⟨kbadG, ⟨ki_323_113, ⟨ki_323_114, ⟨ki_323_115, ⟨kbadG, ⟨kbadG, ⟨ki_323_118, ⟨ki_323_119, ⟨ki_323_120, ⟨ki_323_121, ⟨ki_323_122, ⟨ki_323_123, ⟨kbadG, ⟨ki_323_125, ⟨kbadG, ⟨ki_323_127, trivial⟩⟩⟩⟩⟩⟩⟩⟩⟩⟩⟩⟩⟩⟩⟩⟩, ⟨⟨ki_323_128, ⟨kbadG, ⟨ki_323_130, ⟨kbadG, ⟨ki_323_132, ⟨ki_323_133, ⟨ki_323_134, ⟨kbadG, ⟨kbadG, ⟨ki_323_137, ⟨ki_323_138, ⟨kbadG, ⟨kbadG, ⟨ki_323_141, ⟨ki_323_142, ⟨kbadG, trivial⟩⟩⟩⟩⟩⟩⟩⟩⟩⟩⟩⟩⟩⟩⟩⟩, ⟨⟨ki_323_144, ⟨ki_323_145, ⟨ki_323_146, ⟨ki_323_147, ⟨kbadG, ⟨kbadG, ⟨ki_323_150, ⟨ki_323_151, ⟨ki_323_152, ⟨ki_323_153, ⟨kbadG, ⟨kbadG, ⟨ki_323_156, ⟨kbadG, ⟨kbadG, ⟨ki_323_159, trivial⟩⟩⟩⟩⟩⟩⟩⟩⟩⟩⟩⟩⟩⟩⟩⟩, ⟨⟨ki_323_160, ⟨ki_323_161, ⟨ki_323_162, ⟨kbadG, ⟨kbadG, ⟨ki_323_165, ⟨ki_323_166, ⟨kbadG, ⟨kbadG, ⟨ki_323_169, ⟨ki_323_170, ⟨ki_323_171, ⟨kbadG, ⟨kbadG, ⟨ki_323_174, trivial⟩⟩⟩⟩⟩⟩⟩⟩⟩⟩⟩⟩⟩⟩⟩, trivial⟩⟩⟩⟩⟩⟩⟩⟩⟩⟩⟩)
theorem d_324_0 : decode (js_b 324) 0 = .ok (.lload_n 1, 1) := d_300_0
theorem d_324_1 : decode (js_b 324) 1 = .ok (.lstore_n 3, 1) := d_300_1
theorem d_324_2 : decode (js_b 324) 2 = .ok (.iconst 0, 1) := d_300_2
theorem d_324_3 : decode (js_b 324) 3 = .ok (.istore 5, 2) := d_300_3
theorem d_324_5 : decode (js_b 324) 5 = .ok (.iload 5, 2) := d_300_5
theorem d_324_7 : decode (js_b 324) 7 = .ok (.bipush 64, 2) := d_300_7
theorem d_324_9 : decode (js_b 324) 9 = .ok (.if_icmp .ge 150, 3) := d_300_9
theorem d_324_12 : decode (js_b 324) 12 = .ok (.lload_n 1, 1) := d_300_12
theorem d_324_13 : decode (js_b 324) 13 = .ok (.iload 5, 2) := d_300_13
theorem d_324_15 : decode (js_b 324) 15 = .ok (.lushr, 1) := d_300_15
theorem d_324_16 : decode (js_b 324) 16 = .ok (.lconst 1, 1) := d_300_16
theorem d_324_17 : decode (js_b 324) 17 = .ok (.land, 1) := d_300_17
theorem d_324_18 : decode (js_b 324) 18 = .ok (.lconst 1, 1) := d_300_18
theorem d_324_19 : decode (js_b 324) 19 = .ok (.lcmp, 1) := d_300_19
theorem d_324_20 : decode (js_b 324) 20 = .ok (.ifCond .ne 133, 3) := d_300_20
theorem d_324_23 : decode (js_b 324) 23 = .ok (.lload_n 3, 1) := d_300_23
theorem d_324_24 : decode (js_b 324) 24 = .ok (.aload_n 0, 1) := d_300_24
theorem d_324_25 : decode (js_b 324) 25 = .ok (.iload 5, 2) := d_300_25
theorem d_324_27 : decode (js_b 324) 27 = .ok (.bipush 8, 2) := d_300_27
theorem d_324_29 : decode (js_b 324) 29 = .ok (.idiv, 1) := d_300_29
theorem d_324_30 : decode (js_b 324) 30 = .ok (.iload 5, 2) := d_300_30
theorem d_324_32 : decode (js_b 324) 32 = .ok (.bipush 8, 2) := d_300_32
theorem d_324_34 : decode (js_b 324) 34 = .ok (.irem, 1) := d_300_34
theorem d_324_35 : decode (js_b 324) 35 = .ok (.iconst 0, 1) := d_300_35
theorem d_324_36 : decode (js_b 324) 36 = .ok (.invokestatic 198, 3) := d_300_36
theorem d_324_39 : decode (js_b 324) 39 = .ok (.iconst 1, 1) := d_300_39
theorem d_324_40 : decode (js_b 324) 40 = .ok (.if_icmp .ne 13, 3) := d_300_40
theorem d_324_43 : decode (js_b 324) 43 = .ok (.lconst 1, 1) := d_300_43
theorem d_324_44 : decode (js_b 324) 44 = .ok (.iload 5, 2) := d_300_44
theorem d_324_46 : decode (js_b 324) 46 = .ok (.bipush 8, 2) := d_300_46
theorem d_324_48 : decode (js_b 324) 48 = .ok (.isub, 1) := d_300_48
theorem d_324_49 : decode (js_b 324) 49 = .ok (.lshl, 1) := d_300_49
theorem d_324_50 : decode (js_b 324) 50 = .ok (.goto 4, 3) := d_300_50
theorem d_324_53 : decode (js_b 324) 53 = .ok (.lconst 0, 1) := d_300_53
theorem d_324_54 : decode (js_b 324) 54 = .ok (.lor, 1) := d_300_54
theorem d_324_55 : decode (js_b 324) 55 = .ok (.lstore_n 3, 1) := d_300_55
theorem d_324_56 : decode (js_b 324) 56 = .ok (.lload_n 3, 1) := d_300_56
theorem d_324_57 : decode (js_b 324) 57 = .ok (.aload_n 0, 1) := d_300_57
theorem d_324_58 : decode (js_b 324) 58 = .ok (.iload 5, 2) := d_300_58
theorem d_324_60 : decode (js_b 324) 60 = .ok (.bipush 8, 2) := d_300_60
theorem d_324_62 : decode (js_b 324) 62 = .ok (.idiv, 1) := d_300_62
theorem d_324_63 : decode (js_b 324) 63 = .ok (.iload 5, 2) := d_300_63
theorem d_324_65 : decode (js_b 324) 65 = .ok (.bipush 8, 2) := d_300_65
theorem d_324_67 : decode (js_b 324) 67 = .ok (.irem, 1) := d_300_67
theorem d_324_68 : decode (js_b 324) 68 = .ok (.iconst 1, 1) := d_300_68
theorem d_324_69 : decode (js_b 324) 69 = .ok (.invokestatic 198, 3) := d_300_69
theorem d_324_72 : decode (js_b 324) 72 = .ok (.iconst 1, 1) := d_300_72
theorem d_324_73 : decode (js_b 324) 73 = .ok (.if_icmp .ne 12, 3) := d_300_73
theorem d_324_76 : decode (js_b 324) 76 = .ok (.lconst 1, 1) := d_300_76
theorem d_324_77 : decode (js_b 324) 77 = .ok (.iload 5, 2) := d_300_77
theorem d_324_79 : decode (js_b 324) 79 = .ok (.iconst 1, 1) := d_300_79
theorem d_324_80 : decode (js_b 324) 80 = .ok (.iadd, 1) := d_300_80
theorem d_324_81 : decode (js_b 324) 81 = .ok (.lshl, 1) := d_300_81
theorem d_324_82 : decode (js_b 324) 82 = .ok (.goto 4, 3) := d_300_82
theorem d_324_85 : decode (js_b 324) 85 = .ok (.lconst 0, 1) := d_300_85
theorem d_324_86 : decode (js_b 324) 86 = .ok (.lor, 1) := d_300_86
theorem d_324_87 : decode (js_b 324) 87 = .ok (.lstore_n 3, 1) := d_300_87
theorem d_324_88 : decode (js_b 324) 88 = .ok (.lload_n 3, 1) := d_300_88
theorem d_324_89 : decode (js_b 324) 89 = .ok (.aload_n 0, 1) := d_300_89
theorem d_324_90 : decode (js_b 324) 90 = .ok (.iload 5, 2) := d_300_90
theorem d_324_92 : decode (js_b 324) 92 = .ok (.bipush 8, 2) := d_300_92
theorem d_324_94 : decode (js_b 324) 94 = .ok (.idiv, 1) := d_300_94
theorem d_324_95 : decode (js_b 324) 95 = .ok (.iload 5, 2) := d_300_95
theorem d_324_97 : decode (js_b 324) 97 = .ok (.bipush 8, 2) := d_300_97
theorem d_324_99 : decode (js_b 324) 99 = .ok (.irem, 1) := d_300_99
theorem d_324_100 : decode (js_b 324) 100 = .ok (.iconst 2, 1) := d_300_100
theorem d_324_101 : decode (js_b 324) 101 = .ok (.invokestatic 198, 3) := d_300_101
theorem d_324_104 : decode (js_b 324) 104 = .ok (.iconst 1, 1) := d_300_104
theorem d_324_105 : decode (js_b 324) 105 = .ok (.if_icmp .ne 13, 3) := d_300_105
theorem d_324_108 : decode (js_b 324) 108 = .ok (.lconst 1, 1) := d_300_108
theorem d_324_109 : decode (js_b 324) 109 = .ok (.iload 5, 2) := d_300_109
theorem d_324_111 : decode (js_b 324) 111 = .ok (.bipush 8, 2) := d_300_111
theorem d_324_113 : decode (js_b 324) 113 = .ok (.iadd, 1) := d_300_113
theorem d_324_114 : decode (js_b 324) 114 = .ok (.lshl, 1) := d_300_114
theorem d_324_115 : decode (js_b 324) 115 = .ok (.goto 4, 3) := d_300_115
theorem d_324_118 : decode (js_b 324) 118 = .ok (.lconst 0, 1) := d_300_118
theorem d_324_119 : decode (js_b 324) 119 = .ok (.lor, 1) := d_300_119
theorem d_324_120 : decode (js_b 324) 120 = .ok (.lstore_n 3, 1) := d_300_120
theorem d_324_121 : decode (js_b 324) 121 = .ok (.lload_n 3, 1) := d_300_121
theorem d_324_122 : decode (js_b 324) 122 = .ok (.aload_n 0, 1) := d_300_122
theorem d_324_123 : decode (js_b 324) 123 = .ok (.iload 5, 2) := d_300_123
theorem d_324_125 : decode (js_b 324) 125 = .ok (.bipush 8, 2) := d_300_125
theorem d_324_127 : decode (js_b 324) 127 = .ok (.idiv, 1) := d_300_127
theorem d_324_128 : decode (js_b 324) 128 = .ok (.iload 5, 2) := d_300_128
theorem d_324_130 : decode (js_b 324) 130 = .ok (.bipush 8, 2) := d_300_130
theorem d_324_132 : decode (js_b 324) 132 = .ok (.irem, 1) := d_300_132
theorem d_324_133 : decode (js_b 324) 133 = .ok (.iconst 3, 1) := d_300_133
theorem d_324_134 : decode (js_b 324) 134 = .ok (.invokestatic 198, 3) := d_300_134
theorem d_324_137 : decode (js_b 324) 137 = .ok (.iconst 1, 1) := d_300_137
theorem d_324_138 : decode (js_b 324) 138 = .ok (.if_icmp .ne 12, 3) := d_300_138
theorem d_324_141 : decode (js_b 324) 141 = .ok (.lconst 1, 1) := d_300_141
theorem d_324_142 : decode (js_b 324) 142 = .ok (.iload 5, 2) := d_300_142
theorem d_324_144 : decode (js_b 324) 144 = .ok (.iconst 1, 1) := d_300_144
theorem d_324_145 : decode (js_b 324) 145 = .ok (.isub, 1) := d_300_145
theorem d_324_146 : decode (js_b 324) 146 = .ok (.lshl, 1) := d_300_146
theorem d_324_147 : decode (js_b 324) 147 = .ok (.goto 4, 3) := d_300_147
theorem d_324_150 : decode (js_b 324) 150 = .ok (.lconst 0, 1) := d_300_150
theorem d_324_151 : decode (js_b 324) 151 = .ok (.lor, 1) := d_300_151
theorem d_324_152 : decode (js_b 324) 152 = .ok (.lstore_n 3, 1) := d_300_152
theorem d_324_153 : decode (js_b 324) 153 = .ok (.iinc 5 1, 3) := d_300_153
theorem d_324_156 : decode (js_b 324) 156 = .ok (.goto (-151), 3) := d_300_156
theorem d_324_159 : decode (js_b 324) 159 = .ok (.lload_n 3, 1) := d_300_159
theorem d_324_160 : decode (js_b 324) 160 = .ok (.lload_n 1, 1) := d_300_160
theorem d_324_161 : decode (js_b 324) 161 = .ok (.lcmp, 1) := d_300_161
theorem d_324_162 : decode (js_b 324) 162 = .ok (.ifCond .ne 7, 3) := d_300_162
theorem d_324_165 : decode (js_b 324) 165 = .ok (.lload_n 1, 1) := d_300_165
theorem d_324_166 : decode (js_b 324) 166 = .ok (.goto 8, 3) := d_300_166
theorem d_324_169 : decode (js_b 324) 169 = .ok (.aload_n 0, 1) := d_300_169
theorem d_324_170 : decode (js_b 324) 170 = .ok (.lload_n 3, 1) := d_300_170
theorem d_324_171 : decode (js_b 324) 171 = .ok (.invokestatic 323, 3) := d_300_171
theorem d_324_174 : decode (js_b 324) 174 = .ok (.lreturn, 1) := d_300_174
theorem ki_324_15 : js_OkG 324 15 (o_Sh (fun x y => (x.toUInt64 >>> (y.toInt64.toUInt64 &&& Int64.toUInt64 63)).toInt64) 16) := js_St.okG (st_lushr d_324_15) (fun _ _ _ _ _ => rfl)
theorem ki_324_13 : js_OkG 324 13 (o_il 5 15) := js_St.okG (st_iload d_324_13) (fun _ _ _ _ _ => rfl)
theorem ki_324_12 : js_OkG 324 12 (o_ll 1 13) := js_St.okG (st_lloadn rfl d_324_12) (fun _ _ _ _ _ => rfl)
theorem ki_324_9 : js_OkG 324 9 (o_cge 159 12) := js_St.okG (st_icge (by decide) d_324_9) (fun _ _ _ _ _ => rfl)
theorem ki_324_7 : js_OkG 324 7 (o_ic 64 9) := js_St.okG (st_bipush rfl d_324_7) (fun _ _ _ _ _ => rfl)
theorem ki_324_5 : js_OkG 324 5 (o_il 5 7) := js_St.okG (st_iload d_324_5) (fun _ _ _ _ _ => rfl)
theorem ki_324_3 : js_OkG 324 3 (o_is 5 5) := js_St.okG (st_istore (Nat.le_of_ble_eq_true rfl) d_324_3) (fun _ _ _ _ _ => rfl)
theorem ki_324_2 : js_OkG 324 2 (o_ic 0 3) := js_St.okG (st_iconst rfl d_324_2) (fun _ _ _ _ _ => rfl)
theorem ki_324_1 : js_OkG 324 1 (o_ls 3 2) := js_St.okG (st_lstoren rfl (Nat.le_of_ble_eq_true rfl) d_324_1) (fun _ _ _ _ _ => rfl)
theorem ki_324_0 : js_OkG 324 0 (o_ll 1 1) := js_St.okG (st_lloadn rfl d_324_0) (fun _ _ _ _ _ => rfl)
theorem ki_324_30 : js_OkG 324 30 (o_il 5 32) := js_St.okG (st_iload d_324_30) (fun _ _ _ _ _ => rfl)
theorem ki_324_29 : js_OkG 324 29 (o_div 30) := js_St.okG (st_idiv d_324_29) (fun _ _ _ _ _ => rfl)
theorem ki_324_27 : js_OkG 324 27 (o_ic 8 29) := js_St.okG (st_bipush rfl d_324_27) (fun _ _ _ _ _ => rfl)
theorem ki_324_25 : js_OkG 324 25 (o_il 5 27) := js_St.okG (st_iload d_324_25) (fun _ _ _ _ _ => rfl)
theorem ki_324_24 : js_OkG 324 24 (o_al 0 25) := js_St.okG (st_aloadn rfl d_324_24) (fun _ _ _ _ _ => rfl)
theorem ki_324_23 : js_OkG 324 23 (o_ll 3 24) := js_St.okG (st_lloadn rfl d_324_23) (fun _ _ _ _ _ => rfl)
theorem ki_324_20 : js_OkG 324 20 (o_ne 153 23) := js_St.okG (st_ifne (by decide) d_324_20) (fun _ _ _ _ _ => rfl)
theorem ki_324_19 : js_OkG 324 19 (o_lcmp 20) := js_St.okG (st_lcmp d_324_19) (fun _ _ _ _ _ => rfl)
theorem ki_324_18 : js_OkG 324 18 (o_lc 1 19) := js_St.okG (st_lconst rfl d_324_18) (fun _ _ _ _ _ => rfl)
theorem ki_324_17 : js_OkG 324 17 (o_B2 (fun x y => x &&& y) 18) := js_St.okG (st_land d_324_17) (fun _ _ _ _ _ => rfl)
theorem ki_324_16 : js_OkG 324 16 (o_lc 1 17) := js_St.okG (st_lconst rfl d_324_16) (fun _ _ _ _ _ => rfl)
theorem ki_324_46 : js_OkG 324 46 (o_ic 8 48) := js_St.okG (st_bipush rfl d_324_46) (fun _ _ _ _ _ => rfl)
theorem ki_324_44 : js_OkG 324 44 (o_il 5 46) := js_St.okG (st_iload d_324_44) (fun _ _ _ _ _ => rfl)
theorem ki_324_43 : js_OkG 324 43 (o_lc 1 44) := js_St.okG (st_lconst rfl d_324_43) (fun _ _ _ _ _ => rfl)
theorem ki_324_40 : js_OkG 324 40 (o_cne 53 43) := js_St.okG (st_icne (by decide) d_324_40) (fun _ _ _ _ _ => rfl)
theorem ki_324_39 : js_OkG 324 39 (o_ic 1 40) := js_St.okG (st_iconst rfl d_324_39) (fun _ _ _ _ _ => rfl)
theorem ki_324_36 : js_OkG 324 36 (o_cI 176 4 0 39) := og_sIP rfl rfl kB_324_176 rfl kw_785 kw_786 d_324_36
theorem ki_324_35 : js_OkG 324 35 (o_ic 0 36) := js_St.okG (st_iconst rfl d_324_35) (fun _ _ _ _ _ => rfl)
theorem ki_324_34 : js_OkG 324 34 (o_rem 35) := js_St.okG (st_irem d_324_34) (fun _ _ _ _ _ => rfl)
theorem ki_324_32 : js_OkG 324 32 (o_ic 8 34) := js_St.okG (st_bipush rfl d_324_32) (fun _ _ _ _ _ => rfl)
theorem ki_324_63 : js_OkG 324 63 (o_il 5 65) := js_St.okG (st_iload d_324_63) (fun _ _ _ _ _ => rfl)
theorem ki_324_62 : js_OkG 324 62 (o_div 63) := js_St.okG (st_idiv d_324_62) (fun _ _ _ _ _ => rfl)
theorem ki_324_60 : js_OkG 324 60 (o_ic 8 62) := js_St.okG (st_bipush rfl d_324_60) (fun _ _ _ _ _ => rfl)
theorem ki_324_58 : js_OkG 324 58 (o_il 5 60) := js_St.okG (st_iload d_324_58) (fun _ _ _ _ _ => rfl)
theorem ki_324_57 : js_OkG 324 57 (o_al 0 58) := js_St.okG (st_aloadn rfl d_324_57) (fun _ _ _ _ _ => rfl)
theorem ki_324_56 : js_OkG 324 56 (o_ll 3 57) := js_St.okG (st_lloadn rfl d_324_56) (fun _ _ _ _ _ => rfl)
theorem ki_324_55 : js_OkG 324 55 (o_ls 3 56) := js_St.okG (st_lstoren rfl (Nat.le_of_ble_eq_true rfl) d_324_55) (fun _ _ _ _ _ => rfl)
theorem ki_324_54 : js_OkG 324 54 (o_B2 (fun x y => x ||| y) 55) := js_St.okG (st_lor d_324_54) (fun _ _ _ _ _ => rfl)
theorem ki_324_53 : js_OkG 324 53 (o_lc 0 54) := js_St.okG (st_lconst rfl d_324_53) (fun _ _ _ _ _ => rfl)
theorem ki_324_50 : js_OkG 324 50 (o_go 54) := js_St.okG (st_goto (by decide) d_324_50) (fun _ _ _ _ _ => rfl)
theorem ki_324_49 : js_OkG 324 49 (o_Sh (fun x y => x <<< (y.toInt64 &&& 63)) 50) := js_St.okG (st_lshl d_324_49) (fun _ _ _ _ _ => rfl)
theorem ki_324_48 : js_OkG 324 48 (o_b2 (fun x y => x - y) 49) := js_St.okG (st_isub d_324_48) (fun _ _ _ _ _ => rfl)
theorem ki_324_79 : js_OkG 324 79 (o_ic 1 80) := js_St.okG (st_iconst rfl d_324_79) (fun _ _ _ _ _ => rfl)
theorem ki_324_77 : js_OkG 324 77 (o_il 5 79) := js_St.okG (st_iload d_324_77) (fun _ _ _ _ _ => rfl)
theorem ki_324_76 : js_OkG 324 76 (o_lc 1 77) := js_St.okG (st_lconst rfl d_324_76) (fun _ _ _ _ _ => rfl)
theorem ki_324_73 : js_OkG 324 73 (o_cne 85 76) := js_St.okG (st_icne (by decide) d_324_73) (fun _ _ _ _ _ => rfl)
theorem ki_324_72 : js_OkG 324 72 (o_ic 1 73) := js_St.okG (st_iconst rfl d_324_72) (fun _ _ _ _ _ => rfl)
theorem ki_324_69 : js_OkG 324 69 (o_cI 176 4 0 72) := og_sIP rfl rfl kB_324_176 rfl kw_785 kw_786 d_324_69
theorem ki_324_68 : js_OkG 324 68 (o_ic 1 69) := js_St.okG (st_iconst rfl d_324_68) (fun _ _ _ _ _ => rfl)
theorem ki_324_67 : js_OkG 324 67 (o_rem 68) := js_St.okG (st_irem d_324_67) (fun _ _ _ _ _ => rfl)
theorem ki_324_65 : js_OkG 324 65 (o_ic 8 67) := js_St.okG (st_bipush rfl d_324_65) (fun _ _ _ _ _ => rfl)
theorem ki_324_95 : js_OkG 324 95 (o_il 5 97) := js_St.okG (st_iload d_324_95) (fun _ _ _ _ _ => rfl)
theorem ki_324_94 : js_OkG 324 94 (o_div 95) := js_St.okG (st_idiv d_324_94) (fun _ _ _ _ _ => rfl)
theorem ki_324_92 : js_OkG 324 92 (o_ic 8 94) := js_St.okG (st_bipush rfl d_324_92) (fun _ _ _ _ _ => rfl)
theorem ki_324_90 : js_OkG 324 90 (o_il 5 92) := js_St.okG (st_iload d_324_90) (fun _ _ _ _ _ => rfl)
theorem ki_324_89 : js_OkG 324 89 (o_al 0 90) := js_St.okG (st_aloadn rfl d_324_89) (fun _ _ _ _ _ => rfl)
theorem ki_324_88 : js_OkG 324 88 (o_ll 3 89) := js_St.okG (st_lloadn rfl d_324_88) (fun _ _ _ _ _ => rfl)
theorem ki_324_87 : js_OkG 324 87 (o_ls 3 88) := js_St.okG (st_lstoren rfl (Nat.le_of_ble_eq_true rfl) d_324_87) (fun _ _ _ _ _ => rfl)
theorem ki_324_86 : js_OkG 324 86 (o_B2 (fun x y => x ||| y) 87) := js_St.okG (st_lor d_324_86) (fun _ _ _ _ _ => rfl)
theorem ki_324_85 : js_OkG 324 85 (o_lc 0 86) := js_St.okG (st_lconst rfl d_324_85) (fun _ _ _ _ _ => rfl)
theorem ki_324_82 : js_OkG 324 82 (o_go 86) := js_St.okG (st_goto (by decide) d_324_82) (fun _ _ _ _ _ => rfl)
theorem ki_324_81 : js_OkG 324 81 (o_Sh (fun x y => x <<< (y.toInt64 &&& 63)) 82) := js_St.okG (st_lshl d_324_81) (fun _ _ _ _ _ => rfl)
theorem ki_324_80 : js_OkG 324 80 (o_b2 (fun x y => x + y) 81) := js_St.okG (st_iadd d_324_80) (fun _ _ _ _ _ => rfl)
theorem ki_324_111 : js_OkG 324 111 (o_ic 8 113) := js_St.okG (st_bipush rfl d_324_111) (fun _ _ _ _ _ => rfl)
theorem ki_324_109 : js_OkG 324 109 (o_il 5 111) := js_St.okG (st_iload d_324_109) (fun _ _ _ _ _ => rfl)
theorem ki_324_108 : js_OkG 324 108 (o_lc 1 109) := js_St.okG (st_lconst rfl d_324_108) (fun _ _ _ _ _ => rfl)
theorem ki_324_105 : js_OkG 324 105 (o_cne 118 108) := js_St.okG (st_icne (by decide) d_324_105) (fun _ _ _ _ _ => rfl)
theorem ki_324_104 : js_OkG 324 104 (o_ic 1 105) := js_St.okG (st_iconst rfl d_324_104) (fun _ _ _ _ _ => rfl)
theorem ki_324_101 : js_OkG 324 101 (o_cI 176 4 0 104) := og_sIP rfl rfl kB_324_176 rfl kw_785 kw_786 d_324_101
theorem ki_324_100 : js_OkG 324 100 (o_ic 2 101) := js_St.okG (st_iconst rfl d_324_100) (fun _ _ _ _ _ => rfl)
theorem ki_324_99 : js_OkG 324 99 (o_rem 100) := js_St.okG (st_irem d_324_99) (fun _ _ _ _ _ => rfl)
theorem ki_324_97 : js_OkG 324 97 (o_ic 8 99) := js_St.okG (st_bipush rfl d_324_97) (fun _ _ _ _ _ => rfl)
theorem ki_324_127 : js_OkG 324 127 (o_div 128) := js_St.okG (st_idiv d_324_127) (fun _ _ _ _ _ => rfl)
theorem ki_324_125 : js_OkG 324 125 (o_ic 8 127) := js_St.okG (st_bipush rfl d_324_125) (fun _ _ _ _ _ => rfl)
theorem ki_324_123 : js_OkG 324 123 (o_il 5 125) := js_St.okG (st_iload d_324_123) (fun _ _ _ _ _ => rfl)
theorem ki_324_122 : js_OkG 324 122 (o_al 0 123) := js_St.okG (st_aloadn rfl d_324_122) (fun _ _ _ _ _ => rfl)
theorem ki_324_121 : js_OkG 324 121 (o_ll 3 122) := js_St.okG (st_lloadn rfl d_324_121) (fun _ _ _ _ _ => rfl)
theorem ki_324_120 : js_OkG 324 120 (o_ls 3 121) := js_St.okG (st_lstoren rfl (Nat.le_of_ble_eq_true rfl) d_324_120) (fun _ _ _ _ _ => rfl)
theorem ki_324_119 : js_OkG 324 119 (o_B2 (fun x y => x ||| y) 120) := js_St.okG (st_lor d_324_119) (fun _ _ _ _ _ => rfl)
theorem ki_324_118 : js_OkG 324 118 (o_lc 0 119) := js_St.okG (st_lconst rfl d_324_118) (fun _ _ _ _ _ => rfl)
theorem ki_324_115 : js_OkG 324 115 (o_go 119) := js_St.okG (st_goto (by decide) d_324_115) (fun _ _ _ _ _ => rfl)
theorem ki_324_114 : js_OkG 324 114 (o_Sh (fun x y => x <<< (y.toInt64 &&& 63)) 115) := js_St.okG (st_lshl d_324_114) (fun _ _ _ _ _ => rfl)
theorem ki_324_113 : js_OkG 324 113 (o_b2 (fun x y => x + y) 114) := js_St.okG (st_iadd d_324_113) (fun _ _ _ _ _ => rfl)
theorem ki_324_142 : js_OkG 324 142 (o_il 5 144) := js_St.okG (st_iload d_324_142) (fun _ _ _ _ _ => rfl)
theorem ki_324_141 : js_OkG 324 141 (o_lc 1 142) := js_St.okG (st_lconst rfl d_324_141) (fun _ _ _ _ _ => rfl)
theorem ki_324_138 : js_OkG 324 138 (o_cne 150 141) := js_St.okG (st_icne (by decide) d_324_138) (fun _ _ _ _ _ => rfl)
theorem ki_324_137 : js_OkG 324 137 (o_ic 1 138) := js_St.okG (st_iconst rfl d_324_137) (fun _ _ _ _ _ => rfl)
theorem ki_324_134 : js_OkG 324 134 (o_cI 176 4 0 137) := og_sIP rfl rfl kB_324_176 rfl kw_785 kw_786 d_324_134
theorem ki_324_133 : js_OkG 324 133 (o_ic 3 134) := js_St.okG (st_iconst rfl d_324_133) (fun _ _ _ _ _ => rfl)
theorem ki_324_132 : js_OkG 324 132 (o_rem 133) := js_St.okG (st_irem d_324_132) (fun _ _ _ _ _ => rfl)
theorem ki_324_130 : js_OkG 324 130 (o_ic 8 132) := js_St.okG (st_bipush rfl d_324_130) (fun _ _ _ _ _ => rfl)
theorem ki_324_128 : js_OkG 324 128 (o_il 5 130) := js_St.okG (st_iload d_324_128) (fun _ _ _ _ _ => rfl)
theorem ki_324_159 : js_OkG 324 159 (o_ll 3 160) := js_St.okG (st_lloadn rfl d_324_159) (fun _ _ _ _ _ => rfl)
theorem ki_324_156 : js_OkG 324 156 (o_go 5) := js_St.okG (st_goto (by decide) d_324_156) (fun _ _ _ _ _ => rfl)
theorem ki_324_153 : js_OkG 324 153 (o_inc 5 1 156) := js_St.okG (st_iinc rfl (Nat.le_of_ble_eq_true rfl) d_324_153) (fun _ _ _ _ _ => rfl)
theorem ki_324_152 : js_OkG 324 152 (o_ls 3 153) := js_St.okG (st_lstoren rfl (Nat.le_of_ble_eq_true rfl) d_324_152) (fun _ _ _ _ _ => rfl)
theorem ki_324_151 : js_OkG 324 151 (o_B2 (fun x y => x ||| y) 152) := js_St.okG (st_lor d_324_151) (fun _ _ _ _ _ => rfl)
theorem ki_324_150 : js_OkG 324 150 (o_lc 0 151) := js_St.okG (st_lconst rfl d_324_150) (fun _ _ _ _ _ => rfl)
theorem ki_324_147 : js_OkG 324 147 (o_go 151) := js_St.okG (st_goto (by decide) d_324_147) (fun _ _ _ _ _ => rfl)
theorem ki_324_146 : js_OkG 324 146 (o_Sh (fun x y => x <<< (y.toInt64 &&& 63)) 147) := js_St.okG (st_lshl d_324_146) (fun _ _ _ _ _ => rfl)
theorem ki_324_145 : js_OkG 324 145 (o_b2 (fun x y => x - y) 146) := js_St.okG (st_isub d_324_145) (fun _ _ _ _ _ => rfl)
theorem ki_324_144 : js_OkG 324 144 (o_ic 1 145) := js_St.okG (st_iconst rfl d_324_144) (fun _ _ _ _ _ => rfl)
theorem ki_324_174 : js_OkG 324 174 (o_rL) := og_rL rfl d_324_174
theorem ki_324_171 : js_OkG 324 171 (o_cL 325 2 0 174) := og_sLP rfl rfl kB_324_325 rfl kw_949 kw_950 d_324_171
theorem ki_324_170 : js_OkG 324 170 (o_ll 3 171) := js_St.okG (st_lloadn rfl d_324_170) (fun _ _ _ _ _ => rfl)
theorem ki_324_169 : js_OkG 324 169 (o_al 0 170) := js_St.okG (st_aloadn rfl d_324_169) (fun _ _ _ _ _ => rfl)
theorem ki_324_166 : js_OkG 324 166 (o_go 174) := js_St.okG (st_goto (by decide) d_324_166) (fun _ _ _ _ _ => rfl)
theorem ki_324_165 : js_OkG 324 165 (o_ll 1 166) := js_St.okG (st_lloadn rfl d_324_165) (fun _ _ _ _ _ => rfl)
theorem ki_324_162 : js_OkG 324 162 (o_ne 169 165) := js_St.okG (st_ifne (by decide) d_324_162) (fun _ _ _ _ _ => rfl)
theorem ki_324_161 : js_OkG 324 161 (o_lcmp 162) := js_St.okG (st_lcmp d_324_161) (fun _ _ _ _ _ => rfl)
theorem ki_324_160 : js_OkG 324 160 (o_ll 1 161) := js_St.okG (st_lloadn rfl d_324_160) (fun _ _ _ _ _ => rfl)
set_option maxRecDepth 20000 in
theorem mk_324 : js_mokG 324 := jk_tab (fun _ => js_St.okG st_bad (fun _ _ _ _ _ => rfl)) (show jk_all (js_OkG 324) 0 (tb_G 324) from ⟨⟨ki_324_0, ⟨ki_324_1, ⟨ki_324_2, ⟨ki_324_3, ⟨kbadG, ⟨ki_324_5, ⟨kbadG, ⟨ki_324_7, ⟨kbadG, ⟨ki_324_9, ⟨kbadG, ⟨kbadG, ⟨ki_324_12, ⟨ki_324_13, ⟨kbadG, ⟨ki_324_15, trivial⟩⟩⟩⟩⟩⟩⟩⟩⟩⟩⟩⟩⟩⟩⟩⟩, ⟨⟨ki_324_16, ⟨ki_324_17, ⟨ki_324_18, ⟨ki_324_19, ⟨ki_324_20, ⟨kbadG, ⟨kbadG, ⟨ki_324_23, ⟨ki_324_24, ⟨ki_324_25, ⟨kbadG, ⟨ki_324_27, ⟨kbadG, ⟨ki_324_29, ⟨ki_324_30, ⟨kbadG, trivial⟩⟩⟩⟩⟩⟩⟩⟩⟩⟩⟩⟩⟩⟩⟩⟩, ⟨⟨ki_324_32, ⟨kbadG, ⟨ki_324_34, ⟨ki_324_35, ⟨ki_324_36, ⟨kbadG, ⟨kbadG, ⟨ki_324_39, ⟨ki_324_40, ⟨kbadG, ⟨kbadG, ⟨ki_324_43, ⟨ki_324_44, ⟨kbadG, ⟨ki_324_46, ⟨kbadG, trivial⟩⟩⟩⟩⟩⟩⟩⟩⟩⟩⟩⟩⟩⟩⟩⟩, ⟨⟨ki_324_48, ⟨ki_324_49, ⟨ki_324_50, ⟨kbadG, ⟨kbadG, ⟨ki_324_53, ⟨ki_324_54, ⟨ki_324_55, ⟨ki_324_56, ⟨ki_324_57, ⟨ki_324_58, ⟨kbadG, ⟨ki_324_60, ⟨kbadG, ⟨ki_324_62, ⟨ki_324_63, trivial⟩⟩⟩⟩⟩⟩⟩⟩⟩⟩⟩⟩⟩⟩⟩⟩, ⟨⟨kbadG, ⟨ki_324_65, ⟨kbadG, ⟨ki_324_67, ⟨ki_324_68, ⟨ki_324_69, ⟨kbadG, ⟨kbadG, ⟨ki_324_72, ⟨ki_324_73, ⟨kbadG, ⟨kbadG, ⟨ki_324_76, ⟨ki_324_77, ⟨kbadG, ⟨ki_324_79, trivial⟩⟩⟩⟩⟩⟩⟩⟩⟩⟩⟩⟩⟩⟩⟩⟩, ⟨⟨ki_324_80, ⟨ki_324_81, ⟨ki_324_82, ⟨kbadG, ⟨kbadG, ⟨ki_324_85, ⟨ki_324_86, ⟨ki_324_87, ⟨ki_324_88, ⟨ki_324_89, ⟨ki_324_90, ⟨kbadG, ⟨ki_324_92, ⟨kbadG, ⟨ki_324_94, ⟨ki_324_95, trivial⟩⟩⟩⟩⟩⟩⟩⟩⟩⟩⟩⟩⟩⟩⟩⟩, ⟨⟨kbadG, ⟨ki_324_97, ⟨kbadG, ⟨ki_324_99, ⟨ki_324_100, ⟨ki_324_101, ⟨kbadG, ⟨kbadG, ⟨ki_324_104, ⟨ki_324_105, ⟨kbadG, ⟨kbadG, ⟨ki_324_108, ⟨ki_324_109, ⟨kbadG, ⟨ki_324_111, trivial⟩⟩⟩⟩⟩⟩⟩⟩⟩⟩⟩⟩⟩⟩⟩⟩, ⟨⟨kbadG, ⟨ki_324_113, ⟨ki_324_114, ⟨ki_324_115, ⟨kbadG, ⟨kbadG, ⟨ki_324_118, ⟨ki_324_119, ⟨ki_324_120, ⟨ki_324_121, ⟨ki_324_122, ⟨ki_324_123, ⟨kbadG, ⟨ki_324_125, ⟨kbadG, ⟨ki_324_127, trivial⟩⟩⟩⟩⟩⟩⟩⟩⟩⟩⟩⟩⟩⟩⟩⟩, ⟨⟨ki_324_128, ⟨kbadG, ⟨ki_324_130, ⟨kbadG, ⟨ki_324_132, ⟨ki_324_133, ⟨ki_324_134, ⟨kbadG, ⟨kbadG, ⟨ki_324_137, ⟨ki_324_138, ⟨kbadG, ⟨kbadG, ⟨ki_324_141, ⟨ki_324_142, ⟨kbadG, trivial⟩⟩⟩⟩⟩⟩⟩⟩⟩⟩⟩⟩⟩⟩⟩⟩, ⟨⟨ki_324_144, ⟨ki_324_145, ⟨ki_324_146, ⟨ki_324_147, ⟨kbadG, ⟨kbadG, ⟨ki_324_150, ⟨ki_324_151, ⟨ki_324_152, ⟨ki_324_153, ⟨kbadG, ⟨kbadG, ⟨ki_324_156, ⟨kbadG, ⟨kbadG, ⟨ki_324_159, trivial⟩⟩⟩⟩⟩⟩⟩⟩⟩⟩⟩⟩⟩⟩⟩⟩, ⟨⟨ki_324_160, ⟨ki_324_161, ⟨ki_324_162, ⟨kbadG, ⟨kbadG, ⟨ki_324_165, ⟨ki_324_166, ⟨kbadG, ⟨kbadG, ⟨ki_324_169, ⟨ki_324_170, ⟨ki_324_171, ⟨kbadG, ⟨kbadG, ⟨ki_324_174, trivial⟩⟩⟩⟩⟩⟩⟩⟩⟩⟩⟩⟩⟩⟩⟩, trivial⟩⟩⟩⟩⟩⟩⟩⟩⟩⟩⟩)
theorem d_325_0 : decode (js_b 325) 0 = .ok (.lload_n 1, 1) := d_300_0
theorem d_325_1 : decode (js_b 325) 1 = .ok (.lstore_n 3, 1) := d_300_1
theorem d_325_2 : decode (js_b 325) 2 = .ok (.iconst 0, 1) := d_300_2
theorem d_325_3 : decode (js_b 325) 3 = .ok (.istore 5, 2) := d_300_3
theorem d_325_5 : decode (js_b 325) 5 = .ok (.iload 5, 2) := d_300_5
theorem d_325_7 : decode (js_b 325) 7 = .ok (.bipush 64, 2) := d_300_7
theorem d_325_9 : decode (js_b 325) 9 = .ok (.if_icmp .ge 150, 3) := d_300_9
theorem d_325_12 : decode (js_b 325) 12 = .ok (.lload_n 1, 1) := d_300_12
theorem d_325_13 : decode (js_b 325) 13 = .ok (.iload 5, 2) := d_300_13
theorem d_325_15 : decode (js_b 325) 15 = .ok (.lushr, 1) := d_300_15
theorem d_325_16 : decode (js_b 325) 16 = .ok (.lconst 1, 1) := d_300_16
theorem d_325_17 : decode (js_b 325) 17 = .ok (.land, 1) := d_300_17
theorem d_325_18 : decode (js_b 325) 18 = .ok (.lconst 1, 1) := d_300_18
theorem d_325_19 : decode (js_b 325) 19 = .ok (.lcmp, 1) := d_300_19
theorem d_325_20 : decode (js_b 325) 20 = .ok (.ifCond .ne 133, 3) := d_300_20
theorem d_325_23 : decode (js_b 325) 23 = .ok (.lload_n 3, 1) := d_300_23
theorem d_325_24 : decode (js_b 325) 24 = .ok (.aload_n 0, 1) := d_300_24
theorem d_325_25 : decode (js_b 325) 25 = .ok (.iload 5, 2) := d_300_25
theorem d_325_27 : decode (js_b 325) 27 = .ok (.bipush 8, 2) := d_300_27
theorem d_325_29 : decode (js_b 325) 29 = .ok (.idiv, 1) := d_300_29
theorem d_325_30 : decode (js_b 325) 30 = .ok (.iload 5, 2) := d_300_30
theorem d_325_32 : decode (js_b 325) 32 = .ok (.bipush 8, 2) := d_300_32
theorem d_325_34 : decode (js_b 325) 34 = .ok (.irem, 1) := d_300_34
theorem d_325_35 : decode (js_b 325) 35 = .ok (.iconst 0, 1) := d_300_35
theorem d_325_36 : decode (js_b 325) 36 = .ok (.invokestatic 198, 3) := d_300_36
theorem d_325_39 : decode (js_b 325) 39 = .ok (.iconst 1, 1) := d_300_39
theorem d_325_40 : decode (js_b 325) 40 = .ok (.if_icmp .ne 13, 3) := d_300_40
theorem d_325_43 : decode (js_b 325) 43 = .ok (.lconst 1, 1) := d_300_43
theorem d_325_44 : decode (js_b 325) 44 = .ok (.iload 5, 2) := d_300_44
theorem d_325_46 : decode (js_b 325) 46 = .ok (.bipush 8, 2) := d_300_46
theorem d_325_48 : decode (js_b 325) 48 = .ok (.isub, 1) := d_300_48
theorem d_325_49 : decode (js_b 325) 49 = .ok (.lshl, 1) := d_300_49
theorem d_325_50 : decode (js_b 325) 50 = .ok (.goto 4, 3) := d_300_50
theorem d_325_53 : decode (js_b 325) 53 = .ok (.lconst 0, 1) := d_300_53
theorem d_325_54 : decode (js_b 325) 54 = .ok (.lor, 1) := d_300_54
theorem d_325_55 : decode (js_b 325) 55 = .ok (.lstore_n 3, 1) := d_300_55
theorem d_325_56 : decode (js_b 325) 56 = .ok (.lload_n 3, 1) := d_300_56
theorem d_325_57 : decode (js_b 325) 57 = .ok (.aload_n 0, 1) := d_300_57
theorem d_325_58 : decode (js_b 325) 58 = .ok (.iload 5, 2) := d_300_58
theorem d_325_60 : decode (js_b 325) 60 = .ok (.bipush 8, 2) := d_300_60
theorem d_325_62 : decode (js_b 325) 62 = .ok (.idiv, 1) := d_300_62
theorem d_325_63 : decode (js_b 325) 63 = .ok (.iload 5, 2) := d_300_63
theorem d_325_65 : decode (js_b 325) 65 = .ok (.bipush 8, 2) := d_300_65
theorem d_325_67 : decode (js_b 325) 67 = .ok (.irem, 1) := d_300_67
theorem d_325_68 : decode (js_b 325) 68 = .ok (.iconst 1, 1) := d_300_68
theorem d_325_69 : decode (js_b 325) 69 = .ok (.invokestatic 198, 3) := d_300_69
theorem d_325_72 : decode (js_b 325) 72 = .ok (.iconst 1, 1) := d_300_72
theorem d_325_73 : decode (js_b 325) 73 = .ok (.if_icmp .ne 12, 3) := d_300_73
theorem d_325_76 : decode (js_b 325) 76 = .ok (.lconst 1, 1) := d_300_76
theorem d_325_77 : decode (js_b 325) 77 = .ok (.iload 5, 2) := d_300_77
theorem d_325_79 : decode (js_b 325) 79 = .ok (.iconst 1, 1) := d_300_79
theorem d_325_80 : decode (js_b 325) 80 = .ok (.iadd, 1) := d_300_80
theorem d_325_81 : decode (js_b 325) 81 = .ok (.lshl, 1) := d_300_81
theorem d_325_82 : decode (js_b 325) 82 = .ok (.goto 4, 3) := d_300_82
theorem d_325_85 : decode (js_b 325) 85 = .ok (.lconst 0, 1) := d_300_85
theorem d_325_86 : decode (js_b 325) 86 = .ok (.lor, 1) := d_300_86
theorem d_325_87 : decode (js_b 325) 87 = .ok (.lstore_n 3, 1) := d_300_87
theorem d_325_88 : decode (js_b 325) 88 = .ok (.lload_n 3, 1) := d_300_88
theorem d_325_89 : decode (js_b 325) 89 = .ok (.aload_n 0, 1) := d_300_89
theorem d_325_90 : decode (js_b 325) 90 = .ok (.iload 5, 2) := d_300_90
theorem d_325_92 : decode (js_b 325) 92 = .ok (.bipush 8, 2) := d_300_92
theorem d_325_94 : decode (js_b 325) 94 = .ok (.idiv, 1) := d_300_94
theorem d_325_95 : decode (js_b 325) 95 = .ok (.iload 5, 2) := d_300_95
theorem d_325_97 : decode (js_b 325) 97 = .ok (.bipush 8, 2) := d_300_97
theorem d_325_99 : decode (js_b 325) 99 = .ok (.irem, 1) := d_300_99
theorem d_325_100 : decode (js_b 325) 100 = .ok (.iconst 2, 1) := d_300_100
theorem d_325_101 : decode (js_b 325) 101 = .ok (.invokestatic 198, 3) := d_300_101
theorem d_325_104 : decode (js_b 325) 104 = .ok (.iconst 1, 1) := d_300_104
theorem d_325_105 : decode (js_b 325) 105 = .ok (.if_icmp .ne 13, 3) := d_300_105
theorem d_325_108 : decode (js_b 325) 108 = .ok (.lconst 1, 1) := d_300_108
theorem d_325_109 : decode (js_b 325) 109 = .ok (.iload 5, 2) := d_300_109
theorem d_325_111 : decode (js_b 325) 111 = .ok (.bipush 8, 2) := d_300_111
theorem d_325_113 : decode (js_b 325) 113 = .ok (.iadd, 1) := d_300_113
theorem d_325_114 : decode (js_b 325) 114 = .ok (.lshl, 1) := d_300_114
theorem d_325_115 : decode (js_b 325) 115 = .ok (.goto 4, 3) := d_300_115
theorem d_325_118 : decode (js_b 325) 118 = .ok (.lconst 0, 1) := d_300_118
theorem d_325_119 : decode (js_b 325) 119 = .ok (.lor, 1) := d_300_119
theorem d_325_120 : decode (js_b 325) 120 = .ok (.lstore_n 3, 1) := d_300_120
theorem d_325_121 : decode (js_b 325) 121 = .ok (.lload_n 3, 1) := d_300_121
theorem d_325_122 : decode (js_b 325) 122 = .ok (.aload_n 0, 1) := d_300_122
theorem d_325_123 : decode (js_b 325) 123 = .ok (.iload 5, 2) := d_300_123
theorem d_325_125 : decode (js_b 325) 125 = .ok (.bipush 8, 2) := d_300_125
theorem d_325_127 : decode (js_b 325) 127 = .ok (.idiv, 1) := d_300_127
theorem d_325_128 : decode (js_b 325) 128 = .ok (.iload 5, 2) := d_300_128
theorem d_325_130 : decode (js_b 325) 130 = .ok (.bipush 8, 2) := d_300_130
theorem d_325_132 : decode (js_b 325) 132 = .ok (.irem, 1) := d_300_132
theorem d_325_133 : decode (js_b 325) 133 = .ok (.iconst 3, 1) := d_300_133
theorem d_325_134 : decode (js_b 325) 134 = .ok (.invokestatic 198, 3) := d_300_134
theorem d_325_137 : decode (js_b 325) 137 = .ok (.iconst 1, 1) := d_300_137
theorem d_325_138 : decode (js_b 325) 138 = .ok (.if_icmp .ne 12, 3) := d_300_138
theorem d_325_141 : decode (js_b 325) 141 = .ok (.lconst 1, 1) := d_300_141
theorem d_325_142 : decode (js_b 325) 142 = .ok (.iload 5, 2) := d_300_142
theorem d_325_144 : decode (js_b 325) 144 = .ok (.iconst 1, 1) := d_300_144
theorem d_325_145 : decode (js_b 325) 145 = .ok (.isub, 1) := d_300_145
theorem d_325_146 : decode (js_b 325) 146 = .ok (.lshl, 1) := d_300_146
theorem d_325_147 : decode (js_b 325) 147 = .ok (.goto 4, 3) := d_300_147
theorem d_325_150 : decode (js_b 325) 150 = .ok (.lconst 0, 1) := d_300_150
theorem d_325_151 : decode (js_b 325) 151 = .ok (.lor, 1) := d_300_151
theorem d_325_152 : decode (js_b 325) 152 = .ok (.lstore_n 3, 1) := d_300_152
theorem d_325_153 : decode (js_b 325) 153 = .ok (.iinc 5 1, 3) := d_300_153
theorem d_325_156 : decode (js_b 325) 156 = .ok (.goto (-151), 3) := d_300_156
theorem d_325_159 : decode (js_b 325) 159 = .ok (.lload_n 3, 1) := d_300_159
theorem d_325_160 : decode (js_b 325) 160 = .ok (.lload_n 1, 1) := d_300_160
theorem d_325_161 : decode (js_b 325) 161 = .ok (.lcmp, 1) := d_300_161
theorem d_325_162 : decode (js_b 325) 162 = .ok (.ifCond .ne 7, 3) := d_300_162
theorem d_325_165 : decode (js_b 325) 165 = .ok (.lload_n 1, 1) := d_300_165
theorem d_325_166 : decode (js_b 325) 166 = .ok (.goto 8, 3) := d_300_166
theorem d_325_169 : decode (js_b 325) 169 = .ok (.aload_n 0, 1) := d_300_169
theorem d_325_170 : decode (js_b 325) 170 = .ok (.lload_n 3, 1) := d_300_170
theorem d_325_171 : decode (js_b 325) 171 = .ok (.invokestatic 323, 3) := d_300_171
theorem d_325_174 : decode (js_b 325) 174 = .ok (.lreturn, 1) := d_300_174
theorem ki_325_15 : js_OkG 325 15 (o_Sh (fun x y => (x.toUInt64 >>> (y.toInt64.toUInt64 &&& Int64.toUInt64 63)).toInt64) 16) := js_St.okG (st_lushr d_325_15) (fun _ _ _ _ _ => rfl)
theorem ki_325_13 : js_OkG 325 13 (o_il 5 15) := js_St.okG (st_iload d_325_13) (fun _ _ _ _ _ => rfl)
theorem ki_325_12 : js_OkG 325 12 (o_ll 1 13) := js_St.okG (st_lloadn rfl d_325_12) (fun _ _ _ _ _ => rfl)
theorem ki_325_9 : js_OkG 325 9 (o_cge 159 12) := js_St.okG (st_icge (by decide) d_325_9) (fun _ _ _ _ _ => rfl)
theorem ki_325_7 : js_OkG 325 7 (o_ic 64 9) := js_St.okG (st_bipush rfl d_325_7) (fun _ _ _ _ _ => rfl)
theorem ki_325_5 : js_OkG 325 5 (o_il 5 7) := js_St.okG (st_iload d_325_5) (fun _ _ _ _ _ => rfl)
theorem ki_325_3 : js_OkG 325 3 (o_is 5 5) := js_St.okG (st_istore (Nat.le_of_ble_eq_true rfl) d_325_3) (fun _ _ _ _ _ => rfl)
theorem ki_325_2 : js_OkG 325 2 (o_ic 0 3) := js_St.okG (st_iconst rfl d_325_2) (fun _ _ _ _ _ => rfl)
theorem ki_325_1 : js_OkG 325 1 (o_ls 3 2) := js_St.okG (st_lstoren rfl (Nat.le_of_ble_eq_true rfl) d_325_1) (fun _ _ _ _ _ => rfl)
theorem ki_325_0 : js_OkG 325 0 (o_ll 1 1) := js_St.okG (st_lloadn rfl d_325_0) (fun _ _ _ _ _ => rfl)
theorem ki_325_30 : js_OkG 325 30 (o_il 5 32) := js_St.okG (st_iload d_325_30) (fun _ _ _ _ _ => rfl)
theorem ki_325_29 : js_OkG 325 29 (o_div 30) := js_St.okG (st_idiv d_325_29) (fun _ _ _ _ _ => rfl)
theorem ki_325_27 : js_OkG 325 27 (o_ic 8 29) := js_St.okG (st_bipush rfl d_325_27) (fun _ _ _ _ _ => rfl)
theorem ki_325_25 : js_OkG 325 25 (o_il 5 27) := js_St.okG (st_iload d_325_25) (fun _ _ _ _ _ => rfl)
theorem ki_325_24 : js_OkG 325 24 (o_al 0 25) := js_St.okG (st_aloadn rfl d_325_24) (fun _ _ _ _ _ => rfl)
theorem ki_325_23 : js_OkG 325 23 (o_ll 3 24) := js_St.okG (st_lloadn rfl d_325_23) (fun _ _ _ _ _ => rfl)
theorem ki_325_20 : js_OkG 325 20 (o_ne 153 23) := js_St.okG (st_ifne (by decide) d_325_20) (fun _ _ _ _ _ => rfl)
theorem ki_325_19 : js_OkG 325 19 (o_lcmp 20) := js_St.okG (st_lcmp d_325_19) (fun _ _ _ _ _ => rfl)
theorem ki_325_18 : js_OkG 325 18 (o_lc 1 19) := js_St.okG (st_lconst rfl d_325_18) (fun _ _ _ _ _ => rfl)
theorem ki_325_17 : js_OkG 325 17 (o_B2 (fun x y => x &&& y) 18) := js_St.okG (st_land d_325_17) (fun _ _ _ _ _ => rfl)
theorem ki_325_16 : js_OkG 325 16 (o_lc 1 17) := js_St.okG (st_lconst rfl d_325_16) (fun _ _ _ _ _ => rfl)
theorem ki_325_46 : js_OkG 325 46 (o_ic 8 48) := js_St.okG (st_bipush rfl d_325_46) (fun _ _ _ _ _ => rfl)
theorem ki_325_44 : js_OkG 325 44 (o_il 5 46) := js_St.okG (st_iload d_325_44) (fun _ _ _ _ _ => rfl)
theorem ki_325_43 : js_OkG 325 43 (o_lc 1 44) := js_St.okG (st_lconst rfl d_325_43) (fun _ _ _ _ _ => rfl)
theorem ki_325_40 : js_OkG 325 40 (o_cne 53 43) := js_St.okG (st_icne (by decide) d_325_40) (fun _ _ _ _ _ => rfl)
theorem ki_325_39 : js_OkG 325 39 (o_ic 1 40) := js_St.okG (st_iconst rfl d_325_39) (fun _ _ _ _ _ => rfl)
theorem ki_325_36 : js_OkG 325 36 (o_cI 176 4 0 39) := og_sIP rfl rfl kB_325_176 rfl kw_785 kw_786 d_325_36
theorem ki_325_35 : js_OkG 325 35 (o_ic 0 36) := js_St.okG (st_iconst rfl d_325_35) (fun _ _ _ _ _ => rfl)
theorem ki_325_34 : js_OkG 325 34 (o_rem 35) := js_St.okG (st_irem d_325_34) (fun _ _ _ _ _ => rfl)
theorem ki_325_32 : js_OkG 325 32 (o_ic 8 34) := js_St.okG (st_bipush rfl d_325_32) (fun _ _ _ _ _ => rfl)
theorem ki_325_63 : js_OkG 325 63 (o_il 5 65) := js_St.okG (st_iload d_325_63) (fun _ _ _ _ _ => rfl)
theorem ki_325_62 : js_OkG 325 62 (o_div 63) := js_St.okG (st_idiv d_325_62) (fun _ _ _ _ _ => rfl)
theorem ki_325_60 : js_OkG 325 60 (o_ic 8 62) := js_St.okG (st_bipush rfl d_325_60) (fun _ _ _ _ _ => rfl)
theorem ki_325_58 : js_OkG 325 58 (o_il 5 60) := js_St.okG (st_iload d_325_58) (fun _ _ _ _ _ => rfl)
theorem ki_325_57 : js_OkG 325 57 (o_al 0 58) := js_St.okG (st_aloadn rfl d_325_57) (fun _ _ _ _ _ => rfl)
theorem ki_325_56 : js_OkG 325 56 (o_ll 3 57) := js_St.okG (st_lloadn rfl d_325_56) (fun _ _ _ _ _ => rfl)
theorem ki_325_55 : js_OkG 325 55 (o_ls 3 56) := js_St.okG (st_lstoren rfl (Nat.le_of_ble_eq_true rfl) d_325_55) (fun _ _ _ _ _ => rfl)
theorem ki_325_54 : js_OkG 325 54 (o_B2 (fun x y => x ||| y) 55) := js_St.okG (st_lor d_325_54) (fun _ _ _ _ _ => rfl)
theorem ki_325_53 : js_OkG 325 53 (o_lc 0 54) := js_St.okG (st_lconst rfl d_325_53) (fun _ _ _ _ _ => rfl)
theorem ki_325_50 : js_OkG 325 50 (o_go 54) := js_St.okG (st_goto (by decide) d_325_50) (fun _ _ _ _ _ => rfl)
theorem ki_325_49 : js_OkG 325 49 (o_Sh (fun x y => x <<< (y.toInt64 &&& 63)) 50) := js_St.okG (st_lshl d_325_49) (fun _ _ _ _ _ => rfl)
theorem ki_325_48 : js_OkG 325 48 (o_b2 (fun x y => x - y) 49) := js_St.okG (st_isub d_325_48) (fun _ _ _ _ _ => rfl)
theorem ki_325_79 : js_OkG 325 79 (o_ic 1 80) := js_St.okG (st_iconst rfl d_325_79) (fun _ _ _ _ _ => rfl)
theorem ki_325_77 : js_OkG 325 77 (o_il 5 79) := js_St.okG (st_iload d_325_77) (fun _ _ _ _ _ => rfl)
theorem ki_325_76 : js_OkG 325 76 (o_lc 1 77) := js_St.okG (st_lconst rfl d_325_76) (fun _ _ _ _ _ => rfl)
theorem ki_325_73 : js_OkG 325 73 (o_cne 85 76) := js_St.okG (st_icne (by decide) d_325_73) (fun _ _ _ _ _ => rfl)
theorem ki_325_72 : js_OkG 325 72 (o_ic 1 73) := js_St.okG (st_iconst rfl d_325_72) (fun _ _ _ _ _ => rfl)
theorem ki_325_69 : js_OkG 325 69 (o_cI 176 4 0 72) := og_sIP rfl rfl kB_325_176 rfl kw_785 kw_786 d_325_69
theorem ki_325_68 : js_OkG 325 68 (o_ic 1 69) := js_St.okG (st_iconst rfl d_325_68) (fun _ _ _ _ _ => rfl)
theorem ki_325_67 : js_OkG 325 67 (o_rem 68) := js_St.okG (st_irem d_325_67) (fun _ _ _ _ _ => rfl)
theorem ki_325_65 : js_OkG 325 65 (o_ic 8 67) := js_St.okG (st_bipush rfl d_325_65) (fun _ _ _ _ _ => rfl)
theorem ki_325_95 : js_OkG 325 95 (o_il 5 97) := js_St.okG (st_iload d_325_95) (fun _ _ _ _ _ => rfl)
theorem ki_325_94 : js_OkG 325 94 (o_div 95) := js_St.okG (st_idiv d_325_94) (fun _ _ _ _ _ => rfl)
theorem ki_325_92 : js_OkG 325 92 (o_ic 8 94) := js_St.okG (st_bipush rfl d_325_92) (fun _ _ _ _ _ => rfl)
theorem ki_325_90 : js_OkG 325 90 (o_il 5 92) := js_St.okG (st_iload d_325_90) (fun _ _ _ _ _ => rfl)
theorem ki_325_89 : js_OkG 325 89 (o_al 0 90) := js_St.okG (st_aloadn rfl d_325_89) (fun _ _ _ _ _ => rfl)
theorem ki_325_88 : js_OkG 325 88 (o_ll 3 89) := js_St.okG (st_lloadn rfl d_325_88) (fun _ _ _ _ _ => rfl)
theorem ki_325_87 : js_OkG 325 87 (o_ls 3 88) := js_St.okG (st_lstoren rfl (Nat.le_of_ble_eq_true rfl) d_325_87) (fun _ _ _ _ _ => rfl)
theorem ki_325_86 : js_OkG 325 86 (o_B2 (fun x y => x ||| y) 87) := js_St.okG (st_lor d_325_86) (fun _ _ _ _ _ => rfl)
theorem ki_325_85 : js_OkG 325 85 (o_lc 0 86) := js_St.okG (st_lconst rfl d_325_85) (fun _ _ _ _ _ => rfl)
theorem ki_325_82 : js_OkG 325 82 (o_go 86) := js_St.okG (st_goto (by decide) d_325_82) (fun _ _ _ _ _ => rfl)
theorem ki_325_81 : js_OkG 325 81 (o_Sh (fun x y => x <<< (y.toInt64 &&& 63)) 82) := js_St.okG (st_lshl d_325_81) (fun _ _ _ _ _ => rfl)
theorem ki_325_80 : js_OkG 325 80 (o_b2 (fun x y => x + y) 81) := js_St.okG (st_iadd d_325_80) (fun _ _ _ _ _ => rfl)
theorem ki_325_111 : js_OkG 325 111 (o_ic 8 113) := js_St.okG (st_bipush rfl d_325_111) (fun _ _ _ _ _ => rfl)
theorem ki_325_109 : js_OkG 325 109 (o_il 5 111) := js_St.okG (st_iload d_325_109) (fun _ _ _ _ _ => rfl)
theorem ki_325_108 : js_OkG 325 108 (o_lc 1 109) := js_St.okG (st_lconst rfl d_325_108) (fun _ _ _ _ _ => rfl)
theorem ki_325_105 : js_OkG 325 105 (o_cne 118 108) := js_St.okG (st_icne (by decide) d_325_105) (fun _ _ _ _ _ => rfl)
theorem ki_325_104 : js_OkG 325 104 (o_ic 1 105) := js_St.okG (st_iconst rfl d_325_104) (fun _ _ _ _ _ => rfl)
theorem ki_325_101 : js_OkG 325 101 (o_cI 176 4 0 104) := og_sIP rfl rfl kB_325_176 rfl kw_785 kw_786 d_325_101
theorem ki_325_100 : js_OkG 325 100 (o_ic 2 101) := js_St.okG (st_iconst rfl d_325_100) (fun _ _ _ _ _ => rfl)
theorem ki_325_99 : js_OkG 325 99 (o_rem 100) := js_St.okG (st_irem d_325_99) (fun _ _ _ _ _ => rfl)
theorem ki_325_97 : js_OkG 325 97 (o_ic 8 99) := js_St.okG (st_bipush rfl d_325_97) (fun _ _ _ _ _ => rfl)
theorem ki_325_127 : js_OkG 325 127 (o_div 128) := js_St.okG (st_idiv d_325_127) (fun _ _ _ _ _ => rfl)
theorem ki_325_125 : js_OkG 325 125 (o_ic 8 127) := js_St.okG (st_bipush rfl d_325_125) (fun _ _ _ _ _ => rfl)
theorem ki_325_123 : js_OkG 325 123 (o_il 5 125) := js_St.okG (st_iload d_325_123) (fun _ _ _ _ _ => rfl)
theorem ki_325_122 : js_OkG 325 122 (o_al 0 123) := js_St.okG (st_aloadn rfl d_325_122) (fun _ _ _ _ _ => rfl)
theorem ki_325_121 : js_OkG 325 121 (o_ll 3 122) := js_St.okG (st_lloadn rfl d_325_121) (fun _ _ _ _ _ => rfl)
theorem ki_325_120 : js_OkG 325 120 (o_ls 3 121) := js_St.okG (st_lstoren rfl (Nat.le_of_ble_eq_true rfl) d_325_120) (fun _ _ _ _ _ => rfl)
theorem ki_325_119 : js_OkG 325 119 (o_B2 (fun x y => x ||| y) 120) := js_St.okG (st_lor d_325_119) (fun _ _ _ _ _ => rfl)
theorem ki_325_118 : js_OkG 325 118 (o_lc 0 119) := js_St.okG (st_lconst rfl d_325_118) (fun _ _ _ _ _ => rfl)
theorem ki_325_115 : js_OkG 325 115 (o_go 119) := js_St.okG (st_goto (by decide) d_325_115) (fun _ _ _ _ _ => rfl)
theorem ki_325_114 : js_OkG 325 114 (o_Sh (fun x y => x <<< (y.toInt64 &&& 63)) 115) := js_St.okG (st_lshl d_325_114) (fun _ _ _ _ _ => rfl)
theorem ki_325_113 : js_OkG 325 113 (o_b2 (fun x y => x + y) 114) := js_St.okG (st_iadd d_325_113) (fun _ _ _ _ _ => rfl)
theorem ki_325_142 : js_OkG 325 142 (o_il 5 144) := js_St.okG (st_iload d_325_142) (fun _ _ _ _ _ => rfl)
theorem ki_325_141 : js_OkG 325 141 (o_lc 1 142) := js_St.okG (st_lconst rfl d_325_141) (fun _ _ _ _ _ => rfl)
theorem ki_325_138 : js_OkG 325 138 (o_cne 150 141) := js_St.okG (st_icne (by decide) d_325_138) (fun _ _ _ _ _ => rfl)
theorem ki_325_137 : js_OkG 325 137 (o_ic 1 138) := js_St.okG (st_iconst rfl d_325_137) (fun _ _ _ _ _ => rfl)
theorem ki_325_134 : js_OkG 325 134 (o_cI 176 4 0 137) := og_sIP rfl rfl kB_325_176 rfl kw_785 kw_786 d_325_134
theorem ki_325_133 : js_OkG 325 133 (o_ic 3 134) := js_St.okG (st_iconst rfl d_325_133) (fun _ _ _ _ _ => rfl)
theorem ki_325_132 : js_OkG 325 132 (o_rem 133) := js_St.okG (st_irem d_325_132) (fun _ _ _ _ _ => rfl)
theorem ki_325_130 : js_OkG 325 130 (o_ic 8 132) := js_St.okG (st_bipush rfl d_325_130) (fun _ _ _ _ _ => rfl)
theorem ki_325_128 : js_OkG 325 128 (o_il 5 130) := js_St.okG (st_iload d_325_128) (fun _ _ _ _ _ => rfl)
theorem ki_325_159 : js_OkG 325 159 (o_ll 3 160) := js_St.okG (st_lloadn rfl d_325_159) (fun _ _ _ _ _ => rfl)
theorem ki_325_156 : js_OkG 325 156 (o_go 5) := js_St.okG (st_goto (by decide) d_325_156) (fun _ _ _ _ _ => rfl)
theorem ki_325_153 : js_OkG 325 153 (o_inc 5 1 156) := js_St.okG (st_iinc rfl (Nat.le_of_ble_eq_true rfl) d_325_153) (fun _ _ _ _ _ => rfl)
theorem ki_325_152 : js_OkG 325 152 (o_ls 3 153) := js_St.okG (st_lstoren rfl (Nat.le_of_ble_eq_true rfl) d_325_152) (fun _ _ _ _ _ => rfl)
theorem ki_325_151 : js_OkG 325 151 (o_B2 (fun x y => x ||| y) 152) := js_St.okG (st_lor d_325_151) (fun _ _ _ _ _ => rfl)
theorem ki_325_150 : js_OkG 325 150 (o_lc 0 151) := js_St.okG (st_lconst rfl d_325_150) (fun _ _ _ _ _ => rfl)
theorem ki_325_147 : js_OkG 325 147 (o_go 151) := js_St.okG (st_goto (by decide) d_325_147) (fun _ _ _ _ _ => rfl)
theorem ki_325_146 : js_OkG 325 146 (o_Sh (fun x y => x <<< (y.toInt64 &&& 63)) 147) := js_St.okG (st_lshl d_325_146) (fun _ _ _ _ _ => rfl)
theorem ki_325_145 : js_OkG 325 145 (o_b2 (fun x y => x - y) 146) := js_St.okG (st_isub d_325_145) (fun _ _ _ _ _ => rfl)
theorem ki_325_144 : js_OkG 325 144 (o_ic 1 145) := js_St.okG (st_iconst rfl d_325_144) (fun _ _ _ _ _ => rfl)
theorem ki_325_174 : js_OkG 325 174 (o_rL) := og_rL rfl d_325_174
theorem ki_325_171 : js_OkG 325 171 (o_cL 326 2 0 174) := og_sLP rfl rfl kB_325_326 rfl kw_949 kw_950 d_325_171
theorem ki_325_170 : js_OkG 325 170 (o_ll 3 171) := js_St.okG (st_lloadn rfl d_325_170) (fun _ _ _ _ _ => rfl)
theorem ki_325_169 : js_OkG 325 169 (o_al 0 170) := js_St.okG (st_aloadn rfl d_325_169) (fun _ _ _ _ _ => rfl)
theorem ki_325_166 : js_OkG 325 166 (o_go 174) := js_St.okG (st_goto (by decide) d_325_166) (fun _ _ _ _ _ => rfl)
theorem ki_325_165 : js_OkG 325 165 (o_ll 1 166) := js_St.okG (st_lloadn rfl d_325_165) (fun _ _ _ _ _ => rfl)
theorem ki_325_162 : js_OkG 325 162 (o_ne 169 165) := js_St.okG (st_ifne (by decide) d_325_162) (fun _ _ _ _ _ => rfl)
theorem ki_325_161 : js_OkG 325 161 (o_lcmp 162) := js_St.okG (st_lcmp d_325_161) (fun _ _ _ _ _ => rfl)
theorem ki_325_160 : js_OkG 325 160 (o_ll 1 161) := js_St.okG (st_lloadn rfl d_325_160) (fun _ _ _ _ _ => rfl)
set_option maxRecDepth 20000 in
theorem mk_325 : js_mokG 325 := jk_tab (fun _ => js_St.okG st_bad (fun _ _ _ _ _ => rfl)) (show jk_all (js_OkG 325) 0 (tb_G 325) from ⟨⟨ki_325_0, ⟨ki_325_1, ⟨ki_325_2, ⟨ki_325_3, ⟨kbadG, ⟨ki_325_5, ⟨kbadG, ⟨ki_325_7, ⟨kbadG, ⟨ki_325_9, ⟨kbadG, ⟨kbadG, ⟨ki_325_12, ⟨ki_325_13, ⟨kbadG, ⟨ki_325_15, trivial⟩⟩⟩⟩⟩⟩⟩⟩⟩⟩⟩⟩⟩⟩⟩⟩, ⟨⟨ki_325_16, ⟨ki_325_17, ⟨ki_325_18, ⟨ki_325_19, ⟨ki_325_20, ⟨kbadG, ⟨kbadG, ⟨ki_325_23, ⟨ki_325_24, ⟨ki_325_25, ⟨kbadG, ⟨ki_325_27, ⟨kbadG, ⟨ki_325_29, ⟨ki_325_30, ⟨kbadG, trivial⟩⟩⟩⟩⟩⟩⟩⟩⟩⟩⟩⟩⟩⟩⟩⟩, ⟨⟨ki_325_32, ⟨kbadG, ⟨ki_325_34, ⟨ki_325_35, ⟨ki_325_36, ⟨kbadG, ⟨kbadG, ⟨ki_325_39, ⟨ki_325_40, ⟨kbadG, ⟨kbadG, ⟨ki_325_43, ⟨ki_325_44, ⟨kbadG, ⟨ki_325_46, ⟨kbadG, trivial⟩⟩⟩⟩⟩⟩⟩⟩⟩⟩⟩⟩⟩⟩⟩⟩, ⟨⟨ki_325_48, ⟨ki_325_49, ⟨ki_325_50, ⟨kbadG, ⟨kbadG, ⟨ki_325_53, ⟨ki_325_54, ⟨ki_325_55, ⟨ki_325_56, ⟨ki_325_57, ⟨ki_325_58, ⟨kbadG, ⟨ki_325_60, ⟨kbadG, ⟨ki_325_62, ⟨ki_325_63, trivial⟩⟩⟩⟩⟩⟩⟩⟩⟩⟩⟩⟩⟩⟩⟩⟩, ⟨⟨kbadG, ⟨ki_325_65, ⟨kbadG, ⟨ki_325_67, ⟨ki_325_68, ⟨ki_325_69, ⟨kbadG, ⟨kbadG, ⟨ki_325_72, ⟨ki_325_73, ⟨kbadG, ⟨kbadG, ⟨ki_325_76, ⟨ki_325_77, ⟨kbadG, ⟨ki_325_79, trivial⟩⟩⟩⟩⟩⟩⟩⟩⟩⟩⟩⟩⟩⟩⟩⟩, ⟨⟨ki_325_80, ⟨ki_325_81, ⟨ki_325_82, ⟨kbadG, ⟨kbadG, ⟨ki_325_85, ⟨ki_325_86, ⟨ki_325_87, ⟨ki_325_88, ⟨ki_325_89, ⟨ki_325_90, ⟨kbadG, ⟨ki_325_92, ⟨kbadG, ⟨ki_325_94, ⟨ki_325_95, trivial⟩⟩⟩⟩⟩⟩⟩⟩⟩⟩⟩⟩⟩⟩⟩⟩, ⟨⟨kbadG, ⟨ki_325_97, ⟨kbadG, ⟨ki_325_99, ⟨ki_325_100, ⟨ki_325_101, ⟨kbadG, ⟨kbadG, ⟨ki_325_104, ⟨ki_325_105, ⟨kbadG, ⟨kbadG, ⟨ki_325_108, ⟨ki_325_109, ⟨kbadG, ⟨ki_325_111, trivial⟩⟩⟩⟩⟩⟩⟩⟩⟩⟩⟩⟩⟩⟩⟩⟩, ⟨⟨kbadG, ⟨ki_325_113, ⟨ki_325_114, ⟨ki_325_115, ⟨kbadG, ⟨kbadG, ⟨ki_325_118, ⟨ki_325_119, ⟨ki_325_120, ⟨ki_325_121, ⟨ki_325_122, ⟨ki_325_123, ⟨kbadG, ⟨ki_325_125, ⟨kbadG, ⟨ki_325_127, trivial⟩⟩⟩⟩⟩⟩⟩⟩⟩⟩⟩⟩⟩⟩⟩⟩, ⟨⟨ki_325_128, ⟨kbadG, ⟨ki_325_130, ⟨kbadG, ⟨ki_325_132, ⟨ki_325_133, ⟨ki_325_134, ⟨kbadG, ⟨kbadG, ⟨ki_325_137, ⟨ki_325_138, ⟨kbadG, ⟨kbadG, ⟨ki_325_141, ⟨ki_325_142, ⟨kbadG, trivial⟩⟩⟩⟩⟩⟩⟩⟩⟩⟩⟩⟩⟩⟩⟩⟩, ⟨⟨ki_325_144, ⟨ki_325_145, ⟨ki_325_146, ⟨ki_325_147, ⟨kbadG, ⟨kbadG, ⟨ki_325_150, ⟨ki_325_151, ⟨ki_325_152, ⟨ki_325_153, ⟨kbadG, ⟨kbadG, ⟨ki_325_156, ⟨kbadG, ⟨kbadG, ⟨ki_325_159, trivial⟩⟩⟩⟩⟩⟩⟩⟩⟩⟩⟩⟩⟩⟩⟩⟩, ⟨⟨ki_325_160, ⟨ki_325_161, ⟨ki_325_162, ⟨kbadG, ⟨kbadG, ⟨ki_325_165, ⟨ki_325_166, ⟨kbadG, ⟨kbadG, ⟨ki_325_169, ⟨ki_325_170, ⟨ki_325_171, ⟨kbadG, ⟨kbadG, ⟨ki_325_174, trivial⟩⟩⟩⟩⟩⟩⟩⟩⟩⟩⟩⟩⟩⟩⟩, trivial⟩⟩⟩⟩⟩⟩⟩⟩⟩⟩⟩)
theorem d_326_0 : decode (js_b 326) 0 = .ok (.lload_n 1, 1) := d_300_0
theorem d_326_1 : decode (js_b 326) 1 = .ok (.lstore_n 3, 1) := d_300_1
theorem d_326_2 : decode (js_b 326) 2 = .ok (.iconst 0, 1) := d_300_2
theorem d_326_3 : decode (js_b 326) 3 = .ok (.istore 5, 2) := d_300_3
theorem d_326_5 : decode (js_b 326) 5 = .ok (.iload 5, 2) := d_300_5
theorem d_326_7 : decode (js_b 326) 7 = .ok (.bipush 64, 2) := d_300_7
theorem d_326_9 : decode (js_b 326) 9 = .ok (.if_icmp .ge 150, 3) := d_300_9
theorem d_326_12 : decode (js_b 326) 12 = .ok (.lload_n 1, 1) := d_300_12
theorem d_326_13 : decode (js_b 326) 13 = .ok (.iload 5, 2) := d_300_13
theorem d_326_15 : decode (js_b 326) 15 = .ok (.lushr, 1) := d_300_15
theorem d_326_16 : decode (js_b 326) 16 = .ok (.lconst 1, 1) := d_300_16
theorem d_326_17 : decode (js_b 326) 17 = .ok (.land, 1) := d_300_17
theorem d_326_18 : decode (js_b 326) 18 = .ok (.lconst 1, 1) := d_300_18
theorem d_326_19 : decode (js_b 326) 19 = .ok (.lcmp, 1) := d_300_19
theorem d_326_20 : decode (js_b 326) 20 = .ok (.ifCond .ne 133, 3) := d_300_20
theorem d_326_23 : decode (js_b 326) 23 = .ok (.lload_n 3, 1) := d_300_23
theorem d_326_24 : decode (js_b 326) 24 = .ok (.aload_n 0, 1) := d_300_24
theorem d_326_25 : decode (js_b 326) 25 = .ok (.iload 5, 2) := d_300_25
theorem d_326_27 : decode (js_b 326) 27 = .ok (.bipush 8, 2) := d_300_27
theorem d_326_29 : decode (js_b 326) 29 = .ok (.idiv, 1) := d_300_29
theorem d_326_30 : decode (js_b 326) 30 = .ok (.iload 5, 2) := d_300_30
theorem d_326_32 : decode (js_b 326) 32 = .ok (.bipush 8, 2) := d_300_32
theorem d_326_34 : decode (js_b 326) 34 = .ok (.irem, 1) := d_300_34
theorem d_326_35 : decode (js_b 326) 35 = .ok (.iconst 0, 1) := d_300_35
theorem d_326_36 : decode (js_b 326) 36 = .ok (.invokestatic 198, 3) := d_300_36
theorem d_326_39 : decode (js_b 326) 39 = .ok (.iconst 1, 1) := d_300_39
theorem d_326_40 : decode (js_b 326) 40 = .ok (.if_icmp .ne 13, 3) := d_300_40
theorem d_326_43 : decode (js_b 326) 43 = .ok (.lconst 1, 1) := d_300_43
theorem d_326_44 : decode (js_b 326) 44 = .ok (.iload 5, 2) := d_300_44
theorem d_326_46 : decode (js_b 326) 46 = .ok (.bipush 8, 2) := d_300_46
theorem d_326_48 : decode (js_b 326) 48 = .ok (.isub, 1) := d_300_48
theorem d_326_49 : decode (js_b 326) 49 = .ok (.lshl, 1) := d_300_49
theorem d_326_50 : decode (js_b 326) 50 = .ok (.goto 4, 3) := d_300_50
theorem d_326_53 : decode (js_b 326) 53 = .ok (.lconst 0, 1) := d_300_53
theorem d_326_54 : decode (js_b 326) 54 = .ok (.lor, 1) := d_300_54
theorem d_326_55 : decode (js_b 326) 55 = .ok (.lstore_n 3, 1) := d_300_55
theorem d_326_56 : decode (js_b 326) 56 = .ok (.lload_n 3, 1) := d_300_56
theorem d_326_57 : decode (js_b 326) 57 = .ok (.aload_n 0, 1) := d_300_57
theorem d_326_58 : decode (js_b 326) 58 = .ok (.iload 5, 2) := d_300_58
theorem d_326_60 : decode (js_b 326) 60 = .ok (.bipush 8, 2) := d_300_60
theorem d_326_62 : decode (js_b 326) 62 = .ok (.idiv, 1) := d_300_62
theorem d_326_63 : decode (js_b 326) 63 = .ok (.iload 5, 2) := d_300_63
theorem d_326_65 : decode (js_b 326) 65 = .ok (.bipush 8, 2) := d_300_65
theorem d_326_67 : decode (js_b 326) 67 = .ok (.irem, 1) := d_300_67
theorem d_326_68 : decode (js_b 326) 68 = .ok (.iconst 1, 1) := d_300_68
theorem d_326_69 : decode (js_b 326) 69 = .ok (.invokestatic 198, 3) := d_300_69
theorem d_326_72 : decode (js_b 326) 72 = .ok (.iconst 1, 1) := d_300_72
theorem d_326_73 : decode (js_b 326) 73 = .ok (.if_icmp .ne 12, 3) := d_300_73
theorem d_326_76 : decode (js_b 326) 76 = .ok (.lconst 1, 1) := d_300_76
theorem d_326_77 : decode (js_b 326) 77 = .ok (.iload 5, 2) := d_300_77
theorem d_326_79 : decode (js_b 326) 79 = .ok (.iconst 1, 1) := d_300_79
theorem d_326_80 : decode (js_b 326) 80 = .ok (.iadd, 1) := d_300_80
theorem d_326_81 : decode (js_b 326) 81 = .ok (.lshl, 1) := d_300_81
theorem d_326_82 : decode (js_b 326) 82 = .ok (.goto 4, 3) := d_300_82
theorem d_326_85 : decode (js_b 326) 85 = .ok (.lconst 0, 1) := d_300_85
theorem d_326_86 : decode (js_b 326) 86 = .ok (.lor, 1) := d_300_86
theorem d_326_87 : decode (js_b 326) 87 = .ok (.lstore_n 3, 1) := d_300_87
theorem d_326_88 : decode (js_b 326) 88 = .ok (.lload_n 3, 1) := d_300_88
theorem d_326_89 : decode (js_b 326) 89 = .ok (.aload_n 0, 1) := d_300_89
theorem d_326_90 : decode (js_b 326) 90 = .ok (.iload 5, 2) := d_300_90
theorem d_326_92 : decode (js_b 326) 92 = .ok (.bipush 8, 2) := d_300_92
theorem d_326_94 : decode (js_b 326) 94 = .ok (.idiv, 1) := d_300_94
theorem d_326_95 : decode (js_b 326) 95 = .ok (.iload 5, 2) := d_300_95
theorem d_326_97 : decode (js_b 326) 97 = .ok (.bipush 8, 2) := d_300_97
theorem d_326_99 : decode (js_b 326) 99 = .ok (.irem, 1) := d_300_99
theorem d_326_100 : decode (js_b 326) 100 = .ok (.iconst 2, 1) := d_300_100
theorem d_326_101 : decode (js_b 326) 101 = .ok (.invokestatic 198, 3) := d_300_101
theorem d_326_104 : decode (js_b 326) 104 = .ok (.iconst 1, 1) := d_300_104
theorem d_326_105 : decode (js_b 326) 105 = .ok (.if_icmp .ne 13, 3) := d_300_105
theorem d_326_108 : decode (js_b 326) 108 = .ok (.lconst 1, 1) := d_300_108
theorem d_326_109 : decode (js_b 326) 109 = .ok (.iload 5, 2) := d_300_109
theorem d_326_111 : decode (js_b 326) 111 = .ok (.bipush 8, 2) := d_300_111
theorem d_326_113 : decode (js_b 326) 113 = .ok (.iadd, 1) := d_300_113
theorem d_326_114 : decode (js_b 326) 114 = .ok (.lshl, 1) := d_300_114
theorem d_326_115 : decode (js_b 326) 115 = .ok (.goto 4, 3) := d_300_115
theorem d_326_118 : decode (js_b 326) 118 = .ok (.lconst 0, 1) := d_300_118
theorem d_326_119 : decode (js_b 326) 119 = .ok (.lor, 1) := d_300_119
theorem d_326_120 : decode (js_b 326) 120 = .ok (.lstore_n 3, 1) := d_300_120
theorem d_326_121 : decode (js_b 326) 121 = .ok (.lload_n 3, 1) := d_300_121
theorem d_326_122 : decode (js_b 326) 122 = .ok (.aload_n 0, 1) := d_300_122
theorem d_326_123 : decode (js_b 326) 123 = .ok (.iload 5, 2) := d_300_123
theorem d_326_125 : decode (js_b 326) 125 = .ok (.bipush 8, 2) := d_300_125
theorem d_326_127 : decode (js_b 326) 127 = .ok (.idiv, 1) := d_300_127
theorem d_326_128 : decode (js_b 326) 128 = .ok (.iload 5, 2) := d_300_128
theorem d_326_130 : decode (js_b 326) 130 = .ok (.bipush 8, 2) := d_300_130
theorem d_326_132 : decode (js_b 326) 132 = .ok (.irem, 1) := d_300_132
theorem d_326_133 : decode (js_b 326) 133 = .ok (.iconst 3, 1) := d_300_133
theorem d_326_134 : decode (js_b 326) 134 = .ok (.invokestatic 198, 3) := d_300_134
theorem d_326_137 : decode (js_b 326) 137 = .ok (.iconst 1, 1) := d_300_137
theorem d_326_138 : decode (js_b 326) 138 = .ok (.if_icmp .ne 12, 3) := d_300_138
theorem d_326_141 : decode (js_b 326) 141 = .ok (.lconst 1, 1) := d_300_141
theorem d_326_142 : decode (js_b 326) 142 = .ok (.iload 5, 2) := d_300_142
theorem d_326_144 : decode (js_b 326) 144 = .ok (.iconst 1, 1) := d_300_144
theorem d_326_145 : decode (js_b 326) 145 = .ok (.isub, 1) := d_300_145
theorem d_326_146 : decode (js_b 326) 146 = .ok (.lshl, 1) := d_300_146
theorem d_326_147 : decode (js_b 326) 147 = .ok (.goto 4, 3) := d_300_147
theorem d_326_150 : decode (js_b 326) 150 = .ok (.lconst 0, 1) := d_300_150
theorem d_326_151 : decode (js_b 326) 151 = .ok (.lor, 1) := d_300_151
theorem d_326_152 : decode (js_b 326) 152 = .ok (.lstore_n 3, 1) := d_300_152
theorem d_326_153 : decode (js_b 326) 153 = .ok (.iinc 5 1, 3) := d_300_153
theorem d_326_156 : decode (js_b 326) 156 = .ok (.goto (-151), 3) := d_300_156
theorem d_326_159 : decode (js_b 326) 159 = .ok (.lload_n 3, 1) := d_300_159
theorem d_326_160 : decode (js_b 326) 160 = .ok (.lload_n 1, 1) := d_300_160
theorem d_326_161 : decode (js_b 326) 161 = .ok (.lcmp, 1) := d_300_161
theorem d_326_162 : decode (js_b 326) 162 = .ok (.ifCond .ne 7, 3) := d_300_162
theorem d_326_165 : decode (js_b 326) 165 = .ok (.lload_n 1, 1) := d_300_165
theorem d_326_166 : decode (js_b 326) 166 = .ok (.goto 8, 3) := d_300_166
theorem d_326_169 : decode (js_b 326) 169 = .ok (.aload_n 0, 1) := d_300_169
theorem d_326_170 : decode (js_b 326) 170 = .ok (.lload_n 3, 1) := d_300_170
theorem d_326_171 : decode (js_b 326) 171 = .ok (.invokestatic 323, 3) := d_300_171
theorem d_326_174 : decode (js_b 326) 174 = .ok (.lreturn, 1) := d_300_174
theorem ki_326_15 : js_OkG 326 15 (o_Sh (fun x y => (x.toUInt64 >>> (y.toInt64.toUInt64 &&& Int64.toUInt64 63)).toInt64) 16) := js_St.okG (st_lushr d_326_15) (fun _ _ _ _ _ => rfl)
theorem ki_326_13 : js_OkG 326 13 (o_il 5 15) := js_St.okG (st_iload d_326_13) (fun _ _ _ _ _ => rfl)
theorem ki_326_12 : js_OkG 326 12 (o_ll 1 13) := js_St.okG (st_lloadn rfl d_326_12) (fun _ _ _ _ _ => rfl)
theorem ki_326_9 : js_OkG 326 9 (o_cge 159 12) := js_St.okG (st_icge (by decide) d_326_9) (fun _ _ _ _ _ => rfl)
theorem ki_326_7 : js_OkG 326 7 (o_ic 64 9) := js_St.okG (st_bipush rfl d_326_7) (fun _ _ _ _ _ => rfl)
theorem ki_326_5 : js_OkG 326 5 (o_il 5 7) := js_St.okG (st_iload d_326_5) (fun _ _ _ _ _ => rfl)
theorem ki_326_3 : js_OkG 326 3 (o_is 5 5) := js_St.okG (st_istore (Nat.le_of_ble_eq_true rfl) d_326_3) (fun _ _ _ _ _ => rfl)
theorem ki_326_2 : js_OkG 326 2 (o_ic 0 3) := js_St.okG (st_iconst rfl d_326_2) (fun _ _ _ _ _ => rfl)
theorem ki_326_1 : js_OkG 326 1 (o_ls 3 2) := js_St.okG (st_lstoren rfl (Nat.le_of_ble_eq_true rfl) d_326_1) (fun _ _ _ _ _ => rfl)
theorem ki_326_0 : js_OkG 326 0 (o_ll 1 1) := js_St.okG (st_lloadn rfl d_326_0) (fun _ _ _ _ _ => rfl)
theorem ki_326_30 : js_OkG 326 30 (o_il 5 32) := js_St.okG (st_iload d_326_30) (fun _ _ _ _ _ => rfl)
theorem ki_326_29 : js_OkG 326 29 (o_div 30) := js_St.okG (st_idiv d_326_29) (fun _ _ _ _ _ => rfl)
theorem ki_326_27 : js_OkG 326 27 (o_ic 8 29) := js_St.okG (st_bipush rfl d_326_27) (fun _ _ _ _ _ => rfl)
theorem ki_326_25 : js_OkG 326 25 (o_il 5 27) := js_St.okG (st_iload d_326_25) (fun _ _ _ _ _ => rfl)
theorem ki_326_24 : js_OkG 326 24 (o_al 0 25) := js_St.okG (st_aloadn rfl d_326_24) (fun _ _ _ _ _ => rfl)
theorem ki_326_23 : js_OkG 326 23 (o_ll 3 24) := js_St.okG (st_lloadn rfl d_326_23) (fun _ _ _ _ _ => rfl)
theorem ki_326_20 : js_OkG 326 20 (o_ne 153 23) := js_St.okG (st_ifne (by decide) d_326_20) (fun _ _ _ _ _ => rfl)
theorem ki_326_19 : js_OkG 326 19 (o_lcmp 20) := js_St.okG (st_lcmp d_326_19) (fun _ _ _ _ _ => rfl)
theorem ki_326_18 : js_OkG 326 18 (o_lc 1 19) := js_St.okG (st_lconst rfl d_326_18) (fun _ _ _ _ _ => rfl)
theorem ki_326_17 : js_OkG 326 17 (o_B2 (fun x y => x &&& y) 18) := js_St.okG (st_land d_326_17) (fun _ _ _ _ _ => rfl)
theorem ki_326_16 : js_OkG 326 16 (o_lc 1 17) := js_St.okG (st_lconst rfl d_326_16) (fun _ _ _ _ _ => rfl)
theorem ki_326_46 : js_OkG 326 46 (o_ic 8 48) := js_St.okG (st_bipush rfl d_326_46) (fun _ _ _ _ _ => rfl)
theorem ki_326_44 : js_OkG 326 44 (o_il 5 46) := js_St.okG (st_iload d_326_44) (fun _ _ _ _ _ => rfl)
theorem ki_326_43 : js_OkG 326 43 (o_lc 1 44) := js_St.okG (st_lconst rfl d_326_43) (fun _ _ _ _ _ => rfl)
theorem ki_326_40 : js_OkG 326 40 (o_cne 53 43) := js_St.okG (st_icne (by decide) d_326_40) (fun _ _ _ _ _ => rfl)
theorem ki_326_39 : js_OkG 326 39 (o_ic 1 40) := js_St.okG (st_iconst rfl d_326_39) (fun _ _ _ _ _ => rfl)
theorem ki_326_36 : js_OkG 326 36 (o_cI 176 4 0 39) := og_sIP rfl rfl kB_326_176 rfl kw_785 kw_786 d_326_36
theorem ki_326_35 : js_OkG 326 35 (o_ic 0 36) := js_St.okG (st_iconst rfl d_326_35) (fun _ _ _ _ _ => rfl)
theorem ki_326_34 : js_OkG 326 34 (o_rem 35) := js_St.okG (st_irem d_326_34) (fun _ _ _ _ _ => rfl)
theorem ki_326_32 : js_OkG 326 32 (o_ic 8 34) := js_St.okG (st_bipush rfl d_326_32) (fun _ _ _ _ _ => rfl)
theorem ki_326_63 : js_OkG 326 63 (o_il 5 65) := js_St.okG (st_iload d_326_63) (fun _ _ _ _ _ => rfl)
theorem ki_326_62 : js_OkG 326 62 (o_div 63) := js_St.okG (st_idiv d_326_62) (fun _ _ _ _ _ => rfl)
theorem ki_326_60 : js_OkG 326 60 (o_ic 8 62) := js_St.okG (st_bipush rfl d_326_60) (fun _ _ _ _ _ => rfl)
theorem ki_326_58 : js_OkG 326 58 (o_il 5 60) := js_St.okG (st_iload d_326_58) (fun _ _ _ _ _ => rfl)
theorem ki_326_57 : js_OkG 326 57 (o_al 0 58) := js_St.okG (st_aloadn rfl d_326_57) (fun _ _ _ _ _ => rfl)
theorem ki_326_56 : js_OkG 326 56 (o_ll 3 57) := js_St.okG (st_lloadn rfl d_326_56) (fun _ _ _ _ _ => rfl)
theorem ki_326_55 : js_OkG 326 55 (o_ls 3 56) := js_St.okG (st_lstoren rfl (Nat.le_of_ble_eq_true rfl) d_326_55) (fun _ _ _ _ _ => rfl)
theorem ki_326_54 : js_OkG 326 54 (o_B2 (fun x y => x ||| y) 55) := js_St.okG (st_lor d_326_54) (fun _ _ _ _ _ => rfl)
theorem ki_326_53 : js_OkG 326 53 (o_lc 0 54) := js_St.okG (st_lconst rfl d_326_53) (fun _ _ _ _ _ => rfl)
theorem ki_326_50 : js_OkG 326 50 (o_go 54) := js_St.okG (st_goto (by decide) d_326_50) (fun _ _ _ _ _ => rfl)
theorem ki_326_49 : js_OkG 326 49 (o_Sh (fun x y => x <<< (y.toInt64 &&& 63)) 50) := js_St.okG (st_lshl d_326_49) (fun _ _ _ _ _ => rfl)
theorem ki_326_48 : js_OkG 326 48 (o_b2 (fun x y => x - y) 49) := js_St.okG (st_isub d_326_48) (fun _ _ _ _ _ => rfl)
theorem ki_326_79 : js_OkG 326 79 (o_ic 1 80) := js_St.okG (st_iconst rfl d_326_79) (fun _ _ _ _ _ => rfl)
theorem ki_326_77 : js_OkG 326 77 (o_il 5 79) := js_St.okG (st_iload d_326_77) (fun _ _ _ _ _ => rfl)
theorem ki_326_76 : js_OkG 326 76 (o_lc 1 77) := js_St.okG (st_lconst rfl d_326_76) (fun _ _ _ _ _ => rfl)
theorem ki_326_73 : js_OkG 326 73 (o_cne 85 76) := js_St.okG (st_icne (by decide) d_326_73) (fun _ _ _ _ _ => rfl)
theorem ki_326_72 : js_OkG 326 72 (o_ic 1 73) := js_St.okG (st_iconst rfl d_326_72) (fun _ _ _ _ _ => rfl)
theorem ki_326_69 : js_OkG 326 69 (o_cI 176 4 0 72) := og_sIP rfl rfl kB_326_176 rfl kw_785 kw_786 d_326_69
theorem ki_326_68 : js_OkG 326 68 (o_ic 1 69) := js_St.okG (st_iconst rfl d_326_68) (fun _ _ _ _ _ => rfl)
theorem ki_326_67 : js_OkG 326 67 (o_rem 68) := js_St.okG (st_irem d_326_67) (fun _ _ _ _ _ => rfl)
theorem ki_326_65 : js_OkG 326 65 (o_ic 8 67) := js_St.okG (st_bipush rfl d_326_65) (fun _ _ _ _ _ => rfl)
theorem ki_326_95 : js_OkG 326 95 (o_il 5 97) := js_St.okG (st_iload d_326_95) (fun _ _ _ _ _ => rfl)
theorem ki_326_94 : js_OkG 326 94 (o_div 95) := js_St.okG (st_idiv d_326_94) (fun _ _ _ _ _ => rfl)
theorem ki_326_92 : js_OkG 326 92 (o_ic 8 94) := js_St.okG (st_bipush rfl d_326_92) (fun _ _ _ _ _ => rfl)
theorem ki_326_90 : js_OkG 326 90 (o_il 5 92) := js_St.okG (st_iload d_326_90) (fun _ _ _ _ _ => rfl)
theorem ki_326_89 : js_OkG 326 89 (o_al 0 90) := js_St.okG (st_aloadn rfl d_326_89) (fun _ _ _ _ _ => rfl)
theorem ki_326_88 : js_OkG 326 88 (o_ll 3 89) := js_St.okG (st_lloadn rfl d_326_88) (fun _ _ _ _ _ => rfl)
theorem ki_326_87 : js_OkG 326 87 (o_ls 3 88) := js_St.okG (st_lstoren rfl (Nat.le_of_ble_eq_true rfl) d_326_87) (fun _ _ _ _ _ => rfl)
theorem ki_326_86 : js_OkG 326 86 (o_B2 (fun x y => x ||| y) 87) := js_St.okG (st_lor d_326_86) (fun _ _ _ _ _ => rfl)
theorem ki_326_85 : js_OkG 326 85 (o_lc 0 86) := js_St.okG (st_lconst rfl d_326_85) (fun _ _ _ _ _ => rfl)
theorem ki_326_82 : js_OkG 326 82 (o_go 86) := js_St.okG (st_goto (by decide) d_326_82) (fun _ _ _ _ _ => rfl)
theorem ki_326_81 : js_OkG 326 81 (o_Sh (fun x y => x <<< (y.toInt64 &&& 63)) 82) := js_St.okG (st_lshl d_326_81) (fun _ _ _ _ _ => rfl)
theorem ki_326_80 : js_OkG 326 80 (o_b2 (fun x y => x + y) 81) := js_St.okG (st_iadd d_326_80) (fun _ _ _ _ _ => rfl)
theorem ki_326_111 : js_OkG 326 111 (o_ic 8 113) := js_St.okG (st_bipush rfl d_326_111) (fun _ _ _ _ _ => rfl)
theorem ki_326_109 : js_OkG 326 109 (o_il 5 111) := js_St.okG (st_iload d_326_109) (fun _ _ _ _ _ => rfl)
theorem ki_326_108 : js_OkG 326 108 (o_lc 1 109) := js_St.okG (st_lconst rfl d_326_108) (fun _ _ _ _ _ => rfl)
theorem ki_326_105 : js_OkG 326 105 (o_cne 118 108) := js_St.okG (st_icne (by decide) d_326_105) (fun _ _ _ _ _ => rfl)
theorem ki_326_104 : js_OkG 326 104 (o_ic 1 105) := js_St.okG (st_iconst rfl d_326_104) (fun _ _ _ _ _ => rfl)
theorem ki_326_101 : js_OkG 326 101 (o_cI 176 4 0 104) := og_sIP rfl rfl kB_326_176 rfl kw_785 kw_786 d_326_101
theorem ki_326_100 : js_OkG 326 100 (o_ic 2 101) := js_St.okG (st_iconst rfl d_326_100) (fun _ _ _ _ _ => rfl)
theorem ki_326_99 : js_OkG 326 99 (o_rem 100) := js_St.okG (st_irem d_326_99) (fun _ _ _ _ _ => rfl)
theorem ki_326_97 : js_OkG 326 97 (o_ic 8 99) := js_St.okG (st_bipush rfl d_326_97) (fun _ _ _ _ _ => rfl)
theorem ki_326_127 : js_OkG 326 127 (o_div 128) := js_St.okG (st_idiv d_326_127) (fun _ _ _ _ _ => rfl)
theorem ki_326_125 : js_OkG 326 125 (o_ic 8 127) := js_St.okG (st_bipush rfl d_326_125) (fun _ _ _ _ _ => rfl)
theorem ki_326_123 : js_OkG 326 123 (o_il 5 125) := js_St.okG (st_iload d_326_123) (fun _ _ _ _ _ => rfl)
theorem ki_326_122 : js_OkG 326 122 (o_al 0 123) := js_St.okG (st_aloadn rfl d_326_122) (fun _ _ _ _ _ => rfl)
theorem ki_326_121 : js_OkG 326 121 (o_ll 3 122) := js_St.okG (st_lloadn rfl d_326_121) (fun _ _ _ _ _ => rfl)
theorem ki_326_120 : js_OkG 326 120 (o_ls 3 121) := js_St.okG (st_lstoren rfl (Nat.le_of_ble_eq_true rfl) d_326_120) (fun _ _ _ _ _ => rfl)
theorem ki_326_119 : js_OkG 326 119 (o_B2 (fun x y => x ||| y) 120) := js_St.okG (st_lor d_326_119) (fun _ _ _ _ _ => rfl)
theorem ki_326_118 : js_OkG 326 118 (o_lc 0 119) := js_St.okG (st_lconst rfl d_326_118) (fun _ _ _ _ _ => rfl)
theorem ki_326_115 : js_OkG 326 115 (o_go 119) := js_St.okG (st_goto (by decide) d_326_115) (fun _ _ _ _ _ => rfl)
theorem ki_326_114 : js_OkG 326 114 (o_Sh (fun x y => x <<< (y.toInt64 &&& 63)) 115) := js_St.okG (st_lshl d_326_114) (fun _ _ _ _ _ => rfl)
theorem ki_326_113 : js_OkG 326 113 (o_b2 (fun x y => x + y) 114) := js_St.okG (st_iadd d_326_113) (fun _ _ _ _ _ => rfl)
theorem ki_326_142 : js_OkG 326 142 (o_il 5 144) := js_St.okG (st_iload d_326_142) (fun _ _ _ _ _ => rfl)
theorem ki_326_141 : js_OkG 326 141 (o_lc 1 142) := js_St.okG (st_lconst rfl d_326_141) (fun _ _ _ _ _ => rfl)
theorem ki_326_138 : js_OkG 326 138 (o_cne 150 141) := js_St.okG (st_icne (by decide) d_326_138) (fun _ _ _ _ _ => rfl)
theorem ki_326_137 : js_OkG 326 137 (o_ic 1 138) := js_St.okG (st_iconst rfl d_326_137) (fun _ _ _ _ _ => rfl)
theorem ki_326_134 : js_OkG 326 134 (o_cI 176 4 0 137) := og_sIP rfl rfl kB_326_176 rfl kw_785 kw_786 d_326_134
theorem ki_326_133 : js_OkG 326 133 (o_ic 3 134) := js_St.okG (st_iconst rfl d_326_133) (fun _ _ _ _ _ => rfl)
theorem ki_326_132 : js_OkG 326 132 (o_rem 133) := js_St.okG (st_irem d_326_132) (fun _ _ _ _ _ => rfl)
theorem ki_326_130 : js_OkG 326 130 (o_ic 8 132) := js_St.okG (st_bipush rfl d_326_130) (fun _ _ _ _ _ => rfl)
theorem ki_326_128 : js_OkG 326 128 (o_il 5 130) := js_St.okG (st_iload d_326_128) (fun _ _ _ _ _ => rfl)
theorem ki_326_159 : js_OkG 326 159 (o_ll 3 160) := js_St.okG (st_lloadn rfl d_326_159) (fun _ _ _ _ _ => rfl)
theorem ki_326_156 : js_OkG 326 156 (o_go 5) := js_St.okG (st_goto (by decide) d_326_156) (fun _ _ _ _ _ => rfl)
theorem ki_326_153 : js_OkG 326 153 (o_inc 5 1 156) := js_St.okG (st_iinc rfl (Nat.le_of_ble_eq_true rfl) d_326_153) (fun _ _ _ _ _ => rfl)
theorem ki_326_152 : js_OkG 326 152 (o_ls 3 153) := js_St.okG (st_lstoren rfl (Nat.le_of_ble_eq_true rfl) d_326_152) (fun _ _ _ _ _ => rfl)
theorem ki_326_151 : js_OkG 326 151 (o_B2 (fun x y => x ||| y) 152) := js_St.okG (st_lor d_326_151) (fun _ _ _ _ _ => rfl)
theorem ki_326_150 : js_OkG 326 150 (o_lc 0 151) := js_St.okG (st_lconst rfl d_326_150) (fun _ _ _ _ _ => rfl)
theorem ki_326_147 : js_OkG 326 147 (o_go 151) := js_St.okG (st_goto (by decide) d_326_147) (fun _ _ _ _ _ => rfl)
theorem ki_326_146 : js_OkG 326 146 (o_Sh (fun x y => x <<< (y.toInt64 &&& 63)) 147) := js_St.okG (st_lshl d_326_146) (fun _ _ _ _ _ => rfl)
theorem ki_326_145 : js_OkG 326 145 (o_b2 (fun x y => x - y) 146) := js_St.okG (st_isub d_326_145) (fun _ _ _ _ _ => rfl)
theorem ki_326_144 : js_OkG 326 144 (o_ic 1 145) := js_St.okG (st_iconst rfl d_326_144) (fun _ _ _ _ _ => rfl)
theorem ki_326_174 : js_OkG 326 174 (o_rL) := og_rL rfl d_326_174
theorem ki_326_171 : js_OkG 326 171 (o_cL 327 2 0 174) := og_sLP rfl rfl kB_326_327 rfl kw_949 kw_950 d_326_171
theorem ki_326_170 : js_OkG 326 170 (o_ll 3 171) := js_St.okG (st_lloadn rfl d_326_170) (fun _ _ _ _ _ => rfl)
theorem ki_326_169 : js_OkG 326 169 (o_al 0 170) := js_St.okG (st_aloadn rfl d_326_169) (fun _ _ _ _ _ => rfl)
theorem ki_326_166 : js_OkG 326 166 (o_go 174) := js_St.okG (st_goto (by decide) d_326_166) (fun _ _ _ _ _ => rfl)
theorem ki_326_165 : js_OkG 326 165 (o_ll 1 166) := js_St.okG (st_lloadn rfl d_326_165) (fun _ _ _ _ _ => rfl)
theorem ki_326_162 : js_OkG 326 162 (o_ne 169 165) := js_St.okG (st_ifne (by decide) d_326_162) (fun _ _ _ _ _ => rfl)
theorem ki_326_161 : js_OkG 326 161 (o_lcmp 162) := js_St.okG (st_lcmp d_326_161) (fun _ _ _ _ _ => rfl)
theorem ki_326_160 : js_OkG 326 160 (o_ll 1 161) := js_St.okG (st_lloadn rfl d_326_160) (fun _ _ _ _ _ => rfl)
set_option maxRecDepth 20000 in
theorem mk_326 : js_mokG 326 := jk_tab (fun _ => js_St.okG st_bad (fun _ _ _ _ _ => rfl)) (show jk_all (js_OkG 326) 0 (tb_G 326) from ⟨⟨ki_326_0, ⟨ki_326_1, ⟨ki_326_2, ⟨ki_326_3, ⟨kbadG, ⟨ki_326_5, ⟨kbadG, ⟨ki_326_7, ⟨kbadG, ⟨ki_326_9, ⟨kbadG, ⟨kbadG, ⟨ki_326_12, ⟨ki_326_13, ⟨kbadG, ⟨ki_326_15, trivial⟩⟩⟩⟩⟩⟩⟩⟩⟩⟩⟩⟩⟩⟩⟩⟩, ⟨⟨ki_326_16, ⟨ki_326_17, ⟨ki_326_18, ⟨ki_326_19, ⟨ki_326_20, ⟨kbadG, ⟨kbadG, ⟨ki_326_23, ⟨ki_326_24, ⟨ki_326_25, ⟨kbadG, ⟨ki_326_27, ⟨kbadG, ⟨ki_326_29, ⟨ki_326_30, ⟨kbadG, trivial⟩⟩⟩⟩⟩⟩⟩⟩⟩⟩⟩⟩⟩⟩⟩⟩, ⟨⟨ki_326_32, ⟨kbadG, ⟨ki_326_34, ⟨ki_326_35, ⟨ki_326_36, ⟨kbadG, ⟨kbadG, ⟨ki_326_39, ⟨ki_326_40, ⟨kbadG, ⟨kbadG, ⟨ki_326_43, ⟨ki_326_44, ⟨kbadG, ⟨ki_326_46, ⟨kbadG, trivial⟩⟩⟩⟩⟩⟩⟩⟩⟩⟩⟩⟩⟩⟩⟩⟩, ⟨⟨ki_326_48, ⟨ki_326_49, ⟨ki_326_50, ⟨kbadG, ⟨kbadG, ⟨ki_326_53, ⟨ki_326_54, ⟨ki_326_55, ⟨ki_326_56, ⟨ki_326_57, ⟨ki_326_58, ⟨kbadG, ⟨ki_326_60, ⟨kbadG, ⟨ki_326_62, ⟨ki_326_63, trivial⟩⟩⟩⟩⟩⟩⟩⟩⟩⟩⟩⟩⟩⟩⟩⟩, ⟨⟨kbadG, ⟨ki_326_65, ⟨kbadG, ⟨ki_326_67, ⟨ki_326_68, ⟨ki_326_69, ⟨kbadG, ⟨kbadG, ⟨ki_326_72, ⟨ki_326_73, ⟨kbadG, ⟨kbadG, ⟨ki_326_76, ⟨ki_326_77, ⟨kbadG, ⟨ki_326_79, trivial⟩⟩⟩⟩⟩⟩⟩⟩⟩⟩⟩⟩⟩⟩⟩⟩, ⟨⟨ki_326_80, ⟨ki_326_81, ⟨ki_326_82, ⟨kbadG, ⟨kbadG, ⟨ki_326_85, ⟨ki_326_86, ⟨ki_326_87, ⟨ki_326_88, ⟨ki_326_89, ⟨ki_326_90, ⟨kbadG, ⟨ki_326_92, ⟨kbadG, ⟨ki_326_94, ⟨ki_326_95, trivial⟩⟩⟩⟩⟩⟩⟩⟩⟩⟩⟩⟩⟩⟩⟩⟩, ⟨⟨kbadG, ⟨ki_326_97, ⟨kbadG, ⟨ki_326_99, ⟨ki_326_100, ⟨ki_326_101, ⟨kbadG, ⟨kbadG, ⟨ki_326_104, ⟨ki_326_105, ⟨kbadG, ⟨kbadG, ⟨ki_326_108, ⟨ki_326_109, ⟨kbadG, ⟨ki_326_111, trivial⟩⟩⟩⟩⟩⟩⟩⟩⟩⟩⟩⟩⟩⟩⟩⟩, ⟨⟨kbadG, ⟨ki_326_113, ⟨ki_326_114, ⟨ki_326_115, ⟨kbadG, ⟨kbadG, ⟨ki_326_118, ⟨ki_326_119, ⟨ki_326_120, ⟨ki_326_121, ⟨ki_326_122, ⟨ki_326_123, ⟨kbadG, ⟨ki_326_125, ⟨kbadG, ⟨ki_326_127, trivial⟩⟩⟩⟩⟩⟩⟩⟩⟩⟩⟩⟩⟩⟩⟩⟩, ⟨⟨ki_326_128, ⟨kbadG, ⟨ki_326_130, ⟨kbadG, ⟨ki_326_132, ⟨ki_326_133, ⟨ki_326_134, ⟨kbadG, ⟨kbadG, ⟨ki_326_137, ⟨ki_326_138, ⟨kbadG, ⟨kbadG, ⟨ki_326_141, ⟨ki_326_142, ⟨kbadG, trivial⟩⟩⟩⟩⟩⟩⟩⟩⟩⟩⟩⟩⟩⟩⟩⟩, ⟨⟨ki_326_144, ⟨ki_326_145, ⟨ki_326_146, ⟨ki_326_147, ⟨kbadG, ⟨kbadG, ⟨ki_326_150, ⟨ki_326_151, ⟨ki_326_152, ⟨ki_326_153, ⟨kbadG, ⟨kbadG, ⟨ki_326_156, ⟨kbadG, ⟨kbadG, ⟨ki_326_159, trivial⟩⟩⟩⟩⟩⟩⟩⟩⟩⟩⟩⟩⟩⟩⟩⟩, ⟨⟨ki_326_160, ⟨ki_326_161, ⟨ki_326_162, ⟨kbadG, ⟨kbadG, ⟨ki_326_165, ⟨ki_326_166, ⟨kbadG, ⟨kbadG, ⟨ki_326_169, ⟨ki_326_170, ⟨ki_326_171, ⟨kbadG, ⟨kbadG, ⟨ki_326_174, trivial⟩⟩⟩⟩⟩⟩⟩⟩⟩⟩⟩⟩⟩⟩⟩, trivial⟩⟩⟩⟩⟩⟩⟩⟩⟩⟩⟩)
theorem d_327_0 : decode (js_b 327) 0 = .ok (.lload_n 1, 1) := d_300_0
theorem d_327_1 : decode (js_b 327) 1 = .ok (.lstore_n 3, 1) := d_300_1
theorem d_327_2 : decode (js_b 327) 2 = .ok (.iconst 0, 1) := d_300_2
theorem d_327_3 : decode (js_b 327) 3 = .ok (.istore 5, 2) := d_300_3
theorem d_327_5 : decode (js_b 327) 5 = .ok (.iload 5, 2) := d_300_5
theorem d_327_7 : decode (js_b 327) 7 = .ok (.bipush 64, 2) := d_300_7
theorem d_327_9 : decode (js_b 327) 9 = .ok (.if_icmp .ge 150, 3) := d_300_9
theorem d_327_12 : decode (js_b 327) 12 = .ok (.lload_n 1, 1) := d_300_12
theorem d_327_13 : decode (js_b 327) 13 = .ok (.iload 5, 2) := d_300_13
theorem d_327_15 : decode (js_b 327) 15 = .ok (.lushr, 1) := d_300_15
theorem d_327_16 : decode (js_b 327) 16 = .ok (.lconst 1, 1) := d_300_16
theorem d_327_17 : decode (js_b 327) 17 = .ok (.land, 1) := d_300_17
theorem d_327_18 : decode (js_b 327) 18 = .ok (.lconst 1, 1) := d_300_18
theorem d_327_19 : decode (js_b 327) 19 = .ok (.lcmp, 1) := d_300_19
theorem d_327_20 : decode (js_b 327) 20 = .ok (.ifCond .ne 133, 3) := d_300_20
theorem d_327_23 : decode (js_b 327) 23 = .ok (.lload_n 3, 1) := d_300_23
theorem d_327_24 : decode (js_b 327) 24 = .ok (.aload_n 0, 1) := d_300_24
theorem d_327_25 : decode (js_b 327) 25 = .ok (.iload 5, 2) := d_300_25
theorem d_327_27 : decode (js_b 327) 27 = .ok (.bipush 8, 2) := d_300_27
theorem d_327_29 : decode (js_b 327) 29 = .ok (.idiv, 1) := d_300_29
theorem d_327_30 : decode (js_b 327) 30 = .ok (.iload 5, 2) := d_300_30
theorem d_327_32 : decode (js_b 327) 32 = .ok (.bipush 8, 2) := d_300_32
theorem d_327_34 : decode (js_b 327) 34 = .ok (.irem, 1) := d_300_34
theorem d_327_35 : decode (js_b 327) 35 = .ok (.iconst 0, 1) := d_300_35
theorem d_327_36 : decode (js_b 327) 36 = .ok (.invokestatic 198, 3) := d_300_36
theorem d_327_39 : decode (js_b 327) 39 = .ok (.iconst 1, 1) := d_300_39
theorem d_327_40 : decode (js_b 327) 40 = .ok (.if_icmp .ne 13, 3) := d_300_40
theorem d_327_43 : decode (js_b 327) 43 = .ok (.lconst 1, 1) := d_300_43
theorem d_327_44 : decode (js_b 327) 44 = .ok (.iload 5, 2) := d_300_44
theorem d_327_46 : decode (js_b 327) 46 = .ok (.bipush 8, 2) := d_300_46
theorem d_327_48 : decode (js_b 327) 48 = .ok (.isub, 1) := d_300_48
theorem d_327_49 : decode (js_b 327) 49 = .ok (.lshl, 1) := d_300_49
theorem d_327_50 : decode (js_b 327) 50 = .ok (.goto 4, 3) := d_300_50
theorem d_327_53 : decode (js_b 327) 53 = .ok (.lconst 0, 1) := d_300_53
theorem d_327_54 : decode (js_b 327) 54 = .ok (.lor, 1) := d_300_54
theorem d_327_55 : decode (js_b 327) 55 = .ok (.lstore_n 3, 1) := d_300_55
theorem d_327_56 : decode (js_b 327) 56 = .ok (.lload_n 3, 1) := d_300_56
theorem d_327_57 : decode (js_b 327) 57 = .ok (.aload_n 0, 1) := d_300_57
theorem d_327_58 : decode (js_b 327) 58 = .ok (.iload 5, 2) := d_300_58
theorem d_327_60 : decode (js_b 327) 60 = .ok (.bipush 8, 2) := d_300_60
theorem d_327_62 : decode (js_b 327) 62 = .ok (.idiv, 1) := d_300_62
theorem d_327_63 : decode (js_b 327) 63 = .ok (.iload 5, 2) := d_300_63
theorem d_327_65 : decode (js_b 327) 65 = .ok (.bipush 8, 2) := d_300_65
theorem d_327_67 : decode (js_b 327) 67 = .ok (.irem, 1) := d_300_67
theorem d_327_68 : decode (js_b 327) 68 = .ok (.iconst 1, 1) := d_300_68
theorem d_327_69 : decode (js_b 327) 69 = .ok (.invokestatic 198, 3) := d_300_69
theorem d_327_72 : decode (js_b 327) 72 = .ok (.iconst 1, 1) := d_300_72
theorem d_327_73 : decode (js_b 327) 73 = .ok (.if_icmp .ne 12, 3) := d_300_73
theorem d_327_76 : decode (js_b 327) 76 = .ok (.lconst 1, 1) := d_300_76
theorem d_327_77 : decode (js_b 327) 77 = .ok (.iload 5, 2) := d_300_77
theorem d_327_79 : decode (js_b 327) 79 = .ok (.iconst 1, 1) := d_300_79
theorem d_327_80 : decode (js_b 327) 80 = .ok (.iadd, 1) := d_300_80
theorem d_327_81 : decode (js_b 327) 81 = .ok (.lshl, 1) := d_300_81
theorem d_327_82 : decode (js_b 327) 82 = .ok (.goto 4, 3) := d_300_82
theorem d_327_85 : decode (js_b 327) 85 = .ok (.lconst 0, 1) := d_300_85
theorem d_327_86 : decode (js_b 327) 86 = .ok (.lor, 1) := d_300_86
theorem d_327_87 : decode (js_b 327) 87 = .ok (.lstore_n 3, 1) := d_300_87
theorem d_327_88 : decode (js_b 327) 88 = .ok (.lload_n 3, 1) := d_300_88
theorem d_327_89 : decode (js_b 327) 89 = .ok (.aload_n 0, 1) := d_300_89
theorem d_327_90 : decode (js_b 327) 90 = .ok (.iload 5, 2) := d_300_90
theorem d_327_92 : decode (js_b 327) 92 = .ok (.bipush 8, 2) := d_300_92
theorem d_327_94 : decode (js_b 327) 94 = .ok (.idiv, 1) := d_300_94
theorem d_327_95 : decode (js_b 327) 95 = .ok (.iload 5, 2) := d_300_95
theorem d_327_97 : decode (js_b 327) 97 = .ok (.bipush 8, 2) := d_300_97
theorem d_327_99 : decode (js_b 327) 99 = .ok (.irem, 1) := d_300_99
theorem d_327_100 : decode (js_b 327) 100 = .ok (.iconst 2, 1) := d_300_100
theorem d_327_101 : decode (js_b 327) 101 = .ok (.invokestatic 198, 3) := d_300_101
theorem d_327_104 : decode (js_b 327) 104 = .ok (.iconst 1, 1) := d_300_104
theorem d_327_105 : decode (js_b 327) 105 = .ok (.if_icmp .ne 13, 3) := d_300_105
theorem d_327_108 : decode (js_b 327) 108 = .ok (.lconst 1, 1) := d_300_108
theorem d_327_109 : decode (js_b 327) 109 = .ok (.iload 5, 2) := d_300_109
theorem d_327_111 : decode (js_b 327) 111 = .ok (.bipush 8, 2) := d_300_111
theorem d_327_113 : decode (js_b 327) 113 = .ok (.iadd, 1) := d_300_113
theorem d_327_114 : decode (js_b 327) 114 = .ok (.lshl, 1) := d_300_114
theorem d_327_115 : decode (js_b 327) 115 = .ok (.goto 4, 3) := d_300_115
theorem d_327_118 : decode (js_b 327) 118 = .ok (.lconst 0, 1) := d_300_118
theorem d_327_119 : decode (js_b 327) 119 = .ok (.lor, 1) := d_300_119
theorem d_327_120 : decode (js_b 327) 120 = .ok (.lstore_n 3, 1) := d_300_120
theorem d_327_121 : decode (js_b 327) 121 = .ok (.lload_n 3, 1) := d_300_121
theorem d_327_122 : decode (js_b 327) 122 = .ok (.aload_n 0, 1) := d_300_122
theorem d_327_123 : decode (js_b 327) 123 = .ok (.iload 5, 2) := d_300_123
theorem d_327_125 : decode (js_b 327) 125 = .ok (.bipush 8, 2) := d_300_125
theorem d_327_127 : decode (js_b 327) 127 = .ok (.idiv, 1) := d_300_127
theorem d_327_128 : decode (js_b 327) 128 = .ok (.iload 5, 2) := d_300_128
theorem d_327_130 : decode (js_b 327) 130 = .ok (.bipush 8, 2) := d_300_130
theorem d_327_132 : decode (js_b 327) 132 = .ok (.irem, 1) := d_300_132
theorem d_327_133 : decode (js_b 327) 133 = .ok (.iconst 3, 1) := d_300_133
theorem d_327_134 : decode (js_b 327) 134 = .ok (.invokestatic 198, 3) := d_300_134
theorem d_327_137 : decode (js_b 327) 137 = .ok (.iconst 1, 1) := d_300_137
theorem d_327_138 : decode (js_b 327) 138 = .ok (.if_icmp .ne 12, 3) := d_300_138
theorem d_327_141 : decode (js_b 327) 141 = .ok (.lconst 1, 1) := d_300_141
theorem d_327_142 : decode (js_b 327) 142 = .ok (.iload 5, 2) := d_300_142
theorem d_327_144 : decode (js_b 327) 144 = .ok (.iconst 1, 1) := d_300_144
theorem d_327_145 : decode (js_b 327) 145 = .ok (.isub, 1) := d_300_145
theorem d_327_146 : decode (js_b 327) 146 = .ok (.lshl, 1) := d_300_146
theorem d_327_147 : decode (js_b 327) 147 = .ok (.goto 4, 3) := d_300_147
theorem d_327_150 : decode (js_b 327) 150 = .ok (.lconst 0, 1) := d_300_150
theorem d_327_151 : decode (js_b 327) 151 = .ok (.lor, 1) := d_300_151
theorem d_327_152 : decode (js_b 327) 152 = .ok (.lstore_n 3, 1) := d_300_152
theorem d_327_153 : decode (js_b 327) 153 = .ok (.iinc 5 1, 3) := d_300_153
theorem d_327_156 : decode (js_b 327) 156 = .ok (.goto (-151), 3) := d_300_156
theorem d_327_159 : decode (js_b 327) 159 = .ok (.lload_n 3, 1) := d_300_159
theorem d_327_160 : decode (js_b 327) 160 = .ok (.lload_n 1, 1) := d_300_160
theorem d_327_161 : decode (js_b 327) 161 = .ok (.lcmp, 1) := d_300_161
theorem d_327_162 : decode (js_b 327) 162 = .ok (.ifCond .ne 7, 3) := d_300_162
theorem d_327_165 : decode (js_b 327) 165 = .ok (.lload_n 1, 1) := d_300_165
theorem d_327_166 : decode (js_b 327) 166 = .ok (.goto 8, 3) := d_300_166
theorem d_327_169 : decode (js_b 327) 169 = .ok (.aload_n 0, 1) := d_300_169
theorem d_327_170 : decode (js_b 327) 170 = .ok (.lload_n 3, 1) := d_300_170
theorem d_327_171 : decode (js_b 327) 171 = .ok (.invokestatic 323, 3) := d_300_171
theorem d_327_174 : decode (js_b 327) 174 = .ok (.lreturn, 1) := d_300_174
theorem ki_327_15 : js_OkG 327 15 (o_Sh (fun x y => (x.toUInt64 >>> (y.toInt64.toUInt64 &&& Int64.toUInt64 63)).toInt64) 16) := js_St.okG (st_lushr d_327_15) (fun _ _ _ _ _ => rfl)
theorem ki_327_13 : js_OkG 327 13 (o_il 5 15) := js_St.okG (st_iload d_327_13) (fun _ _ _ _ _ => rfl)
theorem ki_327_12 : js_OkG 327 12 (o_ll 1 13) := js_St.okG (st_lloadn rfl d_327_12) (fun _ _ _ _ _ => rfl)
theorem ki_327_9 : js_OkG 327 9 (o_cge 159 12) := js_St.okG (st_icge (by decide) d_327_9) (fun _ _ _ _ _ => rfl)
theorem ki_327_7 : js_OkG 327 7 (o_ic 64 9) := js_St.okG (st_bipush rfl d_327_7) (fun _ _ _ _ _ => rfl)
theorem ki_327_5 : js_OkG 327 5 (o_il 5 7) := js_St.okG (st_iload d_327_5) (fun _ _ _ _ _ => rfl)
theorem ki_327_3 : js_OkG 327 3 (o_is 5 5) := js_St.okG (st_istore (Nat.le_of_ble_eq_true rfl) d_327_3) (fun _ _ _ _ _ => rfl)
theorem ki_327_2 : js_OkG 327 2 (o_ic 0 3) := js_St.okG (st_iconst rfl d_327_2) (fun _ _ _ _ _ => rfl)
theorem ki_327_1 : js_OkG 327 1 (o_ls 3 2) := js_St.okG (st_lstoren rfl (Nat.le_of_ble_eq_true rfl) d_327_1) (fun _ _ _ _ _ => rfl)
theorem ki_327_0 : js_OkG 327 0 (o_ll 1 1) := js_St.okG (st_lloadn rfl d_327_0) (fun _ _ _ _ _ => rfl)
theorem ki_327_30 : js_OkG 327 30 (o_il 5 32) := js_St.okG (st_iload d_327_30) (fun _ _ _ _ _ => rfl)
theorem ki_327_29 : js_OkG 327 29 (o_div 30) := js_St.okG (st_idiv d_327_29) (fun _ _ _ _ _ => rfl)
theorem ki_327_27 : js_OkG 327 27 (o_ic 8 29) := js_St.okG (st_bipush rfl d_327_27) (fun _ _ _ _ _ => rfl)
theorem ki_327_25 : js_OkG 327 25 (o_il 5 27) := js_St.okG (st_iload d_327_25) (fun _ _ _ _ _ => rfl)
theorem ki_327_24 : js_OkG 327 24 (o_al 0 25) := js_St.okG (st_aloadn rfl d_327_24) (fun _ _ _ _ _ => rfl)
theorem ki_327_23 : js_OkG 327 23 (o_ll 3 24) := js_St.okG (st_lloadn rfl d_327_23) (fun _ _ _ _ _ => rfl)
theorem ki_327_20 : js_OkG 327 20 (o_ne 153 23) := js_St.okG (st_ifne (by decide) d_327_20) (fun _ _ _ _ _ => rfl)
theorem ki_327_19 : js_OkG 327 19 (o_lcmp 20) := js_St.okG (st_lcmp d_327_19) (fun _ _ _ _ _ => rfl)
theorem ki_327_18 : js_OkG 327 18 (o_lc 1 19) := js_St.okG (st_lconst rfl d_327_18) (fun _ _ _ _ _ => rfl)
theorem ki_327_17 : js_OkG 327 17 (o_B2 (fun x y => x &&& y) 18) := js_St.okG (st_land d_327_17) (fun _ _ _ _ _ => rfl)
theorem ki_327_16 : js_OkG 327 16 (o_lc 1 17) := js_St.okG (st_lconst rfl d_327_16) (fun _ _ _ _ _ => rfl)
theorem ki_327_46 : js_OkG 327 46 (o_ic 8 48) := js_St.okG (st_bipush rfl d_327_46) (fun _ _ _ _ _ => rfl)
theorem ki_327_44 : js_OkG 327 44 (o_il 5 46) := js_St.okG (st_iload d_327_44) (fun _ _ _ _ _ => rfl)
theorem ki_327_43 : js_OkG 327 43 (o_lc 1 44) := js_St.okG (st_lconst rfl d_327_43) (fun _ _ _ _ _ => rfl)
theorem ki_327_40 : js_OkG 327 40 (o_cne 53 43) := js_St.okG (st_icne (by decide) d_327_40) (fun _ _ _ _ _ => rfl)
theorem ki_327_39 : js_OkG 327 39 (o_ic 1 40) := js_St.okG (st_iconst rfl d_327_39) (fun _ _ _ _ _ => rfl)
theorem ki_327_36 : js_OkG 327 36 (o_cI 176 4 0 39) := og_sIP rfl rfl kB_327_176 rfl kw_785 kw_786 d_327_36
theorem ki_327_35 : js_OkG 327 35 (o_ic 0 36) := js_St.okG (st_iconst rfl d_327_35) (fun _ _ _ _ _ => rfl)
theorem ki_327_34 : js_OkG 327 34 (o_rem 35) := js_St.okG (st_irem d_327_34) (fun _ _ _ _ _ => rfl)
theorem ki_327_32 : js_OkG 327 32 (o_ic 8 34) := js_St.okG (st_bipush rfl d_327_32) (fun _ _ _ _ _ => rfl)
theorem ki_327_63 : js_OkG 327 63 (o_il 5 65) := js_St.okG (st_iload d_327_63) (fun _ _ _ _ _ => rfl)
theorem ki_327_62 : js_OkG 327 62 (o_div 63) := js_St.okG (st_idiv d_327_62) (fun _ _ _ _ _ => rfl)
theorem ki_327_60 : js_OkG 327 60 (o_ic 8 62) := js_St.okG (st_bipush rfl d_327_60) (fun _ _ _ _ _ => rfl)
theorem ki_327_58 : js_OkG 327 58 (o_il 5 60) := js_St.okG (st_iload d_327_58) (fun _ _ _ _ _ => rfl)
theorem ki_327_57 : js_OkG 327 57 (o_al 0 58) := js_St.okG (st_aloadn rfl d_327_57) (fun _ _ _ _ _ => rfl)
theorem ki_327_56 : js_OkG 327 56 (o_ll 3 57) := js_St.okG (st_lloadn rfl d_327_56) (fun _ _ _ _ _ => rfl)
theorem ki_327_55 : js_OkG 327 55 (o_ls 3 56) := js_St.okG (st_lstoren rfl (Nat.le_of_ble_eq_true rfl) d_327_55) (fun _ _ _ _ _ => rfl)
theorem ki_327_54 : js_OkG 327 54 (o_B2 (fun x y => x ||| y) 55) := js_St.okG (st_lor d_327_54) (fun _ _ _ _ _ => rfl)
theorem ki_327_53 : js_OkG 327 53 (o_lc 0 54) := js_St.okG (st_lconst rfl d_327_53) (fun _ _ _ _ _ => rfl)
theorem ki_327_50 : js_OkG 327 50 (o_go 54) := js_St.okG (st_goto (by decide) d_327_50) (fun _ _ _ _ _ => rfl)
theorem ki_327_49 : js_OkG 327 49 (o_Sh (fun x y => x <<< (y.toInt64 &&& 63)) 50) := js_St.okG (st_lshl d_327_49) (fun _ _ _ _ _ => rfl)
theorem ki_327_48 : js_OkG 327 48 (o_b2 (fun x y => x - y) 49) := js_St.okG (st_isub d_327_48) (fun _ _ _ _ _ => rfl)
theorem ki_327_79 : js_OkG 327 79 (o_ic 1 80) := js_St.okG (st_iconst rfl d_327_79) (fun _ _ _ _ _ => rfl)
theorem ki_327_77 : js_OkG 327 77 (o_il 5 79) := js_St.okG (st_iload d_327_77) (fun _ _ _ _ _ => rfl)
theorem ki_327_76 : js_OkG 327 76 (o_lc 1 77) := js_St.okG (st_lconst rfl d_327_76) (fun _ _ _ _ _ => rfl)
theorem ki_327_73 : js_OkG 327 73 (o_cne 85 76) := js_St.okG (st_icne (by decide) d_327_73) (fun _ _ _ _ _ => rfl)
theorem ki_327_72 : js_OkG 327 72 (o_ic 1 73) := js_St.okG (st_iconst rfl d_327_72) (fun _ _ _ _ _ => rfl)
theorem ki_327_69 : js_OkG 327 69 (o_cI 176 4 0 72) := og_sIP rfl rfl kB_327_176 rfl kw_785 kw_786 d_327_69
theorem ki_327_68 : js_OkG 327 68 (o_ic 1 69) := js_St.okG (st_iconst rfl d_327_68) (fun _ _ _ _ _ => rfl)
theorem ki_327_67 : js_OkG 327 67 (o_rem 68) := js_St.okG (st_irem d_327_67) (fun _ _ _ _ _ => rfl)
theorem ki_327_65 : js_OkG 327 65 (o_ic 8 67) := js_St.okG (st_bipush rfl d_327_65) (fun _ _ _ _ _ => rfl)
theorem ki_327_95 : js_OkG 327 95 (o_il 5 97) := js_St.okG (st_iload d_327_95) (fun _ _ _ _ _ => rfl)
theorem ki_327_94 : js_OkG 327 94 (o_div 95) := js_St.okG (st_idiv d_327_94) (fun _ _ _ _ _ => rfl)
theorem ki_327_92 : js_OkG 327 92 (o_ic 8 94) := js_St.okG (st_bipush rfl d_327_92) (fun _ _ _ _ _ => rfl)
theorem ki_327_90 : js_OkG 327 90 (o_il 5 92) := js_St.okG (st_iload d_327_90) (fun _ _ _ _ _ => rfl)
theorem ki_327_89 : js_OkG 327 89 (o_al 0 90) := js_St.okG (st_aloadn rfl d_327_89) (fun _ _ _ _ _ => rfl)
theorem ki_327_88 : js_OkG 327 88 (o_ll 3 89) := js_St.okG (st_lloadn rfl d_327_88) (fun _ _ _ _ _ => rfl)
theorem ki_327_87 : js_OkG 327 87 (o_ls 3 88) := js_St.okG (st_lstoren rfl (Nat.le_of_ble_eq_true rfl) d_327_87) (fun _ _ _ _ _ => rfl)
theorem ki_327_86 : js_OkG 327 86 (o_B2 (fun x y => x ||| y) 87) := js_St.okG (st_lor d_327_86) (fun _ _ _ _ _ => rfl)
theorem ki_327_85 : js_OkG 327 85 (o_lc 0 86) := js_St.okG (st_lconst rfl d_327_85) (fun _ _ _ _ _ => rfl)
theorem ki_327_82 : js_OkG 327 82 (o_go 86) := js_St.okG (st_goto (by decide) d_327_82) (fun _ _ _ _ _ => rfl)
theorem ki_327_81 : js_OkG 327 81 (o_Sh (fun x y => x <<< (y.toInt64 &&& 63)) 82) := js_St.okG (st_lshl d_327_81) (fun _ _ _ _ _ => rfl)
theorem ki_327_80 : js_OkG 327 80 (o_b2 (fun x y => x + y) 81) := js_St.okG (st_iadd d_327_80) (fun _ _ _ _ _ => rfl)
theorem ki_327_111 : js_OkG 327 111 (o_ic 8 113) := js_St.okG (st_bipush rfl d_327_111) (fun _ _ _ _ _ => rfl)
theorem ki_327_109 : js_OkG 327 109 (o_il 5 111) := js_St.okG (st_iload d_327_109) (fun _ _ _ _ _ => rfl)
theorem ki_327_108 : js_OkG 327 108 (o_lc 1 109) := js_St.okG (st_lconst rfl d_327_108) (fun _ _ _ _ _ => rfl)
theorem ki_327_105 : js_OkG 327 105 (o_cne 118 108) := js_St.okG (st_icne (by decide) d_327_105) (fun _ _ _ _ _ => rfl)
theorem ki_327_104 : js_OkG 327 104 (o_ic 1 105) := js_St.okG (st_iconst rfl d_327_104) (fun _ _ _ _ _ => rfl)
theorem ki_327_101 : js_OkG 327 101 (o_cI 176 4 0 104) := og_sIP rfl rfl kB_327_176 rfl kw_785 kw_786 d_327_101
theorem ki_327_100 : js_OkG 327 100 (o_ic 2 101) := js_St.okG (st_iconst rfl d_327_100) (fun _ _ _ _ _ => rfl)
theorem ki_327_99 : js_OkG 327 99 (o_rem 100) := js_St.okG (st_irem d_327_99) (fun _ _ _ _ _ => rfl)
theorem ki_327_97 : js_OkG 327 97 (o_ic 8 99) := js_St.okG (st_bipush rfl d_327_97) (fun _ _ _ _ _ => rfl)
theorem ki_327_127 : js_OkG 327 127 (o_div 128) := js_St.okG (st_idiv d_327_127) (fun _ _ _ _ _ => rfl)
theorem ki_327_125 : js_OkG 327 125 (o_ic 8 127) := js_St.okG (st_bipush rfl d_327_125) (fun _ _ _ _ _ => rfl)
theorem ki_327_123 : js_OkG 327 123 (o_il 5 125) := js_St.okG (st_iload d_327_123) (fun _ _ _ _ _ => rfl)
theorem ki_327_122 : js_OkG 327 122 (o_al 0 123) := js_St.okG (st_aloadn rfl d_327_122) (fun _ _ _ _ _ => rfl)
theorem ki_327_121 : js_OkG 327 121 (o_ll 3 122) := js_St.okG (st_lloadn rfl d_327_121) (fun _ _ _ _ _ => rfl)
theorem ki_327_120 : js_OkG 327 120 (o_ls 3 121) := js_St.okG (st_lstoren rfl (Nat.le_of_ble_eq_true rfl) d_327_120) (fun _ _ _ _ _ => rfl)
theorem ki_327_119 : js_OkG 327 119 (o_B2 (fun x y => x ||| y) 120) := js_St.okG (st_lor d_327_119) (fun _ _ _ _ _ => rfl)
theorem ki_327_118 : js_OkG 327 118 (o_lc 0 119) := js_St.okG (st_lconst rfl d_327_118) (fun _ _ _ _ _ => rfl)
theorem ki_327_115 : js_OkG 327 115 (o_go 119) := js_St.okG (st_goto (by decide) d_327_115) (fun _ _ _ _ _ => rfl)
theorem ki_327_114 : js_OkG 327 114 (o_Sh (fun x y => x <<< (y.toInt64 &&& 63)) 115) := js_St.okG (st_lshl d_327_114) (fun _ _ _ _ _ => rfl)
theorem ki_327_113 : js_OkG 327 113 (o_b2 (fun x y => x + y) 114) := js_St.okG (st_iadd d_327_113) (fun _ _ _ _ _ => rfl)
theorem ki_327_142 : js_OkG 327 142 (o_il 5 144) := js_St.okG (st_iload d_327_142) (fun _ _ _ _ _ => rfl)
theorem ki_327_141 : js_OkG 327 141 (o_lc 1 142) := js_St.okG (st_lconst rfl d_327_141) (fun _ _ _ _ _ => rfl)
theorem ki_327_138 : js_OkG 327 138 (o_cne 150 141) := js_St.okG (st_icne (by decide) d_327_138) (fun _ _ _ _ _ => rfl)
theorem ki_327_137 : js_OkG 327 137 (o_ic 1 138) := js_St.okG (st_iconst rfl d_327_137) (fun _ _ _ _ _ => rfl)
theorem ki_327_134 : js_OkG 327 134 (o_cI 176 4 0 137) := og_sIP rfl rfl kB_327_176 rfl kw_785 kw_786 d_327_134
theorem ki_327_133 : js_OkG 327 133 (o_ic 3 134) := js_St.okG (st_iconst rfl d_327_133) (fun _ _ _ _ _ => rfl)
theorem ki_327_132 : js_OkG 327 132 (o_rem 133) := js_St.okG (st_irem d_327_132) (fun _ _ _ _ _ => rfl)
theorem ki_327_130 : js_OkG 327 130 (o_ic 8 132) := js_St.okG (st_bipush rfl d_327_130) (fun _ _ _ _ _ => rfl)
theorem ki_327_128 : js_OkG 327 128 (o_il 5 130) := js_St.okG (st_iload d_327_128) (fun _ _ _ _ _ => rfl)
theorem ki_327_159 : js_OkG 327 159 (o_ll 3 160) := js_St.okG (st_lloadn rfl d_327_159) (fun _ _ _ _ _ => rfl)
theorem ki_327_156 : js_OkG 327 156 (o_go 5) := js_St.okG (st_goto (by decide) d_327_156) (fun _ _ _ _ _ => rfl)
theorem ki_327_153 : js_OkG 327 153 (o_inc 5 1 156) := js_St.okG (st_iinc rfl (Nat.le_of_ble_eq_true rfl) d_327_153) (fun _ _ _ _ _ => rfl)
theorem ki_327_152 : js_OkG 327 152 (o_ls 3 153) := js_St.okG (st_lstoren rfl (Nat.le_of_ble_eq_true rfl) d_327_152) (fun _ _ _ _ _ => rfl)
theorem ki_327_151 : js_OkG 327 151 (o_B2 (fun x y => x ||| y) 152) := js_St.okG (st_lor d_327_151) (fun _ _ _ _ _ => rfl)
theorem ki_327_150 : js_OkG 327 150 (o_lc 0 151) := js_St.okG (st_lconst rfl d_327_150) (fun _ _ _ _ _ => rfl)
theorem ki_327_147 : js_OkG 327 147 (o_go 151) := js_St.okG (st_goto (by decide) d_327_147) (fun _ _ _ _ _ => rfl)
theorem ki_327_146 : js_OkG 327 146 (o_Sh (fun x y => x <<< (y.toInt64 &&& 63)) 147) := js_St.okG (st_lshl d_327_146) (fun _ _ _ _ _ => rfl)
theorem ki_327_145 : js_OkG 327 145 (o_b2 (fun x y => x - y) 146) := js_St.okG (st_isub d_327_145) (fun _ _ _ _ _ => rfl)
theorem ki_327_144 : js_OkG 327 144 (o_ic 1 145) := js_St.okG (st_iconst rfl d_327_144) (fun _ _ _ _ _ => rfl)
theorem ki_327_174 : js_OkG 327 174 (o_rL) := og_rL rfl d_327_174
theorem ki_327_171 : js_OkG 327 171 (o_cL 328 2 0 174) := og_sLP rfl rfl kB_327_328 rfl kw_949 kw_950 d_327_171
theorem ki_327_170 : js_OkG 327 170 (o_ll 3 171) := js_St.okG (st_lloadn rfl d_327_170) (fun _ _ _ _ _ => rfl)
theorem ki_327_169 : js_OkG 327 169 (o_al 0 170) := js_St.okG (st_aloadn rfl d_327_169) (fun _ _ _ _ _ => rfl)
theorem ki_327_166 : js_OkG 327 166 (o_go 174) := js_St.okG (st_goto (by decide) d_327_166) (fun _ _ _ _ _ => rfl)
theorem ki_327_165 : js_OkG 327 165 (o_ll 1 166) := js_St.okG (st_lloadn rfl d_327_165) (fun _ _ _ _ _ => rfl)
theorem ki_327_162 : js_OkG 327 162 (o_ne 169 165) := js_St.okG (st_ifne (by decide) d_327_162) (fun _ _ _ _ _ => rfl)
theorem ki_327_161 : js_OkG 327 161 (o_lcmp 162) := js_St.okG (st_lcmp d_327_161) (fun _ _ _ _ _ => rfl)
theorem ki_327_160 : js_OkG 327 160 (o_ll 1 161) := js_St.okG (st_lloadn rfl d_327_160) (fun _ _ _ _ _ => rfl)
set_option maxRecDepth 20000 in
theorem mk_327 : js_mokG 327 := jk_tab (fun _ => js_St.okG st_bad (fun _ _ _ _ _ => rfl)) (show jk_all (js_OkG 327) 0 (tb_G 327) from ⟨⟨ki_327_0, ⟨ki_327_1, ⟨ki_327_2, ⟨ki_327_3, ⟨kbadG, ⟨ki_327_5, ⟨kbadG, ⟨ki_327_7, ⟨kbadG, ⟨ki_327_9, ⟨kbadG, ⟨kbadG, ⟨ki_327_12, ⟨ki_327_13, ⟨kbadG, ⟨ki_327_15, trivial⟩⟩⟩⟩⟩⟩⟩⟩⟩⟩⟩⟩⟩⟩⟩⟩, ⟨⟨ki_327_16, ⟨ki_327_17, ⟨ki_327_18, ⟨ki_327_19, ⟨ki_327_20, ⟨kbadG, ⟨kbadG, ⟨ki_327_23, ⟨ki_327_24, ⟨ki_327_25, ⟨kbadG, ⟨ki_327_27, ⟨kbadG, ⟨ki_327_29, ⟨ki_327_30, ⟨kbadG, trivial⟩⟩⟩⟩⟩⟩⟩⟩⟩⟩⟩⟩⟩⟩⟩⟩, ⟨⟨ki_327_32, ⟨kbadG, ⟨ki_327_34, ⟨ki_327_35, ⟨ki_327_36, ⟨kbadG, ⟨kbadG, ⟨ki_327_39, ⟨ki_327_40, ⟨kbadG, ⟨kbadG, ⟨ki_327_43, ⟨ki_327_44, ⟨kbadG, ⟨ki_327_46, ⟨kbadG, trivial⟩⟩⟩⟩⟩⟩⟩⟩⟩⟩⟩⟩⟩⟩⟩⟩, ⟨⟨ki_327_48, ⟨ki_327_49, ⟨ki_327_50, ⟨kbadG, ⟨kbadG, ⟨ki_327_53, ⟨ki_327_54, ⟨ki_327_55, ⟨ki_327_56, ⟨ki_327_57, ⟨ki_327_58, ⟨kbadG, ⟨ki_327_60, ⟨kbadG, ⟨ki_327_62, ⟨ki_327_63, trivial⟩⟩⟩⟩⟩⟩⟩⟩⟩⟩⟩⟩⟩⟩⟩⟩, ⟨⟨kbadG, ⟨ki_327_65, ⟨kbadG, ⟨ki_327_67, ⟨ki_327_68, ⟨ki_327_69, ⟨kbadG, ⟨kbadG, ⟨ki_327_72, ⟨ki_327_73, ⟨kbadG, ⟨kbadG, ⟨ki_327_76, ⟨ki_327_77, ⟨kbadG, ⟨ki_327_79, trivial⟩⟩⟩⟩⟩⟩⟩⟩⟩⟩⟩⟩⟩⟩⟩⟩, ⟨⟨ki_327_80, ⟨ki_327_81, ⟨ki_327_82, ⟨kbadG, ⟨kbadG, ⟨ki_327_85, ⟨ki_327_86, ⟨ki_327_87, ⟨ki_327_88, ⟨ki_327_89, ⟨ki_327_90, ⟨kbadG, ⟨ki_327_92, ⟨kbadG, ⟨ki_327_94, ⟨ki_327_95, trivial⟩⟩⟩⟩⟩⟩⟩⟩⟩⟩⟩⟩⟩⟩⟩⟩, ⟨⟨kbadG, ⟨ki_327_97, ⟨kbadG, ⟨ki_327_99, ⟨ki_327_100, ⟨ki_327_101, ⟨kbadG, ⟨kbadG, ⟨ki_327_104, ⟨ki_327_105, ⟨kbadG, ⟨kbadG, ⟨ki_327_108, ⟨ki_327_109, ⟨kbadG, ⟨ki_327_111, trivial⟩⟩⟩⟩⟩⟩⟩⟩⟩⟩⟩⟩⟩⟩⟩⟩, ⟨⟨kbadG, ⟨ki_327_113, ⟨ki_327_114, ⟨ki_327_115, ⟨kbadG, ⟨kbadG, ⟨ki_327_118, ⟨ki_327_119, ⟨ki_327_120, ⟨ki_327_121, ⟨ki_327_122, ⟨ki_327_123, ⟨kbadG, ⟨ki_327_125, ⟨kbadG, ⟨ki_327_127, trivial⟩⟩⟩⟩⟩⟩⟩⟩⟩⟩⟩⟩⟩⟩⟩⟩, ⟨⟨ki_327_128, ⟨kbadG, ⟨ki_327_130, ⟨kbadG, ⟨ki_327_132, ⟨ki_327_133, ⟨ki_327_134, ⟨kbadG, ⟨kbadG, ⟨ki_327_137, ⟨ki_327_138, ⟨kbadG, ⟨kbadG, ⟨ki_327_141, ⟨ki_327_142, ⟨kbadG, trivial⟩⟩⟩⟩⟩⟩⟩⟩⟩⟩⟩⟩⟩⟩⟩⟩, ⟨⟨ki_327_144, ⟨ki_327_145, ⟨ki_327_146, ⟨ki_327_147, ⟨kbadG, ⟨kbadG, ⟨ki_327_150, ⟨ki_327_151, ⟨ki_327_152, ⟨ki_327_153, ⟨kbadG, ⟨kbadG, ⟨ki_327_156, ⟨kbadG, ⟨kbadG, ⟨ki_327_159, trivial⟩⟩⟩⟩⟩⟩⟩⟩⟩⟩⟩⟩⟩⟩⟩⟩, ⟨⟨ki_327_160, ⟨ki_327_161, ⟨ki_327_162, ⟨kbadG, ⟨kbadG, ⟨ki_327_165, ⟨ki_327_166, ⟨kbadG, ⟨kbadG, ⟨ki_327_169, ⟨ki_327_170, ⟨ki_327_171, ⟨kbadG, ⟨kbadG, ⟨ki_327_174, trivial⟩⟩⟩⟩⟩⟩⟩⟩⟩⟩⟩⟩⟩⟩⟩, trivial⟩⟩⟩⟩⟩⟩⟩⟩⟩⟩⟩)
theorem d_328_0 : decode (js_b 328) 0 = .ok (.lload_n 1, 1) := d_300_0
theorem d_328_1 : decode (js_b 328) 1 = .ok (.lstore_n 3, 1) := d_300_1
theorem d_328_2 : decode (js_b 328) 2 = .ok (.iconst 0, 1) := d_300_2
theorem d_328_3 : decode (js_b 328) 3 = .ok (.istore 5, 2) := d_300_3
theorem d_328_5 : decode (js_b 328) 5 = .ok (.iload 5, 2) := d_300_5
theorem d_328_7 : decode (js_b 328) 7 = .ok (.bipush 64, 2) := d_300_7
theorem d_328_9 : decode (js_b 328) 9 = .ok (.if_icmp .ge 150, 3) := d_300_9
theorem d_328_12 : decode (js_b 328) 12 = .ok (.lload_n 1, 1) := d_300_12
theorem d_328_13 : decode (js_b 328) 13 = .ok (.iload 5, 2) := d_300_13
theorem d_328_15 : decode (js_b 328) 15 = .ok (.lushr, 1) := d_300_15
theorem d_328_16 : decode (js_b 328) 16 = .ok (.lconst 1, 1) := d_300_16
theorem d_328_17 : decode (js_b 328) 17 = .ok (.land, 1) := d_300_17
theorem d_328_18 : decode (js_b 328) 18 = .ok (.lconst 1, 1) := d_300_18
theorem d_328_19 : decode (js_b 328) 19 = .ok (.lcmp, 1) := d_300_19
theorem d_328_20 : decode (js_b 328) 20 = .ok (.ifCond .ne 133, 3) := d_300_20
theorem d_328_23 : decode (js_b 328) 23 = .ok (.lload_n 3, 1) := d_300_23
theorem d_328_24 : decode (js_b 328) 24 = .ok (.aload_n 0, 1) := d_300_24
theorem d_328_25 : decode (js_b 328) 25 = .ok (.iload 5, 2) := d_300_25
theorem d_328_27 : decode (js_b 328) 27 = .ok (.bipush 8, 2) := d_300_27
theorem d_328_29 : decode (js_b 328) 29 = .ok (.idiv, 1) := d_300_29
theorem d_328_30 : decode (js_b 328) 30 = .ok (.iload 5, 2) := d_300_30
theorem d_328_32 : decode (js_b 328) 32 = .ok (.bipush 8, 2) := d_300_32
theorem d_328_34 : decode (js_b 328) 34 = .ok (.irem, 1) := d_300_34
theorem d_328_35 : decode (js_b 328) 35 = .ok (.iconst 0, 1) := d_300_35
theorem d_328_36 : decode (js_b 328) 36 = .ok (.invokestatic 198, 3) := d_300_36
theorem d_328_39 : decode (js_b 328) 39 = .ok (.iconst 1, 1) := d_300_39
theorem d_328_40 : decode (js_b 328) 40 = .ok (.if_icmp .ne 13, 3) := d_300_40
theorem d_328_43 : decode (js_b 328) 43 = .ok (.lconst 1, 1) := d_300_43
theorem d_328_44 : decode (js_b 328) 44 = .ok (.iload 5, 2) := d_300_44
theorem d_328_46 : decode (js_b 328) 46 = .ok (.bipush 8, 2) := d_300_46
theorem d_328_48 : decode (js_b 328) 48 = .ok (.isub, 1) := d_300_48
theorem d_328_49 : decode (js_b 328) 49 = .ok (.lshl, 1) := d_300_49
theorem d_328_50 : decode (js_b 328) 50 = .ok (.goto 4, 3) := d_300_50
theorem d_328_53 : decode (js_b 328) 53 = .ok (.lconst 0, 1) := d_300_53
theorem d_328_54 : decode (js_b 328) 54 = .ok (.lor, 1) := d_300_54
theorem d_328_55 : decode (js_b 328) 55 = .ok (.lstore_n 3, 1) := d_300_55
theorem d_328_56 : decode (js_b 328) 56 = .ok (.lload_n 3, 1) := d_300_56
theorem d_328_57 : decode (js_b 328) 57 = .ok (.aload_n 0, 1) := d_300_57
theorem d_328_58 : decode (js_b 328) 58 = .ok (.iload 5, 2) := d_300_58
theorem d_328_60 : decode (js_b 328) 60 = .ok (.bipush 8, 2) := d_300_60
theorem d_328_62 : decode (js_b 328) 62 = .ok (.idiv, 1) := d_300_62
theorem d_328_63 : decode (js_b 328) 63 = .ok (.iload 5, 2) := d_300_63
theorem d_328_65 : decode (js_b 328) 65 = .ok (.bipush 8, 2) := d_300_65
theorem d_328_67 : decode (js_b 328) 67 = .ok (.irem, 1) := d_300_67
theorem d_328_68 : decode (js_b 328) 68 = .ok (.iconst 1, 1) := d_300_68
theorem d_328_69 : decode (js_b 328) 69 = .ok (.invokestatic 198, 3) := d_300_69
theorem d_328_72 : decode (js_b 328) 72 = .ok (.iconst 1, 1) := d_300_72
theorem d_328_73 : decode (js_b 328) 73 = .ok (.if_icmp .ne 12, 3) := d_300_73
theorem d_328_76 : decode (js_b 328) 76 = .ok (.lconst 1, 1) := d_300_76
theorem d_328_77 : decode (js_b 328) 77 = .ok (.iload 5, 2) := d_300_77
theorem d_328_79 : decode (js_b 328) 79 = .ok (.iconst 1, 1) := d_300_79
theorem d_328_80 : decode (js_b 328) 80 = .ok (.iadd, 1) := d_300_80
theorem d_328_81 : decode (js_b 328) 81 = .ok (.lshl, 1) := d_300_81
theorem d_328_82 : decode (js_b 328) 82 = .ok (.goto 4, 3) := d_300_82
theorem d_328_85 : decode (js_b 328) 85 = .ok (.lconst 0, 1) := d_300_85
theorem d_328_86 : decode (js_b 328) 86 = .ok (.lor, 1) := d_300_86
theorem d_328_87 : decode (js_b 328) 87 = .ok (.lstore_n 3, 1) := d_300_87
theorem d_328_88 : decode (js_b 328) 88 = .ok (.lload_n 3, 1) := d_300_88
theorem d_328_89 : decode (js_b 328) 89 = .ok (.aload_n 0, 1) := d_300_89
theorem d_328_90 : decode (js_b 328) 90 = .ok (.iload 5, 2) := d_300_90
theorem d_328_92 : decode (js_b 328) 92 = .ok (.bipush 8, 2) := d_300_92
theorem d_328_94 : decode (js_b 328) 94 = .ok (.idiv, 1) := d_300_94
theorem d_328_95 : decode (js_b 328) 95 = .ok (.iload 5, 2) := d_300_95
theorem d_328_97 : decode (js_b 328) 97 = .ok (.bipush 8, 2) := d_300_97
theorem d_328_99 : decode (js_b 328) 99 = .ok (.irem, 1) := d_300_99
theorem d_328_100 : decode (js_b 328) 100 = .ok (.iconst 2, 1) := d_300_100
theorem d_328_101 : decode (js_b 328) 101 = .ok (.invokestatic 198, 3) := d_300_101
theorem d_328_104 : decode (js_b 328) 104 = .ok (.iconst 1, 1) := d_300_104
theorem d_328_105 : decode (js_b 328) 105 = .ok (.if_icmp .ne 13, 3) := d_300_105
theorem d_328_108 : decode (js_b 328) 108 = .ok (.lconst 1, 1) := d_300_108
theorem d_328_109 : decode (js_b 328) 109 = .ok (.iload 5, 2) := d_300_109
theorem d_328_111 : decode (js_b 328) 111 = .ok (.bipush 8, 2) := d_300_111
theorem d_328_113 : decode (js_b 328) 113 = .ok (.iadd, 1) := d_300_113
theorem d_328_114 : decode (js_b 328) 114 = .ok (.lshl, 1) := d_300_114
theorem d_328_115 : decode (js_b 328) 115 = .ok (.goto 4, 3) := d_300_115
theorem d_328_118 : decode (js_b 328) 118 = .ok (.lconst 0, 1) := d_300_118
theorem d_328_119 : decode (js_b 328) 119 = .ok (.lor, 1) := d_300_119
theorem d_328_120 : decode (js_b 328) 120 = .ok (.lstore_n 3, 1) := d_300_120
theorem d_328_121 : decode (js_b 328) 121 = .ok (.lload_n 3, 1) := d_300_121
theorem d_328_122 : decode (js_b 328) 122 = .ok (.aload_n 0, 1) := d_300_122
theorem d_328_123 : decode (js_b 328) 123 = .ok (.iload 5, 2) := d_300_123
theorem d_328_125 : decode (js_b 328) 125 = .ok (.bipush 8, 2) := d_300_125
theorem d_328_127 : decode (js_b 328) 127 = .ok (.idiv, 1) := d_300_127
theorem d_328_128 : decode (js_b 328) 128 = .ok (.iload 5, 2) := d_300_128
theorem d_328_130 : decode (js_b 328) 130 = .ok (.bipush 8, 2) := d_300_130
theorem d_328_132 : decode (js_b 328) 132 = .ok (.irem, 1) := d_300_132
theorem d_328_133 : decode (js_b 328) 133 = .ok (.iconst 3, 1) := d_300_133
theorem d_328_134 : decode (js_b 328) 134 = .ok (.invokestatic 198, 3) := d_300_134
theorem d_328_137 : decode (js_b 328) 137 = .ok (.iconst 1, 1) := d_300_137
theorem d_328_138 : decode (js_b 328) 138 = .ok (.if_icmp .ne 12, 3) := d_300_138
theorem d_328_141 : decode (js_b 328) 141 = .ok (.lconst 1, 1) := d_300_141
theorem d_328_142 : decode (js_b 328) 142 = .ok (.iload 5, 2) := d_300_142
theorem d_328_144 : decode (js_b 328) 144 = .ok (.iconst 1, 1) := d_300_144
theorem d_328_145 : decode (js_b 328) 145 = .ok (.isub, 1) := d_300_145
theorem d_328_146 : decode (js_b 328) 146 = .ok (.lshl, 1) := d_300_146
theorem d_328_147 : decode (js_b 328) 147 = .ok (.goto 4, 3) := d_300_147
theorem d_328_150 : decode (js_b 328) 150 = .ok (.lconst 0, 1) := d_300_150
theorem d_328_151 : decode (js_b 328) 151 = .ok (.lor, 1) := d_300_151
theorem d_328_152 : decode (js_b 328) 152 = .ok (.lstore_n 3, 1) := d_300_152
theorem d_328_153 : decode (js_b 328) 153 = .ok (.iinc 5 1, 3) := d_300_153
theorem d_328_156 : decode (js_b 328) 156 = .ok (.goto (-151), 3) := d_300_156
theorem d_328_159 : decode (js_b 328) 159 = .ok (.lload_n 3, 1) := d_300_159
theorem d_328_160 : decode (js_b 328) 160 = .ok (.lload_n 1, 1) := d_300_160
theorem d_328_161 : decode (js_b 328) 161 = .ok (.lcmp, 1) := d_300_161
theorem d_328_162 : decode (js_b 328) 162 = .ok (.ifCond .ne 7, 3) := d_300_162
theorem d_328_165 : decode (js_b 328) 165 = .ok (.lload_n 1, 1) := d_300_165
theorem d_328_166 : decode (js_b 328) 166 = .ok (.goto 8, 3) := d_300_166
theorem d_328_169 : decode (js_b 328) 169 = .ok (.aload_n 0, 1) := d_300_169
theorem d_328_170 : decode (js_b 328) 170 = .ok (.lload_n 3, 1) := d_300_170
theorem d_328_171 : decode (js_b 328) 171 = .ok (.invokestatic 323, 3) := d_300_171
theorem d_328_174 : decode (js_b 328) 174 = .ok (.lreturn, 1) := d_300_174
theorem ki_328_15 : js_OkG 328 15 (o_Sh (fun x y => (x.toUInt64 >>> (y.toInt64.toUInt64 &&& Int64.toUInt64 63)).toInt64) 16) := js_St.okG (st_lushr d_328_15) (fun _ _ _ _ _ => rfl)
theorem ki_328_13 : js_OkG 328 13 (o_il 5 15) := js_St.okG (st_iload d_328_13) (fun _ _ _ _ _ => rfl)
theorem ki_328_12 : js_OkG 328 12 (o_ll 1 13) := js_St.okG (st_lloadn rfl d_328_12) (fun _ _ _ _ _ => rfl)
theorem ki_328_9 : js_OkG 328 9 (o_cge 159 12) := js_St.okG (st_icge (by decide) d_328_9) (fun _ _ _ _ _ => rfl)
theorem ki_328_7 : js_OkG 328 7 (o_ic 64 9) := js_St.okG (st_bipush rfl d_328_7) (fun _ _ _ _ _ => rfl)
theorem ki_328_5 : js_OkG 328 5 (o_il 5 7) := js_St.okG (st_iload d_328_5) (fun _ _ _ _ _ => rfl)
theorem ki_328_3 : js_OkG 328 3 (o_is 5 5) := js_St.okG (st_istore (Nat.le_of_ble_eq_true rfl) d_328_3) (fun _ _ _ _ _ => rfl)
theorem ki_328_2 : js_OkG 328 2 (o_ic 0 3) := js_St.okG (st_iconst rfl d_328_2) (fun _ _ _ _ _ => rfl)
theorem ki_328_1 : js_OkG 328 1 (o_ls 3 2) := js_St.okG (st_lstoren rfl (Nat.le_of_ble_eq_true rfl) d_328_1) (fun _ _ _ _ _ => rfl)
theorem ki_328_0 : js_OkG 328 0 (o_ll 1 1) := js_St.okG (st_lloadn rfl d_328_0) (fun _ _ _ _ _ => rfl)
theorem ki_328_30 : js_OkG 328 30 (o_il 5 32) := js_St.okG (st_iload d_328_30) (fun _ _ _ _ _ => rfl)
theorem ki_328_29 : js_OkG 328 29 (o_div 30) := js_St.okG (st_idiv d_328_29) (fun _ _ _ _ _ => rfl)
theorem ki_328_27 : js_OkG 328 27 (o_ic 8 29) := js_St.okG (st_bipush rfl d_328_27) (fun _ _ _ _ _ => rfl)
theorem ki_328_25 : js_OkG 328 25 (o_il 5 27) := js_St.okG (st_iload d_328_25) (fun _ _ _ _ _ => rfl)
theorem ki_328_24 : js_OkG 328 24 (o_al 0 25) := js_St.okG (st_aloadn rfl d_328_24) (fun _ _ _ _ _ => rfl)
theorem ki_328_23 : js_OkG 328 23 (o_ll 3 24) := js_St.okG (st_lloadn rfl d_328_23) (fun _ _ _ _ _ => rfl)
theorem ki_328_20 : js_OkG 328 20 (o_ne 153 23) := js_St.okG (st_ifne (by decide) d_328_20) (fun _ _ _ _ _ => rfl)
theorem ki_328_19 : js_OkG 328 19 (o_lcmp 20) := js_St.okG (st_lcmp d_328_19) (fun _ _ _ _ _ => rfl)
theorem ki_328_18 : js_OkG 328 18 (o_lc 1 19) := js_St.okG (st_lconst rfl d_328_18) (fun _ _ _ _ _ => rfl)
theorem ki_328_17 : js_OkG 328 17 (o_B2 (fun x y => x &&& y) 18) := js_St.okG (st_land d_328_17) (fun _ _ _ _ _ => rfl)
theorem ki_328_16 : js_OkG 328 16 (o_lc 1 17) := js_St.okG (st_lconst rfl d_328_16) (fun _ _ _ _ _ => rfl)
theorem ki_328_46 : js_OkG 328 46 (o_ic 8 48) := js_St.okG (st_bipush rfl d_328_46) (fun _ _ _ _ _ => rfl)
theorem ki_328_44 : js_OkG 328 44 (o_il 5 46) := js_St.okG (st_iload d_328_44) (fun _ _ _ _ _ => rfl)
theorem ki_328_43 : js_OkG 328 43 (o_lc 1 44) := js_St.okG (st_lconst rfl d_328_43) (fun _ _ _ _ _ => rfl)
theorem ki_328_40 : js_OkG 328 40 (o_cne 53 43) := js_St.okG (st_icne (by decide) d_328_40) (fun _ _ _ _ _ => rfl)
theorem ki_328_39 : js_OkG 328 39 (o_ic 1 40) := js_St.okG (st_iconst rfl d_328_39) (fun _ _ _ _ _ => rfl)
theorem ki_328_36 : js_OkG 328 36 (o_cI 176 4 0 39) := og_sIP rfl rfl kB_328_176 rfl kw_785 kw_786 d_328_36
theorem ki_328_35 : js_OkG 328 35 (o_ic 0 36) := js_St.okG (st_iconst rfl d_328_35) (fun _ _ _ _ _ => rfl)
theorem ki_328_34 : js_OkG 328 34 (o_rem 35) := js_St.okG (st_irem d_328_34) (fun _ _ _ _ _ => rfl)
theorem ki_328_32 : js_OkG 328 32 (o_ic 8 34) := js_St.okG (st_bipush rfl d_328_32) (fun _ _ _ _ _ => rfl)
theorem ki_328_63 : js_OkG 328 63 (o_il 5 65) := js_St.okG (st_iload d_328_63) (fun _ _ _ _ _ => rfl)
theorem ki_328_62 : js_OkG 328 62 (o_div 63) := js_St.okG (st_idiv d_328_62) (fun _ _ _ _ _ => rfl)
theorem ki_328_60 : js_OkG 328 60 (o_ic 8 62) := js_St.okG (st_bipush rfl d_328_60) (fun _ _ _ _ _ => rfl)
theorem ki_328_58 : js_OkG 328 58 (o_il 5 60) := js_St.okG (st_iload d_328_58) (fun _ _ _ _ _ => rfl)
theorem ki_328_57 : js_OkG 328 57 (o_al 0 58) := js_St.okG (st_aloadn rfl d_328_57) (fun _ _ _ _ _ => rfl)
theorem ki_328_56 : js_OkG 328 56 (o_ll 3 57) := js_St.okG (st_lloadn rfl d_328_56) (fun _ _ _ _ _ => rfl)
theorem ki_328_55 : js_OkG 328 55 (o_ls 3 56) := js_St.okG (st_lstoren rfl (Nat.le_of_ble_eq_true rfl) d_328_55) (fun _ _ _ _ _ => rfl)
theorem ki_328_54 : js_OkG 328 54 (o_B2 (fun x y => x ||| y) 55) := js_St.okG (st_lor d_328_54) (fun _ _ _ _ _ => rfl)
theorem ki_328_53 : js_OkG 328 53 (o_lc 0 54) := js_St.okG (st_lconst rfl d_328_53) (fun _ _ _ _ _ => rfl)
theorem ki_328_50 : js_OkG 328 50 (o_go 54) := js_St.okG (st_goto (by decide) d_328_50) (fun _ _ _ _ _ => rfl)
theorem ki_328_49 : js_OkG 328 49 (o_Sh (fun x y => x <<< (y.toInt64 &&& 63)) 50) := js_St.okG (st_lshl d_328_49) (fun _ _ _ _ _ => rfl)
theorem ki_328_48 : js_OkG 328 48 (o_b2 (fun x y => x - y) 49) := js_St.okG (st_isub d_328_48) (fun _ _ _ _ _ => rfl)
theorem ki_328_79 : js_OkG 328 79 (o_ic 1 80) := js_St.okG (st_iconst rfl d_328_79) (fun _ _ _ _ _ => rfl)
theorem ki_328_77 : js_OkG 328 77 (o_il 5 79) := js_St.okG (st_iload d_328_77) (fun _ _ _ _ _ => rfl)
theorem ki_328_76 : js_OkG 328 76 (o_lc 1 77) := js_St.okG (st_lconst rfl d_328_76) (fun _ _ _ _ _ => rfl)
theorem ki_328_73 : js_OkG 328 73 (o_cne 85 76) := js_St.okG (st_icne (by decide) d_328_73) (fun _ _ _ _ _ => rfl)
theorem ki_328_72 : js_OkG 328 72 (o_ic 1 73) := js_St.okG (st_iconst rfl d_328_72) (fun _ _ _ _ _ => rfl)
theorem ki_328_69 : js_OkG 328 69 (o_cI 176 4 0 72) := og_sIP rfl rfl kB_328_176 rfl kw_785 kw_786 d_328_69
theorem ki_328_68 : js_OkG 328 68 (o_ic 1 69) := js_St.okG (st_iconst rfl d_328_68) (fun _ _ _ _ _ => rfl)
theorem ki_328_67 : js_OkG 328 67 (o_rem 68) := js_St.okG (st_irem d_328_67) (fun _ _ _ _ _ => rfl)
theorem ki_328_65 : js_OkG 328 65 (o_ic 8 67) := js_St.okG (st_bipush rfl d_328_65) (fun _ _ _ _ _ => rfl)
theorem ki_328_95 : js_OkG 328 95 (o_il 5 97) := js_St.okG (st_iload d_328_95) (fun _ _ _ _ _ => rfl)
theorem ki_328_94 : js_OkG 328 94 (o_div 95) := js_St.okG (st_idiv d_328_94) (fun _ _ _ _ _ => rfl)
theorem ki_328_92 : js_OkG 328 92 (o_ic 8 94) := js_St.okG (st_bipush rfl d_328_92) (fun _ _ _ _ _ => rfl)
theorem ki_328_90 : js_OkG 328 90 (o_il 5 92) := js_St.okG (st_iload d_328_90) (fun _ _ _ _ _ => rfl)
theorem ki_328_89 : js_OkG 328 89 (o_al 0 90) := js_St.okG (st_aloadn rfl d_328_89) (fun _ _ _ _ _ => rfl)
theorem ki_328_88 : js_OkG 328 88 (o_ll 3 89) := js_St.okG (st_lloadn rfl d_328_88) (fun _ _ _ _ _ => rfl)
theorem ki_328_87 : js_OkG 328 87 (o_ls 3 88) := js_St.okG (st_lstoren rfl (Nat.le_of_ble_eq_true rfl) d_328_87) (fun _ _ _ _ _ => rfl)
theorem ki_328_86 : js_OkG 328 86 (o_B2 (fun x y => x ||| y) 87) := js_St.okG (st_lor d_328_86) (fun _ _ _ _ _ => rfl)
theorem ki_328_85 : js_OkG 328 85 (o_lc 0 86) := js_St.okG (st_lconst rfl d_328_85) (fun _ _ _ _ _ => rfl)
theorem ki_328_82 : js_OkG 328 82 (o_go 86) := js_St.okG (st_goto (by decide) d_328_82) (fun _ _ _ _ _ => rfl)
theorem ki_328_81 : js_OkG 328 81 (o_Sh (fun x y => x <<< (y.toInt64 &&& 63)) 82) := js_St.okG (st_lshl d_328_81) (fun _ _ _ _ _ => rfl)
theorem ki_328_80 : js_OkG 328 80 (o_b2 (fun x y => x + y) 81) := js_St.okG (st_iadd d_328_80) (fun _ _ _ _ _ => rfl)
theorem ki_328_111 : js_OkG 328 111 (o_ic 8 113) := js_St.okG (st_bipush rfl d_328_111) (fun _ _ _ _ _ => rfl)
theorem ki_328_109 : js_OkG 328 109 (o_il 5 111) := js_St.okG (st_iload d_328_109) (fun _ _ _ _ _ => rfl)
theorem ki_328_108 : js_OkG 328 108 (o_lc 1 109) := js_St.okG (st_lconst rfl d_328_108) (fun _ _ _ _ _ => rfl)
theorem ki_328_105 : js_OkG 328 105 (o_cne 118 108) := js_St.okG (st_icne (by decide) d_328_105) (fun _ _ _ _ _ => rfl)
theorem ki_328_104 : js_OkG 328 104 (o_ic 1 105) := js_St.okG (st_iconst rfl d_328_104) (fun _ _ _ _ _ => rfl)
theorem ki_328_101 : js_OkG 328 101 (o_cI 176 4 0 104) := og_sIP rfl rfl kB_328_176 rfl kw_785 kw_786 d_328_101
theorem ki_328_100 : js_OkG 328 100 (o_ic 2 101) := js_St.okG (st_iconst rfl d_328_100) (fun _ _ _ _ _ => rfl)
theorem ki_328_99 : js_OkG 328 99 (o_rem 100) := js_St.okG (st_irem d_328_99) (fun _ _ _ _ _ => rfl)
theorem ki_328_97 : js_OkG 328 97 (o_ic 8 99) := js_St.okG (st_bipush rfl d_328_97) (fun _ _ _ _ _ => rfl)
theorem ki_328_127 : js_OkG 328 127 (o_div 128) := js_St.okG (st_idiv d_328_127) (fun _ _ _ _ _ => rfl)
theorem ki_328_125 : js_OkG 328 125 (o_ic 8 127) := js_St.okG (st_bipush rfl d_328_125) (fun _ _ _ _ _ => rfl)
theorem ki_328_123 : js_OkG 328 123 (o_il 5 125) := js_St.okG (st_iload d_328_123) (fun _ _ _ _ _ => rfl)
theorem ki_328_122 : js_OkG 328 122 (o_al 0 123) := js_St.okG (st_aloadn rfl d_328_122) (fun _ _ _ _ _ => rfl)
theorem ki_328_121 : js_OkG 328 121 (o_ll 3 122) := js_St.okG (st_lloadn rfl d_328_121) (fun _ _ _ _ _ => rfl)
theorem ki_328_120 : js_OkG 328 120 (o_ls 3 121) := js_St.okG (st_lstoren rfl (Nat.le_of_ble_eq_true rfl) d_328_120) (fun _ _ _ _ _ => rfl)
theorem ki_328_119 : js_OkG 328 119 (o_B2 (fun x y => x ||| y) 120) := js_St.okG (st_lor d_328_119) (fun _ _ _ _ _ => rfl)
theorem ki_328_118 : js_OkG 328 118 (o_lc 0 119) := js_St.okG (st_lconst rfl d_328_118) (fun _ _ _ _ _ => rfl)
theorem ki_328_115 : js_OkG 328 115 (o_go 119) := js_St.okG (st_goto (by decide) d_328_115) (fun _ _ _ _ _ => rfl)
theorem ki_328_114 : js_OkG 328 114 (o_Sh (fun x y => x <<< (y.toInt64 &&& 63)) 115) := js_St.okG (st_lshl d_328_114) (fun _ _ _ _ _ => rfl)
theorem ki_328_113 : js_OkG 328 113 (o_b2 (fun x y => x + y) 114) := js_St.okG (st_iadd d_328_113) (fun _ _ _ _ _ => rfl)
theorem ki_328_142 : js_OkG 328 142 (o_il 5 144) := js_St.okG (st_iload d_328_142) (fun _ _ _ _ _ => rfl)
theorem ki_328_141 : js_OkG 328 141 (o_lc 1 142) := js_St.okG (st_lconst rfl d_328_141) (fun _ _ _ _ _ => rfl)
theorem ki_328_138 : js_OkG 328 138 (o_cne 150 141) := js_St.okG (st_icne (by decide) d_328_138) (fun _ _ _ _ _ => rfl)
theorem ki_328_137 : js_OkG 328 137 (o_ic 1 138) := js_St.okG (st_iconst rfl d_328_137) (fun _ _ _ _ _ => rfl)
theorem ki_328_134 : js_OkG 328 134 (o_cI 176 4 0 137) := og_sIP rfl rfl kB_328_176 rfl kw_785 kw_786 d_328_134
theorem ki_328_133 : js_OkG 328 133 (o_ic 3 134) := js_St.okG (st_iconst rfl d_328_133) (fun _ _ _ _ _ => rfl)
theorem ki_328_132 : js_OkG 328 132 (o_rem 133) := js_St.okG (st_irem d_328_132) (fun _ _ _ _ _ => rfl)
theorem ki_328_130 : js_OkG 328 130 (o_ic 8 132) := js_St.okG (st_bipush rfl d_328_130) (fun _ _ _ _ _ => rfl)
theorem ki_328_128 : js_OkG 328 128 (o_il 5 130) := js_St.okG (st_iload d_328_128) (fun _ _ _ _ _ => rfl)
theorem ki_328_159 : js_OkG 328 159 (o_ll 3 160) := js_St.okG (st_lloadn rfl d_328_159) (fun _ _ _ _ _ => rfl)
theorem ki_328_156 : js_OkG 328 156 (o_go 5) := js_St.okG (st_goto (by decide) d_328_156) (fun _ _ _ _ _ => rfl)
theorem ki_328_153 : js_OkG 328 153 (o_inc 5 1 156) := js_St.okG (st_iinc rfl (Nat.le_of_ble_eq_true rfl) d_328_153) (fun _ _ _ _ _ => rfl)
theorem ki_328_152 : js_OkG 328 152 (o_ls 3 153) := js_St.okG (st_lstoren rfl (Nat.le_of_ble_eq_true rfl) d_328_152) (fun _ _ _ _ _ => rfl)
theorem ki_328_151 : js_OkG 328 151 (o_B2 (fun x y => x ||| y) 152) := js_St.okG (st_lor d_328_151) (fun _ _ _ _ _ => rfl)
theorem ki_328_150 : js_OkG 328 150 (o_lc 0 151) := js_St.okG (st_lconst rfl d_328_150) (fun _ _ _ _ _ => rfl)
theorem ki_328_147 : js_OkG 328 147 (o_go 151) := js_St.okG (st_goto (by decide) d_328_147) (fun _ _ _ _ _ => rfl)
theorem ki_328_146 : js_OkG 328 146 (o_Sh (fun x y => x <<< (y.toInt64 &&& 63)) 147) := js_St.okG (st_lshl d_328_146) (fun _ _ _ _ _ => rfl)
theorem ki_328_145 : js_OkG 328 145 (o_b2 (fun x y => x - y) 146) := js_St.okG (st_isub d_328_145) (fun _ _ _ _ _ => rfl)
theorem ki_328_144 : js_OkG 328 144 (o_ic 1 145) := js_St.okG (st_iconst rfl d_328_144) (fun _ _ _ _ _ => rfl)
theorem ki_328_174 : js_OkG 328 174 (o_rL) := og_rL rfl d_328_174
theorem ki_328_171 : js_OkG 328 171 (o_cL 329 2 0 174) := og_sLP rfl rfl kB_328_329 rfl kw_949 kw_950 d_328_171
theorem ki_328_170 : js_OkG 328 170 (o_ll 3 171) := js_St.okG (st_lloadn rfl d_328_170) (fun _ _ _ _ _ => rfl)
theorem ki_328_169 : js_OkG 328 169 (o_al 0 170) := js_St.okG (st_aloadn rfl d_328_169) (fun _ _ _ _ _ => rfl)
theorem ki_328_166 : js_OkG 328 166 (o_go 174) := js_St.okG (st_goto (by decide) d_328_166) (fun _ _ _ _ _ => rfl)
theorem ki_328_165 : js_OkG 328 165 (o_ll 1 166) := js_St.okG (st_lloadn rfl d_328_165) (fun _ _ _ _ _ => rfl)
theorem ki_328_162 : js_OkG 328 162 (o_ne 169 165) := js_St.okG (st_ifne (by decide) d_328_162) (fun _ _ _ _ _ => rfl)
theorem ki_328_161 : js_OkG 328 161 (o_lcmp 162) := js_St.okG (st_lcmp d_328_161) (fun _ _ _ _ _ => rfl)
theorem ki_328_160 : js_OkG 328 160 (o_ll 1 161) := js_St.okG (st_lloadn rfl d_328_160) (fun _ _ _ _ _ => rfl)
set_option maxRecDepth 20000 in
theorem mk_328 : js_mokG 328 := jk_tab (fun _ => js_St.okG st_bad (fun _ _ _ _ _ => rfl)) (show jk_all (js_OkG 328) 0 (tb_G 328) from ⟨⟨ki_328_0, ⟨ki_328_1, ⟨ki_328_2, ⟨ki_328_3, ⟨kbadG, ⟨ki_328_5, ⟨kbadG, ⟨ki_328_7, ⟨kbadG, ⟨ki_328_9, ⟨kbadG, ⟨kbadG, ⟨ki_328_12, ⟨ki_328_13, ⟨kbadG, ⟨ki_328_15, trivial⟩⟩⟩⟩⟩⟩⟩⟩⟩⟩⟩⟩⟩⟩⟩⟩, ⟨⟨ki_328_16, ⟨ki_328_17, ⟨ki_328_18, ⟨ki_328_19, ⟨ki_328_20, ⟨kbadG, ⟨kbadG, ⟨ki_328_23, ⟨ki_328_24, ⟨ki_328_25, ⟨kbadG, ⟨ki_328_27, ⟨kbadG, ⟨ki_328_29, ⟨ki_328_30, ⟨kbadG, trivial⟩⟩⟩⟩⟩⟩⟩⟩⟩⟩⟩⟩⟩⟩⟩⟩, ⟨⟨ki_328_32, ⟨kbadG, ⟨ki_328_34, ⟨ki_328_35, ⟨ki_328_36, ⟨kbadG, ⟨kbadG, ⟨ki_328_39, ⟨ki_328_40, ⟨kbadG, ⟨kbadG, ⟨ki_328_43, ⟨ki_328_44, ⟨kbadG, ⟨ki_328_46, ⟨kbadG, trivial⟩⟩⟩⟩⟩⟩⟩⟩⟩⟩⟩⟩⟩⟩⟩⟩, ⟨⟨ki_328_48, ⟨ki_328_49, ⟨ki_328_50, ⟨kbadG, ⟨kbadG, ⟨ki_328_53, ⟨ki_328_54, ⟨ki_328_55, ⟨ki_328_56, ⟨ki_328_57, ⟨ki_328_58, ⟨kbadG, ⟨ki_328_60, ⟨kbadG, ⟨ki_328_62, ⟨ki_328_63, trivial⟩⟩⟩⟩⟩⟩⟩⟩⟩⟩⟩⟩⟩⟩⟩⟩, ⟨⟨kbadG, ⟨ki_328_65, ⟨kbadG, ⟨ki_328_67, ⟨ki_328_68, ⟨ki_328_69, ⟨kbadG, ⟨kbadG, ⟨ki_328_72, ⟨ki_328_73, ⟨kbadG, ⟨kbadG, ⟨ki_328_76, ⟨ki_328_77, ⟨kbadG, ⟨ki_328_79, trivial⟩⟩⟩⟩⟩⟩⟩⟩⟩⟩⟩⟩⟩⟩⟩⟩, ⟨⟨ki_328_80, ⟨ki_328_81, ⟨ki_328_82, ⟨kbadG, ⟨kbadG, ⟨ki_328_85, ⟨ki_328_86, ⟨ki_328_87, ⟨ki_328_88, ⟨ki_328_89, ⟨ki_328_90, ⟨kbadG, ⟨ki_328_92, ⟨kbadG, ⟨ki_328_94, ⟨ki_328_95, trivial⟩⟩⟩⟩⟩⟩⟩⟩⟩⟩⟩⟩⟩⟩⟩⟩, ⟨⟨kbadG, ⟨ki_328_97, ⟨kbadG, ⟨ki_328_99, ⟨ki_328_100, ⟨ki_328_101, ⟨kbadG, ⟨kbadG, ⟨ki_328_104, ⟨ki_328_105, ⟨kbadG, ⟨kbadG, ⟨ki_328_108, ⟨ki_328_109, ⟨kbadG, ⟨ki_328_111, trivial⟩⟩⟩⟩⟩⟩⟩⟩⟩⟩⟩⟩⟩⟩⟩⟩, ⟨⟨kbadG, ⟨ki_328_113, ⟨ki_328_114, ⟨ki_328_115, ⟨kbadG, ⟨kbadG, ⟨ki_328_118, ⟨ki_328_119, ⟨ki_328_120, ⟨ki_328_121, ⟨ki_328_122, ⟨ki_328_123, ⟨kbadG, ⟨ki_328_125, ⟨kbadG, ⟨ki_328_127, trivial⟩⟩⟩⟩⟩⟩⟩⟩⟩⟩⟩⟩⟩⟩⟩⟩, ⟨⟨ki_328_128, ⟨kbadG, ⟨ki_328_130, ⟨kbadG, ⟨ki_328_132, ⟨ki_328_133, ⟨ki_328_134, ⟨kbadG, ⟨kbadG, ⟨ki_328_137, ⟨ki_328_138, ⟨kbadG, ⟨kbadG, ⟨ki_328_141, ⟨ki_328_142, ⟨kbadG, trivial⟩⟩⟩⟩⟩⟩⟩⟩⟩⟩⟩⟩⟩⟩⟩⟩, ⟨⟨ki_328_144, ⟨ki_328_145, ⟨ki_328_146, ⟨ki_328_147, ⟨kbadG, ⟨kbadG, ⟨ki_328_150, ⟨ki_328_151, ⟨ki_328_152, ⟨ki_328_153, ⟨kbadG, ⟨kbadG, ⟨ki_328_156, ⟨kbadG, ⟨kbadG, ⟨ki_328_159, trivial⟩⟩⟩⟩⟩⟩⟩⟩⟩⟩⟩⟩⟩⟩⟩⟩, ⟨⟨ki_328_160, ⟨ki_328_161, ⟨ki_328_162, ⟨kbadG, ⟨kbadG, ⟨ki_328_165, ⟨ki_328_166, ⟨kbadG, ⟨kbadG, ⟨ki_328_169, ⟨ki_328_170, ⟨ki_328_171, ⟨kbadG, ⟨kbadG, ⟨ki_328_174, trivial⟩⟩⟩⟩⟩⟩⟩⟩⟩⟩⟩⟩⟩⟩⟩, trivial⟩⟩⟩⟩⟩⟩⟩⟩⟩⟩⟩)
theorem d_329_0 : decode (js_b 329) 0 = .ok (.lload_n 1, 1) := d_300_0
theorem d_329_1 : decode (js_b 329) 1 = .ok (.lstore_n 3, 1) := d_300_1
theorem d_329_2 : decode (js_b 329) 2 = .ok (.iconst 0, 1) := d_300_2
theorem d_329_3 : decode (js_b 329) 3 = .ok (.istore 5, 2) := d_300_3
theorem d_329_5 : decode (js_b 329) 5 = .ok (.iload 5, 2) := d_300_5
theorem d_329_7 : decode (js_b 329) 7 = .ok (.bipush 64, 2) := d_300_7
theorem d_329_9 : decode (js_b 329) 9 = .ok (.if_icmp .ge 150, 3) := d_300_9
theorem d_329_12 : decode (js_b 329) 12 = .ok (.lload_n 1, 1) := d_300_12
theorem d_329_13 : decode (js_b 329) 13 = .ok (.iload 5, 2) := d_300_13
theorem d_329_15 : decode (js_b 329) 15 = .ok (.lushr, 1) := d_300_15
theorem d_329_16 : decode (js_b 329) 16 = .ok (.lconst 1, 1) := d_300_16
theorem d_329_17 : decode (js_b 329) 17 = .ok (.land, 1) := d_300_17
theorem d_329_18 : decode (js_b 329) 18 = .ok (.lconst 1, 1) := d_300_18
theorem d_329_19 : decode (js_b 329) 19 = .ok (.lcmp, 1) := d_300_19
theorem d_329_20 : decode (js_b 329) 20 = .ok (.ifCond .ne 133, 3) := d_300_20
theorem d_329_23 : decode (js_b 329) 23 = .ok (.lload_n 3, 1) := d_300_23
theorem d_329_24 : decode (js_b 329) 24 = .ok (.aload_n 0, 1) := d_300_24
theorem d_329_25 : decode (js_b 329) 25 = .ok (.iload 5, 2) := d_300_25
theorem d_329_27 : decode (js_b 329) 27 = .ok (.bipush 8, 2) := d_300_27
theorem d_329_29 : decode (js_b 329) 29 = .ok (.idiv, 1) := d_300_29
theorem d_329_30 : decode (js_b 329) 30 = .ok (.iload 5, 2) := d_300_30
theorem d_329_32 : decode (js_b 329) 32 = .ok (.bipush 8, 2) := d_300_32
theorem d_329_34 : decode (js_b 329) 34 = .ok (.irem, 1) := d_300_34
theorem d_329_35 : decode (js_b 329) 35 = .ok (.iconst 0, 1) := d_300_35
theorem d_329_36 : decode (js_b 329) 36 = .ok (.invokestatic 198, 3) := d_300_36
theorem d_329_39 : decode (js_b 329) 39 = .ok (.iconst 1, 1) := d_300_39
theorem d_329_40 : decode (js_b 329) 40 = .ok (.if_icmp .ne 13, 3) := d_300_40
theorem d_329_43 : decode (js_b 329) 43 = .ok (.lconst 1, 1) := d_300_43
theorem d_329_44 : decode (js_b 329) 44 = .ok (.iload 5, 2) := d_300_44
theorem d_329_46 : decode (js_b 329) 46 = .ok (.bipush 8, 2) := d_300_46
theorem d_329_48 : decode (js_b 329) 48 = .ok (.isub, 1) := d_300_48
theorem d_329_49 : decode (js_b 329) 49 = .ok (.lshl, 1) := d_300_49
theorem d_329_50 : decode (js_b 329) 50 = .ok (.goto 4, 3) := d_300_50
theorem d_329_53 : decode (js_b 329) 53 = .ok (.lconst 0, 1) := d_300_53
theorem d_329_54 : decode (js_b 329) 54 = .ok (.lor, 1) := d_300_54
theorem d_329_55 : decode (js_b 329) 55 = .ok (.lstore_n 3, 1) := d_300_55
theorem d_329_56 : decode (js_b 329) 56 = .ok (.lload_n 3, 1) := d_300_56
theorem d_329_57 : decode (js_b 329) 57 = .ok (.aload_n 0, 1) := d_300_57
theorem d_329_58 : decode (js_b 329) 58 = .ok (.iload 5, 2) := d_300_58
theorem d_329_60 : decode (js_b 329) 60 = .ok (.bipush 8, 2) := d_300_60
theorem d_329_62 : decode (js_b 329) 62 = .ok (.idiv, 1) := d_300_62
theorem d_329_63 : decode (js_b 329) 63 = .ok (.iload 5, 2) := d_300_63
theorem d_329_65 : decode (js_b 329) 65 = .ok (.bipush 8, 2) := d_300_65
theorem d_329_67 : decode (js_b 329) 67 = .ok (.irem, 1) := d_300_67
theorem d_329_68 : decode (js_b 329) 68 = .ok (.iconst 1, 1) := d_300_68
theorem d_329_69 : decode (js_b 329) 69 = .ok (.invokestatic 198, 3) := d_300_69
theorem d_329_72 : decode (js_b 329) 72 = .ok (.iconst 1, 1) := d_300_72
theorem d_329_73 : decode (js_b 329) 73 = .ok (.if_icmp .ne 12, 3) := d_300_73
theorem d_329_76 : decode (js_b 329) 76 = .ok (.lconst 1, 1) := d_300_76
theorem d_329_77 : decode (js_b 329) 77 = .ok (.iload 5, 2) := d_300_77
theorem d_329_79 : decode (js_b 329) 79 = .ok (.iconst 1, 1) := d_300_79
theorem d_329_80 : decode (js_b 329) 80 = .ok (.iadd, 1) := d_300_80
theorem d_329_81 : decode (js_b 329) 81 = .ok (.lshl, 1) := d_300_81
theorem d_329_82 : decode (js_b 329) 82 = .ok (.goto 4, 3) := d_300_82
theorem d_329_85 : decode (js_b 329) 85 = .ok (.lconst 0, 1) := d_300_85
theorem d_329_86 : decode (js_b 329) 86 = .ok (.lor, 1) := d_300_86
theorem d_329_87 : decode (js_b 329) 87 = .ok (.lstore_n 3, 1) := d_300_87
theorem d_329_88 : decode (js_b 329) 88 = .ok (.lload_n 3, 1) := d_300_88
theorem d_329_89 : decode (js_b 329) 89 = .ok (.aload_n 0, 1) := d_300_89
theorem d_329_90 : decode (js_b 329) 90 = .ok (.iload 5, 2) := d_300_90
theorem d_329_92 : decode (js_b 329) 92 = .ok (.bipush 8, 2) := d_300_92
theorem d_329_94 : decode (js_b 329) 94 = .ok (.idiv, 1) := d_300_94
theorem d_329_95 : decode (js_b 329) 95 = .ok (.iload 5, 2) := d_300_95
theorem d_329_97 : decode (js_b 329) 97 = .ok (.bipush 8, 2) := d_300_97
theorem d_329_99 : decode (js_b 329) 99 = .ok (.irem, 1) := d_300_99
theorem d_329_100 : decode (js_b 329) 100 = .ok (.iconst 2, 1) := d_300_100
theorem d_329_101 : decode (js_b 329) 101 = .ok (.invokestatic 198, 3) := d_300_101
theorem d_329_104 : decode (js_b 329) 104 = .ok (.iconst 1, 1) := d_300_104
theorem d_329_105 : decode (js_b 329) 105 = .ok (.if_icmp .ne 13, 3) := d_300_105
theorem d_329_108 : decode (js_b 329) 108 = .ok (.lconst 1, 1) := d_300_108
theorem d_329_109 : decode (js_b 329) 109 = .ok (.iload 5, 2) := d_300_109
theorem d_329_111 : decode (js_b 329) 111 = .ok (.bipush 8, 2) := d_300_111
theorem d_329_113 : decode (js_b 329) 113 = .ok (.iadd, 1) := d_300_113
theorem d_329_114 : decode (js_b 329) 114 = .ok (.lshl, 1) := d_300_114
theorem d_329_115 : decode (js_b 329) 115 = .ok (.goto 4, 3) := d_300_115
theorem d_329_118 : decode (js_b 329) 118 = .ok (.lconst 0, 1) := d_300_118
theorem d_329_119 : decode (js_b 329) 119 = .ok (.lor, 1) := d_300_119
theorem d_329_120 : decode (js_b 329) 120 = .ok (.lstore_n 3, 1) := d_300_120
theorem d_329_121 : decode (js_b 329) 121 = .ok (.lload_n 3, 1) := d_300_121
theorem d_329_122 : decode (js_b 329) 122 = .ok (.aload_n 0, 1) := d_300_122
theorem d_329_123 : decode (js_b 329) 123 = .ok (.iload 5, 2) := d_300_123
theorem d_329_125 : decode (js_b 329) 125 = .ok (.bipush 8, 2) := d_300_125
theorem d_329_127 : decode (js_b 329) 127 = .ok (.idiv, 1) := d_300_127
theorem d_329_128 : decode (js_b 329) 128 = .ok (.iload 5, 2) := d_300_128
theorem d_329_130 : decode (js_b 329) 130 = .ok (.bipush 8, 2) := d_300_130
theorem d_329_132 : decode (js_b 329) 132 = .ok (.irem, 1) := d_300_132
theorem d_329_133 : decode (js_b 329) 133 = .ok (.iconst 3, 1) := d_300_133
theorem d_329_134 : decode (js_b 329) 134 = .ok (.invokestatic 198, 3) := d_300_134
theorem d_329_137 : decode (js_b 329) 137 = .ok (.iconst 1, 1) := d_300_137
theorem d_329_138 : decode (js_b 329) 138 = .ok (.if_icmp .ne 12, 3) := d_300_138
theorem d_329_141 : decode (js_b 329) 141 = .ok (.lconst 1, 1) := d_300_141
theorem d_329_142 : decode (js_b 329) 142 = .ok (.iload 5, 2) := d_300_142
theorem d_329_144 : decode (js_b 329) 144 = .ok (.iconst 1, 1) := d_300_144
theorem d_329_145 : decode (js_b 329) 145 = .ok (.isub, 1) := d_300_145
theorem d_329_146 : decode (js_b 329) 146 = .ok (.lshl, 1) := d_300_146
theorem d_329_147 : decode (js_b 329) 147 = .ok (.goto 4, 3) := d_300_147
theorem d_329_150 : decode (js_b 329) 150 = .ok (.lconst 0, 1) := d_300_150
theorem d_329_151 : decode (js_b 329) 151 = .ok (.lor, 1) := d_300_151
theorem d_329_152 : decode (js_b 329) 152 = .ok (.lstore_n 3, 1) := d_300_152
theorem d_329_153 : decode (js_b 329) 153 = .ok (.iinc 5 1, 3) := d_300_153
theorem d_329_156 : decode (js_b 329) 156 = .ok (.goto (-151), 3) := d_300_156
theorem d_329_159 : decode (js_b 329) 159 = .ok (.lload_n 3, 1) := d_300_159
theorem d_329_160 : decode (js_b 329) 160 = .ok (.lload_n 1, 1) := d_300_160
theorem d_329_161 : decode (js_b 329) 161 = .ok (.lcmp, 1) := d_300_161
theorem d_329_162 : decode (js_b 329) 162 = .ok (.ifCond .ne 7, 3) := d_300_162
theorem d_329_165 : decode (js_b 329) 165 = .ok (.lload_n 1, 1) := d_300_165
theorem d_329_166 : decode (js_b 329) 166 = .ok (.goto 8, 3) := d_300_166
theorem d_329_169 : decode (js_b 329) 169 = .ok (.aload_n 0, 1) := d_300_169
theorem d_329_170 : decode (js_b 329) 170 = .ok (.lload_n 3, 1) := d_300_170
theorem d_329_171 : decode (js_b 329) 171 = .ok (.invokestatic 323, 3) := d_300_171
theorem d_329_174 : decode (js_b 329) 174 = .ok (.lreturn, 1) := d_300_174
theorem ki_329_15 : js_OkG 329 15 (o_Sh (fun x y => (x.toUInt64 >>> (y.toInt64.toUInt64 &&& Int64.toUInt64 63)).toInt64) 16) := js_St.okG (st_lushr d_329_15) (fun _ _ _ _ _ => rfl)
theorem ki_329_13 : js_OkG 329 13 (o_il 5 15) := js_St.okG (st_iload d_329_13) (fun _ _ _ _ _ => rfl)
theorem ki_329_12 : js_OkG 329 12 (o_ll 1 13) := js_St.okG (st_lloadn rfl d_329_12) (fun _ _ _ _ _ => rfl)
theorem ki_329_9 : js_OkG 329 9 (o_cge 159 12) := js_St.okG (st_icge (by decide) d_329_9) (fun _ _ _ _ _ => rfl)
theorem ki_329_7 : js_OkG 329 7 (o_ic 64 9) := js_St.okG (st_bipush rfl d_329_7) (fun _ _ _ _ _ => rfl)
theorem ki_329_5 : js_OkG 329 5 (o_il 5 7) := js_St.okG (st_iload d_329_5) (fun _ _ _ _ _ => rfl)
theorem ki_329_3 : js_OkG 329 3 (o_is 5 5) := js_St.okG (st_istore (Nat.le_of_ble_eq_true rfl) d_329_3) (fun _ _ _ _ _ => rfl)
theorem ki_329_2 : js_OkG 329 2 (o_ic 0 3) := js_St.okG (st_iconst rfl d_329_2) (fun _ _ _ _ _ => rfl)
theorem ki_329_1 : js_OkG 329 1 (o_ls 3 2) := js_St.okG (st_lstoren rfl (Nat.le_of_ble_eq_true rfl) d_329_1) (fun _ _ _ _ _ => rfl)
theorem ki_329_0 : js_OkG 329 0 (o_ll 1 1) := js_St.okG (st_lloadn rfl d_329_0) (fun _ _ _ _ _ => rfl)
theorem ki_329_30 : js_OkG 329 30 (o_il 5 32) := js_St.okG (st_iload d_329_30) (fun _ _ _ _ _ => rfl)
theorem ki_329_29 : js_OkG 329 29 (o_div 30) := js_St.okG (st_idiv d_329_29) (fun _ _ _ _ _ => rfl)
theorem ki_329_27 : js_OkG 329 27 (o_ic 8 29) := js_St.okG (st_bipush rfl d_329_27) (fun _ _ _ _ _ => rfl)
theorem ki_329_25 : js_OkG 329 25 (o_il 5 27) := js_St.okG (st_iload d_329_25) (fun _ _ _ _ _ => rfl)
theorem ki_329_24 : js_OkG 329 24 (o_al 0 25) := js_St.okG (st_aloadn rfl d_329_24) (fun _ _ _ _ _ => rfl)
theorem ki_329_23 : js_OkG 329 23 (o_ll 3 24) := js_St.okG (st_lloadn rfl d_329_23) (fun _ _ _ _ _ => rfl)
theorem ki_329_20 : js_OkG 329 20 (o_ne 153 23) := js_St.okG (st_ifne (by decide) d_329_20) (fun _ _ _ _ _ => rfl)
theorem ki_329_19 : js_OkG 329 19 (o_lcmp 20) := js_St.okG (st_lcmp d_329_19) (fun _ _ _ _ _ => rfl)
theorem ki_329_18 : js_OkG 329 18 (o_lc 1 19) := js_St.okG (st_lconst rfl d_329_18) (fun _ _ _ _ _ => rfl)
theorem ki_329_17 : js_OkG 329 17 (o_B2 (fun x y => x &&& y) 18) := js_St.okG (st_land d_329_17) (fun _ _ _ _ _ => rfl)
theorem ki_329_16 : js_OkG 329 16 (o_lc 1 17) := js_St.okG (st_lconst rfl d_329_16) (fun _ _ _ _ _ => rfl)
theorem ki_329_46 : js_OkG 329 46 (o_ic 8 48) := js_St.okG (st_bipush rfl d_329_46) (fun _ _ _ _ _ => rfl)
theorem ki_329_44 : js_OkG 329 44 (o_il 5 46) := js_St.okG (st_iload d_329_44) (fun _ _ _ _ _ => rfl)
theorem ki_329_43 : js_OkG 329 43 (o_lc 1 44) := js_St.okG (st_lconst rfl d_329_43) (fun _ _ _ _ _ => rfl)
theorem ki_329_40 : js_OkG 329 40 (o_cne 53 43) := js_St.okG (st_icne (by decide) d_329_40) (fun _ _ _ _ _ => rfl)
theorem ki_329_39 : js_OkG 329 39 (o_ic 1 40) := js_St.okG (st_iconst rfl d_329_39) (fun _ _ _ _ _ => rfl)
theorem ki_329_36 : js_OkG 329 36 (o_cI 176 4 0 39) := og_sIP rfl rfl kB_329_176 rfl kw_785 kw_786 d_329_36
theorem ki_329_35 : js_OkG 329 35 (o_ic 0 36) := js_St.okG (st_iconst rfl d_329_35) (fun _ _ _ _ _ => rfl)
theorem ki_329_34 : js_OkG 329 34 (o_rem 35) := js_St.okG (st_irem d_329_34) (fun _ _ _ _ _ => rfl)
theorem ki_329_32 : js_OkG 329 32 (o_ic 8 34) := js_St.okG (st_bipush rfl d_329_32) (fun _ _ _ _ _ => rfl)
theorem ki_329_63 : js_OkG 329 63 (o_il 5 65) := js_St.okG (st_iload d_329_63) (fun _ _ _ _ _ => rfl)
theorem ki_329_62 : js_OkG 329 62 (o_div 63) := js_St.okG (st_idiv d_329_62) (fun _ _ _ _ _ => rfl)
theorem ki_329_60 : js_OkG 329 60 (o_ic 8 62) := js_St.okG (st_bipush rfl d_329_60) (fun _ _ _ _ _ => rfl)
theorem ki_329_58 : js_OkG 329 58 (o_il 5 60) := js_St.okG (st_iload d_329_58) (fun _ _ _ _ _ => rfl)
theorem ki_329_57 : js_OkG 329 57 (o_al 0 58) := js_St.okG (st_aloadn rfl d_329_57) (fun _ _ _ _ _ => rfl)
theorem ki_329_56 : js_OkG 329 56 (o_ll 3 57) := js_St.okG (st_lloadn rfl d_329_56) (fun _ _ _ _ _ => rfl)
theorem ki_329_55 : js_OkG 329 55 (o_ls 3 56) := js_St.okG (st_lstoren rfl (Nat.le_of_ble_eq_true rfl) d_329_55) (fun _ _ _ _ _ => rfl)
theorem ki_329_54 : js_OkG 329 54 (o_B2 (fun x y => x ||| y) 55) := js_St.okG (st_lor d_329_54) (fun _ _ _ _ _ => rfl)
theorem ki_329_53 : js_OkG 329 53 (o_lc 0 54) := js_St.okG (st_lconst rfl d_329_53) (fun _ _ _ _ _ => rfl)
theorem ki_329_50 : js_OkG 329 50 (o_go 54) := js_St.okG (st_goto (by decide) d_329_50) (fun _ _ _ _ _ => rfl)
theorem ki_329_49 : js_OkG 329 49 (o_Sh (fun x y => x <<< (y.toInt64 &&& 63)) 50) := js_St.okG (st_lshl d_329_49) (fun _ _ _ _ _ => rfl)
theorem ki_329_48 : js_OkG 329 48 (o_b2 (fun x y => x - y) 49) := js_St.okG (st_isub d_329_48) (fun _ _ _ _ _ => rfl)
theorem ki_329_79 : js_OkG 329 79 (o_ic 1 80) := js_St.okG (st_iconst rfl d_329_79) (fun _ _ _ _ _ => rfl)
theorem ki_329_77 : js_OkG 329 77 (o_il 5 79) := js_St.okG (st_iload d_329_77) (fun _ _ _ _ _ => rfl)
theorem ki_329_76 : js_OkG 329 76 (o_lc 1 77) := js_St.okG (st_lconst rfl d_329_76) (fun _ _ _ _ _ => rfl)
theorem ki_329_73 : js_OkG 329 73 (o_cne 85 76) := js_St.okG (st_icne (by decide) d_329_73) (fun _ _ _ _ _ => rfl)
theorem ki_329_72 : js_OkG 329 72 (o_ic 1 73) := js_St.okG (st_iconst rfl d_329_72) (fun _ _ _ _ _ => rfl)
theorem ki_329_69 : js_OkG 329 69 (o_cI 176 4 0 72) := og_sIP rfl rfl kB_329_176 rfl kw_785 kw_786 d_329_69
theorem ki_329_68 : js_OkG 329 68 (o_ic 1 69) := js_St.okG (st_iconst rfl d_329_68) (fun _ _ _ _ _ => rfl)
theorem ki_329_67 : js_OkG 329 67 (o_rem 68) := js_St.okG (st_irem d_329_67) (fun _ _ _ _ _ => rfl)
theorem ki_329_65 : js_OkG 329 65 (o_ic 8 67) := js_St.okG (st_bipush rfl d_329_65) (fun _ _ _ _ _ => rfl)
theorem ki_329_95 : js_OkG 329 95 (o_il 5 97) := js_St.okG (st_iload d_329_95) (fun _ _ _ _ _ => rfl)
theorem ki_329_94 : js_OkG 329 94 (o_div 95) := js_St.okG (st_idiv d_329_94) (fun _ _ _ _ _ => rfl)
theorem ki_329_92 : js_OkG 329 92 (o_ic 8 94) := js_St.okG (st_bipush rfl d_329_92) (fun _ _ _ _ _ => rfl)
theorem ki_329_90 : js_OkG 329 90 (o_il 5 92) := js_St.okG (st_iload d_329_90) (fun _ _ _ _ _ => rfl)
theorem ki_329_89 : js_OkG 329 89 (o_al 0 90) := js_St.okG (st_aloadn rfl d_329_89) (fun _ _ _ _ _ => rfl)
theorem ki_329_88 : js_OkG 329 88 (o_ll 3 89) := js_St.okG (st_lloadn rfl d_329_88) (fun _ _ _ _ _ => rfl)
theorem ki_329_87 : js_OkG 329 87 (o_ls 3 88) := js_St.okG (st_lstoren rfl (Nat.le_of_ble_eq_true rfl) d_329_87) (fun _ _ _ _ _ => rfl)
theorem ki_329_86 : js_OkG 329 86 (o_B2 (fun x y => x ||| y) 87) := js_St.okG (st_lor d_329_86) (fun _ _ _ _ _ => rfl)
theorem ki_329_85 : js_OkG 329 85 (o_lc 0 86) := js_St.okG (st_lconst rfl d_329_85) (fun _ _ _ _ _ => rfl)
theorem ki_329_82 : js_OkG 329 82 (o_go 86) := js_St.okG (st_goto (by decide) d_329_82) (fun _ _ _ _ _ => rfl)
theorem ki_329_81 : js_OkG 329 81 (o_Sh (fun x y => x <<< (y.toInt64 &&& 63)) 82) := js_St.okG (st_lshl d_329_81) (fun _ _ _ _ _ => rfl)
theorem ki_329_80 : js_OkG 329 80 (o_b2 (fun x y => x + y) 81) := js_St.okG (st_iadd d_329_80) (fun _ _ _ _ _ => rfl)
theorem ki_329_111 : js_OkG 329 111 (o_ic 8 113) := js_St.okG (st_bipush rfl d_329_111) (fun _ _ _ _ _ => rfl)
theorem ki_329_109 : js_OkG 329 109 (o_il 5 111) := js_St.okG (st_iload d_329_109) (fun _ _ _ _ _ => rfl)
theorem ki_329_108 : js_OkG 329 108 (o_lc 1 109) := js_St.okG (st_lconst rfl d_329_108) (fun _ _ _ _ _ => rfl)
theorem ki_329_105 : js_OkG 329 105 (o_cne 118 108) := js_St.okG (st_icne (by decide) d_329_105) (fun _ _ _ _ _ => rfl)
theorem ki_329_104 : js_OkG 329 104 (o_ic 1 105) := js_St.okG (st_iconst rfl d_329_104) (fun _ _ _ _ _ => rfl)
theorem ki_329_101 : js_OkG 329 101 (o_cI 176 4 0 104) := og_sIP rfl rfl kB_329_176 rfl kw_785 kw_786 d_329_101
theorem ki_329_100 : js_OkG 329 100 (o_ic 2 101) := js_St.okG (st_iconst rfl d_329_100) (fun _ _ _ _ _ => rfl)
theorem ki_329_99 : js_OkG 329 99 (o_rem 100) := js_St.okG (st_irem d_329_99) (fun _ _ _ _ _ => rfl)
theorem ki_329_97 : js_OkG 329 97 (o_ic 8 99) := js_St.okG (st_bipush rfl d_329_97) (fun _ _ _ _ _ => rfl)
theorem ki_329_127 : js_OkG 329 127 (o_div 128) := js_St.okG (st_idiv d_329_127) (fun _ _ _ _ _ => rfl)
theorem ki_329_125 : js_OkG 329 125 (o_ic 8 127) := js_St.okG (st_bipush rfl d_329_125) (fun _ _ _ _ _ => rfl)
theorem ki_329_123 : js_OkG 329 123 (o_il 5 125) := js_St.okG (st_iload d_329_123) (fun _ _ _ _ _ => rfl)
theorem ki_329_122 : js_OkG 329 122 (o_al 0 123) := js_St.okG (st_aloadn rfl d_329_122) (fun _ _ _ _ _ => rfl)
theorem ki_329_121 : js_OkG 329 121 (o_ll 3 122) := js_St.okG (st_lloadn rfl d_329_121) (fun _ _ _ _ _ => rfl)
theorem ki_329_120 : js_OkG 329 120 (o_ls 3 121) := js_St.okG (st_lstoren rfl (Nat.le_of_ble_eq_true rfl) d_329_120) (fun _ _ _ _ _ => rfl)
theorem ki_329_119 : js_OkG 329 119 (o_B2 (fun x y => x ||| y) 120) := js_St.okG (st_lor d_329_119) (fun _ _ _ _ _ => rfl)
theorem ki_329_118 : js_OkG 329 118 (o_lc 0 119) := js_St.okG (st_lconst rfl d_329_118) (fun _ _ _ _ _ => rfl)
theorem ki_329_115 : js_OkG 329 115 (o_go 119) := js_St.okG (st_goto (by decide) d_329_115) (fun _ _ _ _ _ => rfl)
theorem ki_329_114 : js_OkG 329 114 (o_Sh (fun x y => x <<< (y.toInt64 &&& 63)) 115) := js_St.okG (st_lshl d_329_114) (fun _ _ _ _ _ => rfl)
theorem ki_329_113 : js_OkG 329 113 (o_b2 (fun x y => x + y) 114) := js_St.okG (st_iadd d_329_113) (fun _ _ _ _ _ => rfl)
theorem ki_329_142 : js_OkG 329 142 (o_il 5 144) := js_St.okG (st_iload d_329_142) (fun _ _ _ _ _ => rfl)
theorem ki_329_141 : js_OkG 329 141 (o_lc 1 142) := js_St.okG (st_lconst rfl d_329_141) (fun _ _ _ _ _ => rfl)
theorem ki_329_138 : js_OkG 329 138 (o_cne 150 141) := js_St.okG (st_icne (by decide) d_329_138) (fun _ _ _ _ _ => rfl)
theorem ki_329_137 : js_OkG 329 137 (o_ic 1 138) := js_St.okG (st_iconst rfl d_329_137) (fun _ _ _ _ _ => rfl)
theorem ki_329_134 : js_OkG 329 134 (o_cI 176 4 0 137) := og_sIP rfl rfl kB_329_176 rfl kw_785 kw_786 d_329_134
theorem ki_329_133 : js_OkG 329 133 (o_ic 3 134) := js_St.okG (st_iconst rfl d_329_133) (fun _ _ _ _ _ => rfl)
theorem ki_329_132 : js_OkG 329 132 (o_rem 133) := js_St.okG (st_irem d_329_132) (fun _ _ _ _ _ => rfl)
theorem ki_329_130 : js_OkG 329 130 (o_ic 8 132) := js_St.okG (st_bipush rfl d_329_130) (fun _ _ _ _ _ => rfl)
theorem ki_329_128 : js_OkG 329 128 (o_il 5 130) := js_St.okG (st_iload d_329_128) (fun _ _ _ _ _ => rfl)
theorem ki_329_159 : js_OkG 329 159 (o_ll 3 160) := js_St.okG (st_lloadn rfl d_329_159) (fun _ _ _ _ _ => rfl)
theorem ki_329_156 : js_OkG 329 156 (o_go 5) := js_St.okG (st_goto (by decide) d_329_156) (fun _ _ _ _ _ => rfl)
theorem ki_329_153 : js_OkG 329 153 (o_inc 5 1 156) := js_St.okG (st_iinc rfl (Nat.le_of_ble_eq_true rfl) d_329_153) (fun _ _ _ _ _ => rfl)
theorem ki_329_152 : js_OkG 329 152 (o_ls 3 153) := js_St.okG (st_lstoren rfl (Nat.le_of_ble_eq_true rfl) d_329_152) (fun _ _ _ _ _ => rfl)
theorem ki_329_151 : js_OkG 329 151 (o_B2 (fun x y => x ||| y) 152) := js_St.okG (st_lor d_329_151) (fun _ _ _ _ _ => rfl)
theorem ki_329_150 : js_OkG 329 150 (o_lc 0 151) := js_St.okG (st_lconst rfl d_329_150) (fun _ _ _ _ _ => rfl)
theorem ki_329_147 : js_OkG 329 147 (o_go 151) := js_St.okG (st_goto (by decide) d_329_147) (fun _ _ _ _ _ => rfl)
theorem ki_329_146 : js_OkG 329 146 (o_Sh (fun x y => x <<< (y.toInt64 &&& 63)) 147) := js_St.okG (st_lshl d_329_146) (fun _ _ _ _ _ => rfl)
theorem ki_329_145 : js_OkG 329 145 (o_b2 (fun x y => x - y) 146) := js_St.okG (st_isub d_329_145) (fun _ _ _ _ _ => rfl)
theorem ki_329_144 : js_OkG 329 144 (o_ic 1 145) := js_St.okG (st_iconst rfl d_329_144) (fun _ _ _ _ _ => rfl)
theorem ki_329_174 : js_OkG 329 174 (o_rL) := og_rL rfl d_329_174
theorem ki_329_171 : js_OkG 329 171 (o_cL 330 2 0 174) := og_sLP rfl rfl kB_329_330 rfl kw_949 kw_950 d_329_171
theorem ki_329_170 : js_OkG 329 170 (o_ll 3 171) := js_St.okG (st_lloadn rfl d_329_170) (fun _ _ _ _ _ => rfl)
theorem ki_329_169 : js_OkG 329 169 (o_al 0 170) := js_St.okG (st_aloadn rfl d_329_169) (fun _ _ _ _ _ => rfl)
theorem ki_329_166 : js_OkG 329 166 (o_go 174) := js_St.okG (st_goto (by decide) d_329_166) (fun _ _ _ _ _ => rfl)
theorem ki_329_165 : js_OkG 329 165 (o_ll 1 166) := js_St.okG (st_lloadn rfl d_329_165) (fun _ _ _ _ _ => rfl)
theorem ki_329_162 : js_OkG 329 162 (o_ne 169 165) := js_St.okG (st_ifne (by decide) d_329_162) (fun _ _ _ _ _ => rfl)
theorem ki_329_161 : js_OkG 329 161 (o_lcmp 162) := js_St.okG (st_lcmp d_329_161) (fun _ _ _ _ _ => rfl)
theorem ki_329_160 : js_OkG 329 160 (o_ll 1 161) := js_St.okG (st_lloadn rfl d_329_160) (fun _ _ _ _ _ => rfl)
set_option maxRecDepth 20000 in
theorem mk_329 : js_mokG 329 := jk_tab (fun _ => js_St.okG st_bad (fun _ _ _ _ _ => rfl)) (show jk_all (js_OkG 329) 0 (tb_G 329) from ⟨⟨ki_329_0, ⟨ki_329_1, ⟨ki_329_2, ⟨ki_329_3, ⟨kbadG, ⟨ki_329_5, ⟨kbadG, ⟨ki_329_7, ⟨kbadG, ⟨ki_329_9, ⟨kbadG, ⟨kbadG, ⟨ki_329_12, ⟨ki_329_13, ⟨kbadG, ⟨ki_329_15, trivial⟩⟩⟩⟩⟩⟩⟩⟩⟩⟩⟩⟩⟩⟩⟩⟩, ⟨⟨ki_329_16, ⟨ki_329_17, ⟨ki_329_18, ⟨ki_329_19, ⟨ki_329_20, ⟨kbadG, ⟨kbadG, ⟨ki_329_23, ⟨ki_329_24, ⟨ki_329_25, ⟨kbadG, ⟨ki_329_27, ⟨kbadG, ⟨ki_329_29, ⟨ki_329_30, ⟨kbadG, trivial⟩⟩⟩⟩⟩⟩⟩⟩⟩⟩⟩⟩⟩⟩⟩⟩, ⟨⟨ki_329_32, ⟨kbadG, ⟨ki_329_34, ⟨ki_329_35, ⟨ki_329_36, ⟨kbadG, ⟨kbadG, ⟨ki_329_39, ⟨ki_329_40, ⟨kbadG, ⟨kbadG, ⟨ki_329_43, ⟨ki_329_44, ⟨kbadG, ⟨ki_329_46, ⟨kbadG, trivial⟩⟩⟩⟩⟩⟩⟩⟩⟩⟩⟩⟩⟩⟩⟩⟩, ⟨⟨ki_329_48, ⟨ki_329_49, ⟨ki_329_50, ⟨kbadG, ⟨kbadG, ⟨ki_329_53, ⟨ki_329_54, ⟨ki_329_55, ⟨ki_329_56, ⟨ki_329_57, ⟨ki_329_58, ⟨kbadG, ⟨ki_329_60, ⟨kbadG, ⟨ki_329_62, ⟨ki_329_63, trivial⟩⟩⟩⟩⟩⟩⟩⟩⟩⟩⟩⟩⟩⟩⟩⟩, ⟨⟨kbadG, ⟨ki_329_65, ⟨kbadG, ⟨ki_329_67, ⟨ki_329_68, ⟨ki_329_69, ⟨kbadG, ⟨kbadG, ⟨ki_329_72, ⟨ki_329_73, ⟨kbadG, ⟨kbadG, ⟨ki_329_76, ⟨ki_329_77, ⟨kbadG, ⟨ki_329_79, trivial⟩⟩⟩⟩⟩⟩⟩⟩⟩⟩⟩⟩⟩⟩⟩⟩, ⟨⟨ki_329_80, ⟨ki_329_81, ⟨ki_329_82, ⟨kbadG, ⟨kbadG, ⟨ki_329_85, ⟨ki_329_86, ⟨ki_329_87, ⟨ki_329_88, ⟨ki_329_89, ⟨ki_329_90, ⟨kbadG, ⟨ki_329_92, ⟨kbadG, ⟨ki_329_94, ⟨ki_329_95, trivial⟩⟩⟩⟩⟩⟩⟩⟩⟩⟩⟩⟩⟩⟩⟩⟩, ⟨⟨kbadG, ⟨ki_329_97, ⟨kbadG, ⟨ki_329_99, ⟨ki_329_100, ⟨ki_329_101, ⟨kbadG, ⟨kbadG, ⟨ki_329_104, ⟨ki_329_105, ⟨kbadG, ⟨kbadG, ⟨ki_329_108, ⟨ki_329_109, ⟨kbadG, ⟨ki_329_111, trivial⟩⟩⟩⟩⟩⟩⟩⟩⟩⟩⟩⟩⟩⟩⟩⟩, ⟨⟨kbadG, ⟨ki_329_113, ⟨ki_329_114, ⟨ki_329_115, ⟨kbadG, ⟨kbadG, ⟨ki_329_118, ⟨ki_329_119, ⟨ki_329_120, ⟨ki_329_121, ⟨ki_329_122, ⟨ki_329_123, ⟨kbadG, ⟨ki_329_125, ⟨kbadG, ⟨ki_329_127, trivial⟩⟩⟩⟩⟩⟩⟩⟩⟩⟩⟩⟩⟩⟩⟩⟩, ⟨⟨ki_329_128, ⟨kbadG, ⟨ki_329_130, ⟨kbadG, ⟨ki_329_132, ⟨ki_329_133, ⟨ki_329_134, ⟨kbadG, ⟨kbadG, ⟨ki_329_137, ⟨ki_329_138, ⟨kbadG, ⟨kbadG, ⟨ki_329_141, ⟨ki_329_142, ⟨kbadG, trivial⟩⟩⟩⟩⟩⟩⟩⟩⟩⟩⟩⟩⟩⟩⟩⟩, ⟨⟨ki_329_144, ⟨ki_329_145, ⟨ki_329_146, ⟨ki_329_147, ⟨kbadG, ⟨kbadG, ⟨ki_329_150, ⟨ki_329_151, ⟨ki_329_152, ⟨ki_329_153, ⟨kbadG, ⟨kbadG, ⟨ki_329_156, ⟨kbadG, ⟨kbadG, ⟨ki_329_159, trivial⟩⟩⟩⟩⟩⟩⟩⟩⟩⟩⟩⟩⟩⟩⟩⟩, ⟨⟨ki_329_160, ⟨ki_329_161, ⟨ki_329_162, ⟨kbadG, ⟨kbadG, ⟨ki_329_165, ⟨ki_329_166, ⟨kbadG, ⟨kbadG, ⟨ki_329_169, ⟨ki_329_170, ⟨ki_329_171, ⟨kbadG, ⟨kbadG, ⟨ki_329_174, trivial⟩⟩⟩⟩⟩⟩⟩⟩⟩⟩⟩⟩⟩⟩⟩, trivial⟩⟩⟩⟩⟩⟩⟩⟩⟩⟩⟩)
end JS
