section JS
set_option maxRecDepth 20000 in
theorem d_183_0 : decode (js_b 183) 0 = .ok (.lconst 0, 1) := by decide +kernel
set_option maxRecDepth 20000 in
theorem d_183_1 : decode (js_b 183) 1 = .ok (.lstore_n 1, 1) := by decide +kernel
set_option maxRecDepth 20000 in
theorem d_183_2 : decode (js_b 183) 2 = .ok (.iconst 0, 1) := by decide +kernel
set_option maxRecDepth 20000 in
theorem d_183_3 : decode (js_b 183) 3 = .ok (.istore_n 3, 1) := by decide +kernel
set_option maxRecDepth 20000 in
theorem d_183_4 : decode (js_b 183) 4 = .ok (.bipush (-13), 2) := by decide +kernel
set_option maxRecDepth 20000 in
theorem d_183_6 : decode (js_b 183) 6 = .ok (.istore 4, 2) := by decide +kernel
set_option maxRecDepth 20000 in
theorem d_183_8 : decode (js_b 183) 8 = .ok (.iconst 0, 1) := by decide +kernel
set_option maxRecDepth 20000 in
theorem d_183_9 : decode (js_b 183) 9 = .ok (.istore 5, 2) := by decide +kernel
set_option maxRecDepth 20000 in
theorem d_183_11 : decode (js_b 183) 11 = .ok (.iload 5, 2) := by decide +kernel
set_option maxRecDepth 20000 in
theorem d_183_13 : decode (js_b 183) 13 = .ok (.bipush 64, 2) := by decide +kernel
set_option maxRecDepth 20000 in
theorem d_183_15 : decode (js_b 183) 15 = .ok (.if_icmp .ge 105, 3) := by decide +kernel
set_option maxRecDepth 20000 in
theorem d_183_18 : decode (js_b 183) 18 = .ok (.aload_n 0, 1) := by decide +kernel
set_option maxRecDepth 20000 in
theorem d_183_19 : decode (js_b 183) 19 = .ok (.iload 5, 2) := by decide +kernel
set_option maxRecDepth 20000 in
theorem d_183_21 : decode (js_b 183) 21 = .ok (.bipush 8, 2) := by decide +kernel
set_option maxRecDepth 20000 in
theorem d_183_23 : decode (js_b 183) 23 = .ok (.idiv, 1) := by decide +kernel
set_option maxRecDepth 20000 in
theorem d_183_24 : decode (js_b 183) 24 = .ok (.iload 5, 2) := by decide +kernel
set_option maxRecDepth 20000 in
theorem d_183_26 : decode (js_b 183) 26 = .ok (.bipush 8, 2) := by decide +kernel
set_option maxRecDepth 20000 in
theorem d_183_28 : decode (js_b 183) 28 = .ok (.irem, 1) := by decide +kernel
set_option maxRecDepth 20000 in
theorem d_183_29 : decode (js_b 183) 29 = .ok (.invokestatic 175, 3) := by decide +kernel
set_option maxRecDepth 20000 in
theorem d_183_32 : decode (js_b 183) 32 = .ok (.istore 6, 2) := by decide +kernel
set_option maxRecDepth 20000 in
theorem d_183_34 : decode (js_b 183) 34 = .ok (.iload 6, 2) := by decide +kernel
set_option maxRecDepth 20000 in
theorem d_183_36 : decode (js_b 183) 36 = .ok (.ifCond .lt 78, 3) := by decide +kernel
set_option maxRecDepth 20000 in
theorem d_183_39 : decode (js_b 183) 39 = .ok (.aload_n 0, 1) := by decide +kernel
set_option maxRecDepth 20000 in
theorem d_183_40 : decode (js_b 183) 40 = .ok (.lconst 1, 1) := by decide +kernel
set_option maxRecDepth 20000 in
theorem d_183_41 : decode (js_b 183) 41 = .ok (.iload 5, 2) := by decide +kernel
set_option maxRecDepth 20000 in
theorem d_183_43 : decode (js_b 183) 43 = .ok (.lshl, 1) := by decide +kernel
set_option maxRecDepth 20000 in
theorem d_183_44 : decode (js_b 183) 44 = .ok (.invokestatic 323, 3) := by decide +kernel
set_option maxRecDepth 20000 in
theorem d_183_47 : decode (js_b 183) 47 = .ok (.lstore 7, 2) := by decide +kernel
set_option maxRecDepth 20000 in
theorem d_183_49 : decode (js_b 183) 49 = .ok (.lload 7, 2) := by decide +kernel
set_option maxRecDepth 20000 in
theorem d_183_51 : decode (js_b 183) 51 = .ok (.invokestatic 327, 3) := by decide +kernel
set_option maxRecDepth 20000 in
theorem d_183_54 : decode (js_b 183) 54 = .ok (.istore 9, 2) := by decide +kernel
set_option maxRecDepth 20000 in
theorem d_183_56 : decode (js_b 183) 56 = .ok (.iload_n 3, 1) := by decide +kernel
set_option maxRecDepth 20000 in
theorem d_183_57 : decode (js_b 183) 57 = .ok (.lload_n 1, 1) := by decide +kernel
set_option maxRecDepth 20000 in
theorem d_183_58 : decode (js_b 183) 58 = .ok (.iload 5, 2) := by decide +kernel
set_option maxRecDepth 20000 in
theorem d_183_60 : decode (js_b 183) 60 = .ok (.lushr, 1) := by decide +kernel
set_option maxRecDepth 20000 in
theorem d_183_61 : decode (js_b 183) 61 = .ok (.lconst 1, 1) := by decide +kernel
set_option maxRecDepth 20000 in
theorem d_183_62 : decode (js_b 183) 62 = .ok (.land, 1) := by decide +kernel
set_option maxRecDepth 20000 in
theorem d_183_63 : decode (js_b 183) 63 = .ok (.lconst 0, 1) := by decide +kernel
set_option maxRecDepth 20000 in
theorem d_183_64 : decode (js_b 183) 64 = .ok (.lcmp, 1) := by decide +kernel
set_option maxRecDepth 20000 in
theorem d_183_65 : decode (js_b 183) 65 = .ok (.ifCond .ne 7, 3) := by decide +kernel
set_option maxRecDepth 20000 in
theorem d_183_68 : decode (js_b 183) 68 = .ok (.iconst 1, 1) := by decide +kernel
set_option maxRecDepth 20000 in
theorem d_183_69 : decode (js_b 183) 69 = .ok (.goto 4, 3) := by decide +kernel
set_option maxRecDepth 20000 in
theorem d_183_72 : decode (js_b 183) 72 = .ok (.iconst 0, 1) := by decide +kernel
set_option maxRecDepth 20000 in
theorem d_183_73 : decode (js_b 183) 73 = .ok (.iadd, 1) := by decide +kernel
set_option maxRecDepth 20000 in
theorem d_183_74 : decode (js_b 183) 74 = .ok (.istore_n 3, 1) := by decide +kernel
set_option maxRecDepth 20000 in
theorem d_183_75 : decode (js_b 183) 75 = .ok (.lload_n 1, 1) := by decide +kernel
set_option maxRecDepth 20000 in
theorem d_183_76 : decode (js_b 183) 76 = .ok (.lload 7, 2) := by decide +kernel
set_option maxRecDepth 20000 in
theorem d_183_78 : decode (js_b 183) 78 = .ok (.lor, 1) := by decide +kernel
set_option maxRecDepth 20000 in
theorem d_183_79 : decode (js_b 183) 79 = .ok (.lstore_n 1, 1) := by decide +kernel
set_option maxRecDepth 20000 in
theorem d_183_80 : decode (js_b 183) 80 = .ok (.iload 4, 2) := by decide +kernel
set_option maxRecDepth 20000 in
theorem d_183_82 : decode (js_b 183) 82 = .ok (.iload 9, 2) := by decide +kernel
set_option maxRecDepth 20000 in
theorem d_183_84 : decode (js_b 183) 84 = .ok (.invokestatic 333, 3) := by decide +kernel
set_option maxRecDepth 20000 in
theorem d_183_87 : decode (js_b 183) 87 = .ok (.istore 4, 2) := by decide +kernel
set_option maxRecDepth 20000 in
theorem d_183_89 : decode (js_b 183) 89 = .ok (.aload_n 0, 1) := by decide +kernel
set_option maxRecDepth 20000 in
theorem d_183_90 : decode (js_b 183) 90 = .ok (.iload 6, 2) := by decide +kernel
set_option maxRecDepth 20000 in
theorem d_183_92 : decode (js_b 183) 92 = .ok (.invokestatic 247, 3) := by decide +kernel
set_option maxRecDepth 20000 in
theorem d_183_95 : decode (js_b 183) 95 = .ok (.lload 7, 2) := by decide +kernel
set_option maxRecDepth 20000 in
theorem d_183_97 : decode (js_b 183) 97 = .ok (.lcmp, 1) := by decide +kernel
set_option maxRecDepth 20000 in
theorem d_183_98 : decode (js_b 183) 98 = .ok (.ifCond .ne 14, 3) := by decide +kernel
set_option maxRecDepth 20000 in
theorem d_183_101 : decode (js_b 183) 101 = .ok (.aload_n 0, 1) := by decide +kernel
set_option maxRecDepth 20000 in
theorem d_183_102 : decode (js_b 183) 102 = .ok (.iload 6, 2) := by decide +kernel
set_option maxRecDepth 20000 in
theorem d_183_104 : decode (js_b 183) 104 = .ok (.invokestatic 245, 3) := by decide +kernel
set_option maxRecDepth 20000 in
theorem d_183_107 : decode (js_b 183) 107 = .ok (.iload 9, 2) := by decide +kernel
set_option maxRecDepth 20000 in
theorem d_183_109 : decode (js_b 183) 109 = .ok (.if_icmp .eq 5, 3) := by decide +kernel
set_option maxRecDepth 20000 in
theorem d_183_112 : decode (js_b 183) 112 = .ok (.iconst 0, 1) := by decide +kernel
set_option maxRecDepth 20000 in
theorem d_183_113 : decode (js_b 183) 113 = .ok (.ireturn, 1) := by decide +kernel
set_option maxRecDepth 20000 in
theorem d_183_114 : decode (js_b 183) 114 = .ok (.iinc 5 1, 3) := by decide +kernel
set_option maxRecDepth 20000 in
theorem d_183_117 : decode (js_b 183) 117 = .ok (.goto (-106), 3) := by decide +kernel
set_option maxRecDepth 20000 in
theorem d_183_120 : decode (js_b 183) 120 = .ok (.aload_n 0, 1) := by decide +kernel
set_option maxRecDepth 20000 in
theorem d_183_121 : decode (js_b 183) 121 = .ok (.invokevirtual 338, 3) := by decide +kernel
set_option maxRecDepth 20000 in
theorem d_183_124 : decode (js_b 183) 124 = .ok (.iload_n 3, 1) := by decide +kernel
set_option maxRecDepth 20000 in
theorem d_183_125 : decode (js_b 183) 125 = .ok (.if_icmp .ne 54, 3) := by decide +kernel
set_option maxRecDepth 20000 in
theorem d_183_128 : decode (js_b 183) 128 = .ok (.aload_n 0, 1) := by decide +kernel
set_option maxRecDepth 20000 in
theorem d_183_129 : decode (js_b 183) 129 = .ok (.invokevirtual 341, 3) := by decide +kernel
set_option maxRecDepth 20000 in
theorem d_183_132 : decode (js_b 183) 132 = .ok (.iload_n 3, 1) := by decide +kernel
set_option maxRecDepth 20000 in
theorem d_183_133 : decode (js_b 183) 133 = .ok (.if_icmp .ne 46, 3) := by decide +kernel
set_option maxRecDepth 20000 in
theorem d_183_136 : decode (js_b 183) 136 = .ok (.aload_n 0, 1) := by decide +kernel
set_option maxRecDepth 20000 in
theorem d_183_137 : decode (js_b 183) 137 = .ok (.invokestatic 344, 3) := by decide +kernel
set_option maxRecDepth 20000 in
theorem d_183_140 : decode (js_b 183) 140 = .ok (.iload 4, 2) := by decide +kernel
set_option maxRecDepth 20000 in
theorem d_183_142 : decode (js_b 183) 142 = .ok (.if_icmp .ne 37, 3) := by decide +kernel
set_option maxRecDepth 20000 in
theorem d_183_145 : decode (js_b 183) 145 = .ok (.aload_n 0, 1) := by decide +kernel
set_option maxRecDepth 20000 in
theorem d_183_146 : decode (js_b 183) 146 = .ok (.invokevirtual 347, 3) := by decide +kernel
set_option maxRecDepth 20000 in
theorem d_183_149 : decode (js_b 183) 149 = .ok (.ifCond .eq 30, 3) := by decide +kernel
set_option maxRecDepth 20000 in
theorem d_183_152 : decode (js_b 183) 152 = .ok (.aload_n 0, 1) := by decide +kernel
set_option maxRecDepth 20000 in
theorem d_183_153 : decode (js_b 183) 153 = .ok (.iconst (-1), 1) := by decide +kernel
set_option maxRecDepth 20000 in
theorem d_183_154 : decode (js_b 183) 154 = .ok (.invokestatic 245, 3) := by decide +kernel
set_option maxRecDepth 20000 in
theorem d_183_157 : decode (js_b 183) 157 = .ok (.bipush (-13), 2) := by decide +kernel
set_option maxRecDepth 20000 in
theorem d_183_159 : decode (js_b 183) 159 = .ok (.if_icmp .ne 20, 3) := by decide +kernel
set_option maxRecDepth 20000 in
theorem d_183_162 : decode (js_b 183) 162 = .ok (.aload_n 0, 1) := by decide +kernel
set_option maxRecDepth 20000 in
theorem d_183_163 : decode (js_b 183) 163 = .ok (.bipush 99, 2) := by decide +kernel
set_option maxRecDepth 20000 in
theorem d_183_165 : decode (js_b 183) 165 = .ok (.invokestatic 247, 3) := by decide +kernel
set_option maxRecDepth 20000 in
theorem d_183_168 : decode (js_b 183) 168 = .ok (.ldc2_w 130, 3) := by decide +kernel
set_option maxRecDepth 20000 in
theorem d_183_171 : decode (js_b 183) 171 = .ok (.lcmp, 1) := by decide +kernel
set_option maxRecDepth 20000 in
theorem d_183_172 : decode (js_b 183) 172 = .ok (.ifCond .ne 7, 3) := by decide +kernel
set_option maxRecDepth 20000 in
theorem d_183_175 : decode (js_b 183) 175 = .ok (.iconst 1, 1) := by decide +kernel
set_option maxRecDepth 20000 in
theorem d_183_176 : decode (js_b 183) 176 = .ok (.goto 4, 3) := by decide +kernel
set_option maxRecDepth 20000 in
theorem d_183_179 : decode (js_b 183) 179 = .ok (.iconst 0, 1) := by decide +kernel
set_option maxRecDepth 20000 in
theorem d_183_180 : decode (js_b 183) 180 = .ok (.ireturn, 1) := by decide +kernel
theorem ki_183_15 : js_OkG 183 15 (o_cge 120 18) := js_St.okG (st_icge (by decide) d_183_15) (fun _ _ _ _ _ => rfl)
theorem ki_183_13 : js_OkG 183 13 (o_ic 64 15) := js_St.okG (st_bipush rfl d_183_13) (fun _ _ _ _ _ => rfl)
theorem ki_183_11 : js_OkG 183 11 (o_il 5 13) := js_St.okG (st_iload d_183_11) (fun _ _ _ _ _ => rfl)
theorem ki_183_9 : js_OkG 183 9 (o_is 5 11) := js_St.okG (st_istore (Nat.le_of_ble_eq_true rfl) d_183_9) (fun _ _ _ _ _ => rfl)
theorem ki_183_8 : js_OkG 183 8 (o_ic 0 9) := js_St.okG (st_iconst rfl d_183_8) (fun _ _ _ _ _ => rfl)
theorem ki_183_6 : js_OkG 183 6 (o_is 4 8) := js_St.okG (st_istore (Nat.le_of_ble_eq_true rfl) d_183_6) (fun _ _ _ _ _ => rfl)
theorem ki_183_4 : js_OkG 183 4 (o_ic (-13) 6) := js_St.okG (st_bipush rfl d_183_4) (fun _ _ _ _ _ => rfl)
theorem ki_183_3 : js_OkG 183 3 (o_is 3 4) := js_St.okG (st_istoren rfl (Nat.le_of_ble_eq_true rfl) d_183_3) (fun _ _ _ _ _ => rfl)
theorem ki_183_2 : js_OkG 183 2 (o_ic 0 3) := js_St.okG (st_iconst rfl d_183_2) (fun _ _ _ _ _ => rfl)
theorem ki_183_1 : js_OkG 183 1 (o_ls 1 2) := js_St.okG (st_lstoren rfl (Nat.le_of_ble_eq_true rfl) d_183_1) (fun _ _ _ _ _ => rfl)
theorem ki_183_0 : js_OkG 183 0 (o_lc 0 1) := js_St.okG (st_lconst rfl d_183_0) (fun _ _ _ _ _ => rfl)
theorem ki_183_29 : js_OkG 183 29 (o_cI 147 3 0 32) := og_sIW rfl rfl kB_183_147 rfl kw_738 kw_739 d_183_29
theorem ki_183_28 : js_OkG 183 28 (o_rem 29) := js_St.okG (st_irem d_183_28) (fun _ _ _ _ _ => rfl)
theorem ki_183_26 : js_OkG 183 26 (o_ic 8 28) := js_St.okG (st_bipush rfl d_183_26) (fun _ _ _ _ _ => rfl)
theorem ki_183_24 : js_OkG 183 24 (o_il 5 26) := js_St.okG (st_iload d_183_24) (fun _ _ _ _ _ => rfl)
theorem ki_183_23 : js_OkG 183 23 (o_div 24) := js_St.okG (st_idiv d_183_23) (fun _ _ _ _ _ => rfl)
theorem ki_183_21 : js_OkG 183 21 (o_ic 8 23) := js_St.okG (st_bipush rfl d_183_21) (fun _ _ _ _ _ => rfl)
theorem ki_183_19 : js_OkG 183 19 (o_il 5 21) := js_St.okG (st_iload d_183_19) (fun _ _ _ _ _ => rfl)
theorem ki_183_18 : js_OkG 183 18 (o_al 0 19) := js_St.okG (st_aloadn rfl d_183_18) (fun _ _ _ _ _ => rfl)
theorem ki_183_47 : js_OkG 183 47 (o_ls 7 49) := js_St.okG (st_lstore (Nat.le_of_ble_eq_true rfl) d_183_47) (fun _ _ _ _ _ => rfl)
theorem ki_183_44 : js_OkG 183 44 (o_cL 300 2 0 47) := og_sLP rfl rfl kB_183_300 rfl kw_949 kw_950 d_183_44
theorem ki_183_43 : js_OkG 183 43 (o_Sh (fun x y => x <<< (y.toInt64 &&& 63)) 44) := js_St.okG (st_lshl d_183_43) (fun _ _ _ _ _ => rfl)
theorem ki_183_41 : js_OkG 183 41 (o_il 5 43) := js_St.okG (st_iload d_183_41) (fun _ _ _ _ _ => rfl)
theorem ki_183_40 : js_OkG 183 40 (o_lc 1 41) := js_St.okG (st_lconst rfl d_183_40) (fun _ _ _ _ _ => rfl)
theorem ki_183_39 : js_OkG 183 39 (o_al 0 40) := js_St.okG (st_aloadn rfl d_183_39) (fun _ _ _ _ _ => rfl)
theorem ki_183_36 : js_OkG 183 36 (o_lt 114 39) := js_St.okG (st_iflt (by decide) d_183_36) (fun _ _ _ _ _ => rfl)
theorem ki_183_34 : js_OkG 183 34 (o_il 6 36) := js_St.okG (st_iload d_183_34) (fun _ _ _ _ _ => rfl)
theorem ki_183_32 : js_OkG 183 32 (o_is 6 34) := js_St.okG (st_istore (Nat.le_of_ble_eq_true rfl) d_183_32) (fun _ _ _ _ _ => rfl)
theorem ki_183_63 : js_OkG 183 63 (o_lc 0 64) := js_St.okG (st_lconst rfl d_183_63) (fun _ _ _ _ _ => rfl)
theorem ki_183_62 : js_OkG 183 62 (o_B2 (fun x y => x &&& y) 63) := js_St.okG (st_land d_183_62) (fun _ _ _ _ _ => rfl)
theorem ki_183_61 : js_OkG 183 61 (o_lc 1 62) := js_St.okG (st_lconst rfl d_183_61) (fun _ _ _ _ _ => rfl)
theorem ki_183_60 : js_OkG 183 60 (o_Sh (fun x y => (x.toUInt64 >>> (y.toInt64.toUInt64 &&& Int64.toUInt64 63)).toInt64) 61) := js_St.okG (st_lushr d_183_60) (fun _ _ _ _ _ => rfl)
theorem ki_183_58 : js_OkG 183 58 (o_il 5 60) := js_St.okG (st_iload d_183_58) (fun _ _ _ _ _ => rfl)
theorem ki_183_57 : js_OkG 183 57 (o_ll 1 58) := js_St.okG (st_lloadn rfl d_183_57) (fun _ _ _ _ _ => rfl)
theorem ki_183_56 : js_OkG 183 56 (o_il 3 57) := js_St.okG (st_iloadn rfl d_183_56) (fun _ _ _ _ _ => rfl)
theorem ki_183_54 : js_OkG 183 54 (o_is 9 56) := js_St.okG (st_istore (Nat.le_of_ble_eq_true rfl) d_183_54) (fun _ _ _ _ _ => rfl)
theorem ki_183_51 : js_OkG 183 51 (o_cI 245 1 0 54) := og_cI (site_S kk_183_245 kw_952 kw_728 d_183_51) rfl rfl
theorem ki_183_49 : js_OkG 183 49 (o_ll 7 51) := js_St.okG (st_lload d_183_49) (fun _ _ _ _ _ => rfl)
theorem ki_183_79 : js_OkG 183 79 (o_ls 1 80) := js_St.okG (st_lstoren rfl (Nat.le_of_ble_eq_true rfl) d_183_79) (fun _ _ _ _ _ => rfl)
theorem ki_183_78 : js_OkG 183 78 (o_B2 (fun x y => x ||| y) 79) := js_St.okG (st_lor d_183_78) (fun _ _ _ _ _ => rfl)
theorem ki_183_76 : js_OkG 183 76 (o_ll 7 78) := js_St.okG (st_lload d_183_76) (fun _ _ _ _ _ => rfl)
theorem ki_183_75 : js_OkG 183 75 (o_ll 1 76) := js_St.okG (st_lloadn rfl d_183_75) (fun _ _ _ _ _ => rfl)
theorem ki_183_74 : js_OkG 183 74 (o_is 3 75) := js_St.okG (st_istoren rfl (Nat.le_of_ble_eq_true rfl) d_183_74) (fun _ _ _ _ _ => rfl)
theorem ki_183_73 : js_OkG 183 73 (o_b2 (fun x y => x + y) 74) := js_St.okG (st_iadd d_183_73) (fun _ _ _ _ _ => rfl)
theorem ki_183_72 : js_OkG 183 72 (o_ic 0 73) := js_St.okG (st_iconst rfl d_183_72) (fun _ _ _ _ _ => rfl)
theorem ki_183_69 : js_OkG 183 69 (o_go 73) := js_St.okG (st_goto (by decide) d_183_69) (fun _ _ _ _ _ => rfl)
theorem ki_183_68 : js_OkG 183 68 (o_ic 1 69) := js_St.okG (st_iconst rfl d_183_68) (fun _ _ _ _ _ => rfl)
theorem ki_183_65 : js_OkG 183 65 (o_ne 72 68) := js_St.okG (st_ifne (by decide) d_183_65) (fun _ _ _ _ _ => rfl)
theorem ki_183_64 : js_OkG 183 64 (o_lcmp 65) := js_St.okG (st_lcmp d_183_64) (fun _ _ _ _ _ => rfl)
theorem ki_183_95 : js_OkG 183 95 (o_ll 7 97) := js_St.okG (st_lload d_183_95) (fun _ _ _ _ _ => rfl)
theorem ki_183_92 : js_OkG 183 92 (o_cL 164 2 0 95) := og_sLW rfl rfl kB_183_164 rfl kw_733 kw_734 d_183_92
theorem ki_183_90 : js_OkG 183 90 (o_il 6 92) := js_St.okG (st_iload d_183_90) (fun _ _ _ _ _ => rfl)
theorem ki_183_89 : js_OkG 183 89 (o_al 0 90) := js_St.okG (st_aloadn rfl d_183_89) (fun _ _ _ _ _ => rfl)
theorem ki_183_87 : js_OkG 183 87 (o_is 4 89) := js_St.okG (st_istore (Nat.le_of_ble_eq_true rfl) d_183_87) (fun _ _ _ _ _ => rfl)
theorem ki_183_84 : js_OkG 183 84 (o_cI 246 2 0 87) := og_cI (site_S kk_183_246 kw_953 kw_568 d_183_84) rfl rfl
theorem ki_183_82 : js_OkG 183 82 (o_il 9 84) := js_St.okG (st_iload d_183_82) (fun _ _ _ _ _ => rfl)
theorem ki_183_80 : js_OkG 183 80 (o_il 4 82) := js_St.okG (st_iload d_183_80) (fun _ _ _ _ _ => rfl)
theorem ki_183_109 : js_OkG 183 109 (o_ceq 114 112) := js_St.okG (st_iceq (by decide) d_183_109) (fun _ _ _ _ _ => rfl)
theorem ki_183_107 : js_OkG 183 107 (o_il 9 109) := js_St.okG (st_iload d_183_107) (fun _ _ _ _ _ => rfl)
theorem ki_183_104 : js_OkG 183 104 (o_cI 155 2 0 107) := og_sIW rfl rfl kB_183_155 rfl kw_707 kw_708 d_183_104
theorem ki_183_102 : js_OkG 183 102 (o_il 6 104) := js_St.okG (st_iload d_183_102) (fun _ _ _ _ _ => rfl)
theorem ki_183_101 : js_OkG 183 101 (o_al 0 102) := js_St.okG (st_aloadn rfl d_183_101) (fun _ _ _ _ _ => rfl)
theorem ki_183_98 : js_OkG 183 98 (o_ne 112 101) := js_St.okG (st_ifne (by decide) d_183_98) (fun _ _ _ _ _ => rfl)
theorem ki_183_97 : js_OkG 183 97 (o_lcmp 98) := js_St.okG (st_lcmp d_183_97) (fun _ _ _ _ _ => rfl)
theorem ki_183_125 : js_OkG 183 125 (o_cne 179 128) := js_St.okG (st_icne (by decide) d_183_125) (fun _ _ _ _ _ => rfl)
theorem ki_183_124 : js_OkG 183 124 (o_il 3 125) := js_St.okG (st_iloadn rfl d_183_124) (fun _ _ _ _ _ => rfl)
theorem ki_183_121 : js_OkG 183 121 (o_cI 94 1 8 124) := og_cI (site_V kk_183_94 (by decide) kw_954 kw_955 kw_956 (fun t ht => by cases ht; exact Or.inl ⟨by decide, _, rfl, rfl⟩) d_183_121) rfl rfl
theorem ki_183_120 : js_OkG 183 120 (o_al 0 121) := js_St.okG (st_aloadn rfl d_183_120) (fun _ _ _ _ _ => rfl)
theorem ki_183_117 : js_OkG 183 117 (o_go 11) := js_St.okG (st_goto (by decide) d_183_117) (fun _ _ _ _ _ => rfl)
theorem ki_183_114 : js_OkG 183 114 (o_inc 5 1 117) := js_St.okG (st_iinc rfl (Nat.le_of_ble_eq_true rfl) d_183_114) (fun _ _ _ _ _ => rfl)
theorem ki_183_113 : js_OkG 183 113 (o_rZ) := og_rZ rfl d_183_113
theorem ki_183_112 : js_OkG 183 112 (o_ic 0 113) := js_St.okG (st_iconst rfl d_183_112) (fun _ _ _ _ _ => rfl)
theorem ki_183_142 : js_OkG 183 142 (o_cne 179 145) := js_St.okG (st_icne (by decide) d_183_142) (fun _ _ _ _ _ => rfl)
theorem ki_183_140 : js_OkG 183 140 (o_il 4 142) := js_St.okG (st_iload d_183_140) (fun _ _ _ _ _ => rfl)
theorem ki_183_137 : js_OkG 183 137 (o_cI 156 1 0 140) := og_sIW rfl rfl kB_183_156 rfl kw_981 kw_982 d_183_137
theorem ki_183_136 : js_OkG 183 136 (o_al 0 137) := js_St.okG (st_aloadn rfl d_183_136) (fun _ _ _ _ _ => rfl)
theorem ki_183_133 : js_OkG 183 133 (o_cne 179 136) := js_St.okG (st_icne (by decide) d_183_133) (fun _ _ _ _ _ => rfl)
theorem ki_183_132 : js_OkG 183 132 (o_il 3 133) := js_St.okG (st_iloadn rfl d_183_132) (fun _ _ _ _ _ => rfl)
theorem ki_183_129 : js_OkG 183 129 (o_cI 95 1 8 132) := og_cI (site_V kk_183_95 (by decide) kw_964 kw_965 kw_966 (fun t ht => by cases ht; exact Or.inl ⟨by decide, _, rfl, rfl⟩) d_183_129) rfl rfl
theorem ki_183_128 : js_OkG 183 128 (o_al 0 129) := js_St.okG (st_aloadn rfl d_183_128) (fun _ _ _ _ _ => rfl)
theorem ki_183_159 : js_OkG 183 159 (o_cne 179 162) := js_St.okG (st_icne (by decide) d_183_159) (fun _ _ _ _ _ => rfl)
theorem ki_183_157 : js_OkG 183 157 (o_ic (-13) 159) := js_St.okG (st_bipush rfl d_183_157) (fun _ _ _ _ _ => rfl)
theorem ki_183_154 : js_OkG 183 154 (o_cI 155 2 0 157) := og_sIW rfl rfl kB_183_155 rfl kw_707 kw_708 d_183_154
theorem ki_183_153 : js_OkG 183 153 (o_ic (-1) 154) := js_St.okG (st_iconst rfl d_183_153) (fun _ _ _ _ _ => rfl)
theorem ki_183_152 : js_OkG 183 152 (o_al 0 153) := js_St.okG (st_aloadn rfl d_183_152) (fun _ _ _ _ _ => rfl)
theorem ki_183_149 : js_OkG 183 149 (o_eq 179 152) := js_St.okG (st_ifeq (by decide) d_183_149) (fun _ _ _ _ _ => rfl)
theorem ki_183_146 : js_OkG 183 146 (o_cI 102 1 8 149) := og_cI (site_V kk_183_102 (by decide) kw_994 kw_995 kw_996 (fun t ht => by cases ht; exact Or.inl ⟨by decide, _, rfl, rfl⟩) d_183_146) rfl rfl
theorem ki_183_145 : js_OkG 183 145 (o_al 0 146) := js_St.okG (st_aloadn rfl d_183_145) (fun _ _ _ _ _ => rfl)
theorem ki_183_175 : js_OkG 183 175 (o_ic 1 176) := js_St.okG (st_iconst rfl d_183_175) (fun _ _ _ _ _ => rfl)
theorem ki_183_172 : js_OkG 183 172 (o_ne 179 175) := js_St.okG (st_ifne (by decide) d_183_172) (fun _ _ _ _ _ => rfl)
theorem ki_183_171 : js_OkG 183 171 (o_lcmp 172) := js_St.okG (st_lcmp d_183_171) (fun _ _ _ _ _ => rfl)
theorem ki_183_168 : js_OkG 183 168 (o_lc (-2) 171) := js_St.okG (st_ldc2 kw_737 d_183_168) (fun _ _ _ _ _ => rfl)
theorem ki_183_165 : js_OkG 183 165 (o_cL 164 2 0 168) := og_sLW rfl rfl kB_183_164 rfl kw_733 kw_734 d_183_165
theorem ki_183_163 : js_OkG 183 163 (o_ic 99 165) := js_St.okG (st_bipush rfl d_183_163) (fun _ _ _ _ _ => rfl)
theorem ki_183_162 : js_OkG 183 162 (o_al 0 163) := js_St.okG (st_aloadn rfl d_183_162) (fun _ _ _ _ _ => rfl)
theorem ki_183_180 : js_OkG 183 180 (o_rZ) := og_rZ rfl d_183_180
theorem ki_183_179 : js_OkG 183 179 (o_ic 0 180) := js_St.okG (st_iconst rfl d_183_179) (fun _ _ _ _ _ => rfl)
theorem ki_183_176 : js_OkG 183 176 (o_go 180) := js_St.okG (st_goto (by decide) d_183_176) (fun _ _ _ _ _ => rfl)
set_option maxRecDepth 20000 in
theorem mk_183 : js_mokG 183 := jk_tab (fun _ => js_St.okG st_bad (fun _ _ _ _ _ => rfl)) (show jk_all (js_OkG 183) 0 tb_183 from ⟨⟨ki_183_0, ⟨ki_183_1, ⟨ki_183_2, ⟨ki_183_3, ⟨ki_183_4, ⟨kbadG, ⟨ki_183_6, ⟨kbadG, ⟨ki_183_8, ⟨ki_183_9, ⟨kbadG, ⟨ki_183_11, ⟨kbadG, ⟨ki_183_13, ⟨kbadG, ⟨ki_183_15, trivial⟩⟩⟩⟩⟩⟩⟩⟩⟩⟩⟩⟩⟩⟩⟩⟩, ⟨⟨kbadG, ⟨kbadG, ⟨ki_183_18, ⟨ki_183_19, ⟨kbadG, ⟨ki_183_21, ⟨kbadG, ⟨ki_183_23, ⟨ki_183_24, ⟨kbadG, ⟨ki_183_26, ⟨kbadG, ⟨ki_183_28, ⟨ki_183_29, ⟨kbadG, ⟨kbadG, trivial⟩⟩⟩⟩⟩⟩⟩⟩⟩⟩⟩⟩⟩⟩⟩⟩, ⟨⟨ki_183_32, ⟨kbadG, ⟨ki_183_34, ⟨kbadG, ⟨ki_183_36, ⟨kbadG, ⟨kbadG, ⟨ki_183_39, ⟨ki_183_40, ⟨ki_183_41, ⟨kbadG, ⟨ki_183_43, ⟨ki_183_44, ⟨kbadG, ⟨kbadG, ⟨ki_183_47, trivial⟩⟩⟩⟩⟩⟩⟩⟩⟩⟩⟩⟩⟩⟩⟩⟩, ⟨⟨kbadG, ⟨ki_183_49, ⟨kbadG, ⟨ki_183_51, ⟨kbadG, ⟨kbadG, ⟨ki_183_54, ⟨kbadG, ⟨ki_183_56, ⟨ki_183_57, ⟨ki_183_58, ⟨kbadG, ⟨ki_183_60, ⟨ki_183_61, ⟨ki_183_62, ⟨ki_183_63, trivial⟩⟩⟩⟩⟩⟩⟩⟩⟩⟩⟩⟩⟩⟩⟩⟩, ⟨⟨ki_183_64, ⟨ki_183_65, ⟨kbadG, ⟨kbadG, ⟨ki_183_68, ⟨ki_183_69, ⟨kbadG, ⟨kbadG, ⟨ki_183_72, ⟨ki_183_73, ⟨ki_183_74, ⟨ki_183_75, ⟨ki_183_76, ⟨kbadG, ⟨ki_183_78, ⟨ki_183_79, trivial⟩⟩⟩⟩⟩⟩⟩⟩⟩⟩⟩⟩⟩⟩⟩⟩, ⟨⟨ki_183_80, ⟨kbadG, ⟨ki_183_82, ⟨kbadG, ⟨ki_183_84, ⟨kbadG, ⟨kbadG, ⟨ki_183_87, ⟨kbadG, ⟨ki_183_89, ⟨ki_183_90, ⟨kbadG, ⟨ki_183_92, ⟨kbadG, ⟨kbadG, ⟨ki_183_95, trivial⟩⟩⟩⟩⟩⟩⟩⟩⟩⟩⟩⟩⟩⟩⟩⟩, ⟨⟨kbadG, ⟨ki_183_97, ⟨ki_183_98, ⟨kbadG, ⟨kbadG, ⟨ki_183_101, ⟨ki_183_102, ⟨kbadG, ⟨ki_183_104, ⟨kbadG, ⟨kbadG, ⟨ki_183_107, ⟨kbadG, ⟨ki_183_109, ⟨kbadG, ⟨kbadG, trivial⟩⟩⟩⟩⟩⟩⟩⟩⟩⟩⟩⟩⟩⟩⟩⟩, ⟨⟨ki_183_112, ⟨ki_183_113, ⟨ki_183_114, ⟨kbadG, ⟨kbadG, ⟨ki_183_117, ⟨kbadG, ⟨kbadG, ⟨ki_183_120, ⟨ki_183_121, ⟨kbadG, ⟨kbadG, ⟨ki_183_124, ⟨ki_183_125, ⟨kbadG, ⟨kbadG, trivial⟩⟩⟩⟩⟩⟩⟩⟩⟩⟩⟩⟩⟩⟩⟩⟩, ⟨⟨ki_183_128, ⟨ki_183_129, ⟨kbadG, ⟨kbadG, ⟨ki_183_132, ⟨ki_183_133, ⟨kbadG, ⟨kbadG, ⟨ki_183_136, ⟨ki_183_137, ⟨kbadG, ⟨kbadG, ⟨ki_183_140, ⟨kbadG, ⟨ki_183_142, ⟨kbadG, trivial⟩⟩⟩⟩⟩⟩⟩⟩⟩⟩⟩⟩⟩⟩⟩⟩, ⟨⟨kbadG, ⟨ki_183_145, ⟨ki_183_146, ⟨kbadG, ⟨kbadG, ⟨ki_183_149, ⟨kbadG, ⟨kbadG, ⟨ki_183_152, ⟨ki_183_153, ⟨ki_183_154, ⟨kbadG, ⟨kbadG, ⟨ki_183_157, ⟨kbadG, ⟨ki_183_159, trivial⟩⟩⟩⟩⟩⟩⟩⟩⟩⟩⟩⟩⟩⟩⟩⟩, ⟨⟨kbadG, ⟨kbadG, ⟨ki_183_162, ⟨ki_183_163, ⟨kbadG, ⟨ki_183_165, ⟨kbadG, ⟨kbadG, ⟨ki_183_168, ⟨kbadG, ⟨kbadG, ⟨ki_183_171, ⟨ki_183_172, ⟨kbadG, ⟨kbadG, ⟨ki_183_175, trivial⟩⟩⟩⟩⟩⟩⟩⟩⟩⟩⟩⟩⟩⟩⟩⟩, ⟨⟨ki_183_176, ⟨kbadG, ⟨kbadG, ⟨ki_183_179, ⟨ki_183_180, trivial⟩⟩⟩⟩⟩, trivial⟩⟩⟩⟩⟩⟩⟩⟩⟩⟩⟩⟩)
set_option maxRecDepth 20000 in
theorem d_184_0 : decode (js_b 184) 0 = .ok (.iload_n 1, 1) := by decide +kernel
set_option maxRecDepth 20000 in
theorem d_184_1 : decode (js_b 184) 1 = .ok (.aload_n 2, 1) := by decide +kernel
set_option maxRecDepth 20000 in
theorem d_184_2 : decode (js_b 184) 2 = .ok (.invokevirtual 136, 3) := by decide +kernel
set_option maxRecDepth 20000 in
theorem d_184_5 : decode (js_b 184) 5 = .ok (.if_icmp .ne 7, 3) := by decide +kernel
set_option maxRecDepth 20000 in
theorem d_184_8 : decode (js_b 184) 8 = .ok (.iconst 1, 1) := by decide +kernel
set_option maxRecDepth 20000 in
theorem d_184_9 : decode (js_b 184) 9 = .ok (.goto 4, 3) := by decide +kernel
set_option maxRecDepth 20000 in
theorem d_184_12 : decode (js_b 184) 12 = .ok (.iconst 0, 1) := by decide +kernel
set_option maxRecDepth 20000 in
theorem d_184_13 : decode (js_b 184) 13 = .ok (.istore_n 3, 1) := by decide +kernel
set_option maxRecDepth 20000 in
theorem d_184_14 : decode (js_b 184) 14 = .ok (.iconst 0, 1) := by decide +kernel
set_option maxRecDepth 20000 in
theorem d_184_15 : decode (js_b 184) 15 = .ok (.istore 4, 2) := by decide +kernel
set_option maxRecDepth 20000 in
theorem d_184_17 : decode (js_b 184) 17 = .ok (.iload 4, 2) := by decide +kernel
set_option maxRecDepth 20000 in
theorem d_184_19 : decode (js_b 184) 19 = .ok (.aload_n 2, 1) := by decide +kernel
set_option maxRecDepth 20000 in
theorem d_184_20 : decode (js_b 184) 20 = .ok (.invokevirtual 136, 3) := by decide +kernel
set_option maxRecDepth 20000 in
theorem d_184_23 : decode (js_b 184) 23 = .ok (.if_icmp .ge 34, 3) := by decide +kernel
set_option maxRecDepth 20000 in
theorem d_184_26 : decode (js_b 184) 26 = .ok (.iload_n 3, 1) := by decide +kernel
set_option maxRecDepth 20000 in
theorem d_184_27 : decode (js_b 184) 27 = .ok (.ifCond .eq 30, 3) := by decide +kernel
set_option maxRecDepth 20000 in
theorem d_184_30 : decode (js_b 184) 30 = .ok (.aload_n 0, 1) := by decide +kernel
set_option maxRecDepth 20000 in
theorem d_184_31 : decode (js_b 184) 31 = .ok (.iload 4, 2) := by decide +kernel
set_option maxRecDepth 20000 in
theorem d_184_33 : decode (js_b 184) 33 = .ok (.invokestatic 351, 3) := by decide +kernel
set_option maxRecDepth 20000 in
theorem d_184_36 : decode (js_b 184) 36 = .ok (.aload_n 2, 1) := by decide +kernel
set_option maxRecDepth 20000 in
theorem d_184_37 : decode (js_b 184) 37 = .ok (.iload 4, 2) := by decide +kernel
set_option maxRecDepth 20000 in
theorem d_184_39 : decode (js_b 184) 39 = .ok (.invokevirtual 141, 3) := by decide +kernel
set_option maxRecDepth 20000 in
theorem d_184_42 : decode (js_b 184) 42 = .ok (.if_icmp .ne 7, 3) := by decide +kernel
set_option maxRecDepth 20000 in
theorem d_184_45 : decode (js_b 184) 45 = .ok (.iconst 1, 1) := by decide +kernel
set_option maxRecDepth 20000 in
theorem d_184_46 : decode (js_b 184) 46 = .ok (.goto 4, 3) := by decide +kernel
set_option maxRecDepth 20000 in
theorem d_184_49 : decode (js_b 184) 49 = .ok (.iconst 0, 1) := by decide +kernel
set_option maxRecDepth 20000 in
theorem d_184_50 : decode (js_b 184) 50 = .ok (.istore_n 3, 1) := by decide +kernel
set_option maxRecDepth 20000 in
theorem d_184_51 : decode (js_b 184) 51 = .ok (.iinc 4 1, 3) := by decide +kernel
set_option maxRecDepth 20000 in
theorem d_184_54 : decode (js_b 184) 54 = .ok (.goto (-37), 3) := by decide +kernel
set_option maxRecDepth 20000 in
theorem d_184_57 : decode (js_b 184) 57 = .ok (.iload_n 3, 1) := by decide +kernel
set_option maxRecDepth 20000 in
theorem d_184_58 : decode (js_b 184) 58 = .ok (.ifCond .eq 17, 3) := by decide +kernel
set_option maxRecDepth 20000 in
theorem d_184_61 : decode (js_b 184) 61 = .ok (.aload_n 0, 1) := by decide +kernel
set_option maxRecDepth 20000 in
theorem d_184_62 : decode (js_b 184) 62 = .ok (.iload_n 1, 1) := by decide +kernel
set_option maxRecDepth 20000 in
theorem d_184_63 : decode (js_b 184) 63 = .ok (.invokestatic 351, 3) := by decide +kernel
set_option maxRecDepth 20000 in
theorem d_184_66 : decode (js_b 184) 66 = .ok (.bipush (-11), 2) := by decide +kernel
set_option maxRecDepth 20000 in
theorem d_184_68 : decode (js_b 184) 68 = .ok (.if_icmp .ne 7, 3) := by decide +kernel
set_option maxRecDepth 20000 in
theorem d_184_71 : decode (js_b 184) 71 = .ok (.iconst 1, 1) := by decide +kernel
set_option maxRecDepth 20000 in
theorem d_184_72 : decode (js_b 184) 72 = .ok (.goto 4, 3) := by decide +kernel
set_option maxRecDepth 20000 in
theorem d_184_75 : decode (js_b 184) 75 = .ok (.iconst 0, 1) := by decide +kernel
set_option maxRecDepth 20000 in
theorem d_184_76 : decode (js_b 184) 76 = .ok (.ireturn, 1) := by decide +kernel
theorem ki_184_15 : js_OkG 184 15 (o_is 4 17) := js_St.okG (st_istore (Nat.le_of_ble_eq_true rfl) d_184_15) (fun _ _ _ _ _ => rfl)
theorem ki_184_14 : js_OkG 184 14 (o_ic 0 15) := js_St.okG (st_iconst rfl d_184_14) (fun _ _ _ _ _ => rfl)
theorem ki_184_13 : js_OkG 184 13 (o_is 3 14) := js_St.okG (st_istoren rfl (Nat.le_of_ble_eq_true rfl) d_184_13) (fun _ _ _ _ _ => rfl)
theorem ki_184_12 : js_OkG 184 12 (o_ic 0 13) := js_St.okG (st_iconst rfl d_184_12) (fun _ _ _ _ _ => rfl)
theorem ki_184_9 : js_OkG 184 9 (o_go 13) := js_St.okG (st_goto (by decide) d_184_9) (fun _ _ _ _ _ => rfl)
theorem ki_184_8 : js_OkG 184 8 (o_ic 1 9) := js_St.okG (st_iconst rfl d_184_8) (fun _ _ _ _ _ => rfl)
theorem ki_184_5 : js_OkG 184 5 (o_cne 12 8) := js_St.okG (st_icne (by decide) d_184_5) (fun _ _ _ _ _ => rfl)
theorem ki_184_2 : js_OkG 184 2 (o_cI 248 1 21 5) := og_cI (site_V kk_184_248 (by decide) kw_1273 kw_1108 kw_1109 (fun t ht => by cases ht; exact Or.inr (Or.inl ⟨rfl, rfl⟩)) d_184_2) rfl rfl
theorem ki_184_1 : js_OkG 184 1 (o_al 2 2) := js_St.okG (st_aloadn rfl d_184_1) (fun _ _ _ _ _ => rfl)
theorem ki_184_0 : js_OkG 184 0 (o_il 1 1) := js_St.okG (st_iloadn rfl d_184_0) (fun _ _ _ _ _ => rfl)
theorem ki_184_31 : js_OkG 184 31 (o_il 4 33) := js_St.okG (st_iload d_184_31) (fun _ _ _ _ _ => rfl)
theorem ki_184_30 : js_OkG 184 30 (o_al 0 31) := js_St.okG (st_aloadn rfl d_184_30) (fun _ _ _ _ _ => rfl)
theorem ki_184_27 : js_OkG 184 27 (o_eq 57 30) := js_St.okG (st_ifeq (by decide) d_184_27) (fun _ _ _ _ _ => rfl)
theorem ki_184_26 : js_OkG 184 26 (o_il 3 27) := js_St.okG (st_iloadn rfl d_184_26) (fun _ _ _ _ _ => rfl)
theorem ki_184_23 : js_OkG 184 23 (o_cge 57 26) := js_St.okG (st_icge (by decide) d_184_23) (fun _ _ _ _ _ => rfl)
theorem ki_184_20 : js_OkG 184 20 (o_cI 248 1 21 23) := og_cI (site_V kk_184_248 (by decide) kw_1273 kw_1108 kw_1109 (fun t ht => by cases ht; exact Or.inr (Or.inl ⟨rfl, rfl⟩)) d_184_20) rfl rfl
theorem ki_184_19 : js_OkG 184 19 (o_al 2 20) := js_St.okG (st_aloadn rfl d_184_19) (fun _ _ _ _ _ => rfl)
theorem ki_184_17 : js_OkG 184 17 (o_il 4 19) := js_St.okG (st_iload d_184_17) (fun _ _ _ _ _ => rfl)
theorem ki_184_46 : js_OkG 184 46 (o_go 50) := js_St.okG (st_goto (by decide) d_184_46) (fun _ _ _ _ _ => rfl)
theorem ki_184_45 : js_OkG 184 45 (o_ic 1 46) := js_St.okG (st_iconst rfl d_184_45) (fun _ _ _ _ _ => rfl)
theorem ki_184_42 : js_OkG 184 42 (o_cne 49 45) := js_St.okG (st_icne (by decide) d_184_42) (fun _ _ _ _ _ => rfl)
theorem ki_184_39 : js_OkG 184 39 (o_cI 249 2 21 42) := og_cI (site_V kk_184_249 (by decide) kw_1282 kw_1283 kw_1284 (fun t ht => by cases ht; exact Or.inr (Or.inl ⟨rfl, rfl⟩)) d_184_39) rfl rfl
theorem ki_184_37 : js_OkG 184 37 (o_il 4 39) := js_St.okG (st_iload d_184_37) (fun _ _ _ _ _ => rfl)
theorem ki_184_36 : js_OkG 184 36 (o_al 2 37) := js_St.okG (st_aloadn rfl d_184_36) (fun _ _ _ _ _ => rfl)
theorem ki_184_33 : js_OkG 184 33 (o_cI 159 2 0 36) := og_sIW rfl rfl kB_184_159 rfl kw_1274 kw_1275 d_184_33
theorem ki_184_63 : js_OkG 184 63 (o_cI 159 2 0 66) := og_sIW rfl rfl kB_184_159 rfl kw_1274 kw_1275 d_184_63
theorem ki_184_62 : js_OkG 184 62 (o_il 1 63) := js_St.okG (st_iloadn rfl d_184_62) (fun _ _ _ _ _ => rfl)
theorem ki_184_61 : js_OkG 184 61 (o_al 0 62) := js_St.okG (st_aloadn rfl d_184_61) (fun _ _ _ _ _ => rfl)
theorem ki_184_58 : js_OkG 184 58 (o_eq 75 61) := js_St.okG (st_ifeq (by decide) d_184_58) (fun _ _ _ _ _ => rfl)
theorem ki_184_57 : js_OkG 184 57 (o_il 3 58) := js_St.okG (st_iloadn rfl d_184_57) (fun _ _ _ _ _ => rfl)
theorem ki_184_54 : js_OkG 184 54 (o_go 17) := js_St.okG (st_goto (by decide) d_184_54) (fun _ _ _ _ _ => rfl)
theorem ki_184_51 : js_OkG 184 51 (o_inc 4 1 54) := js_St.okG (st_iinc rfl (Nat.le_of_ble_eq_true rfl) d_184_51) (fun _ _ _ _ _ => rfl)
theorem ki_184_50 : js_OkG 184 50 (o_is 3 51) := js_St.okG (st_istoren rfl (Nat.le_of_ble_eq_true rfl) d_184_50) (fun _ _ _ _ _ => rfl)
theorem ki_184_49 : js_OkG 184 49 (o_ic 0 50) := js_St.okG (st_iconst rfl d_184_49) (fun _ _ _ _ _ => rfl)
theorem ki_184_76 : js_OkG 184 76 (o_rZ) := og_rZ rfl d_184_76
theorem ki_184_75 : js_OkG 184 75 (o_ic 0 76) := js_St.okG (st_iconst rfl d_184_75) (fun _ _ _ _ _ => rfl)
theorem ki_184_72 : js_OkG 184 72 (o_go 76) := js_St.okG (st_goto (by decide) d_184_72) (fun _ _ _ _ _ => rfl)
theorem ki_184_71 : js_OkG 184 71 (o_ic 1 72) := js_St.okG (st_iconst rfl d_184_71) (fun _ _ _ _ _ => rfl)
theorem ki_184_68 : js_OkG 184 68 (o_cne 75 71) := js_St.okG (st_icne (by decide) d_184_68) (fun _ _ _ _ _ => rfl)
theorem ki_184_66 : js_OkG 184 66 (o_ic (-11) 68) := js_St.okG (st_bipush rfl d_184_66) (fun _ _ _ _ _ => rfl)
set_option maxRecDepth 20000 in
theorem mk_184 : js_mokG 184 := jk_tab (fun _ => js_St.okG st_bad (fun _ _ _ _ _ => rfl)) (show jk_all (js_OkG 184) 0 tb_184 from ⟨⟨ki_184_0, ⟨ki_184_1, ⟨ki_184_2, ⟨kbadG, ⟨kbadG, ⟨ki_184_5, ⟨kbadG, ⟨kbadG, ⟨ki_184_8, ⟨ki_184_9, ⟨kbadG, ⟨kbadG, ⟨ki_184_12, ⟨ki_184_13, ⟨ki_184_14, ⟨ki_184_15, trivial⟩⟩⟩⟩⟩⟩⟩⟩⟩⟩⟩⟩⟩⟩⟩⟩, ⟨⟨kbadG, ⟨ki_184_17, ⟨kbadG, ⟨ki_184_19, ⟨ki_184_20, ⟨kbadG, ⟨kbadG, ⟨ki_184_23, ⟨kbadG, ⟨kbadG, ⟨ki_184_26, ⟨ki_184_27, ⟨kbadG, ⟨kbadG, ⟨ki_184_30, ⟨ki_184_31, trivial⟩⟩⟩⟩⟩⟩⟩⟩⟩⟩⟩⟩⟩⟩⟩⟩, ⟨⟨kbadG, ⟨ki_184_33, ⟨kbadG, ⟨kbadG, ⟨ki_184_36, ⟨ki_184_37, ⟨kbadG, ⟨ki_184_39, ⟨kbadG, ⟨kbadG, ⟨ki_184_42, ⟨kbadG, ⟨kbadG, ⟨ki_184_45, ⟨ki_184_46, ⟨kbadG, trivial⟩⟩⟩⟩⟩⟩⟩⟩⟩⟩⟩⟩⟩⟩⟩⟩, ⟨⟨kbadG, ⟨ki_184_49, ⟨ki_184_50, ⟨ki_184_51, ⟨kbadG, ⟨kbadG, ⟨ki_184_54, ⟨kbadG, ⟨kbadG, ⟨ki_184_57, ⟨ki_184_58, ⟨kbadG, ⟨kbadG, ⟨ki_184_61, ⟨ki_184_62, ⟨ki_184_63, trivial⟩⟩⟩⟩⟩⟩⟩⟩⟩⟩⟩⟩⟩⟩⟩⟩, ⟨⟨kbadG, ⟨kbadG, ⟨ki_184_66, ⟨kbadG, ⟨ki_184_68, ⟨kbadG, ⟨kbadG, ⟨ki_184_71, ⟨ki_184_72, ⟨kbadG, ⟨kbadG, ⟨ki_184_75, ⟨ki_184_76, trivial⟩⟩⟩⟩⟩⟩⟩⟩⟩⟩⟩⟩⟩, trivial⟩⟩⟩⟩⟩)
set_option maxRecDepth 20000 in
theorem d_185_0 : decode (js_b 185) 0 = .ok (.iconst 0, 1) := by decide +kernel
set_option maxRecDepth 20000 in
theorem d_185_1 : decode (js_b 185) 1 = .ok (.istore_n 1, 1) := by decide +kernel
set_option maxRecDepth 20000 in
theorem d_185_2 : decode (js_b 185) 2 = .ok (.iload_n 1, 1) := by decide +kernel
set_option maxRecDepth 20000 in
theorem d_185_3 : decode (js_b 185) 3 = .ok (.bipush 8, 2) := by decide +kernel
set_option maxRecDepth 20000 in
theorem d_185_5 : decode (js_b 185) 5 = .ok (.if_icmp .ge 98, 3) := by decide +kernel
set_option maxRecDepth 20000 in
theorem d_185_8 : decode (js_b 185) 8 = .ok (.ldc_w 354, 3) := by decide +kernel
set_option maxRecDepth 20000 in
theorem d_185_11 : decode (js_b 185) 11 = .ok (.astore_n 2, 1) := by decide +kernel
set_option maxRecDepth 20000 in
theorem d_185_12 : decode (js_b 185) 12 = .ok (.iconst 0, 1) := by decide +kernel
set_option maxRecDepth 20000 in
theorem d_185_13 : decode (js_b 185) 13 = .ok (.istore_n 3, 1) := by decide +kernel
set_option maxRecDepth 20000 in
theorem d_185_14 : decode (js_b 185) 14 = .ok (.iload_n 3, 1) := by decide +kernel
set_option maxRecDepth 20000 in
theorem d_185_15 : decode (js_b 185) 15 = .ok (.bipush 8, 2) := by decide +kernel
set_option maxRecDepth 20000 in
theorem d_185_17 : decode (js_b 185) 17 = .ok (.if_icmp .ge 65, 3) := by decide +kernel
set_option maxRecDepth 20000 in
theorem d_185_20 : decode (js_b 185) 20 = .ok (.aload_n 0, 1) := by decide +kernel
set_option maxRecDepth 20000 in
theorem d_185_21 : decode (js_b 185) 21 = .ok (.iload_n 1, 1) := by decide +kernel
set_option maxRecDepth 20000 in
theorem d_185_22 : decode (js_b 185) 22 = .ok (.iload_n 3, 1) := by decide +kernel
set_option maxRecDepth 20000 in
theorem d_185_23 : decode (js_b 185) 23 = .ok (.invokestatic 175, 3) := by decide +kernel
set_option maxRecDepth 20000 in
theorem d_185_26 : decode (js_b 185) 26 = .ok (.istore 4, 2) := by decide +kernel
set_option maxRecDepth 20000 in
theorem d_185_28 : decode (js_b 185) 28 = .ok (.new 356, 3) := by decide +kernel
set_option maxRecDepth 20000 in
theorem d_185_31 : decode (js_b 185) 31 = .ok (.dup, 1) := by decide +kernel
set_option maxRecDepth 20000 in
theorem d_185_32 : decode (js_b 185) 32 = .ok (.invokespecial 358, 3) := by decide +kernel
set_option maxRecDepth 20000 in
theorem d_185_35 : decode (js_b 185) 35 = .ok (.aload_n 2, 1) := by decide +kernel
set_option maxRecDepth 20000 in
theorem d_185_36 : decode (js_b 185) 36 = .ok (.invokevirtual 359, 3) := by decide +kernel
set_option maxRecDepth 20000 in
theorem d_185_39 : decode (js_b 185) 39 = .ok (.iload 4, 2) := by decide +kernel
set_option maxRecDepth 20000 in
theorem d_185_41 : decode (js_b 185) 41 = .ok (.ifCond .lt 12, 3) := by decide +kernel
set_option maxRecDepth 20000 in
theorem d_185_44 : decode (js_b 185) 44 = .ok (.aload_n 0, 1) := by decide +kernel
set_option maxRecDepth 20000 in
theorem d_185_45 : decode (js_b 185) 45 = .ok (.iload 4, 2) := by decide +kernel
set_option maxRecDepth 20000 in
theorem d_185_47 : decode (js_b 185) 47 = .ok (.invokevirtual 29, 3) := by decide +kernel
set_option maxRecDepth 20000 in
theorem d_185_50 : decode (js_b 185) 50 = .ok (.goto 19, 3) := by decide +kernel
set_option maxRecDepth 20000 in
theorem d_185_53 : decode (js_b 185) 53 = .ok (.aload_n 0, 1) := by decide +kernel
set_option maxRecDepth 20000 in
theorem d_185_54 : decode (js_b 185) 54 = .ok (.iload_n 1, 1) := by decide +kernel
set_option maxRecDepth 20000 in
theorem d_185_55 : decode (js_b 185) 55 = .ok (.iload_n 3, 1) := by decide +kernel
set_option maxRecDepth 20000 in
theorem d_185_56 : decode (js_b 185) 56 = .ok (.invokestatic 256, 3) := by decide +kernel
set_option maxRecDepth 20000 in
theorem d_185_59 : decode (js_b 185) 59 = .ok (.ifCond .eq 8, 3) := by decide +kernel
set_option maxRecDepth 20000 in
theorem d_185_62 : decode (js_b 185) 62 = .ok (.bipush 43, 2) := by decide +kernel
set_option maxRecDepth 20000 in
theorem d_185_64 : decode (js_b 185) 64 = .ok (.goto 5, 3) := by decide +kernel
set_option maxRecDepth 20000 in
theorem d_185_67 : decode (js_b 185) 67 = .ok (.bipush 46, 2) := by decide +kernel
set_option maxRecDepth 20000 in
theorem d_185_69 : decode (js_b 185) 69 = .ok (.invokevirtual 363, 3) := by decide +kernel
set_option maxRecDepth 20000 in
theorem d_185_72 : decode (js_b 185) 72 = .ok (.invokevirtual 366, 3) := by decide +kernel
set_option maxRecDepth 20000 in
theorem d_185_75 : decode (js_b 185) 75 = .ok (.astore_n 2, 1) := by decide +kernel
set_option maxRecDepth 20000 in
theorem d_185_76 : decode (js_b 185) 76 = .ok (.iinc 3 1, 3) := by decide +kernel
set_option maxRecDepth 20000 in
theorem d_185_79 : decode (js_b 185) 79 = .ok (.goto (-65), 3) := by decide +kernel
set_option maxRecDepth 20000 in
theorem d_185_82 : decode (js_b 185) 82 = .ok (.aload_n 0, 1) := by decide +kernel
set_option maxRecDepth 20000 in
theorem d_185_83 : decode (js_b 185) 83 = .ok (.aload_n 0, 1) := by decide +kernel
set_option maxRecDepth 20000 in
theorem d_185_84 : decode (js_b 185) 84 = .ok (.iload_n 1, 1) := by decide +kernel
set_option maxRecDepth 20000 in
theorem d_185_85 : decode (js_b 185) 85 = .ok (.invokestatic 370, 3) := by decide +kernel
set_option maxRecDepth 20000 in
theorem d_185_88 : decode (js_b 185) 88 = .ok (.aload_n 2, 1) := by decide +kernel
set_option maxRecDepth 20000 in
theorem d_185_89 : decode (js_b 185) 89 = .ok (.invokestatic 372, 3) := by decide +kernel
set_option maxRecDepth 20000 in
theorem d_185_92 : decode (js_b 185) 92 = .ok (.ifCond .ne 5, 3) := by decide +kernel
set_option maxRecDepth 20000 in
theorem d_185_95 : decode (js_b 185) 95 = .ok (.iconst 0, 1) := by decide +kernel
set_option maxRecDepth 20000 in
theorem d_185_96 : decode (js_b 185) 96 = .ok (.ireturn, 1) := by decide +kernel
set_option maxRecDepth 20000 in
theorem d_185_97 : decode (js_b 185) 97 = .ok (.iinc 1 1, 3) := by decide +kernel
set_option maxRecDepth 20000 in
theorem d_185_100 : decode (js_b 185) 100 = .ok (.goto (-98), 3) := by decide +kernel
set_option maxRecDepth 20000 in
theorem d_185_103 : decode (js_b 185) 103 = .ok (.iconst 0, 1) := by decide +kernel
set_option maxRecDepth 20000 in
theorem d_185_104 : decode (js_b 185) 104 = .ok (.istore_n 1, 1) := by decide +kernel
set_option maxRecDepth 20000 in
theorem d_185_105 : decode (js_b 185) 105 = .ok (.iload_n 1, 1) := by decide +kernel
set_option maxRecDepth 20000 in
theorem d_185_106 : decode (js_b 185) 106 = .ok (.bipush 30, 2) := by decide +kernel
set_option maxRecDepth 20000 in
theorem d_185_108 : decode (js_b 185) 108 = .ok (.if_icmp .ge 162, 3) := by decide +kernel
set_option maxRecDepth 20000 in
theorem d_185_111 : decode (js_b 185) 111 = .ok (.aload_n 0, 1) := by decide +kernel
set_option maxRecDepth 20000 in
theorem d_185_112 : decode (js_b 185) 112 = .ok (.iload_n 1, 1) := by decide +kernel
set_option maxRecDepth 20000 in
theorem d_185_113 : decode (js_b 185) 113 = .ok (.invokevirtual 225, 3) := by decide +kernel
set_option maxRecDepth 20000 in
theorem d_185_116 : decode (js_b 185) 116 = .ok (.ifCond .eq 148, 3) := by decide +kernel
set_option maxRecDepth 20000 in
theorem d_185_119 : decode (js_b 185) 119 = .ok (.new 356, 3) := by decide +kernel
set_option maxRecDepth 20000 in
theorem d_185_122 : decode (js_b 185) 122 = .ok (.dup, 1) := by decide +kernel
set_option maxRecDepth 20000 in
theorem d_185_123 : decode (js_b 185) 123 = .ok (.invokespecial 358, 3) := by decide +kernel
set_option maxRecDepth 20000 in
theorem d_185_126 : decode (js_b 185) 126 = .ok (.ldc_w 354, 3) := by decide +kernel
set_option maxRecDepth 20000 in
theorem d_185_129 : decode (js_b 185) 129 = .ok (.invokevirtual 359, 3) := by decide +kernel
set_option maxRecDepth 20000 in
theorem d_185_132 : decode (js_b 185) 132 = .ok (.aload_n 0, 1) := by decide +kernel
set_option maxRecDepth 20000 in
theorem d_185_133 : decode (js_b 185) 133 = .ok (.iload_n 1, 1) := by decide +kernel
set_option maxRecDepth 20000 in
theorem d_185_134 : decode (js_b 185) 134 = .ok (.invokevirtual 29, 3) := by decide +kernel
set_option maxRecDepth 20000 in
theorem d_185_137 : decode (js_b 185) 137 = .ok (.invokevirtual 363, 3) := by decide +kernel
set_option maxRecDepth 20000 in
theorem d_185_140 : decode (js_b 185) 140 = .ok (.invokevirtual 366, 3) := by decide +kernel
set_option maxRecDepth 20000 in
theorem d_185_143 : decode (js_b 185) 143 = .ok (.astore_n 2, 1) := by decide +kernel
set_option maxRecDepth 20000 in
theorem d_185_144 : decode (js_b 185) 144 = .ok (.iconst 0, 1) := by decide +kernel
set_option maxRecDepth 20000 in
theorem d_185_145 : decode (js_b 185) 145 = .ok (.istore_n 3, 1) := by decide +kernel
set_option maxRecDepth 20000 in
theorem d_185_146 : decode (js_b 185) 146 = .ok (.iload_n 3, 1) := by decide +kernel
set_option maxRecDepth 20000 in
theorem d_185_147 : decode (js_b 185) 147 = .ok (.iconst 4, 1) := by decide +kernel
set_option maxRecDepth 20000 in
theorem d_185_148 : decode (js_b 185) 148 = .ok (.if_icmp .ge 39, 3) := by decide +kernel
set_option maxRecDepth 20000 in
theorem d_185_151 : decode (js_b 185) 151 = .ok (.new 356, 3) := by decide +kernel
set_option maxRecDepth 20000 in
theorem d_185_154 : decode (js_b 185) 154 = .ok (.dup, 1) := by decide +kernel
set_option maxRecDepth 20000 in
theorem d_185_155 : decode (js_b 185) 155 = .ok (.invokespecial 358, 3) := by decide +kernel
set_option maxRecDepth 20000 in
theorem d_185_158 : decode (js_b 185) 158 = .ok (.aload_n 2, 1) := by decide +kernel
set_option maxRecDepth 20000 in
theorem d_185_159 : decode (js_b 185) 159 = .ok (.invokevirtual 359, 3) := by decide +kernel
set_option maxRecDepth 20000 in
theorem d_185_162 : decode (js_b 185) 162 = .ok (.ldc_w 376, 3) := by decide +kernel
set_option maxRecDepth 20000 in
theorem d_185_165 : decode (js_b 185) 165 = .ok (.aload_n 0, 1) := by decide +kernel
set_option maxRecDepth 20000 in
theorem d_185_166 : decode (js_b 185) 166 = .ok (.iload_n 1, 1) := by decide +kernel
set_option maxRecDepth 20000 in
theorem d_185_167 : decode (js_b 185) 167 = .ok (.iload_n 3, 1) := by decide +kernel
set_option maxRecDepth 20000 in
theorem d_185_168 : decode (js_b 185) 168 = .ok (.invokevirtual 36, 3) := by decide +kernel
set_option maxRecDepth 20000 in
theorem d_185_171 : decode (js_b 185) 171 = .ok (.invokevirtual 141, 3) := by decide +kernel
set_option maxRecDepth 20000 in
theorem d_185_174 : decode (js_b 185) 174 = .ok (.invokevirtual 363, 3) := by decide +kernel
set_option maxRecDepth 20000 in
theorem d_185_177 : decode (js_b 185) 177 = .ok (.invokevirtual 366, 3) := by decide +kernel
set_option maxRecDepth 20000 in
theorem d_185_180 : decode (js_b 185) 180 = .ok (.astore_n 2, 1) := by decide +kernel
set_option maxRecDepth 20000 in
theorem d_185_181 : decode (js_b 185) 181 = .ok (.iinc 3 1, 3) := by decide +kernel
set_option maxRecDepth 20000 in
theorem d_185_184 : decode (js_b 185) 184 = .ok (.goto (-38), 3) := by decide +kernel
set_option maxRecDepth 20000 in
theorem d_185_187 : decode (js_b 185) 187 = .ok (.aload_n 0, 1) := by decide +kernel
set_option maxRecDepth 20000 in
theorem d_185_188 : decode (js_b 185) 188 = .ok (.iload_n 1, 1) := by decide +kernel
set_option maxRecDepth 20000 in
theorem d_185_189 : decode (js_b 185) 189 = .ok (.invokestatic 238, 3) := by decide +kernel
set_option maxRecDepth 20000 in
theorem d_185_192 : decode (js_b 185) 192 = .ok (.istore_n 3, 1) := by decide +kernel
set_option maxRecDepth 20000 in
theorem d_185_193 : decode (js_b 185) 193 = .ok (.aload_n 0, 1) := by decide +kernel
set_option maxRecDepth 20000 in
theorem d_185_194 : decode (js_b 185) 194 = .ok (.aload_n 0, 1) := by decide +kernel
set_option maxRecDepth 20000 in
theorem d_185_195 : decode (js_b 185) 195 = .ok (.iload_n 1, 1) := by decide +kernel
set_option maxRecDepth 20000 in
theorem d_185_196 : decode (js_b 185) 196 = .ok (.invokestatic 378, 3) := by decide +kernel
set_option maxRecDepth 20000 in
theorem d_185_199 : decode (js_b 185) 199 = .ok (.new 356, 3) := by decide +kernel
set_option maxRecDepth 20000 in
theorem d_185_202 : decode (js_b 185) 202 = .ok (.dup, 1) := by decide +kernel
set_option maxRecDepth 20000 in
theorem d_185_203 : decode (js_b 185) 203 = .ok (.invokespecial 358, 3) := by decide +kernel
set_option maxRecDepth 20000 in
theorem d_185_206 : decode (js_b 185) 206 = .ok (.aload_n 2, 1) := by decide +kernel
set_option maxRecDepth 20000 in
theorem d_185_207 : decode (js_b 185) 207 = .ok (.invokevirtual 359, 3) := by decide +kernel
set_option maxRecDepth 20000 in
theorem d_185_210 : decode (js_b 185) 210 = .ok (.iload_n 3, 1) := by decide +kernel
set_option maxRecDepth 20000 in
theorem d_185_211 : decode (js_b 185) 211 = .ok (.ifCond .ge 9, 3) := by decide +kernel
set_option maxRecDepth 20000 in
theorem d_185_214 : decode (js_b 185) 214 = .ok (.ldc_w 354, 3) := by decide +kernel
set_option maxRecDepth 20000 in
theorem d_185_217 : decode (js_b 185) 217 = .ok (.goto 33, 3) := by decide +kernel
set_option maxRecDepth 20000 in
theorem d_185_220 : decode (js_b 185) 220 = .ok (.new 356, 3) := by decide +kernel
set_option maxRecDepth 20000 in
theorem d_185_223 : decode (js_b 185) 223 = .ok (.dup, 1) := by decide +kernel
set_option maxRecDepth 20000 in
theorem d_185_224 : decode (js_b 185) 224 = .ok (.invokespecial 358, 3) := by decide +kernel
set_option maxRecDepth 20000 in
theorem d_185_227 : decode (js_b 185) 227 = .ok (.ldc_w 381, 3) := by decide +kernel
set_option maxRecDepth 20000 in
theorem d_185_230 : decode (js_b 185) 230 = .ok (.invokevirtual 359, 3) := by decide +kernel
set_option maxRecDepth 20000 in
theorem d_185_233 : decode (js_b 185) 233 = .ok (.iload_n 3, 1) := by decide +kernel
set_option maxRecDepth 20000 in
theorem d_185_234 : decode (js_b 185) 234 = .ok (.bipush 8, 2) := by decide +kernel
set_option maxRecDepth 20000 in
theorem d_185_236 : decode (js_b 185) 236 = .ok (.idiv, 1) := by decide +kernel
set_option maxRecDepth 20000 in
theorem d_185_237 : decode (js_b 185) 237 = .ok (.invokevirtual 383, 3) := by decide +kernel
set_option maxRecDepth 20000 in
theorem d_185_240 : decode (js_b 185) 240 = .ok (.iload_n 3, 1) := by decide +kernel
set_option maxRecDepth 20000 in
theorem d_185_241 : decode (js_b 185) 241 = .ok (.bipush 8, 2) := by decide +kernel
set_option maxRecDepth 20000 in
theorem d_185_243 : decode (js_b 185) 243 = .ok (.irem, 1) := by decide +kernel
set_option maxRecDepth 20000 in
theorem d_185_244 : decode (js_b 185) 244 = .ok (.invokevirtual 383, 3) := by decide +kernel
set_option maxRecDepth 20000 in
theorem d_185_247 : decode (js_b 185) 247 = .ok (.invokevirtual 366, 3) := by decide +kernel
set_option maxRecDepth 20000 in
theorem d_185_250 : decode (js_b 185) 250 = .ok (.invokevirtual 359, 3) := by decide +kernel
set_option maxRecDepth 20000 in
theorem d_185_253 : decode (js_b 185) 253 = .ok (.invokevirtual 366, 3) := by decide +kernel
set_option maxRecDepth 20000 in
theorem d_185_256 : decode (js_b 185) 256 = .ok (.invokestatic 372, 3) := by decide +kernel
set_option maxRecDepth 20000 in
theorem d_185_259 : decode (js_b 185) 259 = .ok (.ifCond .ne 5, 3) := by decide +kernel
set_option maxRecDepth 20000 in
theorem d_185_262 : decode (js_b 185) 262 = .ok (.iconst 0, 1) := by decide +kernel
set_option maxRecDepth 20000 in
theorem d_185_263 : decode (js_b 185) 263 = .ok (.ireturn, 1) := by decide +kernel
set_option maxRecDepth 20000 in
theorem d_185_264 : decode (js_b 185) 264 = .ok (.iinc 1 1, 3) := by decide +kernel
set_option maxRecDepth 20000 in
theorem d_185_267 : decode (js_b 185) 267 = .ok (.goto (-162), 3) := by decide +kernel
set_option maxRecDepth 20000 in
theorem d_185_270 : decode (js_b 185) 270 = .ok (.aload_n 0, 1) := by decide +kernel
set_option maxRecDepth 20000 in
theorem d_185_271 : decode (js_b 185) 271 = .ok (.bipush 8, 2) := by decide +kernel
set_option maxRecDepth 20000 in
theorem d_185_273 : decode (js_b 185) 273 = .ok (.invokestatic 370, 3) := by decide +kernel
set_option maxRecDepth 20000 in
theorem d_185_276 : decode (js_b 185) 276 = .ok (.bipush (-11), 2) := by decide +kernel
set_option maxRecDepth 20000 in
theorem d_185_278 : decode (js_b 185) 278 = .ok (.if_icmp .ne 27, 3) := by decide +kernel
set_option maxRecDepth 20000 in
theorem d_185_281 : decode (js_b 185) 281 = .ok (.aload_n 0, 1) := by decide +kernel
set_option maxRecDepth 20000 in
theorem d_185_282 : decode (js_b 185) 282 = .ok (.iconst (-1), 1) := by decide +kernel
set_option maxRecDepth 20000 in
theorem d_185_283 : decode (js_b 185) 283 = .ok (.invokestatic 370, 3) := by decide +kernel
set_option maxRecDepth 20000 in
theorem d_185_286 : decode (js_b 185) 286 = .ok (.bipush (-11), 2) := by decide +kernel
set_option maxRecDepth 20000 in
theorem d_185_288 : decode (js_b 185) 288 = .ok (.if_icmp .ne 17, 3) := by decide +kernel
set_option maxRecDepth 20000 in
theorem d_185_291 : decode (js_b 185) 291 = .ok (.aload_n 0, 1) := by decide +kernel
set_option maxRecDepth 20000 in
theorem d_185_292 : decode (js_b 185) 292 = .ok (.iconst (-1), 1) := by decide +kernel
set_option maxRecDepth 20000 in
theorem d_185_293 : decode (js_b 185) 293 = .ok (.invokestatic 378, 3) := by decide +kernel
set_option maxRecDepth 20000 in
theorem d_185_296 : decode (js_b 185) 296 = .ok (.bipush (-13), 2) := by decide +kernel
set_option maxRecDepth 20000 in
theorem d_185_298 : decode (js_b 185) 298 = .ok (.if_icmp .ne 7, 3) := by decide +kernel
set_option maxRecDepth 20000 in
theorem d_185_301 : decode (js_b 185) 301 = .ok (.iconst 1, 1) := by decide +kernel
set_option maxRecDepth 20000 in
theorem d_185_302 : decode (js_b 185) 302 = .ok (.goto 4, 3) := by decide +kernel
set_option maxRecDepth 20000 in
theorem d_185_305 : decode (js_b 185) 305 = .ok (.iconst 0, 1) := by decide +kernel
set_option maxRecDepth 20000 in
theorem d_185_306 : decode (js_b 185) 306 = .ok (.ireturn, 1) := by decide +kernel
theorem ki_185_15 : js_OkG 185 15 (o_ic 8 17) := js_St.okG (st_bipush rfl d_185_15) (fun _ _ _ _ _ => rfl)
theorem ki_185_14 : js_OkG 185 14 (o_il 3 15) := js_St.okG (st_iloadn rfl d_185_14) (fun _ _ _ _ _ => rfl)
theorem ki_185_13 : js_OkG 185 13 (o_is 3 14) := js_St.okG (st_istoren rfl (Nat.le_of_ble_eq_true rfl) d_185_13) (fun _ _ _ _ _ => rfl)
theorem ki_185_12 : js_OkG 185 12 (o_ic 0 13) := js_St.okG (st_iconst rfl d_185_12) (fun _ _ _ _ _ => rfl)
theorem ki_185_11 : js_OkG 185 11 (o_as 2 12) := js_St.okG (st_astoren rfl (Nat.le_of_ble_eq_true rfl) d_185_11) (fun _ _ _ _ _ => rfl)
theorem ki_185_8 : js_OkG 185 8 (o_rc 30 11) := js_St.okG (st_ldcs (tx := "") (by decide +kernel) d_185_8) (fun _ _ _ _ _ => rfl)
theorem ki_185_5 : js_OkG 185 5 (o_cge 103 8) := js_St.okG (st_icge (by decide) d_185_5) (fun _ _ _ _ _ => rfl)
theorem ki_185_3 : js_OkG 185 3 (o_ic 8 5) := js_St.okG (st_bipush rfl d_185_3) (fun _ _ _ _ _ => rfl)
theorem ki_185_2 : js_OkG 185 2 (o_il 1 3) := js_St.okG (st_iloadn rfl d_185_2) (fun _ _ _ _ _ => rfl)
theorem ki_185_1 : js_OkG 185 1 (o_is 1 2) := js_St.okG (st_istoren rfl (Nat.le_of_ble_eq_true rfl) d_185_1) (fun _ _ _ _ _ => rfl)
theorem ki_185_0 : js_OkG 185 0 (o_ic 0 1) := js_St.okG (st_iconst rfl d_185_0) (fun _ _ _ _ _ => rfl)
theorem ki_185_31 : js_OkG 185 31 (o_dup 32) := js_St.okG (st_dup d_185_31) (fun _ _ _ _ _ => rfl)
theorem ki_185_28 : js_OkG 185 28 (o_new 8 [.null, .int 0, .int 0, .int 0] 31) := js_St.okG (st_new js_c8 rfl (by decide +kernel) (fun _ => rfl) kw_1005 kw_1006 kw_50 d_185_28) (fun _ _ _ _ _ => rfl)
theorem ki_185_26 : js_OkG 185 26 (o_is 4 28) := js_St.okG (st_istore (Nat.le_of_ble_eq_true rfl) d_185_26) (fun _ _ _ _ _ => rfl)
theorem ki_185_23 : js_OkG 185 23 (o_cI 147 3 0 26) := og_sIW rfl rfl kB_185_147 rfl kw_738 kw_739 d_185_23
theorem ki_185_22 : js_OkG 185 22 (o_il 3 23) := js_St.okG (st_iloadn rfl d_185_22) (fun _ _ _ _ _ => rfl)
theorem ki_185_21 : js_OkG 185 21 (o_il 1 22) := js_St.okG (st_iloadn rfl d_185_21) (fun _ _ _ _ _ => rfl)
theorem ki_185_20 : js_OkG 185 20 (o_al 0 21) := js_St.okG (st_aloadn rfl d_185_20) (fun _ _ _ _ _ => rfl)
theorem ki_185_17 : js_OkG 185 17 (o_cge 82 20) := js_St.okG (st_icge (by decide) d_185_17) (fun _ _ _ _ _ => rfl)
theorem ki_185_47 : js_OkG 185 47 (o_cI 66 2 8 50) := og_cI (site_V kk_185_66 (by decide) kw_632 kw_633 kw_634 (fun t ht => by cases ht; exact Or.inl ⟨by decide, _, rfl, rfl⟩) d_185_47) rfl rfl
theorem ki_185_45 : js_OkG 185 45 (o_il 4 47) := js_St.okG (st_iload d_185_45) (fun _ _ _ _ _ => rfl)
theorem ki_185_44 : js_OkG 185 44 (o_al 0 45) := js_St.okG (st_aloadn rfl d_185_44) (fun _ _ _ _ _ => rfl)
theorem ki_185_41 : js_OkG 185 41 (o_lt 53 44) := js_St.okG (st_iflt (by decide) d_185_41) (fun _ _ _ _ _ => rfl)
theorem ki_185_39 : js_OkG 185 39 (o_il 4 41) := js_St.okG (st_iload d_185_39) (fun _ _ _ _ _ => rfl)
theorem ki_185_36 : js_OkG 185 36 (o_cA 257 2 9 39) := og_cA (site_V kk_185_257 (by decide) kw_1036 kw_1037 kw_1038 (fun t ht => by cases ht; exact Or.inl ⟨by decide, _, rfl, rfl⟩) d_185_36) rfl rfl
theorem ki_185_35 : js_OkG 185 35 (o_al 2 36) := js_St.okG (st_aloadn rfl d_185_35) (fun _ _ _ _ _ => rfl)
theorem ki_185_32 : js_OkG 185 32 (o_cV 255 1 9 35) := og_cV (site_I kk_185_255 (by decide) rfl rfl kw_1007 kw_1008 d_185_32) rfl rfl
theorem ki_185_62 : js_OkG 185 62 (o_ic 43 64) := js_St.okG (st_bipush rfl d_185_62) (fun _ _ _ _ _ => rfl)
theorem ki_185_59 : js_OkG 185 59 (o_eq 67 62) := js_St.okG (st_ifeq (by decide) d_185_59) (fun _ _ _ _ _ => rfl)
theorem ki_185_56 : js_OkG 185 56 (o_cI 170 3 0 59) := og_sIP rfl rfl kB_185_170 rfl kw_772 kw_773 d_185_56
theorem ki_185_55 : js_OkG 185 55 (o_il 3 56) := js_St.okG (st_iloadn rfl d_185_55) (fun _ _ _ _ _ => rfl)
theorem ki_185_54 : js_OkG 185 54 (o_il 1 55) := js_St.okG (st_iloadn rfl d_185_54) (fun _ _ _ _ _ => rfl)
theorem ki_185_53 : js_OkG 185 53 (o_al 0 54) := js_St.okG (st_aloadn rfl d_185_53) (fun _ _ _ _ _ => rfl)
theorem ki_185_50 : js_OkG 185 50 (o_go 69) := js_St.okG (st_goto (by decide) d_185_50) (fun _ _ _ _ _ => rfl)
theorem ki_185_79 : js_OkG 185 79 (o_go 14) := js_St.okG (st_goto (by decide) d_185_79) (fun _ _ _ _ _ => rfl)
theorem ki_185_76 : js_OkG 185 76 (o_inc 3 1 79) := js_St.okG (st_iinc rfl (Nat.le_of_ble_eq_true rfl) d_185_76) (fun _ _ _ _ _ => rfl)
theorem ki_185_75 : js_OkG 185 75 (o_as 2 76) := js_St.okG (st_astoren rfl (Nat.le_of_ble_eq_true rfl) d_185_75) (fun _ _ _ _ _ => rfl)
theorem ki_185_72 : js_OkG 185 72 (o_cA 260 1 9 75) := og_cA (site_V kk_185_260 (by decide) kw_1172 kw_1173 kw_1174 (fun t ht => by cases ht; exact Or.inl ⟨by decide, _, rfl, rfl⟩) d_185_72) rfl rfl
theorem ki_185_69 : js_OkG 185 69 (o_cA 258 2 9 72) := og_cA (site_V kk_185_258 (by decide) kw_1150 kw_1151 kw_1152 (fun t ht => by cases ht; exact Or.inl ⟨by decide, _, rfl, rfl⟩) d_185_69) rfl rfl
theorem ki_185_67 : js_OkG 185 67 (o_ic 46 69) := js_St.okG (st_bipush rfl d_185_67) (fun _ _ _ _ _ => rfl)
theorem ki_185_64 : js_OkG 185 64 (o_go 69) := js_St.okG (st_goto (by decide) d_185_64) (fun _ _ _ _ _ => rfl)
theorem ki_185_95 : js_OkG 185 95 (o_ic 0 96) := js_St.okG (st_iconst rfl d_185_95) (fun _ _ _ _ _ => rfl)
theorem ki_185_92 : js_OkG 185 92 (o_ne 97 95) := js_St.okG (st_ifne (by decide) d_185_92) (fun _ _ _ _ _ => rfl)
theorem ki_185_89 : js_OkG 185 89 (o_cI 184 3 0 92) := og_sIP rfl rfl kB_185_184 rfl kw_1270 kw_1271 d_185_89
theorem ki_185_88 : js_OkG 185 88 (o_al 2 89) := js_St.okG (st_aloadn rfl d_185_88) (fun _ _ _ _ _ => rfl)
theorem ki_185_85 : js_OkG 185 85 (o_cI 157 2 0 88) := og_sIW rfl rfl kB_185_157 rfl kw_1259 kw_1260 d_185_85
theorem ki_185_84 : js_OkG 185 84 (o_il 1 85) := js_St.okG (st_iloadn rfl d_185_84) (fun _ _ _ _ _ => rfl)
theorem ki_185_83 : js_OkG 185 83 (o_al 0 84) := js_St.okG (st_aloadn rfl d_185_83) (fun _ _ _ _ _ => rfl)
theorem ki_185_82 : js_OkG 185 82 (o_al 0 83) := js_St.okG (st_aloadn rfl d_185_82) (fun _ _ _ _ _ => rfl)
theorem ki_185_111 : js_OkG 185 111 (o_al 0 112) := js_St.okG (st_aloadn rfl d_185_111) (fun _ _ _ _ _ => rfl)
theorem ki_185_108 : js_OkG 185 108 (o_cge 270 111) := js_St.okG (st_icge (by decide) d_185_108) (fun _ _ _ _ _ => rfl)
theorem ki_185_106 : js_OkG 185 106 (o_ic 30 108) := js_St.okG (st_bipush rfl d_185_106) (fun _ _ _ _ _ => rfl)
theorem ki_185_105 : js_OkG 185 105 (o_il 1 106) := js_St.okG (st_iloadn rfl d_185_105) (fun _ _ _ _ _ => rfl)
theorem ki_185_104 : js_OkG 185 104 (o_is 1 105) := js_St.okG (st_istoren rfl (Nat.le_of_ble_eq_true rfl) d_185_104) (fun _ _ _ _ _ => rfl)
theorem ki_185_103 : js_OkG 185 103 (o_ic 0 104) := js_St.okG (st_iconst rfl d_185_103) (fun _ _ _ _ _ => rfl)
theorem ki_185_100 : js_OkG 185 100 (o_go 2) := js_St.okG (st_goto (by decide) d_185_100) (fun _ _ _ _ _ => rfl)
theorem ki_185_97 : js_OkG 185 97 (o_inc 1 1 100) := js_St.okG (st_iinc rfl (Nat.le_of_ble_eq_true rfl) d_185_97) (fun _ _ _ _ _ => rfl)
theorem ki_185_96 : js_OkG 185 96 (o_rZ) := og_rZ rfl d_185_96
theorem ki_185_126 : js_OkG 185 126 (o_rc 30 129) := js_St.okG (st_ldcs (tx := "") (by decide +kernel) d_185_126) (fun _ _ _ _ _ => rfl)
theorem ki_185_123 : js_OkG 185 123 (o_cV 255 1 9 126) := og_cV (site_I kk_185_255 (by decide) rfl rfl kw_1007 kw_1008 d_185_123) rfl rfl
theorem ki_185_122 : js_OkG 185 122 (o_dup 123) := js_St.okG (st_dup d_185_122) (fun _ _ _ _ _ => rfl)
theorem ki_185_119 : js_OkG 185 119 (o_new 8 [.null, .int 0, .int 0, .int 0] 122) := js_St.okG (st_new js_c8 rfl (by decide +kernel) (fun _ => rfl) kw_1005 kw_1006 kw_50 d_185_119) (fun _ _ _ _ _ => rfl)
theorem ki_185_116 : js_OkG 185 116 (o_eq 264 119) := js_St.okG (st_ifeq (by decide) d_185_116) (fun _ _ _ _ _ => rfl)
theorem ki_185_113 : js_OkG 185 113 (o_cI 65 2 8 116) := og_cI (site_V kk_185_65 (by decide) kw_624 kw_625 kw_626 (fun t ht => by cases ht; exact Or.inl ⟨by decide, _, rfl, rfl⟩) d_185_113) rfl rfl
theorem ki_185_112 : js_OkG 185 112 (o_il 1 113) := js_St.okG (st_iloadn rfl d_185_112) (fun _ _ _ _ _ => rfl)
theorem ki_185_143 : js_OkG 185 143 (o_as 2 144) := js_St.okG (st_astoren rfl (Nat.le_of_ble_eq_true rfl) d_185_143) (fun _ _ _ _ _ => rfl)
theorem ki_185_140 : js_OkG 185 140 (o_cA 260 1 9 143) := og_cA (site_V kk_185_260 (by decide) kw_1172 kw_1173 kw_1174 (fun t ht => by cases ht; exact Or.inl ⟨by decide, _, rfl, rfl⟩) d_185_140) rfl rfl
theorem ki_185_137 : js_OkG 185 137 (o_cA 258 2 9 140) := og_cA (site_V kk_185_258 (by decide) kw_1150 kw_1151 kw_1152 (fun t ht => by cases ht; exact Or.inl ⟨by decide, _, rfl, rfl⟩) d_185_137) rfl rfl
theorem ki_185_134 : js_OkG 185 134 (o_cI 66 2 8 137) := og_cI (site_V kk_185_66 (by decide) kw_632 kw_633 kw_634 (fun t ht => by cases ht; exact Or.inl ⟨by decide, _, rfl, rfl⟩) d_185_134) rfl rfl
theorem ki_185_133 : js_OkG 185 133 (o_il 1 134) := js_St.okG (st_iloadn rfl d_185_133) (fun _ _ _ _ _ => rfl)
theorem ki_185_132 : js_OkG 185 132 (o_al 0 133) := js_St.okG (st_aloadn rfl d_185_132) (fun _ _ _ _ _ => rfl)
theorem ki_185_129 : js_OkG 185 129 (o_cA 257 2 9 132) := og_cA (site_V kk_185_257 (by decide) kw_1036 kw_1037 kw_1038 (fun t ht => by cases ht; exact Or.inl ⟨by decide, _, rfl, rfl⟩) d_185_129) rfl rfl
theorem ki_185_159 : js_OkG 185 159 (o_cA 257 2 9 162) := og_cA (site_V kk_185_257 (by decide) kw_1036 kw_1037 kw_1038 (fun t ht => by cases ht; exact Or.inl ⟨by decide, _, rfl, rfl⟩) d_185_159) rfl rfl
theorem ki_185_158 : js_OkG 185 158 (o_al 2 159) := js_St.okG (st_aloadn rfl d_185_158) (fun _ _ _ _ _ => rfl)
theorem ki_185_155 : js_OkG 185 155 (o_cV 255 1 9 158) := og_cV (site_I kk_185_255 (by decide) rfl rfl kw_1007 kw_1008 d_185_155) rfl rfl
theorem ki_185_154 : js_OkG 185 154 (o_dup 155) := js_St.okG (st_dup d_185_154) (fun _ _ _ _ _ => rfl)
theorem ki_185_151 : js_OkG 185 151 (o_new 8 [.null, .int 0, .int 0, .int 0] 154) := js_St.okG (st_new js_c8 rfl (by decide +kernel) (fun _ => rfl) kw_1005 kw_1006 kw_50 d_185_151) (fun _ _ _ _ _ => rfl)
theorem ki_185_148 : js_OkG 185 148 (o_cge 187 151) := js_St.okG (st_icge (by decide) d_185_148) (fun _ _ _ _ _ => rfl)
theorem ki_185_147 : js_OkG 185 147 (o_ic 4 148) := js_St.okG (st_iconst rfl d_185_147) (fun _ _ _ _ _ => rfl)
theorem ki_185_146 : js_OkG 185 146 (o_il 3 147) := js_St.okG (st_iloadn rfl d_185_146) (fun _ _ _ _ _ => rfl)
theorem ki_185_145 : js_OkG 185 145 (o_is 3 146) := js_St.okG (st_istoren rfl (Nat.le_of_ble_eq_true rfl) d_185_145) (fun _ _ _ _ _ => rfl)
theorem ki_185_144 : js_OkG 185 144 (o_ic 0 145) := js_St.okG (st_iconst rfl d_185_144) (fun _ _ _ _ _ => rfl)
theorem ki_185_174 : js_OkG 185 174 (o_cA 258 2 9 177) := og_cA (site_V kk_185_258 (by decide) kw_1150 kw_1151 kw_1152 (fun t ht => by cases ht; exact Or.inl ⟨by decide, _, rfl, rfl⟩) d_185_174) rfl rfl
theorem ki_185_171 : js_OkG 185 171 (o_cI 249 2 21 174) := og_cI (site_V kk_185_249 (by decide) kw_1282 kw_1283 kw_1284 (fun t ht => by cases ht; exact Or.inr (Or.inl ⟨rfl, rfl⟩)) d_185_171) rfl rfl
theorem ki_185_168 : js_OkG 185 168 (o_cI 68 3 8 171) := og_cI (site_V kk_185_68 (by decide) kw_658 kw_659 kw_660 (fun t ht => by cases ht; exact Or.inl ⟨by decide, _, rfl, rfl⟩) d_185_168) rfl rfl
theorem ki_185_167 : js_OkG 185 167 (o_il 3 168) := js_St.okG (st_iloadn rfl d_185_167) (fun _ _ _ _ _ => rfl)
theorem ki_185_166 : js_OkG 185 166 (o_il 1 167) := js_St.okG (st_iloadn rfl d_185_166) (fun _ _ _ _ _ => rfl)
theorem ki_185_165 : js_OkG 185 165 (o_al 0 166) := js_St.okG (st_aloadn rfl d_185_165) (fun _ _ _ _ _ => rfl)
theorem ki_185_162 : js_OkG 185 162 (o_rc 31 165) := js_St.okG (st_ldcs (tx := "0123456789abcdef") (by decide +kernel) d_185_162) (fun _ _ _ _ _ => rfl)
theorem ki_185_189 : js_OkG 185 189 (o_cI 140 2 0 192) := og_sIW rfl rfl kB_185_140 rfl kw_679 kw_680 d_185_189
theorem ki_185_188 : js_OkG 185 188 (o_il 1 189) := js_St.okG (st_iloadn rfl d_185_188) (fun _ _ _ _ _ => rfl)
theorem ki_185_187 : js_OkG 185 187 (o_al 0 188) := js_St.okG (st_aloadn rfl d_185_187) (fun _ _ _ _ _ => rfl)
theorem ki_185_184 : js_OkG 185 184 (o_go 146) := js_St.okG (st_goto (by decide) d_185_184) (fun _ _ _ _ _ => rfl)
theorem ki_185_181 : js_OkG 185 181 (o_inc 3 1 184) := js_St.okG (st_iinc rfl (Nat.le_of_ble_eq_true rfl) d_185_181) (fun _ _ _ _ _ => rfl)
theorem ki_185_180 : js_OkG 185 180 (o_as 2 181) := js_St.okG (st_astoren rfl (Nat.le_of_ble_eq_true rfl) d_185_180) (fun _ _ _ _ _ => rfl)
theorem ki_185_177 : js_OkG 185 177 (o_cA 260 1 9 180) := og_cA (site_V kk_185_260 (by decide) kw_1172 kw_1173 kw_1174 (fun t ht => by cases ht; exact Or.inl ⟨by decide, _, rfl, rfl⟩) d_185_177) rfl rfl
theorem ki_185_207 : js_OkG 185 207 (o_cA 257 2 9 210) := og_cA (site_V kk_185_257 (by decide) kw_1036 kw_1037 kw_1038 (fun t ht => by cases ht; exact Or.inl ⟨by decide, _, rfl, rfl⟩) d_185_207) rfl rfl
theorem ki_185_206 : js_OkG 185 206 (o_al 2 207) := js_St.okG (st_aloadn rfl d_185_206) (fun _ _ _ _ _ => rfl)
theorem ki_185_203 : js_OkG 185 203 (o_cV 255 1 9 206) := og_cV (site_I kk_185_255 (by decide) rfl rfl kw_1007 kw_1008 d_185_203) rfl rfl
theorem ki_185_202 : js_OkG 185 202 (o_dup 203) := js_St.okG (st_dup d_185_202) (fun _ _ _ _ _ => rfl)
theorem ki_185_199 : js_OkG 185 199 (o_new 8 [.null, .int 0, .int 0, .int 0] 202) := js_St.okG (st_new js_c8 rfl (by decide +kernel) (fun _ => rfl) kw_1005 kw_1006 kw_50 d_185_199) (fun _ _ _ _ _ => rfl)
theorem ki_185_196 : js_OkG 185 196 (o_cI 158 2 0 199) := og_sIW rfl rfl kB_185_158 rfl kw_1298 kw_1299 d_185_196
theorem ki_185_195 : js_OkG 185 195 (o_il 1 196) := js_St.okG (st_iloadn rfl d_185_195) (fun _ _ _ _ _ => rfl)
theorem ki_185_194 : js_OkG 185 194 (o_al 0 195) := js_St.okG (st_aloadn rfl d_185_194) (fun _ _ _ _ _ => rfl)
theorem ki_185_193 : js_OkG 185 193 (o_al 0 194) := js_St.okG (st_aloadn rfl d_185_193) (fun _ _ _ _ _ => rfl)
theorem ki_185_192 : js_OkG 185 192 (o_is 3 193) := js_St.okG (st_istoren rfl (Nat.le_of_ble_eq_true rfl) d_185_192) (fun _ _ _ _ _ => rfl)
theorem ki_185_223 : js_OkG 185 223 (o_dup 224) := js_St.okG (st_dup d_185_223) (fun _ _ _ _ _ => rfl)
theorem ki_185_220 : js_OkG 185 220 (o_new 8 [.null, .int 0, .int 0, .int 0] 223) := js_St.okG (st_new js_c8 rfl (by decide +kernel) (fun _ => rfl) kw_1005 kw_1006 kw_50 d_185_220) (fun _ _ _ _ _ => rfl)
theorem ki_185_217 : js_OkG 185 217 (o_go 250) := js_St.okG (st_goto (by decide) d_185_217) (fun _ _ _ _ _ => rfl)
theorem ki_185_214 : js_OkG 185 214 (o_rc 30 217) := js_St.okG (st_ldcs (tx := "") (by decide +kernel) d_185_214) (fun _ _ _ _ _ => rfl)
theorem ki_185_211 : js_OkG 185 211 (o_ge 220 214) := js_St.okG (st_ifge (by decide) d_185_211) (fun _ _ _ _ _ => rfl)
theorem ki_185_210 : js_OkG 185 210 (o_il 3 211) := js_St.okG (st_iloadn rfl d_185_210) (fun _ _ _ _ _ => rfl)
theorem ki_185_237 : js_OkG 185 237 (o_cA 259 2 9 240) := og_cA (site_V kk_185_259 (by decide) kw_1309 kw_1211 kw_1212 (fun t ht => by cases ht; exact Or.inl ⟨by decide, _, rfl, rfl⟩) d_185_237) rfl rfl
theorem ki_185_236 : js_OkG 185 236 (o_div 237) := js_St.okG (st_idiv d_185_236) (fun _ _ _ _ _ => rfl)
theorem ki_185_234 : js_OkG 185 234 (o_ic 8 236) := js_St.okG (st_bipush rfl d_185_234) (fun _ _ _ _ _ => rfl)
theorem ki_185_233 : js_OkG 185 233 (o_il 3 234) := js_St.okG (st_iloadn rfl d_185_233) (fun _ _ _ _ _ => rfl)
theorem ki_185_230 : js_OkG 185 230 (o_cA 257 2 9 233) := og_cA (site_V kk_185_257 (by decide) kw_1036 kw_1037 kw_1038 (fun t ht => by cases ht; exact Or.inl ⟨by decide, _, rfl, rfl⟩) d_185_230) rfl rfl
theorem ki_185_227 : js_OkG 185 227 (o_rc 32 230) := js_St.okG (st_ldcs (tx := "@") (by decide +kernel) d_185_227) (fun _ _ _ _ _ => rfl)
theorem ki_185_224 : js_OkG 185 224 (o_cV 255 1 9 227) := og_cV (site_I kk_185_255 (by decide) rfl rfl kw_1007 kw_1008 d_185_224) rfl rfl
theorem ki_185_253 : js_OkG 185 253 (o_cA 260 1 9 256) := og_cA (site_V kk_185_260 (by decide) kw_1172 kw_1173 kw_1174 (fun t ht => by cases ht; exact Or.inl ⟨by decide, _, rfl, rfl⟩) d_185_253) rfl rfl
theorem ki_185_250 : js_OkG 185 250 (o_cA 257 2 9 253) := og_cA (site_V kk_185_257 (by decide) kw_1036 kw_1037 kw_1038 (fun t ht => by cases ht; exact Or.inl ⟨by decide, _, rfl, rfl⟩) d_185_250) rfl rfl
theorem ki_185_247 : js_OkG 185 247 (o_cA 260 1 9 250) := og_cA (site_V kk_185_260 (by decide) kw_1172 kw_1173 kw_1174 (fun t ht => by cases ht; exact Or.inl ⟨by decide, _, rfl, rfl⟩) d_185_247) rfl rfl
theorem ki_185_244 : js_OkG 185 244 (o_cA 259 2 9 247) := og_cA (site_V kk_185_259 (by decide) kw_1309 kw_1211 kw_1212 (fun t ht => by cases ht; exact Or.inl ⟨by decide, _, rfl, rfl⟩) d_185_244) rfl rfl
theorem ki_185_243 : js_OkG 185 243 (o_rem 244) := js_St.okG (st_irem d_185_243) (fun _ _ _ _ _ => rfl)
theorem ki_185_241 : js_OkG 185 241 (o_ic 8 243) := js_St.okG (st_bipush rfl d_185_241) (fun _ _ _ _ _ => rfl)
theorem ki_185_240 : js_OkG 185 240 (o_il 3 241) := js_St.okG (st_iloadn rfl d_185_240) (fun _ _ _ _ _ => rfl)
theorem ki_185_271 : js_OkG 185 271 (o_ic 8 273) := js_St.okG (st_bipush rfl d_185_271) (fun _ _ _ _ _ => rfl)
theorem ki_185_270 : js_OkG 185 270 (o_al 0 271) := js_St.okG (st_aloadn rfl d_185_270) (fun _ _ _ _ _ => rfl)
theorem ki_185_267 : js_OkG 185 267 (o_go 105) := js_St.okG (st_goto (by decide) d_185_267) (fun _ _ _ _ _ => rfl)
theorem ki_185_264 : js_OkG 185 264 (o_inc 1 1 267) := js_St.okG (st_iinc rfl (Nat.le_of_ble_eq_true rfl) d_185_264) (fun _ _ _ _ _ => rfl)
theorem ki_185_263 : js_OkG 185 263 (o_rZ) := og_rZ rfl d_185_263
theorem ki_185_262 : js_OkG 185 262 (o_ic 0 263) := js_St.okG (st_iconst rfl d_185_262) (fun _ _ _ _ _ => rfl)
theorem ki_185_259 : js_OkG 185 259 (o_ne 264 262) := js_St.okG (st_ifne (by decide) d_185_259) (fun _ _ _ _ _ => rfl)
theorem ki_185_256 : js_OkG 185 256 (o_cI 184 3 0 259) := og_sIP rfl rfl kB_185_184 rfl kw_1270 kw_1271 d_185_256
theorem ki_185_286 : js_OkG 185 286 (o_ic (-11) 288) := js_St.okG (st_bipush rfl d_185_286) (fun _ _ _ _ _ => rfl)
theorem ki_185_283 : js_OkG 185 283 (o_cI 157 2 0 286) := og_sIW rfl rfl kB_185_157 rfl kw_1259 kw_1260 d_185_283
theorem ki_185_282 : js_OkG 185 282 (o_ic (-1) 283) := js_St.okG (st_iconst rfl d_185_282) (fun _ _ _ _ _ => rfl)
theorem ki_185_281 : js_OkG 185 281 (o_al 0 282) := js_St.okG (st_aloadn rfl d_185_281) (fun _ _ _ _ _ => rfl)
theorem ki_185_278 : js_OkG 185 278 (o_cne 305 281) := js_St.okG (st_icne (by decide) d_185_278) (fun _ _ _ _ _ => rfl)
theorem ki_185_276 : js_OkG 185 276 (o_ic (-11) 278) := js_St.okG (st_bipush rfl d_185_276) (fun _ _ _ _ _ => rfl)
theorem ki_185_273 : js_OkG 185 273 (o_cI 157 2 0 276) := og_sIW rfl rfl kB_185_157 rfl kw_1259 kw_1260 d_185_273
theorem ki_185_302 : js_OkG 185 302 (o_go 306) := js_St.okG (st_goto (by decide) d_185_302) (fun _ _ _ _ _ => rfl)
theorem ki_185_301 : js_OkG 185 301 (o_ic 1 302) := js_St.okG (st_iconst rfl d_185_301) (fun _ _ _ _ _ => rfl)
theorem ki_185_298 : js_OkG 185 298 (o_cne 305 301) := js_St.okG (st_icne (by decide) d_185_298) (fun _ _ _ _ _ => rfl)
theorem ki_185_296 : js_OkG 185 296 (o_ic (-13) 298) := js_St.okG (st_bipush rfl d_185_296) (fun _ _ _ _ _ => rfl)
theorem ki_185_293 : js_OkG 185 293 (o_cI 158 2 0 296) := og_sIW rfl rfl kB_185_158 rfl kw_1298 kw_1299 d_185_293
theorem ki_185_292 : js_OkG 185 292 (o_ic (-1) 293) := js_St.okG (st_iconst rfl d_185_292) (fun _ _ _ _ _ => rfl)
theorem ki_185_291 : js_OkG 185 291 (o_al 0 292) := js_St.okG (st_aloadn rfl d_185_291) (fun _ _ _ _ _ => rfl)
theorem ki_185_288 : js_OkG 185 288 (o_cne 305 291) := js_St.okG (st_icne (by decide) d_185_288) (fun _ _ _ _ _ => rfl)
theorem ki_185_306 : js_OkG 185 306 (o_rZ) := og_rZ rfl d_185_306
theorem ki_185_305 : js_OkG 185 305 (o_ic 0 306) := js_St.okG (st_iconst rfl d_185_305) (fun _ _ _ _ _ => rfl)
set_option maxRecDepth 20000 in
theorem mk_185 : js_mokG 185 := jk_tab (fun _ => js_St.okG st_bad (fun _ _ _ _ _ => rfl)) (show jk_all (js_OkG 185) 0 tb_185 from ⟨⟨ki_185_0, ⟨ki_185_1, ⟨ki_185_2, ⟨ki_185_3, ⟨kbadG, ⟨ki_185_5, ⟨kbadG, ⟨kbadG, ⟨ki_185_8, ⟨kbadG, ⟨kbadG, ⟨ki_185_11, ⟨ki_185_12, ⟨ki_185_13, ⟨ki_185_14, ⟨ki_185_15, trivial⟩⟩⟩⟩⟩⟩⟩⟩⟩⟩⟩⟩⟩⟩⟩⟩, ⟨⟨kbadG, ⟨ki_185_17, ⟨kbadG, ⟨kbadG, ⟨ki_185_20, ⟨ki_185_21, ⟨ki_185_22, ⟨ki_185_23, ⟨kbadG, ⟨kbadG, ⟨ki_185_26, ⟨kbadG, ⟨ki_185_28, ⟨kbadG, ⟨kbadG, ⟨ki_185_31, trivial⟩⟩⟩⟩⟩⟩⟩⟩⟩⟩⟩⟩⟩⟩⟩⟩, ⟨⟨ki_185_32, ⟨kbadG, ⟨kbadG, ⟨ki_185_35, ⟨ki_185_36, ⟨kbadG, ⟨kbadG, ⟨ki_185_39, ⟨kbadG, ⟨ki_185_41, ⟨kbadG, ⟨kbadG, ⟨ki_185_44, ⟨ki_185_45, ⟨kbadG, ⟨ki_185_47, trivial⟩⟩⟩⟩⟩⟩⟩⟩⟩⟩⟩⟩⟩⟩⟩⟩, ⟨⟨kbadG, ⟨kbadG, ⟨ki_185_50, ⟨kbadG, ⟨kbadG, ⟨ki_185_53, ⟨ki_185_54, ⟨ki_185_55, ⟨ki_185_56, ⟨kbadG, ⟨kbadG, ⟨ki_185_59, ⟨kbadG, ⟨kbadG, ⟨ki_185_62, ⟨kbadG, trivial⟩⟩⟩⟩⟩⟩⟩⟩⟩⟩⟩⟩⟩⟩⟩⟩, ⟨⟨ki_185_64, ⟨kbadG, ⟨kbadG, ⟨ki_185_67, ⟨kbadG, ⟨ki_185_69, ⟨kbadG, ⟨kbadG, ⟨ki_185_72, ⟨kbadG, ⟨kbadG, ⟨ki_185_75, ⟨ki_185_76, ⟨kbadG, ⟨kbadG, ⟨ki_185_79, trivial⟩⟩⟩⟩⟩⟩⟩⟩⟩⟩⟩⟩⟩⟩⟩⟩, ⟨⟨kbadG, ⟨kbadG, ⟨ki_185_82, ⟨ki_185_83, ⟨ki_185_84, ⟨ki_185_85, ⟨kbadG, ⟨kbadG, ⟨ki_185_88, ⟨ki_185_89, ⟨kbadG, ⟨kbadG, ⟨ki_185_92, ⟨kbadG, ⟨kbadG, ⟨ki_185_95, trivial⟩⟩⟩⟩⟩⟩⟩⟩⟩⟩⟩⟩⟩⟩⟩⟩, ⟨⟨ki_185_96, ⟨ki_185_97, ⟨kbadG, ⟨kbadG, ⟨ki_185_100, ⟨kbadG, ⟨kbadG, ⟨ki_185_103, ⟨ki_185_104, ⟨ki_185_105, ⟨ki_185_106, ⟨kbadG, ⟨ki_185_108, ⟨kbadG, ⟨kbadG, ⟨ki_185_111, trivial⟩⟩⟩⟩⟩⟩⟩⟩⟩⟩⟩⟩⟩⟩⟩⟩, ⟨⟨ki_185_112, ⟨ki_185_113, ⟨kbadG, ⟨kbadG, ⟨ki_185_116, ⟨kbadG, ⟨kbadG, ⟨ki_185_119, ⟨kbadG, ⟨kbadG, ⟨ki_185_122, ⟨ki_185_123, ⟨kbadG, ⟨kbadG, ⟨ki_185_126, ⟨kbadG, trivial⟩⟩⟩⟩⟩⟩⟩⟩⟩⟩⟩⟩⟩⟩⟩⟩, ⟨⟨kbadG, ⟨ki_185_129, ⟨kbadG, ⟨kbadG, ⟨ki_185_132, ⟨ki_185_133, ⟨ki_185_134, ⟨kbadG, ⟨kbadG, ⟨ki_185_137, ⟨kbadG, ⟨kbadG, ⟨ki_185_140, ⟨kbadG, ⟨kbadG, ⟨ki_185_143, trivial⟩⟩⟩⟩⟩⟩⟩⟩⟩⟩⟩⟩⟩⟩⟩⟩, ⟨⟨ki_185_144, ⟨ki_185_145, ⟨ki_185_146, ⟨ki_185_147, ⟨ki_185_148, ⟨kbadG, ⟨kbadG, ⟨ki_185_151, ⟨kbadG, ⟨kbadG, ⟨ki_185_154, ⟨ki_185_155, ⟨kbadG, ⟨kbadG, ⟨ki_185_158, ⟨ki_185_159, trivial⟩⟩⟩⟩⟩⟩⟩⟩⟩⟩⟩⟩⟩⟩⟩⟩, ⟨⟨kbadG, ⟨kbadG, ⟨ki_185_162, ⟨kbadG, ⟨kbadG, ⟨ki_185_165, ⟨ki_185_166, ⟨ki_185_167, ⟨ki_185_168, ⟨kbadG, ⟨kbadG, ⟨ki_185_171, ⟨kbadG, ⟨kbadG, ⟨ki_185_174, ⟨kbadG, trivial⟩⟩⟩⟩⟩⟩⟩⟩⟩⟩⟩⟩⟩⟩⟩⟩, ⟨⟨kbadG, ⟨ki_185_177, ⟨kbadG, ⟨kbadG, ⟨ki_185_180, ⟨ki_185_181, ⟨kbadG, ⟨kbadG, ⟨ki_185_184, ⟨kbadG, ⟨kbadG, ⟨ki_185_187, ⟨ki_185_188, ⟨ki_185_189, ⟨kbadG, ⟨kbadG, trivial⟩⟩⟩⟩⟩⟩⟩⟩⟩⟩⟩⟩⟩⟩⟩⟩, ⟨⟨ki_185_192, ⟨ki_185_193, ⟨ki_185_194, ⟨ki_185_195, ⟨ki_185_196, ⟨kbadG, ⟨kbadG, ⟨ki_185_199, ⟨kbadG, ⟨kbadG, ⟨ki_185_202, ⟨ki_185_203, ⟨kbadG, ⟨kbadG, ⟨ki_185_206, ⟨ki_185_207, trivial⟩⟩⟩⟩⟩⟩⟩⟩⟩⟩⟩⟩⟩⟩⟩⟩, ⟨⟨kbadG, ⟨kbadG, ⟨ki_185_210, ⟨ki_185_211, ⟨kbadG, ⟨kbadG, ⟨ki_185_214, ⟨kbadG, ⟨kbadG, ⟨ki_185_217, ⟨kbadG, ⟨kbadG, ⟨ki_185_220, ⟨kbadG, ⟨kbadG, ⟨ki_185_223, trivial⟩⟩⟩⟩⟩⟩⟩⟩⟩⟩⟩⟩⟩⟩⟩⟩, ⟨⟨ki_185_224, ⟨kbadG, ⟨kbadG, ⟨ki_185_227, ⟨kbadG, ⟨kbadG, ⟨ki_185_230, ⟨kbadG, ⟨kbadG, ⟨ki_185_233, ⟨ki_185_234, ⟨kbadG, ⟨ki_185_236, ⟨ki_185_237, ⟨kbadG, ⟨kbadG, trivial⟩⟩⟩⟩⟩⟩⟩⟩⟩⟩⟩⟩⟩⟩⟩⟩, ⟨⟨ki_185_240, ⟨ki_185_241, ⟨kbadG, ⟨ki_185_243, ⟨ki_185_244, ⟨kbadG, ⟨kbadG, ⟨ki_185_247, ⟨kbadG, ⟨kbadG, ⟨ki_185_250, ⟨kbadG, ⟨kbadG, ⟨ki_185_253, ⟨kbadG, ⟨kbadG, trivial⟩⟩⟩⟩⟩⟩⟩⟩⟩⟩⟩⟩⟩⟩⟩⟩, ⟨⟨ki_185_256, ⟨kbadG, ⟨kbadG, ⟨ki_185_259, ⟨kbadG, ⟨kbadG, ⟨ki_185_262, ⟨ki_185_263, ⟨ki_185_264, ⟨kbadG, ⟨kbadG, ⟨ki_185_267, ⟨kbadG, ⟨kbadG, ⟨ki_185_270, ⟨ki_185_271, trivial⟩⟩⟩⟩⟩⟩⟩⟩⟩⟩⟩⟩⟩⟩⟩⟩, ⟨⟨kbadG, ⟨ki_185_273, ⟨kbadG, ⟨kbadG, ⟨ki_185_276, ⟨kbadG, ⟨ki_185_278, ⟨kbadG, ⟨kbadG, ⟨ki_185_281, ⟨ki_185_282, ⟨ki_185_283, ⟨kbadG, ⟨kbadG, ⟨ki_185_286, ⟨kbadG, trivial⟩⟩⟩⟩⟩⟩⟩⟩⟩⟩⟩⟩⟩⟩⟩⟩, ⟨⟨ki_185_288, ⟨kbadG, ⟨kbadG, ⟨ki_185_291, ⟨ki_185_292, ⟨ki_185_293, ⟨kbadG, ⟨kbadG, ⟨ki_185_296, ⟨kbadG, ⟨ki_185_298, ⟨kbadG, ⟨kbadG, ⟨ki_185_301, ⟨ki_185_302, ⟨kbadG, trivial⟩⟩⟩⟩⟩⟩⟩⟩⟩⟩⟩⟩⟩⟩⟩⟩, ⟨⟨kbadG, ⟨ki_185_305, ⟨ki_185_306, trivial⟩⟩⟩, trivial⟩⟩⟩⟩⟩⟩⟩⟩⟩⟩⟩⟩⟩⟩⟩⟩⟩⟩⟩⟩)
set_option maxRecDepth 20000 in
theorem d_186_0 : decode (js_b 186) 0 = .ok (.aload_n 0, 1) := by decide +kernel
set_option maxRecDepth 20000 in
theorem d_186_1 : decode (js_b 186) 1 = .ok (.invokevirtual 289, 3) := by decide +kernel
set_option maxRecDepth 20000 in
theorem d_186_4 : decode (js_b 186) 4 = .ok (.lstore_n 1, 1) := by decide +kernel
set_option maxRecDepth 20000 in
theorem d_186_5 : decode (js_b 186) 5 = .ok (.iconst 0, 1) := by decide +kernel
set_option maxRecDepth 20000 in
theorem d_186_6 : decode (js_b 186) 6 = .ok (.istore_n 3, 1) := by decide +kernel
set_option maxRecDepth 20000 in
theorem d_186_7 : decode (js_b 186) 7 = .ok (.iload_n 3, 1) := by decide +kernel
set_option maxRecDepth 20000 in
theorem d_186_8 : decode (js_b 186) 8 = .ok (.bipush 40, 2) := by decide +kernel
set_option maxRecDepth 20000 in
theorem d_186_10 : decode (js_b 186) 10 = .ok (.if_icmp .ge 92, 3) := by decide +kernel
set_option maxRecDepth 20000 in
theorem d_186_13 : decode (js_b 186) 13 = .ok (.aload_n 0, 1) := by decide +kernel
set_option maxRecDepth 20000 in
theorem d_186_14 : decode (js_b 186) 14 = .ok (.iload_n 3, 1) := by decide +kernel
set_option maxRecDepth 20000 in
theorem d_186_15 : decode (js_b 186) 15 = .ok (.invokevirtual 225, 3) := by decide +kernel
set_option maxRecDepth 20000 in
theorem d_186_18 : decode (js_b 186) 18 = .ok (.ifCond .eq 78, 3) := by decide +kernel
set_option maxRecDepth 20000 in
theorem d_186_21 : decode (js_b 186) 21 = .ok (.ldc2_w 386, 3) := by decide +kernel
set_option maxRecDepth 20000 in
theorem d_186_24 : decode (js_b 186) 24 = .ok (.lload_n 1, 1) := by decide +kernel
set_option maxRecDepth 20000 in
theorem d_186_25 : decode (js_b 186) 25 = .ok (.lmul, 1) := by decide +kernel
set_option maxRecDepth 20000 in
theorem d_186_26 : decode (js_b 186) 26 = .ok (.iload_n 3, 1) := by decide +kernel
set_option maxRecDepth 20000 in
theorem d_186_27 : decode (js_b 186) 27 = .ok (.i2l, 1) := by decide +kernel
set_option maxRecDepth 20000 in
theorem d_186_28 : decode (js_b 186) 28 = .ok (.ladd, 1) := by decide +kernel
set_option maxRecDepth 20000 in
theorem d_186_29 : decode (js_b 186) 29 = .ok (.lstore_n 1, 1) := by decide +kernel
set_option maxRecDepth 20000 in
theorem d_186_30 : decode (js_b 186) 30 = .ok (.ldc2_w 388, 3) := by decide +kernel
set_option maxRecDepth 20000 in
theorem d_186_33 : decode (js_b 186) 33 = .ok (.lload_n 1, 1) := by decide +kernel
set_option maxRecDepth 20000 in
theorem d_186_34 : decode (js_b 186) 34 = .ok (.lmul, 1) := by decide +kernel
set_option maxRecDepth 20000 in
theorem d_186_35 : decode (js_b 186) 35 = .ok (.bipush 10, 2) := by decide +kernel
set_option maxRecDepth 20000 in
theorem d_186_37 : decode (js_b 186) 37 = .ok (.aload_n 0, 1) := by decide +kernel
set_option maxRecDepth 20000 in
theorem d_186_38 : decode (js_b 186) 38 = .ok (.iload_n 3, 1) := by decide +kernel
set_option maxRecDepth 20000 in
theorem d_186_39 : decode (js_b 186) 39 = .ok (.invokevirtual 29, 3) := by decide +kernel
set_option maxRecDepth 20000 in
theorem d_186_42 : decode (js_b 186) 42 = .ok (.imul, 1) := by decide +kernel
set_option maxRecDepth 20000 in
theorem d_186_43 : decode (js_b 186) 43 = .ok (.i2l, 1) := by decide +kernel
set_option maxRecDepth 20000 in
theorem d_186_44 : decode (js_b 186) 44 = .ok (.ladd, 1) := by decide +kernel
set_option maxRecDepth 20000 in
theorem d_186_45 : decode (js_b 186) 45 = .ok (.aload_n 0, 1) := by decide +kernel
set_option maxRecDepth 20000 in
theorem d_186_46 : decode (js_b 186) 46 = .ok (.iload_n 3, 1) := by decide +kernel
set_option maxRecDepth 20000 in
theorem d_186_47 : decode (js_b 186) 47 = .ok (.invokevirtual 33, 3) := by decide +kernel
set_option maxRecDepth 20000 in
theorem d_186_50 : decode (js_b 186) 50 = .ok (.i2l, 1) := by decide +kernel
set_option maxRecDepth 20000 in
theorem d_186_51 : decode (js_b 186) 51 = .ok (.ladd, 1) := by decide +kernel
set_option maxRecDepth 20000 in
theorem d_186_52 : decode (js_b 186) 52 = .ok (.lstore_n 1, 1) := by decide +kernel
set_option maxRecDepth 20000 in
theorem d_186_53 : decode (js_b 186) 53 = .ok (.ldc2_w 390, 3) := by decide +kernel
set_option maxRecDepth 20000 in
theorem d_186_56 : decode (js_b 186) 56 = .ok (.lload_n 1, 1) := by decide +kernel
set_option maxRecDepth 20000 in
theorem d_186_57 : decode (js_b 186) 57 = .ok (.lmul, 1) := by decide +kernel
set_option maxRecDepth 20000 in
theorem d_186_58 : decode (js_b 186) 58 = .ok (.aload_n 0, 1) := by decide +kernel
set_option maxRecDepth 20000 in
theorem d_186_59 : decode (js_b 186) 59 = .ok (.iload_n 3, 1) := by decide +kernel
set_option maxRecDepth 20000 in
theorem d_186_60 : decode (js_b 186) 60 = .ok (.invokestatic 238, 3) := by decide +kernel
set_option maxRecDepth 20000 in
theorem d_186_63 : decode (js_b 186) 63 = .ok (.i2l, 1) := by decide +kernel
set_option maxRecDepth 20000 in
theorem d_186_64 : decode (js_b 186) 64 = .ok (.ladd, 1) := by decide +kernel
set_option maxRecDepth 20000 in
theorem d_186_65 : decode (js_b 186) 65 = .ok (.lstore_n 1, 1) := by decide +kernel
set_option maxRecDepth 20000 in
theorem d_186_66 : decode (js_b 186) 66 = .ok (.iconst 0, 1) := by decide +kernel
set_option maxRecDepth 20000 in
theorem d_186_67 : decode (js_b 186) 67 = .ok (.istore 4, 2) := by decide +kernel
set_option maxRecDepth 20000 in
theorem d_186_69 : decode (js_b 186) 69 = .ok (.iload 4, 2) := by decide +kernel
set_option maxRecDepth 20000 in
theorem d_186_71 : decode (js_b 186) 71 = .ok (.iconst 4, 1) := by decide +kernel
set_option maxRecDepth 20000 in
theorem d_186_72 : decode (js_b 186) 72 = .ok (.if_icmp .ge 24, 3) := by decide +kernel
set_option maxRecDepth 20000 in
theorem d_186_75 : decode (js_b 186) 75 = .ok (.ldc2_w 392, 3) := by decide +kernel
set_option maxRecDepth 20000 in
theorem d_186_78 : decode (js_b 186) 78 = .ok (.lload_n 1, 1) := by decide +kernel
set_option maxRecDepth 20000 in
theorem d_186_79 : decode (js_b 186) 79 = .ok (.lmul, 1) := by decide +kernel
set_option maxRecDepth 20000 in
theorem d_186_80 : decode (js_b 186) 80 = .ok (.aload_n 0, 1) := by decide +kernel
set_option maxRecDepth 20000 in
theorem d_186_81 : decode (js_b 186) 81 = .ok (.iload_n 3, 1) := by decide +kernel
set_option maxRecDepth 20000 in
theorem d_186_82 : decode (js_b 186) 82 = .ok (.iload 4, 2) := by decide +kernel
set_option maxRecDepth 20000 in
theorem d_186_84 : decode (js_b 186) 84 = .ok (.invokevirtual 36, 3) := by decide +kernel
set_option maxRecDepth 20000 in
theorem d_186_87 : decode (js_b 186) 87 = .ok (.i2l, 1) := by decide +kernel
set_option maxRecDepth 20000 in
theorem d_186_88 : decode (js_b 186) 88 = .ok (.ladd, 1) := by decide +kernel
set_option maxRecDepth 20000 in
theorem d_186_89 : decode (js_b 186) 89 = .ok (.lstore_n 1, 1) := by decide +kernel
set_option maxRecDepth 20000 in
theorem d_186_90 : decode (js_b 186) 90 = .ok (.iinc 4 1, 3) := by decide +kernel
set_option maxRecDepth 20000 in
theorem d_186_93 : decode (js_b 186) 93 = .ok (.goto (-24), 3) := by decide +kernel
set_option maxRecDepth 20000 in
theorem d_186_96 : decode (js_b 186) 96 = .ok (.iinc 3 1, 3) := by decide +kernel
set_option maxRecDepth 20000 in
theorem d_186_99 : decode (js_b 186) 99 = .ok (.goto (-92), 3) := by decide +kernel
set_option maxRecDepth 20000 in
theorem d_186_102 : decode (js_b 186) 102 = .ok (.lload_n 1, 1) := by decide +kernel
set_option maxRecDepth 20000 in
theorem d_186_103 : decode (js_b 186) 103 = .ok (.lreturn, 1) := by decide +kernel
theorem ki_186_15 : js_OkG 186 15 (o_cI 65 2 8 18) := og_cI (site_V kk_186_65 (by decide) kw_624 kw_625 kw_626 (fun t ht => by cases ht; exact Or.inl ⟨by decide, _, rfl, rfl⟩) d_186_15) rfl rfl
theorem ki_186_14 : js_OkG 186 14 (o_il 3 15) := js_St.okG (st_iloadn rfl d_186_14) (fun _ _ _ _ _ => rfl)
theorem ki_186_13 : js_OkG 186 13 (o_al 0 14) := js_St.okG (st_aloadn rfl d_186_13) (fun _ _ _ _ _ => rfl)
theorem ki_186_10 : js_OkG 186 10 (o_cge 102 13) := js_St.okG (st_icge (by decide) d_186_10) (fun _ _ _ _ _ => rfl)
theorem ki_186_8 : js_OkG 186 8 (o_ic 40 10) := js_St.okG (st_bipush rfl d_186_8) (fun _ _ _ _ _ => rfl)
theorem ki_186_7 : js_OkG 186 7 (o_il 3 8) := js_St.okG (st_iloadn rfl d_186_7) (fun _ _ _ _ _ => rfl)
theorem ki_186_6 : js_OkG 186 6 (o_is 3 7) := js_St.okG (st_istoren rfl (Nat.le_of_ble_eq_true rfl) d_186_6) (fun _ _ _ _ _ => rfl)
theorem ki_186_5 : js_OkG 186 5 (o_ic 0 6) := js_St.okG (st_iconst rfl d_186_5) (fun _ _ _ _ _ => rfl)
theorem ki_186_4 : js_OkG 186 4 (o_ls 1 5) := js_St.okG (st_lstoren rfl (Nat.le_of_ble_eq_true rfl) d_186_4) (fun _ _ _ _ _ => rfl)
theorem ki_186_1 : js_OkG 186 1 (o_cL 80 1 8 4) := og_cL (site_V kk_186_80 (by decide) kw_861 kw_862 kw_863 (fun t ht => by cases ht; exact Or.inl ⟨by decide, _, rfl, rfl⟩) d_186_1) rfl rfl
theorem ki_186_0 : js_OkG 186 0 (o_al 0 1) := js_St.okG (st_aloadn rfl d_186_0) (fun _ _ _ _ _ => rfl)
theorem ki_186_30 : js_OkG 186 30 (o_lc 37 33) := js_St.okG (st_ldc2 kw_1317 d_186_30) (fun _ _ _ _ _ => rfl)
theorem ki_186_29 : js_OkG 186 29 (o_ls 1 30) := js_St.okG (st_lstoren rfl (Nat.le_of_ble_eq_true rfl) d_186_29) (fun _ _ _ _ _ => rfl)
theorem ki_186_28 : js_OkG 186 28 (o_B2 (fun x y => x + y) 29) := js_St.okG (st_ladd d_186_28) (fun _ _ _ _ _ => rfl)
theorem ki_186_27 : js_OkG 186 27 (o_i2l 28) := js_St.okG (st_i2l d_186_27) (fun _ _ _ _ _ => rfl)
theorem ki_186_26 : js_OkG 186 26 (o_il 3 27) := js_St.okG (st_iloadn rfl d_186_26) (fun _ _ _ _ _ => rfl)
theorem ki_186_25 : js_OkG 186 25 (o_B2 (fun x y => x * y) 26) := js_St.okG (st_lmul d_186_25) (fun _ _ _ _ _ => rfl)
theorem ki_186_24 : js_OkG 186 24 (o_ll 1 25) := js_St.okG (st_lloadn rfl d_186_24) (fun _ _ _ _ _ => rfl)
theorem ki_186_21 : js_OkG 186 21 (o_lc 31 24) := js_St.okG (st_ldc2 kw_1316 d_186_21) (fun _ _ _ _ _ => rfl)
theorem ki_186_18 : js_OkG 186 18 (o_eq 96 21) := js_St.okG (st_ifeq (by decide) d_186_18) (fun _ _ _ _ _ => rfl)
theorem ki_186_47 : js_OkG 186 47 (o_cI 67 2 8 50) := og_cI (site_V kk_186_67 (by decide) kw_643 kw_644 kw_645 (fun t ht => by cases ht; exact Or.inl ⟨by decide, _, rfl, rfl⟩) d_186_47) rfl rfl
theorem ki_186_46 : js_OkG 186 46 (o_il 3 47) := js_St.okG (st_iloadn rfl d_186_46) (fun _ _ _ _ _ => rfl)
theorem ki_186_45 : js_OkG 186 45 (o_al 0 46) := js_St.okG (st_aloadn rfl d_186_45) (fun _ _ _ _ _ => rfl)
theorem ki_186_44 : js_OkG 186 44 (o_B2 (fun x y => x + y) 45) := js_St.okG (st_ladd d_186_44) (fun _ _ _ _ _ => rfl)
theorem ki_186_43 : js_OkG 186 43 (o_i2l 44) := js_St.okG (st_i2l d_186_43) (fun _ _ _ _ _ => rfl)
theorem ki_186_42 : js_OkG 186 42 (o_b2 (fun x y => x * y) 43) := js_St.okG (st_imul d_186_42) (fun _ _ _ _ _ => rfl)
theorem ki_186_39 : js_OkG 186 39 (o_cI 66 2 8 42) := og_cI (site_V kk_186_66 (by decide) kw_632 kw_633 kw_634 (fun t ht => by cases ht; exact Or.inl ⟨by decide, _, rfl, rfl⟩) d_186_39) rfl rfl
theorem ki_186_38 : js_OkG 186 38 (o_il 3 39) := js_St.okG (st_iloadn rfl d_186_38) (fun _ _ _ _ _ => rfl)
theorem ki_186_37 : js_OkG 186 37 (o_al 0 38) := js_St.okG (st_aloadn rfl d_186_37) (fun _ _ _ _ _ => rfl)
theorem ki_186_35 : js_OkG 186 35 (o_ic 10 37) := js_St.okG (st_bipush rfl d_186_35) (fun _ _ _ _ _ => rfl)
theorem ki_186_34 : js_OkG 186 34 (o_B2 (fun x y => x * y) 35) := js_St.okG (st_lmul d_186_34) (fun _ _ _ _ _ => rfl)
theorem ki_186_33 : js_OkG 186 33 (o_ll 1 34) := js_St.okG (st_lloadn rfl d_186_33) (fun _ _ _ _ _ => rfl)
theorem ki_186_63 : js_OkG 186 63 (o_i2l 64) := js_St.okG (st_i2l d_186_63) (fun _ _ _ _ _ => rfl)
theorem ki_186_60 : js_OkG 186 60 (o_cI 140 2 0 63) := og_sIW rfl rfl kB_186_140 rfl kw_679 kw_680 d_186_60
theorem ki_186_59 : js_OkG 186 59 (o_il 3 60) := js_St.okG (st_iloadn rfl d_186_59) (fun _ _ _ _ _ => rfl)
theorem ki_186_58 : js_OkG 186 58 (o_al 0 59) := js_St.okG (st_aloadn rfl d_186_58) (fun _ _ _ _ _ => rfl)
theorem ki_186_57 : js_OkG 186 57 (o_B2 (fun x y => x * y) 58) := js_St.okG (st_lmul d_186_57) (fun _ _ _ _ _ => rfl)
theorem ki_186_56 : js_OkG 186 56 (o_ll 1 57) := js_St.okG (st_lloadn rfl d_186_56) (fun _ _ _ _ _ => rfl)
theorem ki_186_53 : js_OkG 186 53 (o_lc 41 56) := js_St.okG (st_ldc2 kw_1318 d_186_53) (fun _ _ _ _ _ => rfl)
theorem ki_186_52 : js_OkG 186 52 (o_ls 1 53) := js_St.okG (st_lstoren rfl (Nat.le_of_ble_eq_true rfl) d_186_52) (fun _ _ _ _ _ => rfl)
theorem ki_186_51 : js_OkG 186 51 (o_B2 (fun x y => x + y) 52) := js_St.okG (st_ladd d_186_51) (fun _ _ _ _ _ => rfl)
theorem ki_186_50 : js_OkG 186 50 (o_i2l 51) := js_St.okG (st_i2l d_186_50) (fun _ _ _ _ _ => rfl)
theorem ki_186_79 : js_OkG 186 79 (o_B2 (fun x y => x * y) 80) := js_St.okG (st_lmul d_186_79) (fun _ _ _ _ _ => rfl)
theorem ki_186_78 : js_OkG 186 78 (o_ll 1 79) := js_St.okG (st_lloadn rfl d_186_78) (fun _ _ _ _ _ => rfl)
theorem ki_186_75 : js_OkG 186 75 (o_lc 17 78) := js_St.okG (st_ldc2 kw_1319 d_186_75) (fun _ _ _ _ _ => rfl)
theorem ki_186_72 : js_OkG 186 72 (o_cge 96 75) := js_St.okG (st_icge (by decide) d_186_72) (fun _ _ _ _ _ => rfl)
theorem ki_186_71 : js_OkG 186 71 (o_ic 4 72) := js_St.okG (st_iconst rfl d_186_71) (fun _ _ _ _ _ => rfl)
theorem ki_186_69 : js_OkG 186 69 (o_il 4 71) := js_St.okG (st_iload d_186_69) (fun _ _ _ _ _ => rfl)
theorem ki_186_67 : js_OkG 186 67 (o_is 4 69) := js_St.okG (st_istore (Nat.le_of_ble_eq_true rfl) d_186_67) (fun _ _ _ _ _ => rfl)
theorem ki_186_66 : js_OkG 186 66 (o_ic 0 67) := js_St.okG (st_iconst rfl d_186_66) (fun _ _ _ _ _ => rfl)
theorem ki_186_65 : js_OkG 186 65 (o_ls 1 66) := js_St.okG (st_lstoren rfl (Nat.le_of_ble_eq_true rfl) d_186_65) (fun _ _ _ _ _ => rfl)
theorem ki_186_64 : js_OkG 186 64 (o_B2 (fun x y => x + y) 65) := js_St.okG (st_ladd d_186_64) (fun _ _ _ _ _ => rfl)
theorem ki_186_93 : js_OkG 186 93 (o_go 69) := js_St.okG (st_goto (by decide) d_186_93) (fun _ _ _ _ _ => rfl)
theorem ki_186_90 : js_OkG 186 90 (o_inc 4 1 93) := js_St.okG (st_iinc rfl (Nat.le_of_ble_eq_true rfl) d_186_90) (fun _ _ _ _ _ => rfl)
theorem ki_186_89 : js_OkG 186 89 (o_ls 1 90) := js_St.okG (st_lstoren rfl (Nat.le_of_ble_eq_true rfl) d_186_89) (fun _ _ _ _ _ => rfl)
theorem ki_186_88 : js_OkG 186 88 (o_B2 (fun x y => x + y) 89) := js_St.okG (st_ladd d_186_88) (fun _ _ _ _ _ => rfl)
theorem ki_186_87 : js_OkG 186 87 (o_i2l 88) := js_St.okG (st_i2l d_186_87) (fun _ _ _ _ _ => rfl)
theorem ki_186_84 : js_OkG 186 84 (o_cI 68 3 8 87) := og_cI (site_V kk_186_68 (by decide) kw_658 kw_659 kw_660 (fun t ht => by cases ht; exact Or.inl ⟨by decide, _, rfl, rfl⟩) d_186_84) rfl rfl
theorem ki_186_82 : js_OkG 186 82 (o_il 4 84) := js_St.okG (st_iload d_186_82) (fun _ _ _ _ _ => rfl)
theorem ki_186_81 : js_OkG 186 81 (o_il 3 82) := js_St.okG (st_iloadn rfl d_186_81) (fun _ _ _ _ _ => rfl)
theorem ki_186_80 : js_OkG 186 80 (o_al 0 81) := js_St.okG (st_aloadn rfl d_186_80) (fun _ _ _ _ _ => rfl)
theorem ki_186_103 : js_OkG 186 103 (o_rL) := og_rL rfl d_186_103
theorem ki_186_102 : js_OkG 186 102 (o_ll 1 103) := js_St.okG (st_lloadn rfl d_186_102) (fun _ _ _ _ _ => rfl)
theorem ki_186_99 : js_OkG 186 99 (o_go 7) := js_St.okG (st_goto (by decide) d_186_99) (fun _ _ _ _ _ => rfl)
theorem ki_186_96 : js_OkG 186 96 (o_inc 3 1 99) := js_St.okG (st_iinc rfl (Nat.le_of_ble_eq_true rfl) d_186_96) (fun _ _ _ _ _ => rfl)
set_option maxRecDepth 20000 in
theorem mk_186 : js_mokG 186 := jk_tab (fun _ => js_St.okG st_bad (fun _ _ _ _ _ => rfl)) (show jk_all (js_OkG 186) 0 tb_186 from ⟨⟨ki_186_0, ⟨ki_186_1, ⟨kbadG, ⟨kbadG, ⟨ki_186_4, ⟨ki_186_5, ⟨ki_186_6, ⟨ki_186_7, ⟨ki_186_8, ⟨kbadG, ⟨ki_186_10, ⟨kbadG, ⟨kbadG, ⟨ki_186_13, ⟨ki_186_14, ⟨ki_186_15, trivial⟩⟩⟩⟩⟩⟩⟩⟩⟩⟩⟩⟩⟩⟩⟩⟩, ⟨⟨kbadG, ⟨kbadG, ⟨ki_186_18, ⟨kbadG, ⟨kbadG, ⟨ki_186_21, ⟨kbadG, ⟨kbadG, ⟨ki_186_24, ⟨ki_186_25, ⟨ki_186_26, ⟨ki_186_27, ⟨ki_186_28, ⟨ki_186_29, ⟨ki_186_30, ⟨kbadG, trivial⟩⟩⟩⟩⟩⟩⟩⟩⟩⟩⟩⟩⟩⟩⟩⟩, ⟨⟨kbadG, ⟨ki_186_33, ⟨ki_186_34, ⟨ki_186_35, ⟨kbadG, ⟨ki_186_37, ⟨ki_186_38, ⟨ki_186_39, ⟨kbadG, ⟨kbadG, ⟨ki_186_42, ⟨ki_186_43, ⟨ki_186_44, ⟨ki_186_45, ⟨ki_186_46, ⟨ki_186_47, trivial⟩⟩⟩⟩⟩⟩⟩⟩⟩⟩⟩⟩⟩⟩⟩⟩, ⟨⟨kbadG, ⟨kbadG, ⟨ki_186_50, ⟨ki_186_51, ⟨ki_186_52, ⟨ki_186_53, ⟨kbadG, ⟨kbadG, ⟨ki_186_56, ⟨ki_186_57, ⟨ki_186_58, ⟨ki_186_59, ⟨ki_186_60, ⟨kbadG, ⟨kbadG, ⟨ki_186_63, trivial⟩⟩⟩⟩⟩⟩⟩⟩⟩⟩⟩⟩⟩⟩⟩⟩, ⟨⟨ki_186_64, ⟨ki_186_65, ⟨ki_186_66, ⟨ki_186_67, ⟨kbadG, ⟨ki_186_69, ⟨kbadG, ⟨ki_186_71, ⟨ki_186_72, ⟨kbadG, ⟨kbadG, ⟨ki_186_75, ⟨kbadG, ⟨kbadG, ⟨ki_186_78, ⟨ki_186_79, trivial⟩⟩⟩⟩⟩⟩⟩⟩⟩⟩⟩⟩⟩⟩⟩⟩, ⟨⟨ki_186_80, ⟨ki_186_81, ⟨ki_186_82, ⟨kbadG, ⟨ki_186_84, ⟨kbadG, ⟨kbadG, ⟨ki_186_87, ⟨ki_186_88, ⟨ki_186_89, ⟨ki_186_90, ⟨kbadG, ⟨kbadG, ⟨ki_186_93, ⟨kbadG, ⟨kbadG, trivial⟩⟩⟩⟩⟩⟩⟩⟩⟩⟩⟩⟩⟩⟩⟩⟩, ⟨⟨ki_186_96, ⟨kbadG, ⟨kbadG, ⟨ki_186_99, ⟨kbadG, ⟨kbadG, ⟨ki_186_102, ⟨ki_186_103, trivial⟩⟩⟩⟩⟩⟩⟩⟩, trivial⟩⟩⟩⟩⟩⟩⟩)
set_option maxRecDepth 20000 in
theorem d_187_0 : decode (js_b 187) 0 = .ok (.bipush 9, 2) := by decide +kernel
set_option maxRecDepth 20000 in
theorem d_187_2 : decode (js_b 187) 2 = .ok (.newarray .long, 2) := by decide +kernel
set_option maxRecDepth 20000 in
theorem d_187_4 : decode (js_b 187) 4 = .ok (.astore_n 2, 1) := by decide +kernel
set_option maxRecDepth 20000 in
theorem d_187_5 : decode (js_b 187) 5 = .ok (.iconst 0, 1) := by decide +kernel
set_option maxRecDepth 20000 in
theorem d_187_6 : decode (js_b 187) 6 = .ok (.istore_n 3, 1) := by decide +kernel
set_option maxRecDepth 20000 in
theorem d_187_7 : decode (js_b 187) 7 = .ok (.iconst 0, 1) := by decide +kernel
set_option maxRecDepth 20000 in
theorem d_187_8 : decode (js_b 187) 8 = .ok (.istore 4, 2) := by decide +kernel
set_option maxRecDepth 20000 in
theorem d_187_10 : decode (js_b 187) 10 = .ok (.iload 4, 2) := by decide +kernel
set_option maxRecDepth 20000 in
theorem d_187_12 : decode (js_b 187) 12 = .ok (.bipush 7, 2) := by decide +kernel
set_option maxRecDepth 20000 in
theorem d_187_14 : decode (js_b 187) 14 = .ok (.if_icmp .ge 392, 3) := by decide +kernel
set_option maxRecDepth 20000 in
theorem d_187_17 : decode (js_b 187) 17 = .ok (.aload_n 0, 1) := by decide +kernel
set_option maxRecDepth 20000 in
theorem d_187_18 : decode (js_b 187) 18 = .ok (.bipush 22, 2) := by decide +kernel
set_option maxRecDepth 20000 in
theorem d_187_20 : decode (js_b 187) 20 = .ok (.iload 4, 2) := by decide +kernel
set_option maxRecDepth 20000 in
theorem d_187_22 : decode (js_b 187) 22 = .ok (.iadd, 1) := by decide +kernel
set_option maxRecDepth 20000 in
theorem d_187_23 : decode (js_b 187) 23 = .ok (.invokestatic 154, 3) := by decide +kernel
set_option maxRecDepth 20000 in
theorem d_187_26 : decode (js_b 187) 26 = .ok (.iconst 1, 1) := by decide +kernel
set_option maxRecDepth 20000 in
theorem d_187_27 : decode (js_b 187) 27 = .ok (.iushr, 1) := by decide +kernel
set_option maxRecDepth 20000 in
theorem d_187_28 : decode (js_b 187) 28 = .ok (.istore 5, 2) := by decide +kernel
set_option maxRecDepth 20000 in
theorem d_187_30 : decode (js_b 187) 30 = .ok (.iload 5, 2) := by decide +kernel
set_option maxRecDepth 20000 in
theorem d_187_32 : decode (js_b 187) 32 = .ok (.iconst 4, 1) := by decide +kernel
set_option maxRecDepth 20000 in
theorem d_187_33 : decode (js_b 187) 33 = .ok (.iushr, 1) := by decide +kernel
set_option maxRecDepth 20000 in
theorem d_187_34 : decode (js_b 187) 34 = .ok (.istore 6, 2) := by decide +kernel
set_option maxRecDepth 20000 in
theorem d_187_36 : decode (js_b 187) 36 = .ok (.aload_n 2, 1) := by decide +kernel
set_option maxRecDepth 20000 in
theorem d_187_37 : decode (js_b 187) 37 = .ok (.iload_n 3, 1) := by decide +kernel
set_option maxRecDepth 20000 in
theorem d_187_38 : decode (js_b 187) 38 = .ok (.aload_n 1, 1) := by decide +kernel
set_option maxRecDepth 20000 in
theorem d_187_39 : decode (js_b 187) 39 = .ok (.invokestatic 394, 3) := by decide +kernel
set_option maxRecDepth 20000 in
theorem d_187_42 : decode (js_b 187) 42 = .ok (.lastore, 1) := by decide +kernel
set_option maxRecDepth 20000 in
theorem d_187_43 : decode (js_b 187) 43 = .ok (.iload 5, 2) := by decide +kernel
set_option maxRecDepth 20000 in
theorem d_187_45 : decode (js_b 187) 45 = .ok (.bipush 10, 2) := by decide +kernel
set_option maxRecDepth 20000 in
theorem d_187_47 : decode (js_b 187) 47 = .ok (.irem, 1) := by decide +kernel
set_option maxRecDepth 20000 in
theorem d_187_48 : decode (js_b 187) 48 = .ok (.tableswitch 225 0 8 #[52, 97, 111, 111, 140, 154, 174, 195, 216], 52) := by decide +kernel
set_option maxRecDepth 20000 in
theorem d_187_100 : decode (js_b 187) 100 = .ok (.aload_n 1, 1) := by decide +kernel
set_option maxRecDepth 20000 in
theorem d_187_101 : decode (js_b 187) 101 = .ok (.bipush 97, 2) := by decide +kernel
set_option maxRecDepth 20000 in
theorem d_187_103 : decode (js_b 187) 103 = .ok (.iload 6, 2) := by decide +kernel
set_option maxRecDepth 20000 in
theorem d_187_105 : decode (js_b 187) 105 = .ok (.bipush 7, 2) := by decide +kernel
set_option maxRecDepth 20000 in
theorem d_187_107 : decode (js_b 187) 107 = .ok (.irem, 1) := by decide +kernel
set_option maxRecDepth 20000 in
theorem d_187_108 : decode (js_b 187) 108 = .ok (.iadd, 1) := by decide +kernel
set_option maxRecDepth 20000 in
theorem d_187_109 : decode (js_b 187) 109 = .ok (.i2c, 1) := by decide +kernel
set_option maxRecDepth 20000 in
theorem d_187_110 : decode (js_b 187) 110 = .ok (.iload 6, 2) := by decide +kernel
set_option maxRecDepth 20000 in
theorem d_187_112 : decode (js_b 187) 112 = .ok (.bipush 17, 2) := by decide +kernel
set_option maxRecDepth 20000 in
theorem d_187_114 : decode (js_b 187) 114 = .ok (.irem, 1) := by decide +kernel
set_option maxRecDepth 20000 in
theorem d_187_115 : decode (js_b 187) 115 = .ok (.iload 6, 2) := by decide +kernel
set_option maxRecDepth 20000 in
theorem d_187_117 : decode (js_b 187) 117 = .ok (.iconst 3, 1) := by decide +kernel
set_option maxRecDepth 20000 in
theorem d_187_118 : decode (js_b 187) 118 = .ok (.iushr, 1) := by decide +kernel
set_option maxRecDepth 20000 in
theorem d_187_119 : decode (js_b 187) 119 = .ok (.bipush 16, 2) := by decide +kernel
set_option maxRecDepth 20000 in
theorem d_187_121 : decode (js_b 187) 121 = .ok (.irem, 1) := by decide +kernel
set_option maxRecDepth 20000 in
theorem d_187_122 : decode (js_b 187) 122 = .ok (.iload 6, 2) := by decide +kernel
set_option maxRecDepth 20000 in
theorem d_187_124 : decode (js_b 187) 124 = .ok (.iconst 5, 1) := by decide +kernel
set_option maxRecDepth 20000 in
theorem d_187_125 : decode (js_b 187) 125 = .ok (.iushr, 1) := by decide +kernel
set_option maxRecDepth 20000 in
theorem d_187_126 : decode (js_b 187) 126 = .ok (.bipush 16, 2) := by decide +kernel
set_option maxRecDepth 20000 in
theorem d_187_128 : decode (js_b 187) 128 = .ok (.irem, 1) := by decide +kernel
set_option maxRecDepth 20000 in
theorem d_187_129 : decode (js_b 187) 129 = .ok (.iload 6, 2) := by decide +kernel
set_option maxRecDepth 20000 in
theorem d_187_131 : decode (js_b 187) 131 = .ok (.bipush 7, 2) := by decide +kernel
set_option maxRecDepth 20000 in
theorem d_187_133 : decode (js_b 187) 133 = .ok (.iushr, 1) := by decide +kernel
set_option maxRecDepth 20000 in
theorem d_187_134 : decode (js_b 187) 134 = .ok (.bipush 16, 2) := by decide +kernel
set_option maxRecDepth 20000 in
theorem d_187_136 : decode (js_b 187) 136 = .ok (.irem, 1) := by decide +kernel
set_option maxRecDepth 20000 in
theorem d_187_137 : decode (js_b 187) 137 = .ok (.invokestatic 160, 3) := by decide +kernel
set_option maxRecDepth 20000 in
theorem d_187_140 : decode (js_b 187) 140 = .ok (.istore 7, 2) := by decide +kernel
set_option maxRecDepth 20000 in
theorem d_187_142 : decode (js_b 187) 142 = .ok (.goto 227, 3) := by decide +kernel
set_option maxRecDepth 20000 in
theorem d_187_145 : decode (js_b 187) 145 = .ok (.aload_n 1, 1) := by decide +kernel
set_option maxRecDepth 20000 in
theorem d_187_146 : decode (js_b 187) 146 = .ok (.iload 6, 2) := by decide +kernel
set_option maxRecDepth 20000 in
theorem d_187_148 : decode (js_b 187) 148 = .ok (.bipush 14, 2) := by decide +kernel
set_option maxRecDepth 20000 in
theorem d_187_150 : decode (js_b 187) 150 = .ok (.irem, 1) := by decide +kernel
set_option maxRecDepth 20000 in
theorem d_187_151 : decode (js_b 187) 151 = .ok (.invokestatic 398, 3) := by decide +kernel
set_option maxRecDepth 20000 in
theorem d_187_154 : decode (js_b 187) 154 = .ok (.istore 7, 2) := by decide +kernel
set_option maxRecDepth 20000 in
theorem d_187_156 : decode (js_b 187) 156 = .ok (.goto 213, 3) := by decide +kernel
set_option maxRecDepth 20000 in
theorem d_187_159 : decode (js_b 187) 159 = .ok (.aload_n 1, 1) := by decide +kernel
set_option maxRecDepth 20000 in
theorem d_187_160 : decode (js_b 187) 160 = .ok (.iload 6, 2) := by decide +kernel
set_option maxRecDepth 20000 in
theorem d_187_162 : decode (js_b 187) 162 = .ok (.bipush 14, 2) := by decide +kernel
set_option maxRecDepth 20000 in
theorem d_187_164 : decode (js_b 187) 164 = .ok (.irem, 1) := by decide +kernel
set_option maxRecDepth 20000 in
theorem d_187_165 : decode (js_b 187) 165 = .ok (.iload 6, 2) := by decide +kernel
set_option maxRecDepth 20000 in
theorem d_187_167 : decode (js_b 187) 167 = .ok (.iconst 4, 1) := by decide +kernel
set_option maxRecDepth 20000 in
theorem d_187_168 : decode (js_b 187) 168 = .ok (.iushr, 1) := by decide +kernel
set_option maxRecDepth 20000 in
theorem d_187_169 : decode (js_b 187) 169 = .ok (.bipush 9, 2) := by decide +kernel
set_option maxRecDepth 20000 in
theorem d_187_171 : decode (js_b 187) 171 = .ok (.irem, 1) := by decide +kernel
set_option maxRecDepth 20000 in
theorem d_187_172 : decode (js_b 187) 172 = .ok (.iload 6, 2) := by decide +kernel
set_option maxRecDepth 20000 in
theorem d_187_174 : decode (js_b 187) 174 = .ok (.bipush 8, 2) := by decide +kernel
set_option maxRecDepth 20000 in
theorem d_187_176 : decode (js_b 187) 176 = .ok (.iushr, 1) := by decide +kernel
set_option maxRecDepth 20000 in
theorem d_187_177 : decode (js_b 187) 177 = .ok (.bipush 9, 2) := by decide +kernel
set_option maxRecDepth 20000 in
theorem d_187_179 : decode (js_b 187) 179 = .ok (.irem, 1) := by decide +kernel
set_option maxRecDepth 20000 in
theorem d_187_180 : decode (js_b 187) 180 = .ok (.invokestatic 169, 3) := by decide +kernel
set_option maxRecDepth 20000 in
theorem d_187_183 : decode (js_b 187) 183 = .ok (.istore 7, 2) := by decide +kernel
set_option maxRecDepth 20000 in
theorem d_187_185 : decode (js_b 187) 185 = .ok (.goto 184, 3) := by decide +kernel
set_option maxRecDepth 20000 in
theorem d_187_188 : decode (js_b 187) 188 = .ok (.aload_n 1, 1) := by decide +kernel
set_option maxRecDepth 20000 in
theorem d_187_189 : decode (js_b 187) 189 = .ok (.iload 6, 2) := by decide +kernel
set_option maxRecDepth 20000 in
theorem d_187_191 : decode (js_b 187) 191 = .ok (.bipush 14, 2) := by decide +kernel
set_option maxRecDepth 20000 in
theorem d_187_193 : decode (js_b 187) 193 = .ok (.irem, 1) := by decide +kernel
set_option maxRecDepth 20000 in
theorem d_187_194 : decode (js_b 187) 194 = .ok (.invokestatic 172, 3) := by decide +kernel
set_option maxRecDepth 20000 in
theorem d_187_197 : decode (js_b 187) 197 = .ok (.istore 7, 2) := by decide +kernel
set_option maxRecDepth 20000 in
theorem d_187_199 : decode (js_b 187) 199 = .ok (.goto 170, 3) := by decide +kernel
set_option maxRecDepth 20000 in
theorem d_187_202 : decode (js_b 187) 202 = .ok (.aload_n 1, 1) := by decide +kernel
set_option maxRecDepth 20000 in
theorem d_187_203 : decode (js_b 187) 203 = .ok (.iload 6, 2) := by decide +kernel
set_option maxRecDepth 20000 in
theorem d_187_205 : decode (js_b 187) 205 = .ok (.bipush 14, 2) := by decide +kernel
set_option maxRecDepth 20000 in
theorem d_187_207 : decode (js_b 187) 207 = .ok (.irem, 1) := by decide +kernel
set_option maxRecDepth 20000 in
theorem d_187_208 : decode (js_b 187) 208 = .ok (.iload 6, 2) := by decide +kernel
set_option maxRecDepth 20000 in
theorem d_187_210 : decode (js_b 187) 210 = .ok (.iconst 4, 1) := by decide +kernel
set_option maxRecDepth 20000 in
theorem d_187_211 : decode (js_b 187) 211 = .ok (.iushr, 1) := by decide +kernel
set_option maxRecDepth 20000 in
theorem d_187_212 : decode (js_b 187) 212 = .ok (.iconst 5, 1) := by decide +kernel
set_option maxRecDepth 20000 in
theorem d_187_213 : decode (js_b 187) 213 = .ok (.irem, 1) := by decide +kernel
set_option maxRecDepth 20000 in
theorem d_187_214 : decode (js_b 187) 214 = .ok (.invokestatic 164, 3) := by decide +kernel
set_option maxRecDepth 20000 in
theorem d_187_217 : decode (js_b 187) 217 = .ok (.istore 7, 2) := by decide +kernel
set_option maxRecDepth 20000 in
theorem d_187_219 : decode (js_b 187) 219 = .ok (.goto 150, 3) := by decide +kernel
set_option maxRecDepth 20000 in
theorem d_187_222 : decode (js_b 187) 222 = .ok (.aload_n 1, 1) := by decide +kernel
set_option maxRecDepth 20000 in
theorem d_187_223 : decode (js_b 187) 223 = .ok (.iload 6, 2) := by decide +kernel
set_option maxRecDepth 20000 in
theorem d_187_225 : decode (js_b 187) 225 = .ok (.bipush 14, 2) := by decide +kernel
set_option maxRecDepth 20000 in
theorem d_187_227 : decode (js_b 187) 227 = .ok (.irem, 1) := by decide +kernel
set_option maxRecDepth 20000 in
theorem d_187_228 : decode (js_b 187) 228 = .ok (.iload 6, 2) := by decide +kernel
set_option maxRecDepth 20000 in
theorem d_187_230 : decode (js_b 187) 230 = .ok (.iconst 4, 1) := by decide +kernel
set_option maxRecDepth 20000 in
theorem d_187_231 : decode (js_b 187) 231 = .ok (.iushr, 1) := by decide +kernel
set_option maxRecDepth 20000 in
theorem d_187_232 : decode (js_b 187) 232 = .ok (.bipush 14, 2) := by decide +kernel
set_option maxRecDepth 20000 in
theorem d_187_234 : decode (js_b 187) 234 = .ok (.irem, 1) := by decide +kernel
set_option maxRecDepth 20000 in
theorem d_187_235 : decode (js_b 187) 235 = .ok (.invokestatic 401, 3) := by decide +kernel
set_option maxRecDepth 20000 in
theorem d_187_238 : decode (js_b 187) 238 = .ok (.istore 7, 2) := by decide +kernel
set_option maxRecDepth 20000 in
theorem d_187_240 : decode (js_b 187) 240 = .ok (.goto 129, 3) := by decide +kernel
set_option maxRecDepth 20000 in
theorem d_187_243 : decode (js_b 187) 243 = .ok (.aload_n 1, 1) := by decide +kernel
set_option maxRecDepth 20000 in
theorem d_187_244 : decode (js_b 187) 244 = .ok (.iload 6, 2) := by decide +kernel
set_option maxRecDepth 20000 in
theorem d_187_246 : decode (js_b 187) 246 = .ok (.bipush 9, 2) := by decide +kernel
set_option maxRecDepth 20000 in
theorem d_187_248 : decode (js_b 187) 248 = .ok (.irem, 1) := by decide +kernel
set_option maxRecDepth 20000 in
theorem d_187_249 : decode (js_b 187) 249 = .ok (.iload 6, 2) := by decide +kernel
set_option maxRecDepth 20000 in
theorem d_187_251 : decode (js_b 187) 251 = .ok (.iconst 4, 1) := by decide +kernel
set_option maxRecDepth 20000 in
theorem d_187_252 : decode (js_b 187) 252 = .ok (.iushr, 1) := by decide +kernel
set_option maxRecDepth 20000 in
theorem d_187_253 : decode (js_b 187) 253 = .ok (.bipush 9, 2) := by decide +kernel
set_option maxRecDepth 20000 in
theorem d_187_255 : decode (js_b 187) 255 = .ok (.irem, 1) := by decide +kernel
set_option maxRecDepth 20000 in
theorem d_187_256 : decode (js_b 187) 256 = .ok (.invokestatic 167, 3) := by decide +kernel
set_option maxRecDepth 20000 in
theorem d_187_259 : decode (js_b 187) 259 = .ok (.istore 7, 2) := by decide +kernel
set_option maxRecDepth 20000 in
theorem d_187_261 : decode (js_b 187) 261 = .ok (.goto 108, 3) := by decide +kernel
set_option maxRecDepth 20000 in
theorem d_187_264 : decode (js_b 187) 264 = .ok (.aload_n 1, 1) := by decide +kernel
set_option maxRecDepth 20000 in
theorem d_187_265 : decode (js_b 187) 265 = .ok (.invokevirtual 403, 3) := by decide +kernel
set_option maxRecDepth 20000 in
theorem d_187_268 : decode (js_b 187) 268 = .ok (.istore 7, 2) := by decide +kernel
set_option maxRecDepth 20000 in
theorem d_187_270 : decode (js_b 187) 270 = .ok (.goto 99, 3) := by decide +kernel
set_option maxRecDepth 20000 in
theorem d_187_273 : decode (js_b 187) 273 = .ok (.aload_n 1, 1) := by decide +kernel
set_option maxRecDepth 20000 in
theorem d_187_274 : decode (js_b 187) 274 = .ok (.new 356, 3) := by decide +kernel
set_option maxRecDepth 20000 in
theorem d_187_277 : decode (js_b 187) 277 = .ok (.dup, 1) := by decide +kernel
set_option maxRecDepth 20000 in
theorem d_187_278 : decode (js_b 187) 278 = .ok (.invokespecial 358, 3) := by decide +kernel
set_option maxRecDepth 20000 in
theorem d_187_281 : decode (js_b 187) 281 = .ok (.ldc_w 406, 3) := by decide +kernel
set_option maxRecDepth 20000 in
theorem d_187_284 : decode (js_b 187) 284 = .ok (.invokevirtual 359, 3) := by decide +kernel
set_option maxRecDepth 20000 in
theorem d_187_287 : decode (js_b 187) 287 = .ok (.iload 6, 2) := by decide +kernel
set_option maxRecDepth 20000 in
theorem d_187_289 : decode (js_b 187) 289 = .ok (.bipush 13, 2) := by decide +kernel
set_option maxRecDepth 20000 in
theorem d_187_291 : decode (js_b 187) 291 = .ok (.irem, 1) := by decide +kernel
set_option maxRecDepth 20000 in
theorem d_187_292 : decode (js_b 187) 292 = .ok (.invokevirtual 383, 3) := by decide +kernel
set_option maxRecDepth 20000 in
theorem d_187_295 : decode (js_b 187) 295 = .ok (.ldc_w 408, 3) := by decide +kernel
set_option maxRecDepth 20000 in
theorem d_187_298 : decode (js_b 187) 298 = .ok (.invokevirtual 359, 3) := by decide +kernel
set_option maxRecDepth 20000 in
theorem d_187_301 : decode (js_b 187) 301 = .ok (.iload 6, 2) := by decide +kernel
set_option maxRecDepth 20000 in
theorem d_187_303 : decode (js_b 187) 303 = .ok (.iconst 4, 1) := by decide +kernel
set_option maxRecDepth 20000 in
theorem d_187_304 : decode (js_b 187) 304 = .ok (.iushr, 1) := by decide +kernel
set_option maxRecDepth 20000 in
theorem d_187_305 : decode (js_b 187) 305 = .ok (.iconst 5, 1) := by decide +kernel
set_option maxRecDepth 20000 in
theorem d_187_306 : decode (js_b 187) 306 = .ok (.irem, 1) := by decide +kernel
set_option maxRecDepth 20000 in
theorem d_187_307 : decode (js_b 187) 307 = .ok (.invokevirtual 383, 3) := by decide +kernel
set_option maxRecDepth 20000 in
theorem d_187_310 : decode (js_b 187) 310 = .ok (.ldc_w 410, 3) := by decide +kernel
set_option maxRecDepth 20000 in
theorem d_187_313 : decode (js_b 187) 313 = .ok (.invokevirtual 359, 3) := by decide +kernel
set_option maxRecDepth 20000 in
theorem d_187_316 : decode (js_b 187) 316 = .ok (.iload 6, 2) := by decide +kernel
set_option maxRecDepth 20000 in
theorem d_187_318 : decode (js_b 187) 318 = .ok (.bipush 7, 2) := by decide +kernel
set_option maxRecDepth 20000 in
theorem d_187_320 : decode (js_b 187) 320 = .ok (.iushr, 1) := by decide +kernel
set_option maxRecDepth 20000 in
theorem d_187_321 : decode (js_b 187) 321 = .ok (.bipush 13, 2) := by decide +kernel
set_option maxRecDepth 20000 in
theorem d_187_323 : decode (js_b 187) 323 = .ok (.irem, 1) := by decide +kernel
set_option maxRecDepth 20000 in
theorem d_187_324 : decode (js_b 187) 324 = .ok (.invokevirtual 383, 3) := by decide +kernel
set_option maxRecDepth 20000 in
theorem d_187_327 : decode (js_b 187) 327 = .ok (.ldc_w 381, 3) := by decide +kernel
set_option maxRecDepth 20000 in
theorem d_187_330 : decode (js_b 187) 330 = .ok (.invokevirtual 359, 3) := by decide +kernel
set_option maxRecDepth 20000 in
theorem d_187_333 : decode (js_b 187) 333 = .ok (.iload 6, 2) := by decide +kernel
set_option maxRecDepth 20000 in
theorem d_187_335 : decode (js_b 187) 335 = .ok (.bipush 11, 2) := by decide +kernel
set_option maxRecDepth 20000 in
theorem d_187_337 : decode (js_b 187) 337 = .ok (.iushr, 1) := by decide +kernel
set_option maxRecDepth 20000 in
theorem d_187_338 : decode (js_b 187) 338 = .ok (.bipush 9, 2) := by decide +kernel
set_option maxRecDepth 20000 in
theorem d_187_340 : decode (js_b 187) 340 = .ok (.irem, 1) := by decide +kernel
set_option maxRecDepth 20000 in
theorem d_187_341 : decode (js_b 187) 341 = .ok (.invokevirtual 383, 3) := by decide +kernel
set_option maxRecDepth 20000 in
theorem d_187_344 : decode (js_b 187) 344 = .ok (.iload 6, 2) := by decide +kernel
set_option maxRecDepth 20000 in
theorem d_187_346 : decode (js_b 187) 346 = .ok (.bipush 15, 2) := by decide +kernel
set_option maxRecDepth 20000 in
theorem d_187_348 : decode (js_b 187) 348 = .ok (.iushr, 1) := by decide +kernel
set_option maxRecDepth 20000 in
theorem d_187_349 : decode (js_b 187) 349 = .ok (.bipush 8, 2) := by decide +kernel
set_option maxRecDepth 20000 in
theorem d_187_351 : decode (js_b 187) 351 = .ok (.irem, 1) := by decide +kernel
set_option maxRecDepth 20000 in
theorem d_187_352 : decode (js_b 187) 352 = .ok (.invokevirtual 383, 3) := by decide +kernel
set_option maxRecDepth 20000 in
theorem d_187_355 : decode (js_b 187) 355 = .ok (.ldc_w 412, 3) := by decide +kernel
set_option maxRecDepth 20000 in
theorem d_187_358 : decode (js_b 187) 358 = .ok (.invokevirtual 359, 3) := by decide +kernel
set_option maxRecDepth 20000 in
theorem d_187_361 : decode (js_b 187) 361 = .ok (.invokevirtual 366, 3) := by decide +kernel
set_option maxRecDepth 20000 in
theorem d_187_364 : decode (js_b 187) 364 = .ok (.invokestatic 414, 3) := by decide +kernel
set_option maxRecDepth 20000 in
theorem d_187_367 : decode (js_b 187) 367 = .ok (.istore 7, 2) := by decide +kernel
set_option maxRecDepth 20000 in
theorem d_187_369 : decode (js_b 187) 369 = .ok (.iload 7, 2) := by decide +kernel
set_option maxRecDepth 20000 in
theorem d_187_371 : decode (js_b 187) 371 = .ok (.ifCond .ge 16, 3) := by decide +kernel
set_option maxRecDepth 20000 in
theorem d_187_374 : decode (js_b 187) 374 = .ok (.aload_n 1, 1) := by decide +kernel
set_option maxRecDepth 20000 in
theorem d_187_375 : decode (js_b 187) 375 = .ok (.invokestatic 394, 3) := by decide +kernel
set_option maxRecDepth 20000 in
theorem d_187_378 : decode (js_b 187) 378 = .ok (.aload_n 2, 1) := by decide +kernel
set_option maxRecDepth 20000 in
theorem d_187_379 : decode (js_b 187) 379 = .ok (.iload_n 3, 1) := by decide +kernel
set_option maxRecDepth 20000 in
theorem d_187_380 : decode (js_b 187) 380 = .ok (.laload, 1) := by decide +kernel
set_option maxRecDepth 20000 in
theorem d_187_381 : decode (js_b 187) 381 = .ok (.lcmp, 1) := by decide +kernel
set_option maxRecDepth 20000 in
theorem d_187_382 : decode (js_b 187) 382 = .ok (.ifCond .eq 5, 3) := by decide +kernel
set_option maxRecDepth 20000 in
theorem d_187_385 : decode (js_b 187) 385 = .ok (.iconst 0, 1) := by decide +kernel
set_option maxRecDepth 20000 in
theorem d_187_386 : decode (js_b 187) 386 = .ok (.ireturn, 1) := by decide +kernel
set_option maxRecDepth 20000 in
theorem d_187_387 : decode (js_b 187) 387 = .ok (.iload_n 3, 1) := by decide +kernel
set_option maxRecDepth 20000 in
theorem d_187_388 : decode (js_b 187) 388 = .ok (.iload 7, 2) := by decide +kernel
set_option maxRecDepth 20000 in
theorem d_187_390 : decode (js_b 187) 390 = .ok (.ifCond .ge 7, 3) := by decide +kernel
set_option maxRecDepth 20000 in
theorem d_187_393 : decode (js_b 187) 393 = .ok (.iconst 0, 1) := by decide +kernel
set_option maxRecDepth 20000 in
theorem d_187_394 : decode (js_b 187) 394 = .ok (.goto 4, 3) := by decide +kernel
set_option maxRecDepth 20000 in
theorem d_187_397 : decode (js_b 187) 397 = .ok (.iconst 1, 1) := by decide +kernel
set_option maxRecDepth 20000 in
theorem d_187_398 : decode (js_b 187) 398 = .ok (.iadd, 1) := by decide +kernel
set_option maxRecDepth 20000 in
theorem d_187_399 : decode (js_b 187) 399 = .ok (.istore_n 3, 1) := by decide +kernel
set_option maxRecDepth 20000 in
theorem d_187_400 : decode (js_b 187) 400 = .ok (.iinc 4 1, 3) := by decide +kernel
set_option maxRecDepth 20000 in
theorem d_187_403 : decode (js_b 187) 403 = .ok (.goto (-393), 3) := by decide +kernel
set_option maxRecDepth 20000 in
theorem d_187_406 : decode (js_b 187) 406 = .ok (.aload_n 1, 1) := by decide +kernel
set_option maxRecDepth 20000 in
theorem d_187_407 : decode (js_b 187) 407 = .ok (.invokevirtual 417, 3) := by decide +kernel
set_option maxRecDepth 20000 in
theorem d_187_410 : decode (js_b 187) 410 = .ok (.istore 4, 2) := by decide +kernel
set_option maxRecDepth 20000 in
theorem d_187_412 : decode (js_b 187) 412 = .ok (.iload_n 3, 1) := by decide +kernel
set_option maxRecDepth 20000 in
theorem d_187_413 : decode (js_b 187) 413 = .ok (.iconst 1, 1) := by decide +kernel
set_option maxRecDepth 20000 in
theorem d_187_414 : decode (js_b 187) 414 = .ok (.isub, 1) := by decide +kernel
set_option maxRecDepth 20000 in
theorem d_187_415 : decode (js_b 187) 415 = .ok (.istore 5, 2) := by decide +kernel
set_option maxRecDepth 20000 in
theorem d_187_417 : decode (js_b 187) 417 = .ok (.iload 5, 2) := by decide +kernel
set_option maxRecDepth 20000 in
theorem d_187_419 : decode (js_b 187) 419 = .ok (.ifCond .lt 35, 3) := by decide +kernel
set_option maxRecDepth 20000 in
theorem d_187_422 : decode (js_b 187) 422 = .ok (.iinc 4 (-1), 3) := by decide +kernel
set_option maxRecDepth 20000 in
theorem d_187_425 : decode (js_b 187) 425 = .ok (.aload_n 1, 1) := by decide +kernel
set_option maxRecDepth 20000 in
theorem d_187_426 : decode (js_b 187) 426 = .ok (.invokestatic 420, 3) := by decide +kernel
set_option maxRecDepth 20000 in
theorem d_187_429 : decode (js_b 187) 429 = .ok (.iload 4, 2) := by decide +kernel
set_option maxRecDepth 20000 in
theorem d_187_431 : decode (js_b 187) 431 = .ok (.if_icmp .ne 15, 3) := by decide +kernel
set_option maxRecDepth 20000 in
theorem d_187_434 : decode (js_b 187) 434 = .ok (.aload_n 1, 1) := by decide +kernel
set_option maxRecDepth 20000 in
theorem d_187_435 : decode (js_b 187) 435 = .ok (.invokestatic 394, 3) := by decide +kernel
set_option maxRecDepth 20000 in
theorem d_187_438 : decode (js_b 187) 438 = .ok (.aload_n 2, 1) := by decide +kernel
set_option maxRecDepth 20000 in
theorem d_187_439 : decode (js_b 187) 439 = .ok (.iload 5, 2) := by decide +kernel
set_option maxRecDepth 20000 in
theorem d_187_441 : decode (js_b 187) 441 = .ok (.laload, 1) := by decide +kernel
set_option maxRecDepth 20000 in
theorem d_187_442 : decode (js_b 187) 442 = .ok (.lcmp, 1) := by decide +kernel
set_option maxRecDepth 20000 in
theorem d_187_443 : decode (js_b 187) 443 = .ok (.ifCond .eq 5, 3) := by decide +kernel
set_option maxRecDepth 20000 in
theorem d_187_446 : decode (js_b 187) 446 = .ok (.iconst 0, 1) := by decide +kernel
set_option maxRecDepth 20000 in
theorem d_187_447 : decode (js_b 187) 447 = .ok (.ireturn, 1) := by decide +kernel
set_option maxRecDepth 20000 in
theorem d_187_448 : decode (js_b 187) 448 = .ok (.iinc 5 (-1), 3) := by decide +kernel
set_option maxRecDepth 20000 in
theorem d_187_451 : decode (js_b 187) 451 = .ok (.goto (-34), 3) := by decide +kernel
set_option maxRecDepth 20000 in
theorem d_187_454 : decode (js_b 187) 454 = .ok (.iconst 1, 1) := by decide +kernel
set_option maxRecDepth 20000 in
theorem d_187_455 : decode (js_b 187) 455 = .ok (.ireturn, 1) := by decide +kernel
theorem ki_187_14 : js_OkG 187 14 (o_cge 406 17) := js_St.okG (st_icge (by decide) d_187_14) (fun _ _ _ _ _ => rfl)
theorem ki_187_12 : js_OkG 187 12 (o_ic 7 14) := js_St.okG (st_bipush rfl d_187_12) (fun _ _ _ _ _ => rfl)
theorem ki_187_10 : js_OkG 187 10 (o_il 4 12) := js_St.okG (st_iload d_187_10) (fun _ _ _ _ _ => rfl)
theorem ki_187_8 : js_OkG 187 8 (o_is 4 10) := js_St.okG (st_istore (Nat.le_of_ble_eq_true rfl) d_187_8) (fun _ _ _ _ _ => rfl)
theorem ki_187_7 : js_OkG 187 7 (o_ic 0 8) := js_St.okG (st_iconst rfl d_187_7) (fun _ _ _ _ _ => rfl)
theorem ki_187_6 : js_OkG 187 6 (o_is 3 7) := js_St.okG (st_istoren rfl (Nat.le_of_ble_eq_true rfl) d_187_6) (fun _ _ _ _ _ => rfl)
theorem ki_187_5 : js_OkG 187 5 (o_ic 0 6) := js_St.okG (st_iconst rfl d_187_5) (fun _ _ _ _ _ => rfl)
theorem ki_187_4 : js_OkG 187 4 (o_as 2 5) := js_St.okG (st_astoren rfl (Nat.le_of_ble_eq_true rfl) d_187_4) (fun _ _ _ _ _ => rfl)
theorem ki_187_2 : js_OkG 187 2 (o_na 102 (.long 0) 4) := js_St.okG (st_na (by decide) rfl (fun _ h => by cases h) (by decide) (fun _ => rfl) kw_836 d_187_2) (fun _ _ _ _ _ => rfl)
theorem ki_187_0 : js_OkG 187 0 (o_ic 9 2) := js_St.okG (st_bipush rfl d_187_0) (fun _ _ _ _ _ => rfl)
theorem ki_187_30 : js_OkG 187 30 (o_il 5 32) := js_St.okG (st_iload d_187_30) (fun _ _ _ _ _ => rfl)
theorem ki_187_28 : js_OkG 187 28 (o_is 5 30) := js_St.okG (st_istore (Nat.le_of_ble_eq_true rfl) d_187_28) (fun _ _ _ _ _ => rfl)
theorem ki_187_27 : js_OkG 187 27 (o_b2 (fun x y => (x.toUInt32 >>> (y.toUInt32 &&& Int32.toUInt32 31)).toInt32) 28) := js_St.okG (st_iushr d_187_27) (fun _ _ _ _ _ => rfl)
theorem ki_187_26 : js_OkG 187 26 (o_ic 1 27) := js_St.okG (st_iconst rfl d_187_26) (fun _ _ _ _ _ => rfl)
theorem ki_187_23 : js_OkG 187 23 (o_cI 165 2 0 26) := og_sIP rfl rfl kB_187_165 rfl kw_263 kw_264 d_187_23
theorem ki_187_22 : js_OkG 187 22 (o_b2 (fun x y => x + y) 23) := js_St.okG (st_iadd d_187_22) (fun _ _ _ _ _ => rfl)
theorem ki_187_20 : js_OkG 187 20 (o_il 4 22) := js_St.okG (st_iload d_187_20) (fun _ _ _ _ _ => rfl)
theorem ki_187_18 : js_OkG 187 18 (o_ic 22 20) := js_St.okG (st_bipush rfl d_187_18) (fun _ _ _ _ _ => rfl)
theorem ki_187_17 : js_OkG 187 17 (o_al 0 18) := js_St.okG (st_aloadn rfl d_187_17) (fun _ _ _ _ _ => rfl)
theorem ki_187_47 : js_OkG 187 47 (o_rem 48) := js_St.okG (st_irem d_187_47) (fun _ _ _ _ _ => rfl)
theorem ki_187_45 : js_OkG 187 45 (o_ic 10 47) := js_St.okG (st_bipush rfl d_187_45) (fun _ _ _ _ _ => rfl)
theorem ki_187_43 : js_OkG 187 43 (o_il 5 45) := js_St.okG (st_iload d_187_43) (fun _ _ _ _ _ => rfl)
theorem ki_187_42 : js_OkG 187 42 (o_sL 102 43) := js_St.okG (st_sL d_187_42) (fun _ _ _ _ _ => rfl)
theorem ki_187_39 : js_OkG 187 39 (o_cL 186 1 0 42) := og_sLP rfl rfl kB_187_186 rfl kw_1313 kw_1314 d_187_39
theorem ki_187_38 : js_OkG 187 38 (o_al 1 39) := js_St.okG (st_aloadn rfl d_187_38) (fun _ _ _ _ _ => rfl)
theorem ki_187_37 : js_OkG 187 37 (o_il 3 38) := js_St.okG (st_iloadn rfl d_187_37) (fun _ _ _ _ _ => rfl)
theorem ki_187_36 : js_OkG 187 36 (o_al 2 37) := js_St.okG (st_aloadn rfl d_187_36) (fun _ _ _ _ _ => rfl)
theorem ki_187_34 : js_OkG 187 34 (o_is 6 36) := js_St.okG (st_istore (Nat.le_of_ble_eq_true rfl) d_187_34) (fun _ _ _ _ _ => rfl)
theorem ki_187_33 : js_OkG 187 33 (o_b2 (fun x y => (x.toUInt32 >>> (y.toUInt32 &&& Int32.toUInt32 31)).toInt32) 34) := js_St.okG (st_iushr d_187_33) (fun _ _ _ _ _ => rfl)
theorem ki_187_32 : js_OkG 187 32 (o_ic 4 33) := js_St.okG (st_iconst rfl d_187_32) (fun _ _ _ _ _ => rfl)
theorem ki_187_48 : js_OkG 187 48 (o_sw 273 [(0, 100), (1, 145), (2, 159), (3, 159), (4, 188), (5, 202), (6, 222), (7, 243), (8, 264)]) := js_St.okG (st_tsw (by decide +kernel) (by decide +kernel) (by decide +kernel) d_187_48) (fun _ _ _ _ _ => rfl)
theorem ki_187_110 : js_OkG 187 110 (o_il 6 112) := js_St.okG (st_iload d_187_110) (fun _ _ _ _ _ => rfl)
theorem ki_187_109 : js_OkG 187 109 (o_u (fun x => (x.toUInt32 % 65536).toInt32) 110) := js_St.okG (st_i2c d_187_109) (fun _ _ _ _ _ => rfl)
theorem ki_187_108 : js_OkG 187 108 (o_b2 (fun x y => x + y) 109) := js_St.okG (st_iadd d_187_108) (fun _ _ _ _ _ => rfl)
theorem ki_187_107 : js_OkG 187 107 (o_rem 108) := js_St.okG (st_irem d_187_107) (fun _ _ _ _ _ => rfl)
theorem ki_187_105 : js_OkG 187 105 (o_ic 7 107) := js_St.okG (st_bipush rfl d_187_105) (fun _ _ _ _ _ => rfl)
theorem ki_187_103 : js_OkG 187 103 (o_il 6 105) := js_St.okG (st_iload d_187_103) (fun _ _ _ _ _ => rfl)
theorem ki_187_101 : js_OkG 187 101 (o_ic 97 103) := js_St.okG (st_bipush rfl d_187_101) (fun _ _ _ _ _ => rfl)
theorem ki_187_100 : js_OkG 187 100 (o_al 1 101) := js_St.okG (st_aloadn rfl d_187_100) (fun _ _ _ _ _ => rfl)
theorem ki_187_126 : js_OkG 187 126 (o_ic 16 128) := js_St.okG (st_bipush rfl d_187_126) (fun _ _ _ _ _ => rfl)
theorem ki_187_125 : js_OkG 187 125 (o_b2 (fun x y => (x.toUInt32 >>> (y.toUInt32 &&& Int32.toUInt32 31)).toInt32) 126) := js_St.okG (st_iushr d_187_125) (fun _ _ _ _ _ => rfl)
theorem ki_187_124 : js_OkG 187 124 (o_ic 5 125) := js_St.okG (st_iconst rfl d_187_124) (fun _ _ _ _ _ => rfl)
theorem ki_187_122 : js_OkG 187 122 (o_il 6 124) := js_St.okG (st_iload d_187_122) (fun _ _ _ _ _ => rfl)
theorem ki_187_121 : js_OkG 187 121 (o_rem 122) := js_St.okG (st_irem d_187_121) (fun _ _ _ _ _ => rfl)
theorem ki_187_119 : js_OkG 187 119 (o_ic 16 121) := js_St.okG (st_bipush rfl d_187_119) (fun _ _ _ _ _ => rfl)
theorem ki_187_118 : js_OkG 187 118 (o_b2 (fun x y => (x.toUInt32 >>> (y.toUInt32 &&& Int32.toUInt32 31)).toInt32) 119) := js_St.okG (st_iushr d_187_118) (fun _ _ _ _ _ => rfl)
theorem ki_187_117 : js_OkG 187 117 (o_ic 3 118) := js_St.okG (st_iconst rfl d_187_117) (fun _ _ _ _ _ => rfl)
theorem ki_187_115 : js_OkG 187 115 (o_il 6 117) := js_St.okG (st_iload d_187_115) (fun _ _ _ _ _ => rfl)
theorem ki_187_114 : js_OkG 187 114 (o_rem 115) := js_St.okG (st_irem d_187_114) (fun _ _ _ _ _ => rfl)
theorem ki_187_112 : js_OkG 187 112 (o_ic 17 114) := js_St.okG (st_bipush rfl d_187_112) (fun _ _ _ _ _ => rfl)
theorem ki_187_142 : js_OkG 187 142 (o_go 369) := js_St.okG (st_goto (by decide) d_187_142) (fun _ _ _ _ _ => rfl)
theorem ki_187_140 : js_OkG 187 140 (o_is 7 142) := js_St.okG (st_istore (Nat.le_of_ble_eq_true rfl) d_187_140) (fun _ _ _ _ _ => rfl)
theorem ki_187_137 : js_OkG 187 137 (o_cI 133 6 0 140) := og_sIW rfl rfl kB_187_133 rfl kw_270 kw_271 d_187_137
theorem ki_187_136 : js_OkG 187 136 (o_rem 137) := js_St.okG (st_irem d_187_136) (fun _ _ _ _ _ => rfl)
theorem ki_187_134 : js_OkG 187 134 (o_ic 16 136) := js_St.okG (st_bipush rfl d_187_134) (fun _ _ _ _ _ => rfl)
theorem ki_187_133 : js_OkG 187 133 (o_b2 (fun x y => (x.toUInt32 >>> (y.toUInt32 &&& Int32.toUInt32 31)).toInt32) 134) := js_St.okG (st_iushr d_187_133) (fun _ _ _ _ _ => rfl)
theorem ki_187_131 : js_OkG 187 131 (o_ic 7 133) := js_St.okG (st_bipush rfl d_187_131) (fun _ _ _ _ _ => rfl)
theorem ki_187_129 : js_OkG 187 129 (o_il 6 131) := js_St.okG (st_iload d_187_129) (fun _ _ _ _ _ => rfl)
theorem ki_187_128 : js_OkG 187 128 (o_rem 129) := js_St.okG (st_irem d_187_128) (fun _ _ _ _ _ => rfl)
theorem ki_187_159 : js_OkG 187 159 (o_al 1 160) := js_St.okG (st_aloadn rfl d_187_159) (fun _ _ _ _ _ => rfl)
theorem ki_187_156 : js_OkG 187 156 (o_go 369) := js_St.okG (st_goto (by decide) d_187_156) (fun _ _ _ _ _ => rfl)
theorem ki_187_154 : js_OkG 187 154 (o_is 7 156) := js_St.okG (st_istore (Nat.le_of_ble_eq_true rfl) d_187_154) (fun _ _ _ _ _ => rfl)
theorem ki_187_151 : js_OkG 187 151 (o_cI 134 2 0 154) := og_sIW rfl rfl kB_187_134 rfl kw_1320 kw_1321 d_187_151
theorem ki_187_150 : js_OkG 187 150 (o_rem 151) := js_St.okG (st_irem d_187_150) (fun _ _ _ _ _ => rfl)
theorem ki_187_148 : js_OkG 187 148 (o_ic 14 150) := js_St.okG (st_bipush rfl d_187_148) (fun _ _ _ _ _ => rfl)
theorem ki_187_146 : js_OkG 187 146 (o_il 6 148) := js_St.okG (st_iload d_187_146) (fun _ _ _ _ _ => rfl)
theorem ki_187_145 : js_OkG 187 145 (o_al 1 146) := js_St.okG (st_aloadn rfl d_187_145) (fun _ _ _ _ _ => rfl)
theorem ki_187_174 : js_OkG 187 174 (o_ic 8 176) := js_St.okG (st_bipush rfl d_187_174) (fun _ _ _ _ _ => rfl)
theorem ki_187_172 : js_OkG 187 172 (o_il 6 174) := js_St.okG (st_iload d_187_172) (fun _ _ _ _ _ => rfl)
theorem ki_187_171 : js_OkG 187 171 (o_rem 172) := js_St.okG (st_irem d_187_171) (fun _ _ _ _ _ => rfl)
theorem ki_187_169 : js_OkG 187 169 (o_ic 9 171) := js_St.okG (st_bipush rfl d_187_169) (fun _ _ _ _ _ => rfl)
theorem ki_187_168 : js_OkG 187 168 (o_b2 (fun x y => (x.toUInt32 >>> (y.toUInt32 &&& Int32.toUInt32 31)).toInt32) 169) := js_St.okG (st_iushr d_187_168) (fun _ _ _ _ _ => rfl)
theorem ki_187_167 : js_OkG 187 167 (o_ic 4 168) := js_St.okG (st_iconst rfl d_187_167) (fun _ _ _ _ _ => rfl)
theorem ki_187_165 : js_OkG 187 165 (o_il 6 167) := js_St.okG (st_iload d_187_165) (fun _ _ _ _ _ => rfl)
theorem ki_187_164 : js_OkG 187 164 (o_rem 165) := js_St.okG (st_irem d_187_164) (fun _ _ _ _ _ => rfl)
theorem ki_187_162 : js_OkG 187 162 (o_ic 14 164) := js_St.okG (st_bipush rfl d_187_162) (fun _ _ _ _ _ => rfl)
theorem ki_187_160 : js_OkG 187 160 (o_il 6 162) := js_St.okG (st_iload d_187_160) (fun _ _ _ _ _ => rfl)
theorem ki_187_191 : js_OkG 187 191 (o_ic 14 193) := js_St.okG (st_bipush rfl d_187_191) (fun _ _ _ _ _ => rfl)
theorem ki_187_189 : js_OkG 187 189 (o_il 6 191) := js_St.okG (st_iload d_187_189) (fun _ _ _ _ _ => rfl)
theorem ki_187_188 : js_OkG 187 188 (o_al 1 189) := js_St.okG (st_aloadn rfl d_187_188) (fun _ _ _ _ _ => rfl)
theorem ki_187_185 : js_OkG 187 185 (o_go 369) := js_St.okG (st_goto (by decide) d_187_185) (fun _ _ _ _ _ => rfl)
theorem ki_187_183 : js_OkG 187 183 (o_is 7 185) := js_St.okG (st_istore (Nat.le_of_ble_eq_true rfl) d_187_183) (fun _ _ _ _ _ => rfl)
theorem ki_187_180 : js_OkG 187 180 (o_cI 141 4 0 183) := og_sIW rfl rfl kB_187_141 rfl kw_588 kw_589 d_187_180
theorem ki_187_179 : js_OkG 187 179 (o_rem 180) := js_St.okG (st_irem d_187_179) (fun _ _ _ _ _ => rfl)
theorem ki_187_177 : js_OkG 187 177 (o_ic 9 179) := js_St.okG (st_bipush rfl d_187_177) (fun _ _ _ _ _ => rfl)
theorem ki_187_176 : js_OkG 187 176 (o_b2 (fun x y => (x.toUInt32 >>> (y.toUInt32 &&& Int32.toUInt32 31)).toInt32) 177) := js_St.okG (st_iushr d_187_176) (fun _ _ _ _ _ => rfl)
theorem ki_187_207 : js_OkG 187 207 (o_rem 208) := js_St.okG (st_irem d_187_207) (fun _ _ _ _ _ => rfl)
theorem ki_187_205 : js_OkG 187 205 (o_ic 14 207) := js_St.okG (st_bipush rfl d_187_205) (fun _ _ _ _ _ => rfl)
theorem ki_187_203 : js_OkG 187 203 (o_il 6 205) := js_St.okG (st_iload d_187_203) (fun _ _ _ _ _ => rfl)
theorem ki_187_202 : js_OkG 187 202 (o_al 1 203) := js_St.okG (st_aloadn rfl d_187_202) (fun _ _ _ _ _ => rfl)
theorem ki_187_199 : js_OkG 187 199 (o_go 369) := js_St.okG (st_goto (by decide) d_187_199) (fun _ _ _ _ _ => rfl)
theorem ki_187_197 : js_OkG 187 197 (o_is 7 199) := js_St.okG (st_istore (Nat.le_of_ble_eq_true rfl) d_187_197) (fun _ _ _ _ _ => rfl)
theorem ki_187_194 : js_OkG 187 194 (o_cI 142 2 0 197) := og_sIW rfl rfl kB_187_142 rfl kw_610 kw_611 d_187_194
theorem ki_187_193 : js_OkG 187 193 (o_rem 194) := js_St.okG (st_irem d_187_193) (fun _ _ _ _ _ => rfl)
theorem ki_187_223 : js_OkG 187 223 (o_il 6 225) := js_St.okG (st_iload d_187_223) (fun _ _ _ _ _ => rfl)
theorem ki_187_222 : js_OkG 187 222 (o_al 1 223) := js_St.okG (st_aloadn rfl d_187_222) (fun _ _ _ _ _ => rfl)
theorem ki_187_219 : js_OkG 187 219 (o_go 369) := js_St.okG (st_goto (by decide) d_187_219) (fun _ _ _ _ _ => rfl)
theorem ki_187_217 : js_OkG 187 217 (o_is 7 219) := js_St.okG (st_istore (Nat.le_of_ble_eq_true rfl) d_187_217) (fun _ _ _ _ _ => rfl)
theorem ki_187_214 : js_OkG 187 214 (o_cI 143 3 0 217) := og_sIW rfl rfl kB_187_143 rfl kw_446 kw_447 d_187_214
theorem ki_187_213 : js_OkG 187 213 (o_rem 214) := js_St.okG (st_irem d_187_213) (fun _ _ _ _ _ => rfl)
theorem ki_187_212 : js_OkG 187 212 (o_ic 5 213) := js_St.okG (st_iconst rfl d_187_212) (fun _ _ _ _ _ => rfl)
theorem ki_187_211 : js_OkG 187 211 (o_b2 (fun x y => (x.toUInt32 >>> (y.toUInt32 &&& Int32.toUInt32 31)).toInt32) 212) := js_St.okG (st_iushr d_187_211) (fun _ _ _ _ _ => rfl)
theorem ki_187_210 : js_OkG 187 210 (o_ic 4 211) := js_St.okG (st_iconst rfl d_187_210) (fun _ _ _ _ _ => rfl)
theorem ki_187_208 : js_OkG 187 208 (o_il 6 210) := js_St.okG (st_iload d_187_208) (fun _ _ _ _ _ => rfl)
theorem ki_187_238 : js_OkG 187 238 (o_is 7 240) := js_St.okG (st_istore (Nat.le_of_ble_eq_true rfl) d_187_238) (fun _ _ _ _ _ => rfl)
theorem ki_187_235 : js_OkG 187 235 (o_cI 144 3 0 238) := og_sIW rfl rfl kB_187_144 rfl kw_1331 kw_1332 d_187_235
theorem ki_187_234 : js_OkG 187 234 (o_rem 235) := js_St.okG (st_irem d_187_234) (fun _ _ _ _ _ => rfl)
theorem ki_187_232 : js_OkG 187 232 (o_ic 14 234) := js_St.okG (st_bipush rfl d_187_232) (fun _ _ _ _ _ => rfl)
theorem ki_187_231 : js_OkG 187 231 (o_b2 (fun x y => (x.toUInt32 >>> (y.toUInt32 &&& Int32.toUInt32 31)).toInt32) 232) := js_St.okG (st_iushr d_187_231) (fun _ _ _ _ _ => rfl)
theorem ki_187_230 : js_OkG 187 230 (o_ic 4 231) := js_St.okG (st_iconst rfl d_187_230) (fun _ _ _ _ _ => rfl)
theorem ki_187_228 : js_OkG 187 228 (o_il 6 230) := js_St.okG (st_iload d_187_228) (fun _ _ _ _ _ => rfl)
theorem ki_187_227 : js_OkG 187 227 (o_rem 228) := js_St.okG (st_irem d_187_227) (fun _ _ _ _ _ => rfl)
theorem ki_187_225 : js_OkG 187 225 (o_ic 14 227) := js_St.okG (st_bipush rfl d_187_225) (fun _ _ _ _ _ => rfl)
theorem ki_187_255 : js_OkG 187 255 (o_rem 256) := js_St.okG (st_irem d_187_255) (fun _ _ _ _ _ => rfl)
theorem ki_187_253 : js_OkG 187 253 (o_ic 9 255) := js_St.okG (st_bipush rfl d_187_253) (fun _ _ _ _ _ => rfl)
theorem ki_187_252 : js_OkG 187 252 (o_b2 (fun x y => (x.toUInt32 >>> (y.toUInt32 &&& Int32.toUInt32 31)).toInt32) 253) := js_St.okG (st_iushr d_187_252) (fun _ _ _ _ _ => rfl)
theorem ki_187_251 : js_OkG 187 251 (o_ic 4 252) := js_St.okG (st_iconst rfl d_187_251) (fun _ _ _ _ _ => rfl)
theorem ki_187_249 : js_OkG 187 249 (o_il 6 251) := js_St.okG (st_iload d_187_249) (fun _ _ _ _ _ => rfl)
theorem ki_187_248 : js_OkG 187 248 (o_rem 249) := js_St.okG (st_irem d_187_248) (fun _ _ _ _ _ => rfl)
theorem ki_187_246 : js_OkG 187 246 (o_ic 9 248) := js_St.okG (st_bipush rfl d_187_246) (fun _ _ _ _ _ => rfl)
theorem ki_187_244 : js_OkG 187 244 (o_il 6 246) := js_St.okG (st_iload d_187_244) (fun _ _ _ _ _ => rfl)
theorem ki_187_243 : js_OkG 187 243 (o_al 1 244) := js_St.okG (st_aloadn rfl d_187_243) (fun _ _ _ _ _ => rfl)
theorem ki_187_240 : js_OkG 187 240 (o_go 369) := js_St.okG (st_goto (by decide) d_187_240) (fun _ _ _ _ _ => rfl)
theorem ki_187_270 : js_OkG 187 270 (o_go 369) := js_St.okG (st_goto (by decide) d_187_270) (fun _ _ _ _ _ => rfl)
theorem ki_187_268 : js_OkG 187 268 (o_is 7 270) := js_St.okG (st_istore (Nat.le_of_ble_eq_true rfl) d_187_268) (fun _ _ _ _ _ => rfl)
theorem ki_187_265 : js_OkG 187 265 (o_cI 77 1 8 268) := og_cI (site_V kk_187_77 (by decide) kw_1343 kw_1344 kw_1345 (fun t ht => by cases ht; exact Or.inl ⟨by decide, _, rfl, rfl⟩) d_187_265) rfl rfl
theorem ki_187_264 : js_OkG 187 264 (o_al 1 265) := js_St.okG (st_aloadn rfl d_187_264) (fun _ _ _ _ _ => rfl)
theorem ki_187_261 : js_OkG 187 261 (o_go 369) := js_St.okG (st_goto (by decide) d_187_261) (fun _ _ _ _ _ => rfl)
theorem ki_187_259 : js_OkG 187 259 (o_is 7 261) := js_St.okG (st_istore (Nat.le_of_ble_eq_true rfl) d_187_259) (fun _ _ _ _ _ => rfl)
theorem ki_187_256 : js_OkG 187 256 (o_cI 145 3 0 259) := og_sIW rfl rfl kB_187_145 rfl kw_466 kw_467 d_187_256
theorem ki_187_287 : js_OkG 187 287 (o_il 6 289) := js_St.okG (st_iload d_187_287) (fun _ _ _ _ _ => rfl)
theorem ki_187_284 : js_OkG 187 284 (o_cA 257 2 9 287) := og_cA (site_V kk_187_257 (by decide) kw_1036 kw_1037 kw_1038 (fun t ht => by cases ht; exact Or.inl ⟨by decide, _, rfl, rfl⟩) d_187_284) rfl rfl
theorem ki_187_281 : js_OkG 187 281 (o_rc 33 284) := js_St.okG (st_ldcs (tx := "new a3c5a;turn ") (by decide +kernel) d_187_281) (fun _ _ _ _ _ => rfl)
theorem ki_187_278 : js_OkG 187 278 (o_cV 255 1 9 281) := og_cV (site_I kk_187_255 (by decide) rfl rfl kw_1007 kw_1008 d_187_278) rfl rfl
theorem ki_187_277 : js_OkG 187 277 (o_dup 278) := js_St.okG (st_dup d_187_277) (fun _ _ _ _ _ => rfl)
theorem ki_187_274 : js_OkG 187 274 (o_new 8 [.null, .int 0, .int 0, .int 0] 277) := js_St.okG (st_new js_c8 rfl (by decide +kernel) (fun _ => rfl) kw_1005 kw_1006 kw_50 d_187_274) (fun _ _ _ _ _ => rfl)
theorem ki_187_273 : js_OkG 187 273 (o_al 1 274) := js_St.okG (st_aloadn rfl d_187_273) (fun _ _ _ _ _ => rfl)
theorem ki_187_303 : js_OkG 187 303 (o_ic 4 304) := js_St.okG (st_iconst rfl d_187_303) (fun _ _ _ _ _ => rfl)
theorem ki_187_301 : js_OkG 187 301 (o_il 6 303) := js_St.okG (st_iload d_187_301) (fun _ _ _ _ _ => rfl)
theorem ki_187_298 : js_OkG 187 298 (o_cA 257 2 9 301) := og_cA (site_V kk_187_257 (by decide) kw_1036 kw_1037 kw_1038 (fun t ht => by cases ht; exact Or.inl ⟨by decide, _, rfl, rfl⟩) d_187_298) rfl rfl
theorem ki_187_295 : js_OkG 187 295 (o_rc 34 298) := js_St.okG (st_ldcs (tx := "*") (by decide +kernel) d_187_295) (fun _ _ _ _ _ => rfl)
theorem ki_187_292 : js_OkG 187 292 (o_cA 259 2 9 295) := og_cA (site_V kk_187_259 (by decide) kw_1309 kw_1211 kw_1212 (fun t ht => by cases ht; exact Or.inl ⟨by decide, _, rfl, rfl⟩) d_187_292) rfl rfl
theorem ki_187_291 : js_OkG 187 291 (o_rem 292) := js_St.okG (st_irem d_187_291) (fun _ _ _ _ _ => rfl)
theorem ki_187_289 : js_OkG 187 289 (o_ic 13 291) := js_St.okG (st_bipush rfl d_187_289) (fun _ _ _ _ _ => rfl)
theorem ki_187_318 : js_OkG 187 318 (o_ic 7 320) := js_St.okG (st_bipush rfl d_187_318) (fun _ _ _ _ _ => rfl)
theorem ki_187_316 : js_OkG 187 316 (o_il 6 318) := js_St.okG (st_iload d_187_316) (fun _ _ _ _ _ => rfl)
theorem ki_187_313 : js_OkG 187 313 (o_cA 257 2 9 316) := og_cA (site_V kk_187_257 (by decide) kw_1036 kw_1037 kw_1038 (fun t ht => by cases ht; exact Or.inl ⟨by decide, _, rfl, rfl⟩) d_187_313) rfl rfl
theorem ki_187_310 : js_OkG 187 310 (o_rc 35 313) := js_St.okG (st_ldcs (tx := ";put ") (by decide +kernel) d_187_310) (fun _ _ _ _ _ => rfl)
theorem ki_187_307 : js_OkG 187 307 (o_cA 259 2 9 310) := og_cA (site_V kk_187_259 (by decide) kw_1309 kw_1211 kw_1212 (fun t ht => by cases ht; exact Or.inl ⟨by decide, _, rfl, rfl⟩) d_187_307) rfl rfl
theorem ki_187_306 : js_OkG 187 306 (o_rem 307) := js_St.okG (st_irem d_187_306) (fun _ _ _ _ _ => rfl)
theorem ki_187_305 : js_OkG 187 305 (o_ic 5 306) := js_St.okG (st_iconst rfl d_187_305) (fun _ _ _ _ _ => rfl)
theorem ki_187_304 : js_OkG 187 304 (o_b2 (fun x y => (x.toUInt32 >>> (y.toUInt32 &&& Int32.toUInt32 31)).toInt32) 305) := js_St.okG (st_iushr d_187_304) (fun _ _ _ _ _ => rfl)
theorem ki_187_335 : js_OkG 187 335 (o_ic 11 337) := js_St.okG (st_bipush rfl d_187_335) (fun _ _ _ _ _ => rfl)
theorem ki_187_333 : js_OkG 187 333 (o_il 6 335) := js_St.okG (st_iload d_187_333) (fun _ _ _ _ _ => rfl)
theorem ki_187_330 : js_OkG 187 330 (o_cA 257 2 9 333) := og_cA (site_V kk_187_257 (by decide) kw_1036 kw_1037 kw_1038 (fun t ht => by cases ht; exact Or.inl ⟨by decide, _, rfl, rfl⟩) d_187_330) rfl rfl
theorem ki_187_327 : js_OkG 187 327 (o_rc 32 330) := js_St.okG (st_ldcs (tx := "@") (by decide +kernel) d_187_327) (fun _ _ _ _ _ => rfl)
theorem ki_187_324 : js_OkG 187 324 (o_cA 259 2 9 327) := og_cA (site_V kk_187_259 (by decide) kw_1309 kw_1211 kw_1212 (fun t ht => by cases ht; exact Or.inl ⟨by decide, _, rfl, rfl⟩) d_187_324) rfl rfl
theorem ki_187_323 : js_OkG 187 323 (o_rem 324) := js_St.okG (st_irem d_187_323) (fun _ _ _ _ _ => rfl)
theorem ki_187_321 : js_OkG 187 321 (o_ic 13 323) := js_St.okG (st_bipush rfl d_187_321) (fun _ _ _ _ _ => rfl)
theorem ki_187_320 : js_OkG 187 320 (o_b2 (fun x y => (x.toUInt32 >>> (y.toUInt32 &&& Int32.toUInt32 31)).toInt32) 321) := js_St.okG (st_iushr d_187_320) (fun _ _ _ _ _ => rfl)
theorem ki_187_351 : js_OkG 187 351 (o_rem 352) := js_St.okG (st_irem d_187_351) (fun _ _ _ _ _ => rfl)
theorem ki_187_349 : js_OkG 187 349 (o_ic 8 351) := js_St.okG (st_bipush rfl d_187_349) (fun _ _ _ _ _ => rfl)
theorem ki_187_348 : js_OkG 187 348 (o_b2 (fun x y => (x.toUInt32 >>> (y.toUInt32 &&& Int32.toUInt32 31)).toInt32) 349) := js_St.okG (st_iushr d_187_348) (fun _ _ _ _ _ => rfl)
theorem ki_187_346 : js_OkG 187 346 (o_ic 15 348) := js_St.okG (st_bipush rfl d_187_346) (fun _ _ _ _ _ => rfl)
theorem ki_187_344 : js_OkG 187 344 (o_il 6 346) := js_St.okG (st_iload d_187_344) (fun _ _ _ _ _ => rfl)
theorem ki_187_341 : js_OkG 187 341 (o_cA 259 2 9 344) := og_cA (site_V kk_187_259 (by decide) kw_1309 kw_1211 kw_1212 (fun t ht => by cases ht; exact Or.inl ⟨by decide, _, rfl, rfl⟩) d_187_341) rfl rfl
theorem ki_187_340 : js_OkG 187 340 (o_rem 341) := js_St.okG (st_irem d_187_340) (fun _ _ _ _ _ => rfl)
theorem ki_187_338 : js_OkG 187 338 (o_ic 9 340) := js_St.okG (st_bipush rfl d_187_338) (fun _ _ _ _ _ => rfl)
theorem ki_187_337 : js_OkG 187 337 (o_b2 (fun x y => (x.toUInt32 >>> (y.toUInt32 &&& Int32.toUInt32 31)).toInt32) 338) := js_St.okG (st_iushr d_187_337) (fun _ _ _ _ _ => rfl)
theorem ki_187_367 : js_OkG 187 367 (o_is 7 369) := js_St.okG (st_istore (Nat.le_of_ble_eq_true rfl) d_187_367) (fun _ _ _ _ _ => rfl)
theorem ki_187_364 : js_OkG 187 364 (o_cI 166 2 0 367) := og_sIP rfl rfl kB_187_166 rfl kw_1367 kw_1368 d_187_364
theorem ki_187_361 : js_OkG 187 361 (o_cA 260 1 9 364) := og_cA (site_V kk_187_260 (by decide) kw_1172 kw_1173 kw_1174 (fun t ht => by cases ht; exact Or.inl ⟨by decide, _, rfl, rfl⟩) d_187_361) rfl rfl
theorem ki_187_358 : js_OkG 187 358 (o_cA 257 2 9 361) := og_cA (site_V kk_187_257 (by decide) kw_1036 kw_1037 kw_1038 (fun t ht => by cases ht; exact Or.inl ⟨by decide, _, rfl, rfl⟩) d_187_358) rfl rfl
theorem ki_187_355 : js_OkG 187 355 (o_rc 36 358) := js_St.okG (st_ldcs (tx := ";fill") (by decide +kernel) d_187_355) (fun _ _ _ _ _ => rfl)
theorem ki_187_352 : js_OkG 187 352 (o_cA 259 2 9 355) := og_cA (site_V kk_187_259 (by decide) kw_1309 kw_1211 kw_1212 (fun t ht => by cases ht; exact Or.inl ⟨by decide, _, rfl, rfl⟩) d_187_352) rfl rfl
theorem ki_187_382 : js_OkG 187 382 (o_eq 387 385) := js_St.okG (st_ifeq (by decide) d_187_382) (fun _ _ _ _ _ => rfl)
theorem ki_187_381 : js_OkG 187 381 (o_lcmp 382) := js_St.okG (st_lcmp d_187_381) (fun _ _ _ _ _ => rfl)
theorem ki_187_380 : js_OkG 187 380 (o_lL 102 381) := js_St.okG (st_lL d_187_380) (fun _ _ _ _ _ => rfl)
theorem ki_187_379 : js_OkG 187 379 (o_il 3 380) := js_St.okG (st_iloadn rfl d_187_379) (fun _ _ _ _ _ => rfl)
theorem ki_187_378 : js_OkG 187 378 (o_al 2 379) := js_St.okG (st_aloadn rfl d_187_378) (fun _ _ _ _ _ => rfl)
theorem ki_187_375 : js_OkG 187 375 (o_cL 186 1 0 378) := og_sLP rfl rfl kB_187_186 rfl kw_1313 kw_1314 d_187_375
theorem ki_187_374 : js_OkG 187 374 (o_al 1 375) := js_St.okG (st_aloadn rfl d_187_374) (fun _ _ _ _ _ => rfl)
theorem ki_187_371 : js_OkG 187 371 (o_ge 387 374) := js_St.okG (st_ifge (by decide) d_187_371) (fun _ _ _ _ _ => rfl)
theorem ki_187_369 : js_OkG 187 369 (o_il 7 371) := js_St.okG (st_iload d_187_369) (fun _ _ _ _ _ => rfl)
theorem ki_187_399 : js_OkG 187 399 (o_is 3 400) := js_St.okG (st_istoren rfl (Nat.le_of_ble_eq_true rfl) d_187_399) (fun _ _ _ _ _ => rfl)
theorem ki_187_398 : js_OkG 187 398 (o_b2 (fun x y => x + y) 399) := js_St.okG (st_iadd d_187_398) (fun _ _ _ _ _ => rfl)
theorem ki_187_397 : js_OkG 187 397 (o_ic 1 398) := js_St.okG (st_iconst rfl d_187_397) (fun _ _ _ _ _ => rfl)
theorem ki_187_394 : js_OkG 187 394 (o_go 398) := js_St.okG (st_goto (by decide) d_187_394) (fun _ _ _ _ _ => rfl)
theorem ki_187_393 : js_OkG 187 393 (o_ic 0 394) := js_St.okG (st_iconst rfl d_187_393) (fun _ _ _ _ _ => rfl)
theorem ki_187_390 : js_OkG 187 390 (o_ge 397 393) := js_St.okG (st_ifge (by decide) d_187_390) (fun _ _ _ _ _ => rfl)
theorem ki_187_388 : js_OkG 187 388 (o_il 7 390) := js_St.okG (st_iload d_187_388) (fun _ _ _ _ _ => rfl)
theorem ki_187_387 : js_OkG 187 387 (o_il 3 388) := js_St.okG (st_iloadn rfl d_187_387) (fun _ _ _ _ _ => rfl)
theorem ki_187_386 : js_OkG 187 386 (o_rZ) := og_rZ rfl d_187_386
theorem ki_187_385 : js_OkG 187 385 (o_ic 0 386) := js_St.okG (st_iconst rfl d_187_385) (fun _ _ _ _ _ => rfl)
theorem ki_187_415 : js_OkG 187 415 (o_is 5 417) := js_St.okG (st_istore (Nat.le_of_ble_eq_true rfl) d_187_415) (fun _ _ _ _ _ => rfl)
theorem ki_187_414 : js_OkG 187 414 (o_b2 (fun x y => x - y) 415) := js_St.okG (st_isub d_187_414) (fun _ _ _ _ _ => rfl)
theorem ki_187_413 : js_OkG 187 413 (o_ic 1 414) := js_St.okG (st_iconst rfl d_187_413) (fun _ _ _ _ _ => rfl)
theorem ki_187_412 : js_OkG 187 412 (o_il 3 413) := js_St.okG (st_iloadn rfl d_187_412) (fun _ _ _ _ _ => rfl)
theorem ki_187_410 : js_OkG 187 410 (o_is 4 412) := js_St.okG (st_istore (Nat.le_of_ble_eq_true rfl) d_187_410) (fun _ _ _ _ _ => rfl)
theorem ki_187_407 : js_OkG 187 407 (o_cI 111 1 8 410) := og_cI (site_V kk_187_111 (by decide) kw_1449 kw_1450 kw_1451 (fun t ht => by cases ht; exact Or.inl ⟨by decide, _, rfl, rfl⟩) d_187_407) rfl rfl
theorem ki_187_406 : js_OkG 187 406 (o_al 1 407) := js_St.okG (st_aloadn rfl d_187_406) (fun _ _ _ _ _ => rfl)
theorem ki_187_403 : js_OkG 187 403 (o_go 10) := js_St.okG (st_goto (by decide) d_187_403) (fun _ _ _ _ _ => rfl)
theorem ki_187_400 : js_OkG 187 400 (o_inc 4 1 403) := js_St.okG (st_iinc rfl (Nat.le_of_ble_eq_true rfl) d_187_400) (fun _ _ _ _ _ => rfl)
theorem ki_187_431 : js_OkG 187 431 (o_cne 446 434) := js_St.okG (st_icne (by decide) d_187_431) (fun _ _ _ _ _ => rfl)
theorem ki_187_429 : js_OkG 187 429 (o_il 4 431) := js_St.okG (st_iload d_187_429) (fun _ _ _ _ _ => rfl)
theorem ki_187_426 : js_OkG 187 426 (o_cI 162 1 0 429) := og_sIW rfl rfl kB_187_162 rfl kw_1453 kw_1454 d_187_426
theorem ki_187_425 : js_OkG 187 425 (o_al 1 426) := js_St.okG (st_aloadn rfl d_187_425) (fun _ _ _ _ _ => rfl)
theorem ki_187_422 : js_OkG 187 422 (o_inc 4 (-1) 425) := js_St.okG (st_iinc rfl (Nat.le_of_ble_eq_true rfl) d_187_422) (fun _ _ _ _ _ => rfl)
theorem ki_187_419 : js_OkG 187 419 (o_lt 454 422) := js_St.okG (st_iflt (by decide) d_187_419) (fun _ _ _ _ _ => rfl)
theorem ki_187_417 : js_OkG 187 417 (o_il 5 419) := js_St.okG (st_iload d_187_417) (fun _ _ _ _ _ => rfl)
theorem ki_187_447 : js_OkG 187 447 (o_rZ) := og_rZ rfl d_187_447
theorem ki_187_446 : js_OkG 187 446 (o_ic 0 447) := js_St.okG (st_iconst rfl d_187_446) (fun _ _ _ _ _ => rfl)
theorem ki_187_443 : js_OkG 187 443 (o_eq 448 446) := js_St.okG (st_ifeq (by decide) d_187_443) (fun _ _ _ _ _ => rfl)
theorem ki_187_442 : js_OkG 187 442 (o_lcmp 443) := js_St.okG (st_lcmp d_187_442) (fun _ _ _ _ _ => rfl)
theorem ki_187_441 : js_OkG 187 441 (o_lL 102 442) := js_St.okG (st_lL d_187_441) (fun _ _ _ _ _ => rfl)
theorem ki_187_439 : js_OkG 187 439 (o_il 5 441) := js_St.okG (st_iload d_187_439) (fun _ _ _ _ _ => rfl)
theorem ki_187_438 : js_OkG 187 438 (o_al 2 439) := js_St.okG (st_aloadn rfl d_187_438) (fun _ _ _ _ _ => rfl)
theorem ki_187_435 : js_OkG 187 435 (o_cL 186 1 0 438) := og_sLP rfl rfl kB_187_186 rfl kw_1313 kw_1314 d_187_435
theorem ki_187_434 : js_OkG 187 434 (o_al 1 435) := js_St.okG (st_aloadn rfl d_187_434) (fun _ _ _ _ _ => rfl)
theorem ki_187_455 : js_OkG 187 455 (o_rZ) := og_rZ rfl d_187_455
theorem ki_187_454 : js_OkG 187 454 (o_ic 1 455) := js_St.okG (st_iconst rfl d_187_454) (fun _ _ _ _ _ => rfl)
theorem ki_187_451 : js_OkG 187 451 (o_go 417) := js_St.okG (st_goto (by decide) d_187_451) (fun _ _ _ _ _ => rfl)
theorem ki_187_448 : js_OkG 187 448 (o_inc 5 (-1) 451) := js_St.okG (st_iinc rfl (Nat.le_of_ble_eq_true rfl) d_187_448) (fun _ _ _ _ _ => rfl)
set_option maxRecDepth 20000 in
theorem mk_187 : js_mokG 187 := jk_tab (fun _ => js_St.okG st_bad (fun _ _ _ _ _ => rfl)) (show jk_all (js_OkG 187) 0 tb_187 from ⟨⟨ki_187_0, ⟨kbadG, ⟨ki_187_2, ⟨kbadG, ⟨ki_187_4, ⟨ki_187_5, ⟨ki_187_6, ⟨ki_187_7, ⟨ki_187_8, ⟨kbadG, ⟨ki_187_10, ⟨kbadG, ⟨ki_187_12, ⟨kbadG, ⟨ki_187_14, ⟨kbadG, trivial⟩⟩⟩⟩⟩⟩⟩⟩⟩⟩⟩⟩⟩⟩⟩⟩, ⟨⟨kbadG, ⟨ki_187_17, ⟨ki_187_18, ⟨kbadG, ⟨ki_187_20, ⟨kbadG, ⟨ki_187_22, ⟨ki_187_23, ⟨kbadG, ⟨kbadG, ⟨ki_187_26, ⟨ki_187_27, ⟨ki_187_28, ⟨kbadG, ⟨ki_187_30, ⟨kbadG, trivial⟩⟩⟩⟩⟩⟩⟩⟩⟩⟩⟩⟩⟩⟩⟩⟩, ⟨⟨ki_187_32, ⟨ki_187_33, ⟨ki_187_34, ⟨kbadG, ⟨ki_187_36, ⟨ki_187_37, ⟨ki_187_38, ⟨ki_187_39, ⟨kbadG, ⟨kbadG, ⟨ki_187_42, ⟨ki_187_43, ⟨kbadG, ⟨ki_187_45, ⟨kbadG, ⟨ki_187_47, trivial⟩⟩⟩⟩⟩⟩⟩⟩⟩⟩⟩⟩⟩⟩⟩⟩, ⟨⟨ki_187_48, ⟨kbadG, ⟨kbadG, ⟨kbadG, ⟨kbadG, ⟨kbadG, ⟨kbadG, ⟨kbadG, ⟨kbadG, ⟨kbadG, ⟨kbadG, ⟨kbadG, ⟨kbadG, ⟨kbadG, ⟨kbadG, ⟨kbadG, trivial⟩⟩⟩⟩⟩⟩⟩⟩⟩⟩⟩⟩⟩⟩⟩⟩, ⟨⟨kbadG, ⟨kbadG, ⟨kbadG, ⟨kbadG, ⟨kbadG, ⟨kbadG, ⟨kbadG, ⟨kbadG, ⟨kbadG, ⟨kbadG, ⟨kbadG, ⟨kbadG, ⟨kbadG, ⟨kbadG, ⟨kbadG, ⟨kbadG, trivial⟩⟩⟩⟩⟩⟩⟩⟩⟩⟩⟩⟩⟩⟩⟩⟩, ⟨⟨kbadG, ⟨kbadG, ⟨kbadG, ⟨kbadG, ⟨kbadG, ⟨kbadG, ⟨kbadG, ⟨kbadG, ⟨kbadG, ⟨kbadG, ⟨kbadG, ⟨kbadG, ⟨kbadG, ⟨kbadG, ⟨kbadG, ⟨kbadG, trivial⟩⟩⟩⟩⟩⟩⟩⟩⟩⟩⟩⟩⟩⟩⟩⟩, ⟨⟨kbadG, ⟨kbadG, ⟨kbadG, ⟨kbadG, ⟨ki_187_100, ⟨ki_187_101, ⟨kbadG, ⟨ki_187_103, ⟨kbadG, ⟨ki_187_105, ⟨kbadG, ⟨ki_187_107, ⟨ki_187_108, ⟨ki_187_109, ⟨ki_187_110, ⟨kbadG, trivial⟩⟩⟩⟩⟩⟩⟩⟩⟩⟩⟩⟩⟩⟩⟩⟩, ⟨⟨ki_187_112, ⟨kbadG, ⟨ki_187_114, ⟨ki_187_115, ⟨kbadG, ⟨ki_187_117, ⟨ki_187_118, ⟨ki_187_119, ⟨kbadG, ⟨ki_187_121, ⟨ki_187_122, ⟨kbadG, ⟨ki_187_124, ⟨ki_187_125, ⟨ki_187_126, ⟨kbadG, trivial⟩⟩⟩⟩⟩⟩⟩⟩⟩⟩⟩⟩⟩⟩⟩⟩, ⟨⟨ki_187_128, ⟨ki_187_129, ⟨kbadG, ⟨ki_187_131, ⟨kbadG, ⟨ki_187_133, ⟨ki_187_134, ⟨kbadG, ⟨ki_187_136, ⟨ki_187_137, ⟨kbadG, ⟨kbadG, ⟨ki_187_140, ⟨kbadG, ⟨ki_187_142, ⟨kbadG, trivial⟩⟩⟩⟩⟩⟩⟩⟩⟩⟩⟩⟩⟩⟩⟩⟩, ⟨⟨kbadG, ⟨ki_187_145, ⟨ki_187_146, ⟨kbadG, ⟨ki_187_148, ⟨kbadG, ⟨ki_187_150, ⟨ki_187_151, ⟨kbadG, ⟨kbadG, ⟨ki_187_154, ⟨kbadG, ⟨ki_187_156, ⟨kbadG, ⟨kbadG, ⟨ki_187_159, trivial⟩⟩⟩⟩⟩⟩⟩⟩⟩⟩⟩⟩⟩⟩⟩⟩, ⟨⟨ki_187_160, ⟨kbadG, ⟨ki_187_162, ⟨kbadG, ⟨ki_187_164, ⟨ki_187_165, ⟨kbadG, ⟨ki_187_167, ⟨ki_187_168, ⟨ki_187_169, ⟨kbadG, ⟨ki_187_171, ⟨ki_187_172, ⟨kbadG, ⟨ki_187_174, ⟨kbadG, trivial⟩⟩⟩⟩⟩⟩⟩⟩⟩⟩⟩⟩⟩⟩⟩⟩, ⟨⟨ki_187_176, ⟨ki_187_177, ⟨kbadG, ⟨ki_187_179, ⟨ki_187_180, ⟨kbadG, ⟨kbadG, ⟨ki_187_183, ⟨kbadG, ⟨ki_187_185, ⟨kbadG, ⟨kbadG, ⟨ki_187_188, ⟨ki_187_189, ⟨kbadG, ⟨ki_187_191, trivial⟩⟩⟩⟩⟩⟩⟩⟩⟩⟩⟩⟩⟩⟩⟩⟩, ⟨⟨kbadG, ⟨ki_187_193, ⟨ki_187_194, ⟨kbadG, ⟨kbadG, ⟨ki_187_197, ⟨kbadG, ⟨ki_187_199, ⟨kbadG, ⟨kbadG, ⟨ki_187_202, ⟨ki_187_203, ⟨kbadG, ⟨ki_187_205, ⟨kbadG, ⟨ki_187_207, trivial⟩⟩⟩⟩⟩⟩⟩⟩⟩⟩⟩⟩⟩⟩⟩⟩, ⟨⟨ki_187_208, ⟨kbadG, ⟨ki_187_210, ⟨ki_187_211, ⟨ki_187_212, ⟨ki_187_213, ⟨ki_187_214, ⟨kbadG, ⟨kbadG, ⟨ki_187_217, ⟨kbadG, ⟨ki_187_219, ⟨kbadG, ⟨kbadG, ⟨ki_187_222, ⟨ki_187_223, trivial⟩⟩⟩⟩⟩⟩⟩⟩⟩⟩⟩⟩⟩⟩⟩⟩, ⟨⟨kbadG, ⟨ki_187_225, ⟨kbadG, ⟨ki_187_227, ⟨ki_187_228, ⟨kbadG, ⟨ki_187_230, ⟨ki_187_231, ⟨ki_187_232, ⟨kbadG, ⟨ki_187_234, ⟨ki_187_235, ⟨kbadG, ⟨kbadG, ⟨ki_187_238, ⟨kbadG, trivial⟩⟩⟩⟩⟩⟩⟩⟩⟩⟩⟩⟩⟩⟩⟩⟩, ⟨⟨ki_187_240, ⟨kbadG, ⟨kbadG, ⟨ki_187_243, ⟨ki_187_244, ⟨kbadG, ⟨ki_187_246, ⟨kbadG, ⟨ki_187_248, ⟨ki_187_249, ⟨kbadG, ⟨ki_187_251, ⟨ki_187_252, ⟨ki_187_253, ⟨kbadG, ⟨ki_187_255, trivial⟩⟩⟩⟩⟩⟩⟩⟩⟩⟩⟩⟩⟩⟩⟩⟩, ⟨⟨ki_187_256, ⟨kbadG, ⟨kbadG, ⟨ki_187_259, ⟨kbadG, ⟨ki_187_261, ⟨kbadG, ⟨kbadG, ⟨ki_187_264, ⟨ki_187_265, ⟨kbadG, ⟨kbadG, ⟨ki_187_268, ⟨kbadG, ⟨ki_187_270, ⟨kbadG, trivial⟩⟩⟩⟩⟩⟩⟩⟩⟩⟩⟩⟩⟩⟩⟩⟩, ⟨⟨kbadG, ⟨ki_187_273, ⟨ki_187_274, ⟨kbadG, ⟨kbadG, ⟨ki_187_277, ⟨ki_187_278, ⟨kbadG, ⟨kbadG, ⟨ki_187_281, ⟨kbadG, ⟨kbadG, ⟨ki_187_284, ⟨kbadG, ⟨kbadG, ⟨ki_187_287, trivial⟩⟩⟩⟩⟩⟩⟩⟩⟩⟩⟩⟩⟩⟩⟩⟩, ⟨⟨kbadG, ⟨ki_187_289, ⟨kbadG, ⟨ki_187_291, ⟨ki_187_292, ⟨kbadG, ⟨kbadG, ⟨ki_187_295, ⟨kbadG, ⟨kbadG, ⟨ki_187_298, ⟨kbadG, ⟨kbadG, ⟨ki_187_301, ⟨kbadG, ⟨ki_187_303, trivial⟩⟩⟩⟩⟩⟩⟩⟩⟩⟩⟩⟩⟩⟩⟩⟩, ⟨⟨ki_187_304, ⟨ki_187_305, ⟨ki_187_306, ⟨ki_187_307, ⟨kbadG, ⟨kbadG, ⟨ki_187_310, ⟨kbadG, ⟨kbadG, ⟨ki_187_313, ⟨kbadG, ⟨kbadG, ⟨ki_187_316, ⟨kbadG, ⟨ki_187_318, ⟨kbadG, trivial⟩⟩⟩⟩⟩⟩⟩⟩⟩⟩⟩⟩⟩⟩⟩⟩, ⟨⟨ki_187_320, ⟨ki_187_321, ⟨kbadG, ⟨ki_187_323, ⟨ki_187_324, ⟨kbadG, ⟨kbadG, ⟨ki_187_327, ⟨kbadG, ⟨kbadG, ⟨ki_187_330, ⟨kbadG, ⟨kbadG, ⟨ki_187_333, ⟨kbadG, ⟨ki_187_335, trivial⟩⟩⟩⟩⟩⟩⟩⟩⟩⟩⟩⟩⟩⟩⟩⟩, ⟨⟨kbadG, ⟨ki_187_337, ⟨ki_187_338, ⟨kbadG, ⟨ki_187_340, ⟨ki_187_341, ⟨kbadG, ⟨kbadG, ⟨ki_187_344, ⟨kbadG, ⟨ki_187_346, ⟨kbadG, ⟨ki_187_348, ⟨ki_187_349, ⟨kbadG, ⟨ki_187_351, trivial⟩⟩⟩⟩⟩⟩⟩⟩⟩⟩⟩⟩⟩⟩⟩⟩, ⟨⟨ki_187_352, ⟨kbadG, ⟨kbadG, ⟨ki_187_355, ⟨kbadG, ⟨kbadG, ⟨ki_187_358, ⟨kbadG, ⟨kbadG, ⟨ki_187_361, ⟨kbadG, ⟨kbadG, ⟨ki_187_364, ⟨kbadG, ⟨kbadG, ⟨ki_187_367, trivial⟩⟩⟩⟩⟩⟩⟩⟩⟩⟩⟩⟩⟩⟩⟩⟩, ⟨⟨kbadG, ⟨ki_187_369, ⟨kbadG, ⟨ki_187_371, ⟨kbadG, ⟨kbadG, ⟨ki_187_374, ⟨ki_187_375, ⟨kbadG, ⟨kbadG, ⟨ki_187_378, ⟨ki_187_379, ⟨ki_187_380, ⟨ki_187_381, ⟨ki_187_382, ⟨kbadG, trivial⟩⟩⟩⟩⟩⟩⟩⟩⟩⟩⟩⟩⟩⟩⟩⟩, ⟨⟨kbadG, ⟨ki_187_385, ⟨ki_187_386, ⟨ki_187_387, ⟨ki_187_388, ⟨kbadG, ⟨ki_187_390, ⟨kbadG, ⟨kbadG, ⟨ki_187_393, ⟨ki_187_394, ⟨kbadG, ⟨kbadG, ⟨ki_187_397, ⟨ki_187_398, ⟨ki_187_399, trivial⟩⟩⟩⟩⟩⟩⟩⟩⟩⟩⟩⟩⟩⟩⟩⟩, ⟨⟨ki_187_400, ⟨kbadG, ⟨kbadG, ⟨ki_187_403, ⟨kbadG, ⟨kbadG, ⟨ki_187_406, ⟨ki_187_407, ⟨kbadG, ⟨kbadG, ⟨ki_187_410, ⟨kbadG, ⟨ki_187_412, ⟨ki_187_413, ⟨ki_187_414, ⟨ki_187_415, trivial⟩⟩⟩⟩⟩⟩⟩⟩⟩⟩⟩⟩⟩⟩⟩⟩, ⟨⟨kbadG, ⟨ki_187_417, ⟨kbadG, ⟨ki_187_419, ⟨kbadG, ⟨kbadG, ⟨ki_187_422, ⟨kbadG, ⟨kbadG, ⟨ki_187_425, ⟨ki_187_426, ⟨kbadG, ⟨kbadG, ⟨ki_187_429, ⟨kbadG, ⟨ki_187_431, trivial⟩⟩⟩⟩⟩⟩⟩⟩⟩⟩⟩⟩⟩⟩⟩⟩, ⟨⟨kbadG, ⟨kbadG, ⟨ki_187_434, ⟨ki_187_435, ⟨kbadG, ⟨kbadG, ⟨ki_187_438, ⟨ki_187_439, ⟨kbadG, ⟨ki_187_441, ⟨ki_187_442, ⟨ki_187_443, ⟨kbadG, ⟨kbadG, ⟨ki_187_446, ⟨ki_187_447, trivial⟩⟩⟩⟩⟩⟩⟩⟩⟩⟩⟩⟩⟩⟩⟩⟩, ⟨⟨ki_187_448, ⟨kbadG, ⟨kbadG, ⟨ki_187_451, ⟨kbadG, ⟨kbadG, ⟨ki_187_454, ⟨ki_187_455, trivial⟩⟩⟩⟩⟩⟩⟩⟩, trivial⟩⟩⟩⟩⟩⟩⟩⟩⟩⟩⟩⟩⟩⟩⟩⟩⟩⟩⟩⟩⟩⟩⟩⟩⟩⟩⟩⟩⟩)
set_option maxRecDepth 20000 in
theorem d_188_0 : decode (js_b 188) 0 = .ok (.aload_n 0, 1) := by decide +kernel
set_option maxRecDepth 20000 in
theorem d_188_1 : decode (js_b 188) 1 = .ok (.invokestatic 201, 3) := by decide +kernel
set_option maxRecDepth 20000 in
theorem d_188_4 : decode (js_b 188) 4 = .ok (.astore_n 1, 1) := by decide +kernel
set_option maxRecDepth 20000 in
theorem d_188_5 : decode (js_b 188) 5 = .ok (.aload_n 1, 1) := by decide +kernel
set_option maxRecDepth 20000 in
theorem d_188_6 : decode (js_b 188) 6 = .ok (.ifnull 50, 3) := by decide +kernel
set_option maxRecDepth 20000 in
theorem d_188_9 : decode (js_b 188) 9 = .ok (.aload_n 1, 1) := by decide +kernel
set_option maxRecDepth 20000 in
theorem d_188_10 : decode (js_b 188) 10 = .ok (.invokestatic 205, 3) := by decide +kernel
set_option maxRecDepth 20000 in
theorem d_188_13 : decode (js_b 188) 13 = .ok (.ifCond .eq 43, 3) := by decide +kernel
set_option maxRecDepth 20000 in
theorem d_188_16 : decode (js_b 188) 16 = .ok (.aload_n 1, 1) := by decide +kernel
set_option maxRecDepth 20000 in
theorem d_188_17 : decode (js_b 188) 17 = .ok (.invokestatic 209, 3) := by decide +kernel
set_option maxRecDepth 20000 in
theorem d_188_20 : decode (js_b 188) 20 = .ok (.ifCond .eq 36, 3) := by decide +kernel
set_option maxRecDepth 20000 in
theorem d_188_23 : decode (js_b 188) 23 = .ok (.aload_n 1, 1) := by decide +kernel
set_option maxRecDepth 20000 in
theorem d_188_24 : decode (js_b 188) 24 = .ok (.invokestatic 212, 3) := by decide +kernel
set_option maxRecDepth 20000 in
theorem d_188_27 : decode (js_b 188) 27 = .ok (.ifCond .eq 29, 3) := by decide +kernel
set_option maxRecDepth 20000 in
theorem d_188_30 : decode (js_b 188) 30 = .ok (.aload_n 1, 1) := by decide +kernel
set_option maxRecDepth 20000 in
theorem d_188_31 : decode (js_b 188) 31 = .ok (.invokestatic 215, 3) := by decide +kernel
set_option maxRecDepth 20000 in
theorem d_188_34 : decode (js_b 188) 34 = .ok (.ifCond .eq 22, 3) := by decide +kernel
set_option maxRecDepth 20000 in
theorem d_188_37 : decode (js_b 188) 37 = .ok (.aload_n 1, 1) := by decide +kernel
set_option maxRecDepth 20000 in
theorem d_188_38 : decode (js_b 188) 38 = .ok (.invokestatic 218, 3) := by decide +kernel
set_option maxRecDepth 20000 in
theorem d_188_41 : decode (js_b 188) 41 = .ok (.ifCond .eq 15, 3) := by decide +kernel
set_option maxRecDepth 20000 in
theorem d_188_44 : decode (js_b 188) 44 = .ok (.aload_n 0, 1) := by decide +kernel
set_option maxRecDepth 20000 in
theorem d_188_45 : decode (js_b 188) 45 = .ok (.aload_n 1, 1) := by decide +kernel
set_option maxRecDepth 20000 in
theorem d_188_46 : decode (js_b 188) 46 = .ok (.invokestatic 221, 3) := by decide +kernel
set_option maxRecDepth 20000 in
theorem d_188_49 : decode (js_b 188) 49 = .ok (.ifCond .eq 7, 3) := by decide +kernel
set_option maxRecDepth 20000 in
theorem d_188_52 : decode (js_b 188) 52 = .ok (.iconst 1, 1) := by decide +kernel
set_option maxRecDepth 20000 in
theorem d_188_53 : decode (js_b 188) 53 = .ok (.goto 4, 3) := by decide +kernel
set_option maxRecDepth 20000 in
theorem d_188_56 : decode (js_b 188) 56 = .ok (.iconst 0, 1) := by decide +kernel
set_option maxRecDepth 20000 in
theorem d_188_57 : decode (js_b 188) 57 = .ok (.ireturn, 1) := by decide +kernel
theorem ki_188_13 : js_OkG 188 13 (o_eq 56 16) := js_St.okG (st_ifeq (by decide) d_188_13) (fun _ _ _ _ _ => rfl)
theorem ki_188_10 : js_OkG 188 10 (o_cI 179 1 0 13) := og_sIP rfl rfl kB_188_179 rfl kw_621 kw_622 d_188_10
theorem ki_188_9 : js_OkG 188 9 (o_al 1 10) := js_St.okG (st_aloadn rfl d_188_9) (fun _ _ _ _ _ => rfl)
theorem ki_188_6 : js_OkG 188 6 (o_nul 56 9) := js_St.okG (st_ifnull (by decide) d_188_6) (fun _ _ _ _ _ => rfl)
theorem ki_188_5 : js_OkG 188 5 (o_al 1 6) := js_St.okG (st_aloadn rfl d_188_5) (fun _ _ _ _ _ => rfl)
theorem ki_188_4 : js_OkG 188 4 (o_as 1 5) := js_St.okG (st_astoren rfl (Nat.le_of_ble_eq_true rfl) d_188_4) (fun _ _ _ _ _ => rfl)
theorem ki_188_1 : js_OkG 188 1 (o_cN 168 1 0 4) := og_sNP rfl rfl kB_188_168 rfl kw_57 kw_58 d_188_1
theorem ki_188_0 : js_OkG 188 0 (o_al 0 1) := js_St.okG (st_aloadn rfl d_188_0) (fun _ _ _ _ _ => rfl)
theorem ki_188_31 : js_OkG 188 31 (o_cI 183 1 0 34) := og_sIP rfl rfl kB_188_183 rfl kw_946 kw_947 d_188_31
theorem ki_188_30 : js_OkG 188 30 (o_al 1 31) := js_St.okG (st_aloadn rfl d_188_30) (fun _ _ _ _ _ => rfl)
theorem ki_188_27 : js_OkG 188 27 (o_eq 56 30) := js_St.okG (st_ifeq (by decide) d_188_27) (fun _ _ _ _ _ => rfl)
theorem ki_188_24 : js_OkG 188 24 (o_cI 181 1 0 27) := og_sIP rfl rfl kB_188_181 rfl kw_890 kw_891 d_188_24
theorem ki_188_23 : js_OkG 188 23 (o_al 1 24) := js_St.okG (st_aloadn rfl d_188_23) (fun _ _ _ _ _ => rfl)
theorem ki_188_20 : js_OkG 188 20 (o_eq 56 23) := js_St.okG (st_ifeq (by decide) d_188_20) (fun _ _ _ _ _ => rfl)
theorem ki_188_17 : js_OkG 188 17 (o_cI 180 1 0 20) := og_sIP rfl rfl kB_188_180 rfl kw_769 kw_770 d_188_17
theorem ki_188_16 : js_OkG 188 16 (o_al 1 17) := js_St.okG (st_aloadn rfl d_188_16) (fun _ _ _ _ _ => rfl)
theorem ki_188_46 : js_OkG 188 46 (o_cI 187 2 0 49) := og_sIP rfl rfl kB_188_187 rfl kw_1310 kw_1311 d_188_46
theorem ki_188_45 : js_OkG 188 45 (o_al 1 46) := js_St.okG (st_aloadn rfl d_188_45) (fun _ _ _ _ _ => rfl)
theorem ki_188_44 : js_OkG 188 44 (o_al 0 45) := js_St.okG (st_aloadn rfl d_188_44) (fun _ _ _ _ _ => rfl)
theorem ki_188_41 : js_OkG 188 41 (o_eq 56 44) := js_St.okG (st_ifeq (by decide) d_188_41) (fun _ _ _ _ _ => rfl)
theorem ki_188_38 : js_OkG 188 38 (o_cI 185 1 0 41) := og_sIP rfl rfl kB_188_185 rfl kw_1001 kw_1002 d_188_38
theorem ki_188_37 : js_OkG 188 37 (o_al 1 38) := js_St.okG (st_aloadn rfl d_188_37) (fun _ _ _ _ _ => rfl)
theorem ki_188_34 : js_OkG 188 34 (o_eq 56 37) := js_St.okG (st_ifeq (by decide) d_188_34) (fun _ _ _ _ _ => rfl)
theorem ki_188_57 : js_OkG 188 57 (o_rZ) := og_rZ rfl d_188_57
theorem ki_188_56 : js_OkG 188 56 (o_ic 0 57) := js_St.okG (st_iconst rfl d_188_56) (fun _ _ _ _ _ => rfl)
theorem ki_188_53 : js_OkG 188 53 (o_go 57) := js_St.okG (st_goto (by decide) d_188_53) (fun _ _ _ _ _ => rfl)
theorem ki_188_52 : js_OkG 188 52 (o_ic 1 53) := js_St.okG (st_iconst rfl d_188_52) (fun _ _ _ _ _ => rfl)
theorem ki_188_49 : js_OkG 188 49 (o_eq 56 52) := js_St.okG (st_ifeq (by decide) d_188_49) (fun _ _ _ _ _ => rfl)
set_option maxRecDepth 20000 in
theorem mk_188 : js_mokG 188 := jk_tab (fun _ => js_St.okG st_bad (fun _ _ _ _ _ => rfl)) (show jk_all (js_OkG 188) 0 tb_188 from ⟨⟨ki_188_0, ⟨ki_188_1, ⟨kbadG, ⟨kbadG, ⟨ki_188_4, ⟨ki_188_5, ⟨ki_188_6, ⟨kbadG, ⟨kbadG, ⟨ki_188_9, ⟨ki_188_10, ⟨kbadG, ⟨kbadG, ⟨ki_188_13, ⟨kbadG, ⟨kbadG, trivial⟩⟩⟩⟩⟩⟩⟩⟩⟩⟩⟩⟩⟩⟩⟩⟩, ⟨⟨ki_188_16, ⟨ki_188_17, ⟨kbadG, ⟨kbadG, ⟨ki_188_20, ⟨kbadG, ⟨kbadG, ⟨ki_188_23, ⟨ki_188_24, ⟨kbadG, ⟨kbadG, ⟨ki_188_27, ⟨kbadG, ⟨kbadG, ⟨ki_188_30, ⟨ki_188_31, trivial⟩⟩⟩⟩⟩⟩⟩⟩⟩⟩⟩⟩⟩⟩⟩⟩, ⟨⟨kbadG, ⟨kbadG, ⟨ki_188_34, ⟨kbadG, ⟨kbadG, ⟨ki_188_37, ⟨ki_188_38, ⟨kbadG, ⟨kbadG, ⟨ki_188_41, ⟨kbadG, ⟨kbadG, ⟨ki_188_44, ⟨ki_188_45, ⟨ki_188_46, ⟨kbadG, trivial⟩⟩⟩⟩⟩⟩⟩⟩⟩⟩⟩⟩⟩⟩⟩⟩, ⟨⟨kbadG, ⟨ki_188_49, ⟨kbadG, ⟨kbadG, ⟨ki_188_52, ⟨ki_188_53, ⟨kbadG, ⟨kbadG, ⟨ki_188_56, ⟨ki_188_57, trivial⟩⟩⟩⟩⟩⟩⟩⟩⟩⟩, trivial⟩⟩⟩⟩)
set_option maxRecDepth 20000 in
theorem d_300_0 : decode (js_b 300) 0 = .ok (.lload_n 1, 1) := by decide +kernel
set_option maxRecDepth 20000 in
theorem d_300_1 : decode (js_b 300) 1 = .ok (.lstore_n 3, 1) := by decide +kernel
set_option maxRecDepth 20000 in
theorem d_300_2 : decode (js_b 300) 2 = .ok (.iconst 0, 1) := by decide +kernel
set_option maxRecDepth 20000 in
theorem d_300_3 : decode (js_b 300) 3 = .ok (.istore 5, 2) := by decide +kernel
set_option maxRecDepth 20000 in
theorem d_300_5 : decode (js_b 300) 5 = .ok (.iload 5, 2) := by decide +kernel
set_option maxRecDepth 20000 in
theorem d_300_7 : decode (js_b 300) 7 = .ok (.bipush 64, 2) := by decide +kernel
set_option maxRecDepth 20000 in
theorem d_300_9 : decode (js_b 300) 9 = .ok (.if_icmp .ge 150, 3) := by decide +kernel
set_option maxRecDepth 20000 in
theorem d_300_12 : decode (js_b 300) 12 = .ok (.lload_n 1, 1) := by decide +kernel
set_option maxRecDepth 20000 in
theorem d_300_13 : decode (js_b 300) 13 = .ok (.iload 5, 2) := by decide +kernel
set_option maxRecDepth 20000 in
theorem d_300_15 : decode (js_b 300) 15 = .ok (.lushr, 1) := by decide +kernel
set_option maxRecDepth 20000 in
theorem d_300_16 : decode (js_b 300) 16 = .ok (.lconst 1, 1) := by decide +kernel
set_option maxRecDepth 20000 in
theorem d_300_17 : decode (js_b 300) 17 = .ok (.land, 1) := by decide +kernel
set_option maxRecDepth 20000 in
theorem d_300_18 : decode (js_b 300) 18 = .ok (.lconst 1, 1) := by decide +kernel
set_option maxRecDepth 20000 in
theorem d_300_19 : decode (js_b 300) 19 = .ok (.lcmp, 1) := by decide +kernel
set_option maxRecDepth 20000 in
theorem d_300_20 : decode (js_b 300) 20 = .ok (.ifCond .ne 133, 3) := by decide +kernel
set_option maxRecDepth 20000 in
theorem d_300_23 : decode (js_b 300) 23 = .ok (.lload_n 3, 1) := by decide +kernel
set_option maxRecDepth 20000 in
theorem d_300_24 : decode (js_b 300) 24 = .ok (.aload_n 0, 1) := by decide +kernel
set_option maxRecDepth 20000 in
theorem d_300_25 : decode (js_b 300) 25 = .ok (.iload 5, 2) := by decide +kernel
set_option maxRecDepth 20000 in
theorem d_300_27 : decode (js_b 300) 27 = .ok (.bipush 8, 2) := by decide +kernel
set_option maxRecDepth 20000 in
theorem d_300_29 : decode (js_b 300) 29 = .ok (.idiv, 1) := by decide +kernel
set_option maxRecDepth 20000 in
theorem d_300_30 : decode (js_b 300) 30 = .ok (.iload 5, 2) := by decide +kernel
set_option maxRecDepth 20000 in
theorem d_300_32 : decode (js_b 300) 32 = .ok (.bipush 8, 2) := by decide +kernel
set_option maxRecDepth 20000 in
theorem d_300_34 : decode (js_b 300) 34 = .ok (.irem, 1) := by decide +kernel
set_option maxRecDepth 20000 in
theorem d_300_35 : decode (js_b 300) 35 = .ok (.iconst 0, 1) := by decide +kernel
set_option maxRecDepth 20000 in
theorem d_300_36 : decode (js_b 300) 36 = .ok (.invokestatic 198, 3) := by decide +kernel
set_option maxRecDepth 20000 in
theorem d_300_39 : decode (js_b 300) 39 = .ok (.iconst 1, 1) := by decide +kernel
set_option maxRecDepth 20000 in
theorem d_300_40 : decode (js_b 300) 40 = .ok (.if_icmp .ne 13, 3) := by decide +kernel
set_option maxRecDepth 20000 in
theorem d_300_43 : decode (js_b 300) 43 = .ok (.lconst 1, 1) := by decide +kernel
set_option maxRecDepth 20000 in
theorem d_300_44 : decode (js_b 300) 44 = .ok (.iload 5, 2) := by decide +kernel
set_option maxRecDepth 20000 in
theorem d_300_46 : decode (js_b 300) 46 = .ok (.bipush 8, 2) := by decide +kernel
set_option maxRecDepth 20000 in
theorem d_300_48 : decode (js_b 300) 48 = .ok (.isub, 1) := by decide +kernel
set_option maxRecDepth 20000 in
theorem d_300_49 : decode (js_b 300) 49 = .ok (.lshl, 1) := by decide +kernel
set_option maxRecDepth 20000 in
theorem d_300_50 : decode (js_b 300) 50 = .ok (.goto 4, 3) := by decide +kernel
set_option maxRecDepth 20000 in
theorem d_300_53 : decode (js_b 300) 53 = .ok (.lconst 0, 1) := by decide +kernel
set_option maxRecDepth 20000 in
theorem d_300_54 : decode (js_b 300) 54 = .ok (.lor, 1) := by decide +kernel
set_option maxRecDepth 20000 in
theorem d_300_55 : decode (js_b 300) 55 = .ok (.lstore_n 3, 1) := by decide +kernel
set_option maxRecDepth 20000 in
theorem d_300_56 : decode (js_b 300) 56 = .ok (.lload_n 3, 1) := by decide +kernel
set_option maxRecDepth 20000 in
theorem d_300_57 : decode (js_b 300) 57 = .ok (.aload_n 0, 1) := by decide +kernel
set_option maxRecDepth 20000 in
theorem d_300_58 : decode (js_b 300) 58 = .ok (.iload 5, 2) := by decide +kernel
set_option maxRecDepth 20000 in
theorem d_300_60 : decode (js_b 300) 60 = .ok (.bipush 8, 2) := by decide +kernel
set_option maxRecDepth 20000 in
theorem d_300_62 : decode (js_b 300) 62 = .ok (.idiv, 1) := by decide +kernel
set_option maxRecDepth 20000 in
theorem d_300_63 : decode (js_b 300) 63 = .ok (.iload 5, 2) := by decide +kernel
set_option maxRecDepth 20000 in
theorem d_300_65 : decode (js_b 300) 65 = .ok (.bipush 8, 2) := by decide +kernel
set_option maxRecDepth 20000 in
theorem d_300_67 : decode (js_b 300) 67 = .ok (.irem, 1) := by decide +kernel
set_option maxRecDepth 20000 in
theorem d_300_68 : decode (js_b 300) 68 = .ok (.iconst 1, 1) := by decide +kernel
set_option maxRecDepth 20000 in
theorem d_300_69 : decode (js_b 300) 69 = .ok (.invokestatic 198, 3) := by decide +kernel
set_option maxRecDepth 20000 in
theorem d_300_72 : decode (js_b 300) 72 = .ok (.iconst 1, 1) := by decide +kernel
set_option maxRecDepth 20000 in
theorem d_300_73 : decode (js_b 300) 73 = .ok (.if_icmp .ne 12, 3) := by decide +kernel
set_option maxRecDepth 20000 in
theorem d_300_76 : decode (js_b 300) 76 = .ok (.lconst 1, 1) := by decide +kernel
set_option maxRecDepth 20000 in
theorem d_300_77 : decode (js_b 300) 77 = .ok (.iload 5, 2) := by decide +kernel
set_option maxRecDepth 20000 in
theorem d_300_79 : decode (js_b 300) 79 = .ok (.iconst 1, 1) := by decide +kernel
set_option maxRecDepth 20000 in
theorem d_300_80 : decode (js_b 300) 80 = .ok (.iadd, 1) := by decide +kernel
set_option maxRecDepth 20000 in
theorem d_300_81 : decode (js_b 300) 81 = .ok (.lshl, 1) := by decide +kernel
set_option maxRecDepth 20000 in
theorem d_300_82 : decode (js_b 300) 82 = .ok (.goto 4, 3) := by decide +kernel
set_option maxRecDepth 20000 in
theorem d_300_85 : decode (js_b 300) 85 = .ok (.lconst 0, 1) := by decide +kernel
set_option maxRecDepth 20000 in
theorem d_300_86 : decode (js_b 300) 86 = .ok (.lor, 1) := by decide +kernel
set_option maxRecDepth 20000 in
theorem d_300_87 : decode (js_b 300) 87 = .ok (.lstore_n 3, 1) := by decide +kernel
set_option maxRecDepth 20000 in
theorem d_300_88 : decode (js_b 300) 88 = .ok (.lload_n 3, 1) := by decide +kernel
set_option maxRecDepth 20000 in
theorem d_300_89 : decode (js_b 300) 89 = .ok (.aload_n 0, 1) := by decide +kernel
set_option maxRecDepth 20000 in
theorem d_300_90 : decode (js_b 300) 90 = .ok (.iload 5, 2) := by decide +kernel
set_option maxRecDepth 20000 in
theorem d_300_92 : decode (js_b 300) 92 = .ok (.bipush 8, 2) := by decide +kernel
set_option maxRecDepth 20000 in
theorem d_300_94 : decode (js_b 300) 94 = .ok (.idiv, 1) := by decide +kernel
set_option maxRecDepth 20000 in
theorem d_300_95 : decode (js_b 300) 95 = .ok (.iload 5, 2) := by decide +kernel
set_option maxRecDepth 20000 in
theorem d_300_97 : decode (js_b 300) 97 = .ok (.bipush 8, 2) := by decide +kernel
set_option maxRecDepth 20000 in
theorem d_300_99 : decode (js_b 300) 99 = .ok (.irem, 1) := by decide +kernel
set_option maxRecDepth 20000 in
theorem d_300_100 : decode (js_b 300) 100 = .ok (.iconst 2, 1) := by decide +kernel
set_option maxRecDepth 20000 in
theorem d_300_101 : decode (js_b 300) 101 = .ok (.invokestatic 198, 3) := by decide +kernel
set_option maxRecDepth 20000 in
theorem d_300_104 : decode (js_b 300) 104 = .ok (.iconst 1, 1) := by decide +kernel
set_option maxRecDepth 20000 in
theorem d_300_105 : decode (js_b 300) 105 = .ok (.if_icmp .ne 13, 3) := by decide +kernel
set_option maxRecDepth 20000 in
theorem d_300_108 : decode (js_b 300) 108 = .ok (.lconst 1, 1) := by decide +kernel
set_option maxRecDepth 20000 in
theorem d_300_109 : decode (js_b 300) 109 = .ok (.iload 5, 2) := by decide +kernel
set_option maxRecDepth 20000 in
theorem d_300_111 : decode (js_b 300) 111 = .ok (.bipush 8, 2) := by decide +kernel
set_option maxRecDepth 20000 in
theorem d_300_113 : decode (js_b 300) 113 = .ok (.iadd, 1) := by decide +kernel
set_option maxRecDepth 20000 in
theorem d_300_114 : decode (js_b 300) 114 = .ok (.lshl, 1) := by decide +kernel
set_option maxRecDepth 20000 in
theorem d_300_115 : decode (js_b 300) 115 = .ok (.goto 4, 3) := by decide +kernel
set_option maxRecDepth 20000 in
theorem d_300_118 : decode (js_b 300) 118 = .ok (.lconst 0, 1) := by decide +kernel
set_option maxRecDepth 20000 in
theorem d_300_119 : decode (js_b 300) 119 = .ok (.lor, 1) := by decide +kernel
set_option maxRecDepth 20000 in
theorem d_300_120 : decode (js_b 300) 120 = .ok (.lstore_n 3, 1) := by decide +kernel
set_option maxRecDepth 20000 in
theorem d_300_121 : decode (js_b 300) 121 = .ok (.lload_n 3, 1) := by decide +kernel
set_option maxRecDepth 20000 in
theorem d_300_122 : decode (js_b 300) 122 = .ok (.aload_n 0, 1) := by decide +kernel
set_option maxRecDepth 20000 in
theorem d_300_123 : decode (js_b 300) 123 = .ok (.iload 5, 2) := by decide +kernel
set_option maxRecDepth 20000 in
theorem d_300_125 : decode (js_b 300) 125 = .ok (.bipush 8, 2) := by decide +kernel
set_option maxRecDepth 20000 in
theorem d_300_127 : decode (js_b 300) 127 = .ok (.idiv, 1) := by decide +kernel
set_option maxRecDepth 20000 in
theorem d_300_128 : decode (js_b 300) 128 = .ok (.iload 5, 2) := by decide +kernel
set_option maxRecDepth 20000 in
theorem d_300_130 : decode (js_b 300) 130 = .ok (.bipush 8, 2) := by decide +kernel
set_option maxRecDepth 20000 in
theorem d_300_132 : decode (js_b 300) 132 = .ok (.irem, 1) := by decide +kernel
set_option maxRecDepth 20000 in
theorem d_300_133 : decode (js_b 300) 133 = .ok (.iconst 3, 1) := by decide +kernel
set_option maxRecDepth 20000 in
theorem d_300_134 : decode (js_b 300) 134 = .ok (.invokestatic 198, 3) := by decide +kernel
set_option maxRecDepth 20000 in
theorem d_300_137 : decode (js_b 300) 137 = .ok (.iconst 1, 1) := by decide +kernel
set_option maxRecDepth 20000 in
theorem d_300_138 : decode (js_b 300) 138 = .ok (.if_icmp .ne 12, 3) := by decide +kernel
set_option maxRecDepth 20000 in
theorem d_300_141 : decode (js_b 300) 141 = .ok (.lconst 1, 1) := by decide +kernel
set_option maxRecDepth 20000 in
theorem d_300_142 : decode (js_b 300) 142 = .ok (.iload 5, 2) := by decide +kernel
set_option maxRecDepth 20000 in
theorem d_300_144 : decode (js_b 300) 144 = .ok (.iconst 1, 1) := by decide +kernel
set_option maxRecDepth 20000 in
theorem d_300_145 : decode (js_b 300) 145 = .ok (.isub, 1) := by decide +kernel
set_option maxRecDepth 20000 in
theorem d_300_146 : decode (js_b 300) 146 = .ok (.lshl, 1) := by decide +kernel
set_option maxRecDepth 20000 in
theorem d_300_147 : decode (js_b 300) 147 = .ok (.goto 4, 3) := by decide +kernel
set_option maxRecDepth 20000 in
theorem d_300_150 : decode (js_b 300) 150 = .ok (.lconst 0, 1) := by decide +kernel
set_option maxRecDepth 20000 in
theorem d_300_151 : decode (js_b 300) 151 = .ok (.lor, 1) := by decide +kernel
set_option maxRecDepth 20000 in
theorem d_300_152 : decode (js_b 300) 152 = .ok (.lstore_n 3, 1) := by decide +kernel
set_option maxRecDepth 20000 in
theorem d_300_153 : decode (js_b 300) 153 = .ok (.iinc 5 1, 3) := by decide +kernel
set_option maxRecDepth 20000 in
theorem d_300_156 : decode (js_b 300) 156 = .ok (.goto (-151), 3) := by decide +kernel
set_option maxRecDepth 20000 in
theorem d_300_159 : decode (js_b 300) 159 = .ok (.lload_n 3, 1) := by decide +kernel
set_option maxRecDepth 20000 in
theorem d_300_160 : decode (js_b 300) 160 = .ok (.lload_n 1, 1) := by decide +kernel
set_option maxRecDepth 20000 in
theorem d_300_161 : decode (js_b 300) 161 = .ok (.lcmp, 1) := by decide +kernel
set_option maxRecDepth 20000 in
theorem d_300_162 : decode (js_b 300) 162 = .ok (.ifCond .ne 7, 3) := by decide +kernel
set_option maxRecDepth 20000 in
theorem d_300_165 : decode (js_b 300) 165 = .ok (.lload_n 1, 1) := by decide +kernel
set_option maxRecDepth 20000 in
theorem d_300_166 : decode (js_b 300) 166 = .ok (.goto 8, 3) := by decide +kernel
set_option maxRecDepth 20000 in
theorem d_300_169 : decode (js_b 300) 169 = .ok (.aload_n 0, 1) := by decide +kernel
set_option maxRecDepth 20000 in
theorem d_300_170 : decode (js_b 300) 170 = .ok (.lload_n 3, 1) := by decide +kernel
set_option maxRecDepth 20000 in
theorem d_300_171 : decode (js_b 300) 171 = .ok (.invokestatic 323, 3) := by decide +kernel
set_option maxRecDepth 20000 in
theorem d_300_174 : decode (js_b 300) 174 = .ok (.lreturn, 1) := by decide +kernel
theorem ki_300_15 : js_OkG 300 15 (o_Sh (fun x y => (x.toUInt64 >>> (y.toInt64.toUInt64 &&& Int64.toUInt64 63)).toInt64) 16) := js_St.okG (st_lushr d_300_15) (fun _ _ _ _ _ => rfl)
theorem ki_300_13 : js_OkG 300 13 (o_il 5 15) := js_St.okG (st_iload d_300_13) (fun _ _ _ _ _ => rfl)
theorem ki_300_12 : js_OkG 300 12 (o_ll 1 13) := js_St.okG (st_lloadn rfl d_300_12) (fun _ _ _ _ _ => rfl)
theorem ki_300_9 : js_OkG 300 9 (o_cge 159 12) := js_St.okG (st_icge (by decide) d_300_9) (fun _ _ _ _ _ => rfl)
theorem ki_300_7 : js_OkG 300 7 (o_ic 64 9) := js_St.okG (st_bipush rfl d_300_7) (fun _ _ _ _ _ => rfl)
theorem ki_300_5 : js_OkG 300 5 (o_il 5 7) := js_St.okG (st_iload d_300_5) (fun _ _ _ _ _ => rfl)
theorem ki_300_3 : js_OkG 300 3 (o_is 5 5) := js_St.okG (st_istore (Nat.le_of_ble_eq_true rfl) d_300_3) (fun _ _ _ _ _ => rfl)
theorem ki_300_2 : js_OkG 300 2 (o_ic 0 3) := js_St.okG (st_iconst rfl d_300_2) (fun _ _ _ _ _ => rfl)
theorem ki_300_1 : js_OkG 300 1 (o_ls 3 2) := js_St.okG (st_lstoren rfl (Nat.le_of_ble_eq_true rfl) d_300_1) (fun _ _ _ _ _ => rfl)
theorem ki_300_0 : js_OkG 300 0 (o_ll 1 1) := js_St.okG (st_lloadn rfl d_300_0) (fun _ _ _ _ _ => rfl)
theorem ki_300_30 : js_OkG 300 30 (o_il 5 32) := js_St.okG (st_iload d_300_30) (fun _ _ _ _ _ => rfl)
theorem ki_300_29 : js_OkG 300 29 (o_div 30) := js_St.okG (st_idiv d_300_29) (fun _ _ _ _ _ => rfl)
theorem ki_300_27 : js_OkG 300 27 (o_ic 8 29) := js_St.okG (st_bipush rfl d_300_27) (fun _ _ _ _ _ => rfl)
theorem ki_300_25 : js_OkG 300 25 (o_il 5 27) := js_St.okG (st_iload d_300_25) (fun _ _ _ _ _ => rfl)
theorem ki_300_24 : js_OkG 300 24 (o_al 0 25) := js_St.okG (st_aloadn rfl d_300_24) (fun _ _ _ _ _ => rfl)
theorem ki_300_23 : js_OkG 300 23 (o_ll 3 24) := js_St.okG (st_lloadn rfl d_300_23) (fun _ _ _ _ _ => rfl)
theorem ki_300_20 : js_OkG 300 20 (o_ne 153 23) := js_St.okG (st_ifne (by decide) d_300_20) (fun _ _ _ _ _ => rfl)
theorem ki_300_19 : js_OkG 300 19 (o_lcmp 20) := js_St.okG (st_lcmp d_300_19) (fun _ _ _ _ _ => rfl)
theorem ki_300_18 : js_OkG 300 18 (o_lc 1 19) := js_St.okG (st_lconst rfl d_300_18) (fun _ _ _ _ _ => rfl)
theorem ki_300_17 : js_OkG 300 17 (o_B2 (fun x y => x &&& y) 18) := js_St.okG (st_land d_300_17) (fun _ _ _ _ _ => rfl)
theorem ki_300_16 : js_OkG 300 16 (o_lc 1 17) := js_St.okG (st_lconst rfl d_300_16) (fun _ _ _ _ _ => rfl)
theorem ki_300_46 : js_OkG 300 46 (o_ic 8 48) := js_St.okG (st_bipush rfl d_300_46) (fun _ _ _ _ _ => rfl)
theorem ki_300_44 : js_OkG 300 44 (o_il 5 46) := js_St.okG (st_iload d_300_44) (fun _ _ _ _ _ => rfl)
theorem ki_300_43 : js_OkG 300 43 (o_lc 1 44) := js_St.okG (st_lconst rfl d_300_43) (fun _ _ _ _ _ => rfl)
theorem ki_300_40 : js_OkG 300 40 (o_cne 53 43) := js_St.okG (st_icne (by decide) d_300_40) (fun _ _ _ _ _ => rfl)
theorem ki_300_39 : js_OkG 300 39 (o_ic 1 40) := js_St.okG (st_iconst rfl d_300_39) (fun _ _ _ _ _ => rfl)
theorem ki_300_36 : js_OkG 300 36 (o_cI 176 4 0 39) := og_sIP rfl rfl kB_300_176 rfl kw_785 kw_786 d_300_36
theorem ki_300_35 : js_OkG 300 35 (o_ic 0 36) := js_St.okG (st_iconst rfl d_300_35) (fun _ _ _ _ _ => rfl)
theorem ki_300_34 : js_OkG 300 34 (o_rem 35) := js_St.okG (st_irem d_300_34) (fun _ _ _ _ _ => rfl)
theorem ki_300_32 : js_OkG 300 32 (o_ic 8 34) := js_St.okG (st_bipush rfl d_300_32) (fun _ _ _ _ _ => rfl)
theorem ki_300_63 : js_OkG 300 63 (o_il 5 65) := js_St.okG (st_iload d_300_63) (fun _ _ _ _ _ => rfl)
theorem ki_300_62 : js_OkG 300 62 (o_div 63) := js_St.okG (st_idiv d_300_62) (fun _ _ _ _ _ => rfl)
theorem ki_300_60 : js_OkG 300 60 (o_ic 8 62) := js_St.okG (st_bipush rfl d_300_60) (fun _ _ _ _ _ => rfl)
theorem ki_300_58 : js_OkG 300 58 (o_il 5 60) := js_St.okG (st_iload d_300_58) (fun _ _ _ _ _ => rfl)
theorem ki_300_57 : js_OkG 300 57 (o_al 0 58) := js_St.okG (st_aloadn rfl d_300_57) (fun _ _ _ _ _ => rfl)
theorem ki_300_56 : js_OkG 300 56 (o_ll 3 57) := js_St.okG (st_lloadn rfl d_300_56) (fun _ _ _ _ _ => rfl)
theorem ki_300_55 : js_OkG 300 55 (o_ls 3 56) := js_St.okG (st_lstoren rfl (Nat.le_of_ble_eq_true rfl) d_300_55) (fun _ _ _ _ _ => rfl)
theorem ki_300_54 : js_OkG 300 54 (o_B2 (fun x y => x ||| y) 55) := js_St.okG (st_lor d_300_54) (fun _ _ _ _ _ => rfl)
theorem ki_300_53 : js_OkG 300 53 (o_lc 0 54) := js_St.okG (st_lconst rfl d_300_53) (fun _ _ _ _ _ => rfl)
theorem ki_300_50 : js_OkG 300 50 (o_go 54) := js_St.okG (st_goto (by decide) d_300_50) (fun _ _ _ _ _ => rfl)
theorem ki_300_49 : js_OkG 300 49 (o_Sh (fun x y => x <<< (y.toInt64 &&& 63)) 50) := js_St.okG (st_lshl d_300_49) (fun _ _ _ _ _ => rfl)
theorem ki_300_48 : js_OkG 300 48 (o_b2 (fun x y => x - y) 49) := js_St.okG (st_isub d_300_48) (fun _ _ _ _ _ => rfl)
theorem ki_300_79 : js_OkG 300 79 (o_ic 1 80) := js_St.okG (st_iconst rfl d_300_79) (fun _ _ _ _ _ => rfl)
theorem ki_300_77 : js_OkG 300 77 (o_il 5 79) := js_St.okG (st_iload d_300_77) (fun _ _ _ _ _ => rfl)
theorem ki_300_76 : js_OkG 300 76 (o_lc 1 77) := js_St.okG (st_lconst rfl d_300_76) (fun _ _ _ _ _ => rfl)
theorem ki_300_73 : js_OkG 300 73 (o_cne 85 76) := js_St.okG (st_icne (by decide) d_300_73) (fun _ _ _ _ _ => rfl)
theorem ki_300_72 : js_OkG 300 72 (o_ic 1 73) := js_St.okG (st_iconst rfl d_300_72) (fun _ _ _ _ _ => rfl)
theorem ki_300_69 : js_OkG 300 69 (o_cI 176 4 0 72) := og_sIP rfl rfl kB_300_176 rfl kw_785 kw_786 d_300_69
theorem ki_300_68 : js_OkG 300 68 (o_ic 1 69) := js_St.okG (st_iconst rfl d_300_68) (fun _ _ _ _ _ => rfl)
theorem ki_300_67 : js_OkG 300 67 (o_rem 68) := js_St.okG (st_irem d_300_67) (fun _ _ _ _ _ => rfl)
theorem ki_300_65 : js_OkG 300 65 (o_ic 8 67) := js_St.okG (st_bipush rfl d_300_65) (fun _ _ _ _ _ => rfl)
theorem ki_300_95 : js_OkG 300 95 (o_il 5 97) := js_St.okG (st_iload d_300_95) (fun _ _ _ _ _ => rfl)
theorem ki_300_94 : js_OkG 300 94 (o_div 95) := js_St.okG (st_idiv d_300_94) (fun _ _ _ _ _ => rfl)
theorem ki_300_92 : js_OkG 300 92 (o_ic 8 94) := js_St.okG (st_bipush rfl d_300_92) (fun _ _ _ _ _ => rfl)
theorem ki_300_90 : js_OkG 300 90 (o_il 5 92) := js_St.okG (st_iload d_300_90) (fun _ _ _ _ _ => rfl)
theorem ki_300_89 : js_OkG 300 89 (o_al 0 90) := js_St.okG (st_aloadn rfl d_300_89) (fun _ _ _ _ _ => rfl)
theorem ki_300_88 : js_OkG 300 88 (o_ll 3 89) := js_St.okG (st_lloadn rfl d_300_88) (fun _ _ _ _ _ => rfl)
theorem ki_300_87 : js_OkG 300 87 (o_ls 3 88) := js_St.okG (st_lstoren rfl (Nat.le_of_ble_eq_true rfl) d_300_87) (fun _ _ _ _ _ => rfl)
theorem ki_300_86 : js_OkG 300 86 (o_B2 (fun x y => x ||| y) 87) := js_St.okG (st_lor d_300_86) (fun _ _ _ _ _ => rfl)
theorem ki_300_85 : js_OkG 300 85 (o_lc 0 86) := js_St.okG (st_lconst rfl d_300_85) (fun _ _ _ _ _ => rfl)
theorem ki_300_82 : js_OkG 300 82 (o_go 86) := js_St.okG (st_goto (by decide) d_300_82) (fun _ _ _ _ _ => rfl)
theorem ki_300_81 : js_OkG 300 81 (o_Sh (fun x y => x <<< (y.toInt64 &&& 63)) 82) := js_St.okG (st_lshl d_300_81) (fun _ _ _ _ _ => rfl)
theorem ki_300_80 : js_OkG 300 80 (o_b2 (fun x y => x + y) 81) := js_St.okG (st_iadd d_300_80) (fun _ _ _ _ _ => rfl)
theorem ki_300_111 : js_OkG 300 111 (o_ic 8 113) := js_St.okG (st_bipush rfl d_300_111) (fun _ _ _ _ _ => rfl)
theorem ki_300_109 : js_OkG 300 109 (o_il 5 111) := js_St.okG (st_iload d_300_109) (fun _ _ _ _ _ => rfl)
theorem ki_300_108 : js_OkG 300 108 (o_lc 1 109) := js_St.okG (st_lconst rfl d_300_108) (fun _ _ _ _ _ => rfl)
theorem ki_300_105 : js_OkG 300 105 (o_cne 118 108) := js_St.okG (st_icne (by decide) d_300_105) (fun _ _ _ _ _ => rfl)
theorem ki_300_104 : js_OkG 300 104 (o_ic 1 105) := js_St.okG (st_iconst rfl d_300_104) (fun _ _ _ _ _ => rfl)
theorem ki_300_101 : js_OkG 300 101 (o_cI 176 4 0 104) := og_sIP rfl rfl kB_300_176 rfl kw_785 kw_786 d_300_101
theorem ki_300_100 : js_OkG 300 100 (o_ic 2 101) := js_St.okG (st_iconst rfl d_300_100) (fun _ _ _ _ _ => rfl)
theorem ki_300_99 : js_OkG 300 99 (o_rem 100) := js_St.okG (st_irem d_300_99) (fun _ _ _ _ _ => rfl)
theorem ki_300_97 : js_OkG 300 97 (o_ic 8 99) := js_St.okG (st_bipush rfl d_300_97) (fun _ _ _ _ _ => rfl)
theorem ki_300_127 : js_OkG 300 127 (o_div 128) := js_St.okG (st_idiv d_300_127) (fun _ _ _ _ _ => rfl)
theorem ki_300_125 : js_OkG 300 125 (o_ic 8 127) := js_St.okG (st_bipush rfl d_300_125) (fun _ _ _ _ _ => rfl)
theorem ki_300_123 : js_OkG 300 123 (o_il 5 125) := js_St.okG (st_iload d_300_123) (fun _ _ _ _ _ => rfl)
theorem ki_300_122 : js_OkG 300 122 (o_al 0 123) := js_St.okG (st_aloadn rfl d_300_122) (fun _ _ _ _ _ => rfl)
theorem ki_300_121 : js_OkG 300 121 (o_ll 3 122) := js_St.okG (st_lloadn rfl d_300_121) (fun _ _ _ _ _ => rfl)
theorem ki_300_120 : js_OkG 300 120 (o_ls 3 121) := js_St.okG (st_lstoren rfl (Nat.le_of_ble_eq_true rfl) d_300_120) (fun _ _ _ _ _ => rfl)
theorem ki_300_119 : js_OkG 300 119 (o_B2 (fun x y => x ||| y) 120) := js_St.okG (st_lor d_300_119) (fun _ _ _ _ _ => rfl)
theorem ki_300_118 : js_OkG 300 118 (o_lc 0 119) := js_St.okG (st_lconst rfl d_300_118) (fun _ _ _ _ _ => rfl)
theorem ki_300_115 : js_OkG 300 115 (o_go 119) := js_St.okG (st_goto (by decide) d_300_115) (fun _ _ _ _ _ => rfl)
theorem ki_300_114 : js_OkG 300 114 (o_Sh (fun x y => x <<< (y.toInt64 &&& 63)) 115) := js_St.okG (st_lshl d_300_114) (fun _ _ _ _ _ => rfl)
theorem ki_300_113 : js_OkG 300 113 (o_b2 (fun x y => x + y) 114) := js_St.okG (st_iadd d_300_113) (fun _ _ _ _ _ => rfl)
theorem ki_300_142 : js_OkG 300 142 (o_il 5 144) := js_St.okG (st_iload d_300_142) (fun _ _ _ _ _ => rfl)
theorem ki_300_141 : js_OkG 300 141 (o_lc 1 142) := js_St.okG (st_lconst rfl d_300_141) (fun _ _ _ _ _ => rfl)
theorem ki_300_138 : js_OkG 300 138 (o_cne 150 141) := js_St.okG (st_icne (by decide) d_300_138) (fun _ _ _ _ _ => rfl)
theorem ki_300_137 : js_OkG 300 137 (o_ic 1 138) := js_St.okG (st_iconst rfl d_300_137) (fun _ _ _ _ _ => rfl)
theorem ki_300_134 : js_OkG 300 134 (o_cI 176 4 0 137) := og_sIP rfl rfl kB_300_176 rfl kw_785 kw_786 d_300_134
theorem ki_300_133 : js_OkG 300 133 (o_ic 3 134) := js_St.okG (st_iconst rfl d_300_133) (fun _ _ _ _ _ => rfl)
theorem ki_300_132 : js_OkG 300 132 (o_rem 133) := js_St.okG (st_irem d_300_132) (fun _ _ _ _ _ => rfl)
theorem ki_300_130 : js_OkG 300 130 (o_ic 8 132) := js_St.okG (st_bipush rfl d_300_130) (fun _ _ _ _ _ => rfl)
theorem ki_300_128 : js_OkG 300 128 (o_il 5 130) := js_St.okG (st_iload d_300_128) (fun _ _ _ _ _ => rfl)
theorem ki_300_159 : js_OkG 300 159 (o_ll 3 160) := js_St.okG (st_lloadn rfl d_300_159) (fun _ _ _ _ _ => rfl)
theorem ki_300_156 : js_OkG 300 156 (o_go 5) := js_St.okG (st_goto (by decide) d_300_156) (fun _ _ _ _ _ => rfl)
theorem ki_300_153 : js_OkG 300 153 (o_inc 5 1 156) := js_St.okG (st_iinc rfl (Nat.le_of_ble_eq_true rfl) d_300_153) (fun _ _ _ _ _ => rfl)
theorem ki_300_152 : js_OkG 300 152 (o_ls 3 153) := js_St.okG (st_lstoren rfl (Nat.le_of_ble_eq_true rfl) d_300_152) (fun _ _ _ _ _ => rfl)
theorem ki_300_151 : js_OkG 300 151 (o_B2 (fun x y => x ||| y) 152) := js_St.okG (st_lor d_300_151) (fun _ _ _ _ _ => rfl)
theorem ki_300_150 : js_OkG 300 150 (o_lc 0 151) := js_St.okG (st_lconst rfl d_300_150) (fun _ _ _ _ _ => rfl)
theorem ki_300_147 : js_OkG 300 147 (o_go 151) := js_St.okG (st_goto (by decide) d_300_147) (fun _ _ _ _ _ => rfl)
theorem ki_300_146 : js_OkG 300 146 (o_Sh (fun x y => x <<< (y.toInt64 &&& 63)) 147) := js_St.okG (st_lshl d_300_146) (fun _ _ _ _ _ => rfl)
theorem ki_300_145 : js_OkG 300 145 (o_b2 (fun x y => x - y) 146) := js_St.okG (st_isub d_300_145) (fun _ _ _ _ _ => rfl)
theorem ki_300_144 : js_OkG 300 144 (o_ic 1 145) := js_St.okG (st_iconst rfl d_300_144) (fun _ _ _ _ _ => rfl)
theorem ki_300_174 : js_OkG 300 174 (o_rL) := og_rL rfl d_300_174
theorem ki_300_171 : js_OkG 300 171 (o_cL 301 2 0 174) := og_sLP rfl rfl kB_300_301 rfl kw_949 kw_950 d_300_171
theorem ki_300_170 : js_OkG 300 170 (o_ll 3 171) := js_St.okG (st_lloadn rfl d_300_170) (fun _ _ _ _ _ => rfl)
theorem ki_300_169 : js_OkG 300 169 (o_al 0 170) := js_St.okG (st_aloadn rfl d_300_169) (fun _ _ _ _ _ => rfl)
theorem ki_300_166 : js_OkG 300 166 (o_go 174) := js_St.okG (st_goto (by decide) d_300_166) (fun _ _ _ _ _ => rfl)
theorem ki_300_165 : js_OkG 300 165 (o_ll 1 166) := js_St.okG (st_lloadn rfl d_300_165) (fun _ _ _ _ _ => rfl)
theorem ki_300_162 : js_OkG 300 162 (o_ne 169 165) := js_St.okG (st_ifne (by decide) d_300_162) (fun _ _ _ _ _ => rfl)
theorem ki_300_161 : js_OkG 300 161 (o_lcmp 162) := js_St.okG (st_lcmp d_300_161) (fun _ _ _ _ _ => rfl)
theorem ki_300_160 : js_OkG 300 160 (o_ll 1 161) := js_St.okG (st_lloadn rfl d_300_160) (fun _ _ _ _ _ => rfl)
set_option maxRecDepth 20000 in
theorem mk_300 : js_mokG 300 := jk_tab (fun _ => js_St.okG st_bad (fun _ _ _ _ _ => rfl)) (show jk_all (js_OkG 300) 0 (tb_G 300) from ⟨⟨ki_300_0, ⟨ki_300_1, ⟨ki_300_2, ⟨ki_300_3, ⟨kbadG, ⟨ki_300_5, ⟨kbadG, ⟨ki_300_7, ⟨kbadG, ⟨ki_300_9, ⟨kbadG, ⟨kbadG, ⟨ki_300_12, ⟨ki_300_13, ⟨kbadG, ⟨ki_300_15, trivial⟩⟩⟩⟩⟩⟩⟩⟩⟩⟩⟩⟩⟩⟩⟩⟩, ⟨⟨ki_300_16, ⟨ki_300_17, ⟨ki_300_18, ⟨ki_300_19, ⟨ki_300_20, ⟨kbadG, ⟨kbadG, ⟨ki_300_23, ⟨ki_300_24, ⟨ki_300_25, ⟨kbadG, ⟨ki_300_27, ⟨kbadG, ⟨ki_300_29, ⟨ki_300_30, ⟨kbadG, trivial⟩⟩⟩⟩⟩⟩⟩⟩⟩⟩⟩⟩⟩⟩⟩⟩, ⟨⟨ki_300_32, ⟨kbadG, ⟨ki_300_34, ⟨ki_300_35, ⟨ki_300_36, ⟨kbadG, ⟨kbadG, ⟨ki_300_39, ⟨ki_300_40, ⟨kbadG, ⟨kbadG, ⟨ki_300_43, ⟨ki_300_44, ⟨kbadG, ⟨ki_300_46, ⟨kbadG, trivial⟩⟩⟩⟩⟩⟩⟩⟩⟩⟩⟩⟩⟩⟩⟩⟩, ⟨⟨ki_300_48, ⟨ki_300_49, ⟨ki_300_50, ⟨kbadG, ⟨kbadG, ⟨ki_300_53, ⟨ki_300_54, ⟨ki_300_55, ⟨ki_300_56, ⟨ki_300_57, ⟨ki_300_58, ⟨kbadG, ⟨ki_300_60, ⟨kbadG, ⟨ki_300_62, ⟨ki_300_63, trivial⟩⟩⟩⟩⟩⟩⟩⟩⟩⟩⟩⟩⟩⟩⟩⟩, ⟨⟨kbadG, ⟨ki_300_65, ⟨kbadG, ⟨ki_300_67, ⟨ki_300_68, ⟨ki_300_69, ⟨kbadG, ⟨kbadG, ⟨ki_300_72, ⟨ki_300_73, ⟨kbadG, ⟨kbadG, ⟨ki_300_76, ⟨ki_300_77, ⟨kbadG, ⟨ki_300_79, trivial⟩⟩⟩⟩⟩⟩⟩⟩⟩⟩⟩⟩⟩⟩⟩⟩, ⟨⟨ki_300_80, ⟨ki_300_81, ⟨ki_300_82, ⟨kbadG, ⟨kbadG, ⟨ki_300_85, ⟨ki_300_86, ⟨ki_300_87, ⟨ki_300_88, ⟨ki_300_89, ⟨ki_300_90, ⟨kbadG, ⟨ki_300_92, ⟨kbadG, ⟨ki_300_94, ⟨ki_300_95, trivial⟩⟩⟩⟩⟩⟩⟩⟩⟩⟩⟩⟩⟩⟩⟩⟩, ⟨⟨kbadG, ⟨ki_300_97, ⟨kbadG, ⟨ki_300_99, ⟨ki_300_100, ⟨ki_300_101, ⟨kbadG, ⟨kbadG, ⟨ki_300_104, ⟨ki_300_105, ⟨kbadG, ⟨kbadG, ⟨ki_300_108, ⟨ki_300_109, ⟨kbadG, ⟨ki_300_111, trivial⟩⟩⟩⟩⟩⟩⟩⟩⟩⟩⟩⟩⟩⟩⟩⟩, ⟨⟨kbadG, ⟨ki_300_113, ⟨ki_300_114, ⟨ki_300_115, ⟨kbadG, ⟨kbadG, ⟨ki_300_118, ⟨ki_300_119, ⟨ki_300_120, ⟨ki_300_121, ⟨ki_300_122, ⟨ki_300_123, ⟨kbadG, ⟨ki_300_125, ⟨kbadG, ⟨ki_300_127, trivial⟩⟩⟩⟩⟩⟩⟩⟩⟩⟩⟩⟩⟩⟩⟩⟩, ⟨⟨ki_300_128, ⟨kbadG, ⟨ki_300_130, ⟨kbadG, ⟨ki_300_132, ⟨ki_300_133, ⟨ki_300_134, ⟨kbadG, ⟨kbadG, ⟨ki_300_137, ⟨ki_300_138, ⟨kbadG, ⟨kbadG, ⟨ki_300_141, ⟨ki_300_142, ⟨kbadG, trivial⟩⟩⟩⟩⟩⟩⟩⟩⟩⟩⟩⟩⟩⟩⟩⟩, ⟨⟨ki_300_144, ⟨ki_300_145, ⟨ki_300_146, ⟨ki_300_147, ⟨kbadG, ⟨kbadG, ⟨ki_300_150, ⟨ki_300_151, ⟨ki_300_152, ⟨ki_300_153, ⟨kbadG, ⟨kbadG, ⟨ki_300_156, ⟨kbadG, ⟨kbadG, ⟨ki_300_159, trivial⟩⟩⟩⟩⟩⟩⟩⟩⟩⟩⟩⟩⟩⟩⟩⟩, ⟨⟨ki_300_160, ⟨ki_300_161, ⟨ki_300_162, ⟨kbadG, ⟨kbadG, ⟨ki_300_165, ⟨ki_300_166, ⟨kbadG, ⟨kbadG, ⟨ki_300_169, ⟨ki_300_170, ⟨ki_300_171, ⟨kbadG, ⟨kbadG, ⟨ki_300_174, trivial⟩⟩⟩⟩⟩⟩⟩⟩⟩⟩⟩⟩⟩⟩⟩, trivial⟩⟩⟩⟩⟩⟩⟩⟩⟩⟩⟩)
theorem d_301_0 : decode (js_b 301) 0 = .ok (.lload_n 1, 1) := d_300_0
theorem d_301_1 : decode (js_b 301) 1 = .ok (.lstore_n 3, 1) := d_300_1
theorem d_301_2 : decode (js_b 301) 2 = .ok (.iconst 0, 1) := d_300_2
theorem d_301_3 : decode (js_b 301) 3 = .ok (.istore 5, 2) := d_300_3
theorem d_301_5 : decode (js_b 301) 5 = .ok (.iload 5, 2) := d_300_5
theorem d_301_7 : decode (js_b 301) 7 = .ok (.bipush 64, 2) := d_300_7
theorem d_301_9 : decode (js_b 301) 9 = .ok (.if_icmp .ge 150, 3) := d_300_9
theorem d_301_12 : decode (js_b 301) 12 = .ok (.lload_n 1, 1) := d_300_12
theorem d_301_13 : decode (js_b 301) 13 = .ok (.iload 5, 2) := d_300_13
theorem d_301_15 : decode (js_b 301) 15 = .ok (.lushr, 1) := d_300_15
theorem d_301_16 : decode (js_b 301) 16 = .ok (.lconst 1, 1) := d_300_16
theorem d_301_17 : decode (js_b 301) 17 = .ok (.land, 1) := d_300_17
theorem d_301_18 : decode (js_b 301) 18 = .ok (.lconst 1, 1) := d_300_18
theorem d_301_19 : decode (js_b 301) 19 = .ok (.lcmp, 1) := d_300_19
theorem d_301_20 : decode (js_b 301) 20 = .ok (.ifCond .ne 133, 3) := d_300_20
theorem d_301_23 : decode (js_b 301) 23 = .ok (.lload_n 3, 1) := d_300_23
theorem d_301_24 : decode (js_b 301) 24 = .ok (.aload_n 0, 1) := d_300_24
theorem d_301_25 : decode (js_b 301) 25 = .ok (.iload 5, 2) := d_300_25
theorem d_301_27 : decode (js_b 301) 27 = .ok (.bipush 8, 2) := d_300_27
theorem d_301_29 : decode (js_b 301) 29 = .ok (.idiv, 1) := d_300_29
theorem d_301_30 : decode (js_b 301) 30 = .ok (.iload 5, 2) := d_300_30
theorem d_301_32 : decode (js_b 301) 32 = .ok (.bipush 8, 2) := d_300_32
theorem d_301_34 : decode (js_b 301) 34 = .ok (.irem, 1) := d_300_34
theorem d_301_35 : decode (js_b 301) 35 = .ok (.iconst 0, 1) := d_300_35
theorem d_301_36 : decode (js_b 301) 36 = .ok (.invokestatic 198, 3) := d_300_36
theorem d_301_39 : decode (js_b 301) 39 = .ok (.iconst 1, 1) := d_300_39
theorem d_301_40 : decode (js_b 301) 40 = .ok (.if_icmp .ne 13, 3) := d_300_40
theorem d_301_43 : decode (js_b 301) 43 = .ok (.lconst 1, 1) := d_300_43
theorem d_301_44 : decode (js_b 301) 44 = .ok (.iload 5, 2) := d_300_44
theorem d_301_46 : decode (js_b 301) 46 = .ok (.bipush 8, 2) := d_300_46
theorem d_301_48 : decode (js_b 301) 48 = .ok (.isub, 1) := d_300_48
theorem d_301_49 : decode (js_b 301) 49 = .ok (.lshl, 1) := d_300_49
theorem d_301_50 : decode (js_b 301) 50 = .ok (.goto 4, 3) := d_300_50
theorem d_301_53 : decode (js_b 301) 53 = .ok (.lconst 0, 1) := d_300_53
theorem d_301_54 : decode (js_b 301) 54 = .ok (.lor, 1) := d_300_54
theorem d_301_55 : decode (js_b 301) 55 = .ok (.lstore_n 3, 1) := d_300_55
theorem d_301_56 : decode (js_b 301) 56 = .ok (.lload_n 3, 1) := d_300_56
theorem d_301_57 : decode (js_b 301) 57 = .ok (.aload_n 0, 1) := d_300_57
theorem d_301_58 : decode (js_b 301) 58 = .ok (.iload 5, 2) := d_300_58
theorem d_301_60 : decode (js_b 301) 60 = .ok (.bipush 8, 2) := d_300_60
theorem d_301_62 : decode (js_b 301) 62 = .ok (.idiv, 1) := d_300_62
theorem d_301_63 : decode (js_b 301) 63 = .ok (.iload 5, 2) := d_300_63
theorem d_301_65 : decode (js_b 301) 65 = .ok (.bipush 8, 2) := d_300_65
theorem d_301_67 : decode (js_b 301) 67 = .ok (.irem, 1) := d_300_67
theorem d_301_68 : decode (js_b 301) 68 = .ok (.iconst 1, 1) := d_300_68
theorem d_301_69 : decode (js_b 301) 69 = .ok (.invokestatic 198, 3) := d_300_69
theorem d_301_72 : decode (js_b 301) 72 = .ok (.iconst 1, 1) := d_300_72
theorem d_301_73 : decode (js_b 301) 73 = .ok (.if_icmp .ne 12, 3) := d_300_73
theorem d_301_76 : decode (js_b 301) 76 = .ok (.lconst 1, 1) := d_300_76
theorem d_301_77 : decode (js_b 301) 77 = .ok (.iload 5, 2) := d_300_77
theorem d_301_79 : decode (js_b 301) 79 = .ok (.iconst 1, 1) := d_300_79
theorem d_301_80 : decode (js_b 301) 80 = .ok (.iadd, 1) := d_300_80
theorem d_301_81 : decode (js_b 301) 81 = .ok (.lshl, 1) := d_300_81
theorem d_301_82 : decode (js_b 301) 82 = .ok (.goto 4, 3) := d_300_82
theorem d_301_85 : decode (js_b 301) 85 = .ok (.lconst 0, 1) := d_300_85
theorem d_301_86 : decode (js_b 301) 86 = .ok (.lor, 1) := d_300_86
theorem d_301_87 : decode (js_b 301) 87 = .ok (.lstore_n 3, 1) := d_300_87
theorem d_301_88 : decode (js_b 301) 88 = .ok (.lload_n 3, 1) := d_300_88
theorem d_301_89 : decode (js_b 301) 89 = .ok (.aload_n 0, 1) := d_300_89
theorem d_301_90 : decode (js_b 301) 90 = .ok (.iload 5, 2) := d_300_90
theorem d_301_92 : decode (js_b 301) 92 = .ok (.bipush 8, 2) := d_300_92
theorem d_301_94 : decode (js_b 301) 94 = .ok (.idiv, 1) := d_300_94
theorem d_301_95 : decode (js_b 301) 95 = .ok (.iload 5, 2) := d_300_95
theorem d_301_97 : decode (js_b 301) 97 = .ok (.bipush 8, 2) := d_300_97
theorem d_301_99 : decode (js_b 301) 99 = .ok (.irem, 1) := d_300_99
theorem d_301_100 : decode (js_b 301) 100 = .ok (.iconst 2, 1) := d_300_100
theorem d_301_101 : decode (js_b 301) 101 = .ok (.invokestatic 198, 3) := d_300_101
theorem d_301_104 : decode (js_b 301) 104 = .ok (.iconst 1, 1) := d_300_104
theorem d_301_105 : decode (js_b 301) 105 = .ok (.if_icmp .ne 13, 3) := d_300_105
theorem d_301_108 : decode (js_b 301) 108 = .ok (.lconst 1, 1) := d_300_108
theorem d_301_109 : decode (js_b 301) 109 = .ok (.iload 5, 2) := d_300_109
theorem d_301_111 : decode (js_b 301) 111 = .ok (.bipush 8, 2) := d_300_111
theorem d_301_113 : decode (js_b 301) 113 = .ok (.iadd, 1) := d_300_113
theorem d_301_114 : decode (js_b 301) 114 = .ok (.lshl, 1) := d_300_114
theorem d_301_115 : decode (js_b 301) 115 = .ok (.goto 4, 3) := d_300_115
theorem d_301_118 : decode (js_b 301) 118 = .ok (.lconst 0, 1) := d_300_118
theorem d_301_119 : decode (js_b 301) 119 = .ok (.lor, 1) := d_300_119
theorem d_301_120 : decode (js_b 301) 120 = .ok (.lstore_n 3, 1) := d_300_120
theorem d_301_121 : decode (js_b 301) 121 = .ok (.lload_n 3, 1) := d_300_121
theorem d_301_122 : decode (js_b 301) 122 = .ok (.aload_n 0, 1) := d_300_122
theorem d_301_123 : decode (js_b 301) 123 = .ok (.iload 5, 2) := d_300_123
theorem d_301_125 : decode (js_b 301) 125 = .ok (.bipush 8, 2) := d_300_125
theorem d_301_127 : decode (js_b 301) 127 = .ok (.idiv, 1) := d_300_127
theorem d_301_128 : decode (js_b 301) 128 = .ok (.iload 5, 2) := d_300_128
theorem d_301_130 : decode (js_b 301) 130 = .ok (.bipush 8, 2) := d_300_130
theorem d_301_132 : decode (js_b 301) 132 = .ok (.irem, 1) := d_300_132
theorem d_301_133 : decode (js_b 301) 133 = .ok (.iconst 3, 1) := d_300_133
theorem d_301_134 : decode (js_b 301) 134 = .ok (.invokestatic 198, 3) := d_300_134
theorem d_301_137 : decode (js_b 301) 137 = .ok (.iconst 1, 1) := d_300_137
theorem d_301_138 : decode (js_b 301) 138 = .ok (.if_icmp .ne 12, 3) := d_300_138
theorem d_301_141 : decode (js_b 301) 141 = .ok (.lconst 1, 1) := d_300_141
theorem d_301_142 : decode (js_b 301) 142 = .ok (.iload 5, 2) := d_300_142
theorem d_301_144 : decode (js_b 301) 144 = .ok (.iconst 1, 1) := d_300_144
theorem d_301_145 : decode (js_b 301) 145 = .ok (.isub, 1) := d_300_145
theorem d_301_146 : decode (js_b 301) 146 = .ok (.lshl, 1) := d_300_146
theorem d_301_147 : decode (js_b 301) 147 = .ok (.goto 4, 3) := d_300_147
theorem d_301_150 : decode (js_b 301) 150 = .ok (.lconst 0, 1) := d_300_150
theorem d_301_151 : decode (js_b 301) 151 = .ok (.lor, 1) := d_300_151
theorem d_301_152 : decode (js_b 301) 152 = .ok (.lstore_n 3, 1) := d_300_152
theorem d_301_153 : decode (js_b 301) 153 = .ok (.iinc 5 1, 3) := d_300_153
theorem d_301_156 : decode (js_b 301) 156 = .ok (.goto (-151), 3) := d_300_156
theorem d_301_159 : decode (js_b 301) 159 = .ok (.lload_n 3, 1) := d_300_159
theorem d_301_160 : decode (js_b 301) 160 = .ok (.lload_n 1, 1) := d_300_160
theorem d_301_161 : decode (js_b 301) 161 = .ok (.lcmp, 1) := d_300_161
theorem d_301_162 : decode (js_b 301) 162 = .ok (.ifCond .ne 7, 3) := d_300_162
theorem d_301_165 : decode (js_b 301) 165 = .ok (.lload_n 1, 1) := d_300_165
theorem d_301_166 : decode (js_b 301) 166 = .ok (.goto 8, 3) := d_300_166
theorem d_301_169 : decode (js_b 301) 169 = .ok (.aload_n 0, 1) := d_300_169
theorem d_301_170 : decode (js_b 301) 170 = .ok (.lload_n 3, 1) := d_300_170
theorem d_301_171 : decode (js_b 301) 171 = .ok (.invokestatic 323, 3) := d_300_171
theorem d_301_174 : decode (js_b 301) 174 = .ok (.lreturn, 1) := d_300_174
theorem ki_301_15 : js_OkG 301 15 (o_Sh (fun x y => (x.toUInt64 >>> (y.toInt64.toUInt64 &&& Int64.toUInt64 63)).toInt64) 16) := js_St.okG (st_lushr d_301_15) (fun _ _ _ _ _ => rfl)
theorem ki_301_13 : js_OkG 301 13 (o_il 5 15) := js_St.okG (st_iload d_301_13) (fun _ _ _ _ _ => rfl)
theorem ki_301_12 : js_OkG 301 12 (o_ll 1 13) := js_St.okG (st_lloadn rfl d_301_12) (fun _ _ _ _ _ => rfl)
theorem ki_301_9 : js_OkG 301 9 (o_cge 159 12) := js_St.okG (st_icge (by decide) d_301_9) (fun _ _ _ _ _ => rfl)
theorem ki_301_7 : js_OkG 301 7 (o_ic 64 9) := js_St.okG (st_bipush rfl d_301_7) (fun _ _ _ _ _ => rfl)
theorem ki_301_5 : js_OkG 301 5 (o_il 5 7) := js_St.okG (st_iload d_301_5) (fun _ _ _ _ _ => rfl)
theorem ki_301_3 : js_OkG 301 3 (o_is 5 5) := js_St.okG (st_istore (Nat.le_of_ble_eq_true rfl) d_301_3) (fun _ _ _ _ _ => rfl)
theorem ki_301_2 : js_OkG 301 2 (o_ic 0 3) := js_St.okG (st_iconst rfl d_301_2) (fun _ _ _ _ _ => rfl)
theorem ki_301_1 : js_OkG 301 1 (o_ls 3 2) := js_St.okG (st_lstoren rfl (Nat.le_of_ble_eq_true rfl) d_301_1) (fun _ _ _ _ _ => rfl)
theorem ki_301_0 : js_OkG 301 0 (o_ll 1 1) := js_St.okG (st_lloadn rfl d_301_0) (fun _ _ _ _ _ => rfl)
theorem ki_301_30 : js_OkG 301 30 (o_il 5 32) := js_St.okG (st_iload d_301_30) (fun _ _ _ _ _ => rfl)
theorem ki_301_29 : js_OkG 301 29 (o_div 30) := js_St.okG (st_idiv d_301_29) (fun _ _ _ _ _ => rfl)
theorem ki_301_27 : js_OkG 301 27 (o_ic 8 29) := js_St.okG (st_bipush rfl d_301_27) (fun _ _ _ _ _ => rfl)
theorem ki_301_25 : js_OkG 301 25 (o_il 5 27) := js_St.okG (st_iload d_301_25) (fun _ _ _ _ _ => rfl)
theorem ki_301_24 : js_OkG 301 24 (o_al 0 25) := js_St.okG (st_aloadn rfl d_301_24) (fun _ _ _ _ _ => rfl)
theorem ki_301_23 : js_OkG 301 23 (o_ll 3 24) := js_St.okG (st_lloadn rfl d_301_23) (fun _ _ _ _ _ => rfl)
theorem ki_301_20 : js_OkG 301 20 (o_ne 153 23) := js_St.okG (st_ifne (by decide) d_301_20) (fun _ _ _ _ _ => rfl)
theorem ki_301_19 : js_OkG 301 19 (o_lcmp 20) := js_St.okG (st_lcmp d_301_19) (fun _ _ _ _ _ => rfl)
theorem ki_301_18 : js_OkG 301 18 (o_lc 1 19) := js_St.okG (st_lconst rfl d_301_18) (fun _ _ _ _ _ => rfl)
theorem ki_301_17 : js_OkG 301 17 (o_B2 (fun x y => x &&& y) 18) := js_St.okG (st_land d_301_17) (fun _ _ _ _ _ => rfl)
theorem ki_301_16 : js_OkG 301 16 (o_lc 1 17) := js_St.okG (st_lconst rfl d_301_16) (fun _ _ _ _ _ => rfl)
theorem ki_301_46 : js_OkG 301 46 (o_ic 8 48) := js_St.okG (st_bipush rfl d_301_46) (fun _ _ _ _ _ => rfl)
theorem ki_301_44 : js_OkG 301 44 (o_il 5 46) := js_St.okG (st_iload d_301_44) (fun _ _ _ _ _ => rfl)
theorem ki_301_43 : js_OkG 301 43 (o_lc 1 44) := js_St.okG (st_lconst rfl d_301_43) (fun _ _ _ _ _ => rfl)
theorem ki_301_40 : js_OkG 301 40 (o_cne 53 43) := js_St.okG (st_icne (by decide) d_301_40) (fun _ _ _ _ _ => rfl)
theorem ki_301_39 : js_OkG 301 39 (o_ic 1 40) := js_St.okG (st_iconst rfl d_301_39) (fun _ _ _ _ _ => rfl)
theorem ki_301_36 : js_OkG 301 36 (o_cI 176 4 0 39) := og_sIP rfl rfl kB_301_176 rfl kw_785 kw_786 d_301_36
theorem ki_301_35 : js_OkG 301 35 (o_ic 0 36) := js_St.okG (st_iconst rfl d_301_35) (fun _ _ _ _ _ => rfl)
theorem ki_301_34 : js_OkG 301 34 (o_rem 35) := js_St.okG (st_irem d_301_34) (fun _ _ _ _ _ => rfl)
theorem ki_301_32 : js_OkG 301 32 (o_ic 8 34) := js_St.okG (st_bipush rfl d_301_32) (fun _ _ _ _ _ => rfl)
theorem ki_301_63 : js_OkG 301 63 (o_il 5 65) := js_St.okG (st_iload d_301_63) (fun _ _ _ _ _ => rfl)
theorem ki_301_62 : js_OkG 301 62 (o_div 63) := js_St.okG (st_idiv d_301_62) (fun _ _ _ _ _ => rfl)
theorem ki_301_60 : js_OkG 301 60 (o_ic 8 62) := js_St.okG (st_bipush rfl d_301_60) (fun _ _ _ _ _ => rfl)
theorem ki_301_58 : js_OkG 301 58 (o_il 5 60) := js_St.okG (st_iload d_301_58) (fun _ _ _ _ _ => rfl)
theorem ki_301_57 : js_OkG 301 57 (o_al 0 58) := js_St.okG (st_aloadn rfl d_301_57) (fun _ _ _ _ _ => rfl)
theorem ki_301_56 : js_OkG 301 56 (o_ll 3 57) := js_St.okG (st_lloadn rfl d_301_56) (fun _ _ _ _ _ => rfl)
theorem ki_301_55 : js_OkG 301 55 (o_ls 3 56) := js_St.okG (st_lstoren rfl (Nat.le_of_ble_eq_true rfl) d_301_55) (fun _ _ _ _ _ => rfl)
theorem ki_301_54 : js_OkG 301 54 (o_B2 (fun x y => x ||| y) 55) := js_St.okG (st_lor d_301_54) (fun _ _ _ _ _ => rfl)
theorem ki_301_53 : js_OkG 301 53 (o_lc 0 54) := js_St.okG (st_lconst rfl d_301_53) (fun _ _ _ _ _ => rfl)
theorem ki_301_50 : js_OkG 301 50 (o_go 54) := js_St.okG (st_goto (by decide) d_301_50) (fun _ _ _ _ _ => rfl)
theorem ki_301_49 : js_OkG 301 49 (o_Sh (fun x y => x <<< (y.toInt64 &&& 63)) 50) := js_St.okG (st_lshl d_301_49) (fun _ _ _ _ _ => rfl)
theorem ki_301_48 : js_OkG 301 48 (o_b2 (fun x y => x - y) 49) := js_St.okG (st_isub d_301_48) (fun _ _ _ _ _ => rfl)
theorem ki_301_79 : js_OkG 301 79 (o_ic 1 80) := js_St.okG (st_iconst rfl d_301_79) (fun _ _ _ _ _ => rfl)
theorem ki_301_77 : js_OkG 301 77 (o_il 5 79) := js_St.okG (st_iload d_301_77) (fun _ _ _ _ _ => rfl)
theorem ki_301_76 : js_OkG 301 76 (o_lc 1 77) := js_St.okG (st_lconst rfl d_301_76) (fun _ _ _ _ _ => rfl)
theorem ki_301_73 : js_OkG 301 73 (o_cne 85 76) := js_St.okG (st_icne (by decide) d_301_73) (fun _ _ _ _ _ => rfl)
theorem ki_301_72 : js_OkG 301 72 (o_ic 1 73) := js_St.okG (st_iconst rfl d_301_72) (fun _ _ _ _ _ => rfl)
theorem ki_301_69 : js_OkG 301 69 (o_cI 176 4 0 72) := og_sIP rfl rfl kB_301_176 rfl kw_785 kw_786 d_301_69
theorem ki_301_68 : js_OkG 301 68 (o_ic 1 69) := js_St.okG (st_iconst rfl d_301_68) (fun _ _ _ _ _ => rfl)
theorem ki_301_67 : js_OkG 301 67 (o_rem 68) := js_St.okG (st_irem d_301_67) (fun _ _ _ _ _ => rfl)
theorem ki_301_65 : js_OkG 301 65 (o_ic 8 67) := js_St.okG (st_bipush rfl d_301_65) (fun _ _ _ _ _ => rfl)
theorem ki_301_95 : js_OkG 301 95 (o_il 5 97) := js_St.okG (st_iload d_301_95) (fun _ _ _ _ _ => rfl)
theorem ki_301_94 : js_OkG 301 94 (o_div 95) := js_St.okG (st_idiv d_301_94) (fun _ _ _ _ _ => rfl)
theorem ki_301_92 : js_OkG 301 92 (o_ic 8 94) := js_St.okG (st_bipush rfl d_301_92) (fun _ _ _ _ _ => rfl)
theorem ki_301_90 : js_OkG 301 90 (o_il 5 92) := js_St.okG (st_iload d_301_90) (fun _ _ _ _ _ => rfl)
theorem ki_301_89 : js_OkG 301 89 (o_al 0 90) := js_St.okG (st_aloadn rfl d_301_89) (fun _ _ _ _ _ => rfl)
theorem ki_301_88 : js_OkG 301 88 (o_ll 3 89) := js_St.okG (st_lloadn rfl d_301_88) (fun _ _ _ _ _ => rfl)
theorem ki_301_87 : js_OkG 301 87 (o_ls 3 88) := js_St.okG (st_lstoren rfl (Nat.le_of_ble_eq_true rfl) d_301_87) (fun _ _ _ _ _ => rfl)
theorem ki_301_86 : js_OkG 301 86 (o_B2 (fun x y => x ||| y) 87) := js_St.okG (st_lor d_301_86) (fun _ _ _ _ _ => rfl)
theorem ki_301_85 : js_OkG 301 85 (o_lc 0 86) := js_St.okG (st_lconst rfl d_301_85) (fun _ _ _ _ _ => rfl)
theorem ki_301_82 : js_OkG 301 82 (o_go 86) := js_St.okG (st_goto (by decide) d_301_82) (fun _ _ _ _ _ => rfl)
theorem ki_301_81 : js_OkG 301 81 (o_Sh (fun x y => x <<< (y.toInt64 &&& 63)) 82) := js_St.okG (st_lshl d_301_81) (fun _ _ _ _ _ => rfl)
theorem ki_301_80 : js_OkG 301 80 (o_b2 (fun x y => x + y) 81) := js_St.okG (st_iadd d_301_80) (fun _ _ _ _ _ => rfl)
theorem ki_301_111 : js_OkG 301 111 (o_ic 8 113) := js_St.okG (st_bipush rfl d_301_111) (fun _ _ _ _ _ => rfl)
theorem ki_301_109 : js_OkG 301 109 (o_il 5 111) := js_St.okG (st_iload d_301_109) (fun _ _ _ _ _ => rfl)
theorem ki_301_108 : js_OkG 301 108 (o_lc 1 109) := js_St.okG (st_lconst rfl d_301_108) (fun _ _ _ _ _ => rfl)
theorem ki_301_105 : js_OkG 301 105 (o_cne 118 108) := js_St.okG (st_icne (by decide) d_301_105) (fun _ _ _ _ _ => rfl)
theorem ki_301_104 : js_OkG 301 104 (o_ic 1 105) := js_St.okG (st_iconst rfl d_301_104) (fun _ _ _ _ _ => rfl)
theorem ki_301_101 : js_OkG 301 101 (o_cI 176 4 0 104) := og_sIP rfl rfl kB_301_176 rfl kw_785 kw_786 d_301_101
theorem ki_301_100 : js_OkG 301 100 (o_ic 2 101) := js_St.okG (st_iconst rfl d_301_100) (fun _ _ _ _ _ => rfl)
theorem ki_301_99 : js_OkG 301 99 (o_rem 100) := js_St.okG (st_irem d_301_99) (fun _ _ _ _ _ => rfl)
theorem ki_301_97 : js_OkG 301 97 (o_ic 8 99) := js_St.okG (st_bipush rfl d_301_97) (fun _ _ _ _ _ => rfl)
theorem ki_301_127 : js_OkG 301 127 (o_div 128) := js_St.okG (st_idiv d_301_127) (fun _ _ _ _ _ => rfl)
theorem ki_301_125 : js_OkG 301 125 (o_ic 8 127) := js_St.okG (st_bipush rfl d_301_125) (fun _ _ _ _ _ => rfl)
theorem ki_301_123 : js_OkG 301 123 (o_il 5 125) := js_St.okG (st_iload d_301_123) (fun _ _ _ _ _ => rfl)
theorem ki_301_122 : js_OkG 301 122 (o_al 0 123) := js_St.okG (st_aloadn rfl d_301_122) (fun _ _ _ _ _ => rfl)
theorem ki_301_121 : js_OkG 301 121 (o_ll 3 122) := js_St.okG (st_lloadn rfl d_301_121) (fun _ _ _ _ _ => rfl)
theorem ki_301_120 : js_OkG 301 120 (o_ls 3 121) := js_St.okG (st_lstoren rfl (Nat.le_of_ble_eq_true rfl) d_301_120) (fun _ _ _ _ _ => rfl)
theorem ki_301_119 : js_OkG 301 119 (o_B2 (fun x y => x ||| y) 120) := js_St.okG (st_lor d_301_119) (fun _ _ _ _ _ => rfl)
theorem ki_301_118 : js_OkG 301 118 (o_lc 0 119) := js_St.okG (st_lconst rfl d_301_118) (fun _ _ _ _ _ => rfl)
theorem ki_301_115 : js_OkG 301 115 (o_go 119) := js_St.okG (st_goto (by decide) d_301_115) (fun _ _ _ _ _ => rfl)
theorem ki_301_114 : js_OkG 301 114 (o_Sh (fun x y => x <<< (y.toInt64 &&& 63)) 115) := js_St.okG (st_lshl d_301_114) (fun _ _ _ _ _ => rfl)
theorem ki_301_113 : js_OkG 301 113 (o_b2 (fun x y => x + y) 114) := js_St.okG (st_iadd d_301_113) (fun _ _ _ _ _ => rfl)
theorem ki_301_142 : js_OkG 301 142 (o_il 5 144) := js_St.okG (st_iload d_301_142) (fun _ _ _ _ _ => rfl)
theorem ki_301_141 : js_OkG 301 141 (o_lc 1 142) := js_St.okG (st_lconst rfl d_301_141) (fun _ _ _ _ _ => rfl)
theorem ki_301_138 : js_OkG 301 138 (o_cne 150 141) := js_St.okG (st_icne (by decide) d_301_138) (fun _ _ _ _ _ => rfl)
theorem ki_301_137 : js_OkG 301 137 (o_ic 1 138) := js_St.okG (st_iconst rfl d_301_137) (fun _ _ _ _ _ => rfl)
theorem ki_301_134 : js_OkG 301 134 (o_cI 176 4 0 137) := og_sIP rfl rfl kB_301_176 rfl kw_785 kw_786 d_301_134
theorem ki_301_133 : js_OkG 301 133 (o_ic 3 134) := js_St.okG (st_iconst rfl d_301_133) (fun _ _ _ _ _ => rfl)
theorem ki_301_132 : js_OkG 301 132 (o_rem 133) := js_St.okG (st_irem d_301_132) (fun _ _ _ _ _ => rfl)
theorem ki_301_130 : js_OkG 301 130 (o_ic 8 132) := js_St.okG (st_bipush rfl d_301_130) (fun _ _ _ _ _ => rfl)
theorem ki_301_128 : js_OkG 301 128 (o_il 5 130) := js_St.okG (st_iload d_301_128) (fun _ _ _ _ _ => rfl)
theorem ki_301_159 : js_OkG 301 159 (o_ll 3 160) := js_St.okG (st_lloadn rfl d_301_159) (fun _ _ _ _ _ => rfl)
theorem ki_301_156 : js_OkG 301 156 (o_go 5) := js_St.okG (st_goto (by decide) d_301_156) (fun _ _ _ _ _ => rfl)
theorem ki_301_153 : js_OkG 301 153 (o_inc 5 1 156) := js_St.okG (st_iinc rfl (Nat.le_of_ble_eq_true rfl) d_301_153) (fun _ _ _ _ _ => rfl)
theorem ki_301_152 : js_OkG 301 152 (o_ls 3 153) := js_St.okG (st_lstoren rfl (Nat.le_of_ble_eq_true rfl) d_301_152) (fun _ _ _ _ _ => rfl)
theorem ki_301_151 : js_OkG 301 151 (o_B2 (fun x y => x ||| y) 152) := js_St.okG (st_lor d_301_151) (fun _ _ _ _ _ => rfl)
theorem ki_301_150 : js_OkG 301 150 (o_lc 0 151) := js_St.okG (st_lconst rfl d_301_150) (fun _ _ _ _ _ => rfl)
theorem ki_301_147 : js_OkG 301 147 (o_go 151) := js_St.okG (st_goto (by decide) d_301_147) (fun _ _ _ _ _ => rfl)
theorem ki_301_146 : js_OkG 301 146 (o_Sh (fun x y => x <<< (y.toInt64 &&& 63)) 147) := js_St.okG (st_lshl d_301_146) (fun _ _ _ _ _ => rfl)
theorem ki_301_145 : js_OkG 301 145 (o_b2 (fun x y => x - y) 146) := js_St.okG (st_isub d_301_145) (fun _ _ _ _ _ => rfl)
theorem ki_301_144 : js_OkG 301 144 (o_ic 1 145) := js_St.okG (st_iconst rfl d_301_144) (fun _ _ _ _ _ => rfl)
theorem ki_301_174 : js_OkG 301 174 (o_rL) := og_rL rfl d_301_174
theorem ki_301_171 : js_OkG 301 171 (o_cL 302 2 0 174) := og_sLP rfl rfl kB_301_302 rfl kw_949 kw_950 d_301_171
theorem ki_301_170 : js_OkG 301 170 (o_ll 3 171) := js_St.okG (st_lloadn rfl d_301_170) (fun _ _ _ _ _ => rfl)
theorem ki_301_169 : js_OkG 301 169 (o_al 0 170) := js_St.okG (st_aloadn rfl d_301_169) (fun _ _ _ _ _ => rfl)
theorem ki_301_166 : js_OkG 301 166 (o_go 174) := js_St.okG (st_goto (by decide) d_301_166) (fun _ _ _ _ _ => rfl)
theorem ki_301_165 : js_OkG 301 165 (o_ll 1 166) := js_St.okG (st_lloadn rfl d_301_165) (fun _ _ _ _ _ => rfl)
theorem ki_301_162 : js_OkG 301 162 (o_ne 169 165) := js_St.okG (st_ifne (by decide) d_301_162) (fun _ _ _ _ _ => rfl)
theorem ki_301_161 : js_OkG 301 161 (o_lcmp 162) := js_St.okG (st_lcmp d_301_161) (fun _ _ _ _ _ => rfl)
theorem ki_301_160 : js_OkG 301 160 (o_ll 1 161) := js_St.okG (st_lloadn rfl d_301_160) (fun _ _ _ _ _ => rfl)
set_option maxRecDepth 20000 in
theorem mk_301 : js_mokG 301 := jk_tab (fun _ => js_St.okG st_bad (fun _ _ _ _ _ => rfl)) (show jk_all (js_OkG 301) 0 (tb_G 301) from ⟨⟨ki_301_0, ⟨ki_301_1, ⟨ki_301_2, ⟨ki_301_3, ⟨kbadG, ⟨ki_301_5, ⟨kbadG, ⟨ki_301_7, ⟨kbadG, ⟨ki_301_9, ⟨kbadG, ⟨kbadG, ⟨ki_301_12, ⟨ki_301_13, ⟨kbadG, ⟨ki_301_15, trivial⟩⟩⟩⟩⟩⟩⟩⟩⟩⟩⟩⟩⟩⟩⟩⟩, ⟨⟨ki_301_16, ⟨ki_301_17, ⟨ki_301_18, ⟨ki_301_19, ⟨ki_301_20, ⟨kbadG, ⟨kbadG, ⟨ki_301_23, ⟨ki_301_24, ⟨ki_301_25, ⟨kbadG, ⟨ki_301_27, ⟨kbadG, ⟨ki_301_29, ⟨ki_301_30, ⟨kbadG, trivial⟩⟩⟩⟩⟩⟩⟩⟩⟩⟩⟩⟩⟩⟩⟩⟩, ⟨⟨ki_301_32, ⟨kbadG, ⟨ki_301_34, ⟨ki_301_35, ⟨ki_301_36, ⟨kbadG, ⟨kbadG, ⟨ki_301_39, ⟨ki_301_40, ⟨kbadG, ⟨kbadG, ⟨ki_301_43, ⟨ki_301_44, ⟨kbadG, ⟨ki_301_46, ⟨kbadG, trivial⟩⟩⟩⟩⟩⟩⟩⟩⟩⟩⟩⟩⟩⟩⟩⟩, ⟨⟨ki_301_48, ⟨ki_301_49, ⟨ki_301_50, ⟨kbadG, ⟨kbadG, ⟨ki_301_53, ⟨ki_301_54, ⟨ki_301_55, ⟨ki_301_56, ⟨ki_301_57, ⟨ki_301_58, ⟨kbadG, ⟨ki_301_60, ⟨kbadG, ⟨ki_301_62, ⟨ki_301_63, trivial⟩⟩⟩⟩⟩⟩⟩⟩⟩⟩⟩⟩⟩⟩⟩⟩, ⟨⟨kbadG, ⟨ki_301_65, ⟨kbadG, ⟨ki_301_67, ⟨ki_301_68, ⟨ki_301_69, ⟨kbadG, ⟨kbadG, ⟨ki_301_72, ⟨ki_301_73, ⟨kbadG, ⟨kbadG, ⟨ki_301_76, ⟨ki_301_77, ⟨kbadG, ⟨ki_301_79, trivial⟩⟩⟩⟩⟩⟩⟩⟩⟩⟩⟩⟩⟩⟩⟩⟩, ⟨⟨ki_301_80, ⟨ki_301_81, ⟨ki_301_82, ⟨kbadG, ⟨kbadG, ⟨ki_301_85, ⟨ki_301_86, ⟨ki_301_87, ⟨ki_301_88, ⟨ki_301_89, ⟨ki_301_90, ⟨kbadG, ⟨ki_301_92, ⟨kbadG, ⟨ki_301_94, ⟨ki_301_95, trivial⟩⟩⟩⟩⟩⟩⟩⟩⟩⟩⟩⟩⟩⟩⟩⟩, ⟨⟨kbadG, ⟨ki_301_97, ⟨kbadG, ⟨ki_301_99, ⟨ki_301_100, ⟨ki_301_101, ⟨kbadG, ⟨kbadG, ⟨ki_301_104, ⟨ki_301_105, ⟨kbadG, ⟨kbadG, ⟨ki_301_108, ⟨ki_301_109, ⟨kbadG, ⟨ki_301_111, trivial⟩⟩⟩⟩⟩⟩⟩⟩⟩⟩⟩⟩⟩⟩⟩⟩, ⟨⟨kbadG, ⟨ki_301_113, ⟨ki_301_114, ⟨ki_301_115, ⟨kbadG, ⟨kbadG, ⟨ki_301_118, ⟨ki_301_119, ⟨ki_301_120, ⟨ki_301_121, ⟨ki_301_122, ⟨ki_301_123, ⟨kbadG, ⟨ki_301_125, ⟨kbadG, ⟨ki_301_127, trivial⟩⟩⟩⟩⟩⟩⟩⟩⟩⟩⟩⟩⟩⟩⟩⟩, ⟨⟨ki_301_128, ⟨kbadG, ⟨ki_301_130, ⟨kbadG, ⟨ki_301_132, ⟨ki_301_133, ⟨ki_301_134, ⟨kbadG, ⟨kbadG, ⟨ki_301_137, ⟨ki_301_138, ⟨kbadG, ⟨kbadG, ⟨ki_301_141, ⟨ki_301_142, ⟨kbadG, trivial⟩⟩⟩⟩⟩⟩⟩⟩⟩⟩⟩⟩⟩⟩⟩⟩, ⟨⟨ki_301_144, ⟨ki_301_145, ⟨ki_301_146, ⟨ki_301_147, ⟨kbadG, ⟨kbadG, ⟨ki_301_150, ⟨ki_301_151, ⟨ki_301_152, ⟨ki_301_153, ⟨kbadG, ⟨kbadG, ⟨ki_301_156, ⟨kbadG, ⟨kbadG, ⟨ki_301_159, trivial⟩⟩⟩⟩⟩⟩⟩⟩⟩⟩⟩⟩⟩⟩⟩⟩, ⟨⟨ki_301_160, ⟨ki_301_161, ⟨ki_301_162, ⟨kbadG, ⟨kbadG, ⟨ki_301_165, ⟨ki_301_166, ⟨kbadG, ⟨kbadG, ⟨ki_301_169, ⟨ki_301_170, ⟨ki_301_171, ⟨kbadG, ⟨kbadG, ⟨ki_301_174, trivial⟩⟩⟩⟩⟩⟩⟩⟩⟩⟩⟩⟩⟩⟩⟩, trivial⟩⟩⟩⟩⟩⟩⟩⟩⟩⟩⟩)
end JS
