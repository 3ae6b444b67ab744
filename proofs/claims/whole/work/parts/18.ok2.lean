section JS
theorem d_145_0 : decode (js_b 145) 0 = .ok (.aload_n 0, 1) := by decide +kernel
theorem d_145_1 : decode (js_b 145) 1 = .ok (.iload_n 1, 1) := by decide +kernel
theorem d_145_2 : decode (js_b 145) 2 = .ok (.bipush 7, 2) := by decide +kernel
theorem d_145_4 : decode (js_b 145) 4 = .ok (.invokevirtual 51, 3) := by decide +kernel
theorem d_145_7 : decode (js_b 145) 7 = .ok (.ifCond .le 7, 3) := by decide +kernel
theorem d_145_10 : decode (js_b 145) 10 = .ok (.iconst 1, 1) := by decide +kernel
theorem d_145_11 : decode (js_b 145) 11 = .ok (.goto 4, 3) := by decide +kernel
theorem d_145_14 : decode (js_b 145) 14 = .ok (.iconst 0, 1) := by decide +kernel
theorem d_145_15 : decode (js_b 145) 15 = .ok (.ireturn, 1) := by decide +kernel
theorem ki_145_15 : js_Ok 145 15 (o_rZ) := ok_rZ rfl d_145_15
theorem ki_145_14 : js_Ok 145 14 (o_ic 0 15) := js_St.ok (st_iconst rfl d_145_14)
theorem ki_145_11 : js_Ok 145 11 (o_go 15) := js_St.ok (st_goto (by decide) d_145_11)
theorem ki_145_10 : js_Ok 145 10 (o_ic 1 11) := js_St.ok (st_iconst rfl d_145_10)
theorem ki_145_7 : js_Ok 145 7 (o_le 14 10) := js_St.ok (st_ifle (by decide) d_145_7)
theorem ki_145_4 : js_Ok 145 4 (o_cI 140 3 9 7) := ok_cI (site_V kk_145_140 (by decide) kw_1324 kw_1326 ks_27 (fun t ht => by cases ht; exact Or.inl ⟨_, rfl, rfl⟩) d_145_4) rfl
theorem ki_145_2 : js_Ok 145 2 (o_ic 7 4) := js_St.ok (st_bipush rfl d_145_2)
theorem ki_145_1 : js_Ok 145 1 (o_il 1 2) := js_St.ok (st_iloadn rfl d_145_1)
theorem ki_145_0 : js_Ok 145 0 (o_al 0 1) := js_St.ok (st_aloadn rfl d_145_0)
theorem d_146_0 : decode (js_b 146) 0 = .ok (.aload_n 0, 1) := by decide +kernel
theorem d_146_1 : decode (js_b 146) 1 = .ok (.iload_n 1, 1) := by decide +kernel
theorem d_146_2 : decode (js_b 146) 2 = .ok (.invokevirtual 55, 3) := by decide +kernel
theorem d_146_5 : decode (js_b 146) 5 = .ok (.istore_n 2, 1) := by decide +kernel
theorem d_146_6 : decode (js_b 146) 6 = .ok (.iload_n 2, 1) := by decide +kernel
theorem d_146_7 : decode (js_b 146) 7 = .ok (.ifCond .lt 15, 3) := by decide +kernel
theorem d_146_10 : decode (js_b 146) 10 = .ok (.aload_n 0, 1) := by decide +kernel
theorem d_146_11 : decode (js_b 146) 11 = .ok (.iload_n 2, 1) := by decide +kernel
theorem d_146_12 : decode (js_b 146) 12 = .ok (.invokevirtual 59, 3) := by decide +kernel
theorem d_146_15 : decode (js_b 146) 15 = .ok (.ifCond .eq 7, 3) := by decide +kernel
theorem d_146_18 : decode (js_b 146) 18 = .ok (.iload_n 2, 1) := by decide +kernel
theorem d_146_19 : decode (js_b 146) 19 = .ok (.goto 4, 3) := by decide +kernel
theorem d_146_22 : decode (js_b 146) 22 = .ok (.iconst (-1), 1) := by decide +kernel
theorem d_146_23 : decode (js_b 146) 23 = .ok (.ireturn, 1) := by decide +kernel
theorem ki_146_15 : js_Ok 146 15 (o_eq 22 18) := js_St.ok (st_ifeq (by decide) d_146_15)
theorem ki_146_12 : js_Ok 146 12 (o_cI 145 2 9 15) := ok_cI (site_V kk_146_145 (by decide) kw_1328 kw_1330 ks_28 (fun t ht => by cases ht; exact Or.inl ⟨_, rfl, rfl⟩) d_146_12) rfl
theorem ki_146_11 : js_Ok 146 11 (o_il 2 12) := js_St.ok (st_iloadn rfl d_146_11)
theorem ki_146_10 : js_Ok 146 10 (o_al 0 11) := js_St.ok (st_aloadn rfl d_146_10)
theorem ki_146_7 : js_Ok 146 7 (o_lt 22 10) := js_St.ok (st_iflt (by decide) d_146_7)
theorem ki_146_6 : js_Ok 146 6 (o_il 2 7) := js_St.ok (st_iloadn rfl d_146_6)
theorem ki_146_5 : js_Ok 146 5 (o_is 2 6) := js_St.ok (st_istoren rfl (Nat.le_of_ble_eq_true rfl) d_146_5)
theorem ki_146_2 : js_Ok 146 2 (o_cI 144 2 9 5) := ok_cI (site_V kk_146_144 (by decide) kw_1348 kw_1350 ks_32 (fun t ht => by cases ht; exact Or.inl ⟨_, rfl, rfl⟩) d_146_2) rfl
theorem ki_146_1 : js_Ok 146 1 (o_il 1 2) := js_St.ok (st_iloadn rfl d_146_1)
theorem ki_146_0 : js_Ok 146 0 (o_al 0 1) := js_St.ok (st_aloadn rfl d_146_0)
theorem ki_146_23 : js_Ok 146 23 (o_rI) := ok_rI rfl d_146_23
theorem ki_146_22 : js_Ok 146 22 (o_ic (-1) 23) := js_St.ok (st_iconst rfl d_146_22)
theorem ki_146_19 : js_Ok 146 19 (o_go 23) := js_St.ok (st_goto (by decide) d_146_19)
theorem ki_146_18 : js_Ok 146 18 (o_il 2 19) := js_St.ok (st_iloadn rfl d_146_18)
theorem d_147_0 : decode (js_b 147) 0 = .ok (.aload_n 0, 1) := by decide +kernel
theorem d_147_1 : decode (js_b 147) 1 = .ok (.iload_n 1, 1) := by decide +kernel
theorem d_147_2 : decode (js_b 147) 2 = .ok (.invokevirtual 63, 3) := by decide +kernel
theorem d_147_5 : decode (js_b 147) 5 = .ok (.ifCond .eq 15, 3) := by decide +kernel
theorem d_147_8 : decode (js_b 147) 8 = .ok (.aload_n 0, 1) := by decide +kernel
theorem d_147_9 : decode (js_b 147) 9 = .ok (.iload_n 1, 1) := by decide +kernel
theorem d_147_10 : decode (js_b 147) 10 = .ok (.invokevirtual 59, 3) := by decide +kernel
theorem d_147_13 : decode (js_b 147) 13 = .ok (.ifCond .ne 7, 3) := by decide +kernel
theorem d_147_16 : decode (js_b 147) 16 = .ok (.iconst 1, 1) := by decide +kernel
theorem d_147_17 : decode (js_b 147) 17 = .ok (.goto 4, 3) := by decide +kernel
theorem d_147_20 : decode (js_b 147) 20 = .ok (.iconst 0, 1) := by decide +kernel
theorem d_147_21 : decode (js_b 147) 21 = .ok (.ireturn, 1) := by decide +kernel
theorem ki_147_13 : js_Ok 147 13 (o_ne 20 16) := js_St.ok (st_ifne (by decide) d_147_13)
theorem ki_147_10 : js_Ok 147 10 (o_cI 145 2 9 13) := ok_cI (site_V kk_147_145 (by decide) kw_1328 kw_1330 ks_28 (fun t ht => by cases ht; exact Or.inl ⟨_, rfl, rfl⟩) d_147_10) rfl
theorem ki_147_9 : js_Ok 147 9 (o_il 1 10) := js_St.ok (st_iloadn rfl d_147_9)
theorem ki_147_8 : js_Ok 147 8 (o_al 0 9) := js_St.ok (st_aloadn rfl d_147_8)
theorem ki_147_5 : js_Ok 147 5 (o_eq 20 8) := js_St.ok (st_ifeq (by decide) d_147_5)
theorem ki_147_2 : js_Ok 147 2 (o_cI 142 2 9 5) := ok_cI (site_V kk_147_142 (by decide) kw_1320 kw_1322 ks_26 (fun t ht => by cases ht; exact Or.inl ⟨_, rfl, rfl⟩) d_147_2) rfl
theorem ki_147_1 : js_Ok 147 1 (o_il 1 2) := js_St.ok (st_iloadn rfl d_147_1)
theorem ki_147_0 : js_Ok 147 0 (o_al 0 1) := js_St.ok (st_aloadn rfl d_147_0)
theorem ki_147_21 : js_Ok 147 21 (o_rZ) := ok_rZ rfl d_147_21
theorem ki_147_20 : js_Ok 147 20 (o_ic 0 21) := js_St.ok (st_iconst rfl d_147_20)
theorem ki_147_17 : js_Ok 147 17 (o_go 21) := js_St.ok (st_goto (by decide) d_147_17)
theorem ki_147_16 : js_Ok 147 16 (o_ic 1 17) := js_St.ok (st_iconst rfl d_147_16)
theorem d_148_0 : decode (js_b 148) 0 = .ok (.iconst 0, 1) := by decide +kernel
theorem d_148_1 : decode (js_b 148) 1 = .ok (.istore_n 2, 1) := by decide +kernel
theorem d_148_2 : decode (js_b 148) 2 = .ok (.iconst 0, 1) := by decide +kernel
theorem d_148_3 : decode (js_b 148) 3 = .ok (.istore_n 3, 1) := by decide +kernel
theorem d_148_4 : decode (js_b 148) 4 = .ok (.iload_n 3, 1) := by decide +kernel
theorem d_148_5 : decode (js_b 148) 5 = .ok (.bipush 20, 2) := by decide +kernel
theorem d_148_7 : decode (js_b 148) 7 = .ok (.if_icmp .ge 45, 3) := by decide +kernel
theorem d_148_10 : decode (js_b 148) 10 = .ok (.iload_n 2, 1) := by decide +kernel
theorem d_148_11 : decode (js_b 148) 11 = .ok (.iload_n 1, 1) := by decide +kernel
theorem d_148_12 : decode (js_b 148) 12 = .ok (.ifCond .eq 19, 3) := by decide +kernel
theorem d_148_15 : decode (js_b 148) 15 = .ok (.aload_n 0, 1) := by decide +kernel
theorem d_148_16 : decode (js_b 148) 16 = .ok (.iload_n 3, 1) := by decide +kernel
theorem d_148_17 : decode (js_b 148) 17 = .ok (.invokevirtual 66, 3) := by decide +kernel
theorem d_148_20 : decode (js_b 148) 20 = .ok (.ifCond .eq 7, 3) := by decide +kernel
theorem d_148_23 : decode (js_b 148) 23 = .ok (.iconst 1, 1) := by decide +kernel
theorem d_148_24 : decode (js_b 148) 24 = .ok (.goto 20, 3) := by decide +kernel
theorem d_148_27 : decode (js_b 148) 27 = .ok (.iconst 0, 1) := by decide +kernel
theorem d_148_28 : decode (js_b 148) 28 = .ok (.goto 16, 3) := by decide +kernel
theorem d_148_31 : decode (js_b 148) 31 = .ok (.aload_n 0, 1) := by decide +kernel
theorem d_148_32 : decode (js_b 148) 32 = .ok (.iload_n 3, 1) := by decide +kernel
theorem d_148_33 : decode (js_b 148) 33 = .ok (.invokevirtual 63, 3) := by decide +kernel
theorem d_148_36 : decode (js_b 148) 36 = .ok (.ifCond .eq 7, 3) := by decide +kernel
theorem d_148_39 : decode (js_b 148) 39 = .ok (.iconst 1, 1) := by decide +kernel
theorem d_148_40 : decode (js_b 148) 40 = .ok (.goto 4, 3) := by decide +kernel
theorem d_148_43 : decode (js_b 148) 43 = .ok (.iconst 0, 1) := by decide +kernel
theorem d_148_44 : decode (js_b 148) 44 = .ok (.iadd, 1) := by decide +kernel
theorem d_148_45 : decode (js_b 148) 45 = .ok (.istore_n 2, 1) := by decide +kernel
theorem d_148_46 : decode (js_b 148) 46 = .ok (.iinc 3 1, 3) := by decide +kernel
theorem d_148_49 : decode (js_b 148) 49 = .ok (.goto (-45), 3) := by decide +kernel
theorem d_148_52 : decode (js_b 148) 52 = .ok (.iload_n 2, 1) := by decide +kernel
theorem d_148_53 : decode (js_b 148) 53 = .ok (.ireturn, 1) := by decide +kernel
theorem ki_148_15 : js_Ok 148 15 (o_al 0 16) := js_St.ok (st_aloadn rfl d_148_15)
theorem ki_148_12 : js_Ok 148 12 (o_eq 31 15) := js_St.ok (st_ifeq (by decide) d_148_12)
theorem ki_148_11 : js_Ok 148 11 (o_il 1 12) := js_St.ok (st_iloadn rfl d_148_11)
theorem ki_148_10 : js_Ok 148 10 (o_il 2 11) := js_St.ok (st_iloadn rfl d_148_10)
theorem ki_148_7 : js_Ok 148 7 (o_cge 52 10) := js_St.ok (st_icge (by decide) d_148_7)
theorem ki_148_5 : js_Ok 148 5 (o_ic 20 7) := js_St.ok (st_bipush rfl d_148_5)
theorem ki_148_4 : js_Ok 148 4 (o_il 3 5) := js_St.ok (st_iloadn rfl d_148_4)
theorem ki_148_3 : js_Ok 148 3 (o_is 3 4) := js_St.ok (st_istoren rfl (Nat.le_of_ble_eq_true rfl) d_148_3)
theorem ki_148_2 : js_Ok 148 2 (o_ic 0 3) := js_St.ok (st_iconst rfl d_148_2)
theorem ki_148_1 : js_Ok 148 1 (o_is 2 2) := js_St.ok (st_istoren rfl (Nat.le_of_ble_eq_true rfl) d_148_1)
theorem ki_148_0 : js_Ok 148 0 (o_ic 0 1) := js_St.ok (st_iconst rfl d_148_0)
theorem ki_148_31 : js_Ok 148 31 (o_al 0 32) := js_St.ok (st_aloadn rfl d_148_31)
theorem ki_148_28 : js_Ok 148 28 (o_go 44) := js_St.ok (st_goto (by decide) d_148_28)
theorem ki_148_27 : js_Ok 148 27 (o_ic 0 28) := js_St.ok (st_iconst rfl d_148_27)
theorem ki_148_24 : js_Ok 148 24 (o_go 44) := js_St.ok (st_goto (by decide) d_148_24)
theorem ki_148_23 : js_Ok 148 23 (o_ic 1 24) := js_St.ok (st_iconst rfl d_148_23)
theorem ki_148_20 : js_Ok 148 20 (o_eq 27 23) := js_St.ok (st_ifeq (by decide) d_148_20)
theorem ki_148_17 : js_Ok 148 17 (o_cI 147 2 9 20) := ok_cI (site_V kk_148_147 (by decide) kw_1316 kw_1318 ks_25 (fun t ht => by cases ht; exact Or.inl ⟨_, rfl, rfl⟩) d_148_17) rfl
theorem ki_148_16 : js_Ok 148 16 (o_il 3 17) := js_St.ok (st_iloadn rfl d_148_16)
theorem ki_148_46 : js_Ok 148 46 (o_inc 3 1 49) := js_St.ok (st_iinc rfl (Nat.le_of_ble_eq_true rfl) d_148_46)
theorem ki_148_45 : js_Ok 148 45 (o_is 2 46) := js_St.ok (st_istoren rfl (Nat.le_of_ble_eq_true rfl) d_148_45)
theorem ki_148_44 : js_Ok 148 44 (o_b2 (fun x y => x + y) 45) := js_St.ok (st_iadd d_148_44)
theorem ki_148_43 : js_Ok 148 43 (o_ic 0 44) := js_St.ok (st_iconst rfl d_148_43)
theorem ki_148_40 : js_Ok 148 40 (o_go 44) := js_St.ok (st_goto (by decide) d_148_40)
theorem ki_148_39 : js_Ok 148 39 (o_ic 1 40) := js_St.ok (st_iconst rfl d_148_39)
theorem ki_148_36 : js_Ok 148 36 (o_eq 43 39) := js_St.ok (st_ifeq (by decide) d_148_36)
theorem ki_148_33 : js_Ok 148 33 (o_cI 142 2 9 36) := ok_cI (site_V kk_148_142 (by decide) kw_1320 kw_1322 ks_26 (fun t ht => by cases ht; exact Or.inl ⟨_, rfl, rfl⟩) d_148_33) rfl
theorem ki_148_32 : js_Ok 148 32 (o_il 3 33) := js_St.ok (st_iloadn rfl d_148_32)
theorem ki_148_53 : js_Ok 148 53 (o_rI) := ok_rI rfl d_148_53
theorem ki_148_52 : js_Ok 148 52 (o_il 2 53) := js_St.ok (st_iloadn rfl d_148_52)
theorem ki_148_49 : js_Ok 148 49 (o_go 4) := js_St.ok (st_goto (by decide) d_148_49)
theorem d_149_0 : decode (js_b 149) 0 = .ok (.iload_n 0, 1) := by decide +kernel
theorem d_149_1 : decode (js_b 149) 1 = .ok (.iconst 0, 1) := by decide +kernel
theorem d_149_2 : decode (js_b 149) 2 = .ok (.bipush 7, 2) := by decide +kernel
theorem d_149_4 : decode (js_b 149) 4 = .ok (.invokestatic 69, 3) := by decide +kernel
theorem d_149_7 : decode (js_b 149) 7 = .ok (.ifCond .eq 17, 3) := by decide +kernel
theorem d_149_10 : decode (js_b 149) 10 = .ok (.iload_n 1, 1) := by decide +kernel
theorem d_149_11 : decode (js_b 149) 11 = .ok (.iconst 0, 1) := by decide +kernel
theorem d_149_12 : decode (js_b 149) 12 = .ok (.bipush 7, 2) := by decide +kernel
theorem d_149_14 : decode (js_b 149) 14 = .ok (.invokestatic 69, 3) := by decide +kernel
theorem d_149_17 : decode (js_b 149) 17 = .ok (.ifCond .eq 7, 3) := by decide +kernel
theorem d_149_20 : decode (js_b 149) 20 = .ok (.iconst 1, 1) := by decide +kernel
theorem d_149_21 : decode (js_b 149) 21 = .ok (.goto 4, 3) := by decide +kernel
theorem d_149_24 : decode (js_b 149) 24 = .ok (.iconst 0, 1) := by decide +kernel
theorem d_149_25 : decode (js_b 149) 25 = .ok (.ireturn, 1) := by decide +kernel
theorem ki_149_14 : js_Ok 149 14 (o_cI 135 3 0 17) := ok_cI (site_S kk_149_135 kw_1302 kw_1303 d_149_14) rfl
theorem ki_149_12 : js_Ok 149 12 (o_ic 7 14) := js_St.ok (st_bipush rfl d_149_12)
theorem ki_149_11 : js_Ok 149 11 (o_ic 0 12) := js_St.ok (st_iconst rfl d_149_11)
theorem ki_149_10 : js_Ok 149 10 (o_il 1 11) := js_St.ok (st_iloadn rfl d_149_10)
theorem ki_149_7 : js_Ok 149 7 (o_eq 24 10) := js_St.ok (st_ifeq (by decide) d_149_7)
theorem ki_149_4 : js_Ok 149 4 (o_cI 135 3 0 7) := ok_cI (site_S kk_149_135 kw_1302 kw_1303 d_149_4) rfl
theorem ki_149_2 : js_Ok 149 2 (o_ic 7 4) := js_St.ok (st_bipush rfl d_149_2)
theorem ki_149_1 : js_Ok 149 1 (o_ic 0 2) := js_St.ok (st_iconst rfl d_149_1)
theorem ki_149_0 : js_Ok 149 0 (o_il 0 1) := js_St.ok (st_iloadn rfl d_149_0)
theorem ki_149_25 : js_Ok 149 25 (o_rZ) := ok_rZ rfl d_149_25
theorem ki_149_24 : js_Ok 149 24 (o_ic 0 25) := js_St.ok (st_iconst rfl d_149_24)
theorem ki_149_21 : js_Ok 149 21 (o_go 25) := js_St.ok (st_goto (by decide) d_149_21)
theorem ki_149_20 : js_Ok 149 20 (o_ic 1 21) := js_St.ok (st_iconst rfl d_149_20)
theorem ki_149_17 : js_Ok 149 17 (o_eq 24 20) := js_St.ok (st_ifeq (by decide) d_149_17)
theorem d_150_0 : decode (js_b 150) 0 = .ok (.iload_n 0, 1) := by decide +kernel
theorem d_150_1 : decode (js_b 150) 1 = .ok (.bipush 97, 2) := by decide +kernel
theorem d_150_3 : decode (js_b 150) 3 = .ok (.bipush 102, 2) := by decide +kernel
theorem d_150_5 : decode (js_b 150) 5 = .ok (.invokestatic 69, 3) := by decide +kernel
theorem d_150_8 : decode (js_b 150) 8 = .ok (.ireturn, 1) := by decide +kernel
theorem ki_150_8 : js_Ok 150 8 (o_rZ) := ok_rZ rfl d_150_8
theorem ki_150_5 : js_Ok 150 5 (o_cI 135 3 0 8) := ok_cI (site_S kk_150_135 kw_1302 kw_1303 d_150_5) rfl
theorem ki_150_3 : js_Ok 150 3 (o_ic 102 5) := js_St.ok (st_bipush rfl d_150_3)
theorem ki_150_1 : js_Ok 150 1 (o_ic 97 3) := js_St.ok (st_bipush rfl d_150_1)
theorem ki_150_0 : js_Ok 150 0 (o_il 0 1) := js_St.ok (st_iloadn rfl d_150_0)
theorem d_151_0 : decode (js_b 151) 0 = .ok (.iload_n 0, 1) := by decide +kernel
theorem d_151_1 : decode (js_b 151) 1 = .ok (.bipush 8, 2) := by decide +kernel
theorem d_151_3 : decode (js_b 151) 3 = .ok (.idiv, 1) := by decide +kernel
theorem d_151_4 : decode (js_b 151) 4 = .ok (.iload_n 1, 1) := by decide +kernel
theorem d_151_5 : decode (js_b 151) 5 = .ok (.ifCond .ne 7, 3) := by decide +kernel
theorem d_151_8 : decode (js_b 151) 8 = .ok (.iconst (-1), 1) := by decide +kernel
theorem d_151_9 : decode (js_b 151) 9 = .ok (.goto 13, 3) := by decide +kernel
theorem d_151_12 : decode (js_b 151) 12 = .ok (.iload_n 1, 1) := by decide +kernel
theorem d_151_13 : decode (js_b 151) 13 = .ok (.iconst 2, 1) := by decide +kernel
theorem d_151_14 : decode (js_b 151) 14 = .ok (.if_icmp .ne 7, 3) := by decide +kernel
theorem d_151_17 : decode (js_b 151) 17 = .ok (.iconst 1, 1) := by decide +kernel
theorem d_151_18 : decode (js_b 151) 18 = .ok (.goto 4, 3) := by decide +kernel
theorem d_151_21 : decode (js_b 151) 21 = .ok (.iconst 0, 1) := by decide +kernel
theorem d_151_22 : decode (js_b 151) 22 = .ok (.iadd, 1) := by decide +kernel
theorem d_151_23 : decode (js_b 151) 23 = .ok (.istore_n 2, 1) := by decide +kernel
theorem d_151_24 : decode (js_b 151) 24 = .ok (.iload_n 0, 1) := by decide +kernel
theorem d_151_25 : decode (js_b 151) 25 = .ok (.bipush 8, 2) := by decide +kernel
theorem d_151_27 : decode (js_b 151) 27 = .ok (.irem, 1) := by decide +kernel
theorem d_151_28 : decode (js_b 151) 28 = .ok (.iload_n 1, 1) := by decide +kernel
theorem d_151_29 : decode (js_b 151) 29 = .ok (.iconst 1, 1) := by decide +kernel
theorem d_151_30 : decode (js_b 151) 30 = .ok (.if_icmp .ne 7, 3) := by decide +kernel
theorem d_151_33 : decode (js_b 151) 33 = .ok (.iconst 1, 1) := by decide +kernel
theorem d_151_34 : decode (js_b 151) 34 = .ok (.goto 13, 3) := by decide +kernel
theorem d_151_37 : decode (js_b 151) 37 = .ok (.iload_n 1, 1) := by decide +kernel
theorem d_151_38 : decode (js_b 151) 38 = .ok (.iconst 3, 1) := by decide +kernel
theorem d_151_39 : decode (js_b 151) 39 = .ok (.if_icmp .ne 7, 3) := by decide +kernel
theorem d_151_42 : decode (js_b 151) 42 = .ok (.iconst (-1), 1) := by decide +kernel
theorem d_151_43 : decode (js_b 151) 43 = .ok (.goto 4, 3) := by decide +kernel
theorem d_151_46 : decode (js_b 151) 46 = .ok (.iconst 0, 1) := by decide +kernel
theorem d_151_47 : decode (js_b 151) 47 = .ok (.iadd, 1) := by decide +kernel
theorem d_151_48 : decode (js_b 151) 48 = .ok (.istore_n 3, 1) := by decide +kernel
theorem d_151_49 : decode (js_b 151) 49 = .ok (.iload_n 2, 1) := by decide +kernel
theorem d_151_50 : decode (js_b 151) 50 = .ok (.iload_n 3, 1) := by decide +kernel
theorem d_151_51 : decode (js_b 151) 51 = .ok (.invokestatic 73, 3) := by decide +kernel
theorem d_151_54 : decode (js_b 151) 54 = .ok (.ifCond .eq 12, 3) := by decide +kernel
theorem d_151_57 : decode (js_b 151) 57 = .ok (.bipush 8, 2) := by decide +kernel
theorem d_151_59 : decode (js_b 151) 59 = .ok (.iload_n 2, 1) := by decide +kernel
theorem d_151_60 : decode (js_b 151) 60 = .ok (.imul, 1) := by decide +kernel
theorem d_151_61 : decode (js_b 151) 61 = .ok (.iload_n 3, 1) := by decide +kernel
theorem d_151_62 : decode (js_b 151) 62 = .ok (.iadd, 1) := by decide +kernel
theorem d_151_63 : decode (js_b 151) 63 = .ok (.goto 4, 3) := by decide +kernel
theorem d_151_66 : decode (js_b 151) 66 = .ok (.iconst (-1), 1) := by decide +kernel
theorem d_151_67 : decode (js_b 151) 67 = .ok (.ireturn, 1) := by decide +kernel
theorem ki_151_14 : js_Ok 151 14 (o_cne 21 17) := js_St.ok (st_icne (by decide) d_151_14)
theorem ki_151_13 : js_Ok 151 13 (o_ic 2 14) := js_St.ok (st_iconst rfl d_151_13)
theorem ki_151_12 : js_Ok 151 12 (o_il 1 13) := js_St.ok (st_iloadn rfl d_151_12)
theorem ki_151_9 : js_Ok 151 9 (o_go 22) := js_St.ok (st_goto (by decide) d_151_9)
theorem ki_151_8 : js_Ok 151 8 (o_ic (-1) 9) := js_St.ok (st_iconst rfl d_151_8)
theorem ki_151_5 : js_Ok 151 5 (o_ne 12 8) := js_St.ok (st_ifne (by decide) d_151_5)
theorem ki_151_4 : js_Ok 151 4 (o_il 1 5) := js_St.ok (st_iloadn rfl d_151_4)
theorem ki_151_3 : js_Ok 151 3 (o_div 4) := js_St.ok (st_idiv d_151_3)
theorem ki_151_1 : js_Ok 151 1 (o_ic 8 3) := js_St.ok (st_bipush rfl d_151_1)
theorem ki_151_0 : js_Ok 151 0 (o_il 0 1) := js_St.ok (st_iloadn rfl d_151_0)
theorem ki_151_30 : js_Ok 151 30 (o_cne 37 33) := js_St.ok (st_icne (by decide) d_151_30)
theorem ki_151_29 : js_Ok 151 29 (o_ic 1 30) := js_St.ok (st_iconst rfl d_151_29)
theorem ki_151_28 : js_Ok 151 28 (o_il 1 29) := js_St.ok (st_iloadn rfl d_151_28)
theorem ki_151_27 : js_Ok 151 27 (o_rem 28) := js_St.ok (st_irem d_151_27)
theorem ki_151_25 : js_Ok 151 25 (o_ic 8 27) := js_St.ok (st_bipush rfl d_151_25)
theorem ki_151_24 : js_Ok 151 24 (o_il 0 25) := js_St.ok (st_iloadn rfl d_151_24)
theorem ki_151_23 : js_Ok 151 23 (o_is 2 24) := js_St.ok (st_istoren rfl (Nat.le_of_ble_eq_true rfl) d_151_23)
theorem ki_151_22 : js_Ok 151 22 (o_b2 (fun x y => x + y) 23) := js_St.ok (st_iadd d_151_22)
theorem ki_151_21 : js_Ok 151 21 (o_ic 0 22) := js_St.ok (st_iconst rfl d_151_21)
theorem ki_151_18 : js_Ok 151 18 (o_go 22) := js_St.ok (st_goto (by decide) d_151_18)
theorem ki_151_17 : js_Ok 151 17 (o_ic 1 18) := js_St.ok (st_iconst rfl d_151_17)
theorem ki_151_47 : js_Ok 151 47 (o_b2 (fun x y => x + y) 48) := js_St.ok (st_iadd d_151_47)
theorem ki_151_46 : js_Ok 151 46 (o_ic 0 47) := js_St.ok (st_iconst rfl d_151_46)
theorem ki_151_43 : js_Ok 151 43 (o_go 47) := js_St.ok (st_goto (by decide) d_151_43)
theorem ki_151_42 : js_Ok 151 42 (o_ic (-1) 43) := js_St.ok (st_iconst rfl d_151_42)
theorem ki_151_39 : js_Ok 151 39 (o_cne 46 42) := js_St.ok (st_icne (by decide) d_151_39)
theorem ki_151_38 : js_Ok 151 38 (o_ic 3 39) := js_St.ok (st_iconst rfl d_151_38)
theorem ki_151_37 : js_Ok 151 37 (o_il 1 38) := js_St.ok (st_iloadn rfl d_151_37)
theorem ki_151_34 : js_Ok 151 34 (o_go 47) := js_St.ok (st_goto (by decide) d_151_34)
theorem ki_151_33 : js_Ok 151 33 (o_ic 1 34) := js_St.ok (st_iconst rfl d_151_33)
theorem ki_151_63 : js_Ok 151 63 (o_go 67) := js_St.ok (st_goto (by decide) d_151_63)
theorem ki_151_62 : js_Ok 151 62 (o_b2 (fun x y => x + y) 63) := js_St.ok (st_iadd d_151_62)
theorem ki_151_61 : js_Ok 151 61 (o_il 3 62) := js_St.ok (st_iloadn rfl d_151_61)
theorem ki_151_60 : js_Ok 151 60 (o_b2 (fun x y => x * y) 61) := js_St.ok (st_imul d_151_60)
theorem ki_151_59 : js_Ok 151 59 (o_il 2 60) := js_St.ok (st_iloadn rfl d_151_59)
theorem ki_151_57 : js_Ok 151 57 (o_ic 8 59) := js_St.ok (st_bipush rfl d_151_57)
theorem ki_151_54 : js_Ok 151 54 (o_eq 66 57) := js_St.ok (st_ifeq (by decide) d_151_54)
theorem ki_151_51 : js_Ok 151 51 (o_cI 149 2 0 54) := ok_cI (site_S kk_151_149 kw_1416 kw_1417 d_151_51) rfl
theorem ki_151_50 : js_Ok 151 50 (o_il 3 51) := js_St.ok (st_iloadn rfl d_151_50)
theorem ki_151_49 : js_Ok 151 49 (o_il 2 50) := js_St.ok (st_iloadn rfl d_151_49)
theorem ki_151_48 : js_Ok 151 48 (o_is 3 49) := js_St.ok (st_istoren rfl (Nat.le_of_ble_eq_true rfl) d_151_48)
theorem ki_151_67 : js_Ok 151 67 (o_rI) := ok_rI rfl d_151_67
theorem ki_151_66 : js_Ok 151 66 (o_ic (-1) 67) := js_St.ok (st_iconst rfl d_151_66)
theorem d_152_0 : decode (js_b 152) 0 = .ok (.iload_n 1, 1) := by decide +kernel
theorem d_152_1 : decode (js_b 152) 1 = .ok (.iload_n 2, 1) := by decide +kernel
theorem d_152_2 : decode (js_b 152) 2 = .ok (.invokestatic 77, 3) := by decide +kernel
theorem d_152_5 : decode (js_b 152) 5 = .ok (.istore_n 3, 1) := by decide +kernel
theorem d_152_6 : decode (js_b 152) 6 = .ok (.iload_n 3, 1) := by decide +kernel
theorem d_152_7 : decode (js_b 152) 7 = .ok (.ifCond .ge 7, 3) := by decide +kernel
theorem d_152_10 : decode (js_b 152) 10 = .ok (.iconst (-1), 1) := by decide +kernel
theorem d_152_11 : decode (js_b 152) 11 = .ok (.goto 15, 3) := by decide +kernel
theorem d_152_14 : decode (js_b 152) 14 = .ok (.aload_n 0, 1) := by decide +kernel
theorem d_152_15 : decode (js_b 152) 15 = .ok (.getfield 9, 3) := by decide +kernel
theorem d_152_18 : decode (js_b 152) 18 = .ok (.sipush 161, 3) := by decide +kernel
theorem d_152_21 : decode (js_b 152) 21 = .ok (.iload_n 3, 1) := by decide +kernel
theorem d_152_22 : decode (js_b 152) 22 = .ok (.iadd, 1) := by decide +kernel
theorem d_152_23 : decode (js_b 152) 23 = .ok (.iaload, 1) := by decide +kernel
theorem d_152_24 : decode (js_b 152) 24 = .ok (.iconst 1, 1) := by decide +kernel
theorem d_152_25 : decode (js_b 152) 25 = .ok (.isub, 1) := by decide +kernel
theorem d_152_26 : decode (js_b 152) 26 = .ok (.ireturn, 1) := by decide +kernel
theorem ki_152_15 : js_Ok 152 15 (o_gA 8 0 18) := js_St.ok (st_gA js_c8 (by decide) kw_1233 d_152_15)
theorem ki_152_14 : js_Ok 152 14 (o_al 0 15) := js_St.ok (st_aloadn rfl d_152_14)
theorem ki_152_11 : js_Ok 152 11 (o_go 26) := js_St.ok (st_goto (by decide) d_152_11)
theorem ki_152_10 : js_Ok 152 10 (o_ic (-1) 11) := js_St.ok (st_iconst rfl d_152_10)
theorem ki_152_7 : js_Ok 152 7 (o_ge 14 10) := js_St.ok (st_ifge (by decide) d_152_7)
theorem ki_152_6 : js_Ok 152 6 (o_il 3 7) := js_St.ok (st_iloadn rfl d_152_6)
theorem ki_152_5 : js_Ok 152 5 (o_is 3 6) := js_St.ok (st_istoren rfl (Nat.le_of_ble_eq_true rfl) d_152_5)
theorem ki_152_2 : js_Ok 152 2 (o_cI 151 2 0 5) := ok_cI (site_S kk_152_151 kw_1435 kw_1436 d_152_2) rfl
theorem ki_152_1 : js_Ok 152 1 (o_il 2 2) := js_St.ok (st_iloadn rfl d_152_1)
theorem ki_152_0 : js_Ok 152 0 (o_il 1 1) := js_St.ok (st_iloadn rfl d_152_0)
theorem ki_152_26 : js_Ok 152 26 (o_rI) := ok_rI rfl d_152_26
theorem ki_152_25 : js_Ok 152 25 (o_b2 (fun x y => x - y) 26) := js_St.ok (st_isub d_152_25)
theorem ki_152_24 : js_Ok 152 24 (o_ic 1 25) := js_St.ok (st_iconst rfl d_152_24)
theorem ki_152_23 : js_Ok 152 23 (o_lI 100 24) := js_St.ok (st_lI d_152_23)
theorem ki_152_22 : js_Ok 152 22 (o_b2 (fun x y => x + y) 23) := js_St.ok (st_iadd d_152_22)
theorem ki_152_21 : js_Ok 152 21 (o_il 3 22) := js_St.ok (st_iloadn rfl d_152_21)
theorem ki_152_18 : js_Ok 152 18 (o_ic 161 21) := js_St.ok (st_sipush rfl d_152_18)
theorem d_153_0 : decode (js_b 153) 0 = .ok (.aload_n 0, 1) := by decide +kernel
theorem d_153_1 : decode (js_b 153) 1 = .ok (.iload_n 1, 1) := by decide +kernel
theorem d_153_2 : decode (js_b 153) 2 = .ok (.iconst 2, 1) := by decide +kernel
theorem d_153_3 : decode (js_b 153) 3 = .ok (.iload_n 2, 1) := by decide +kernel
theorem d_153_4 : decode (js_b 153) 4 = .ok (.iconst 4, 1) := by decide +kernel
theorem d_153_5 : decode (js_b 153) 5 = .ok (.iadd, 1) := by decide +kernel
theorem d_153_6 : decode (js_b 153) 6 = .ok (.iload_n 3, 1) := by decide +kernel
theorem d_153_7 : decode (js_b 153) 7 = .ok (.isub, 1) := by decide +kernel
theorem d_153_8 : decode (js_b 153) 8 = .ok (.iconst 4, 1) := by decide +kernel
theorem d_153_9 : decode (js_b 153) 9 = .ok (.irem, 1) := by decide +kernel
theorem d_153_10 : decode (js_b 153) 10 = .ok (.iadd, 1) := by decide +kernel
theorem d_153_11 : decode (js_b 153) 11 = .ok (.invokevirtual 51, 3) := by decide +kernel
theorem d_153_14 : decode (js_b 153) 14 = .ok (.ireturn, 1) := by decide +kernel
theorem ki_153_14 : js_Ok 153 14 (o_rI) := ok_rI rfl d_153_14
theorem ki_153_11 : js_Ok 153 11 (o_cI 140 3 9 14) := ok_cI (site_V kk_153_140 (by decide) kw_1324 kw_1326 ks_27 (fun t ht => by cases ht; exact Or.inl ⟨_, rfl, rfl⟩) d_153_11) rfl
theorem ki_153_10 : js_Ok 153 10 (o_b2 (fun x y => x + y) 11) := js_St.ok (st_iadd d_153_10)
theorem ki_153_9 : js_Ok 153 9 (o_rem 10) := js_St.ok (st_irem d_153_9)
theorem ki_153_8 : js_Ok 153 8 (o_ic 4 9) := js_St.ok (st_iconst rfl d_153_8)
theorem ki_153_7 : js_Ok 153 7 (o_b2 (fun x y => x - y) 8) := js_St.ok (st_isub d_153_7)
theorem ki_153_6 : js_Ok 153 6 (o_il 3 7) := js_St.ok (st_iloadn rfl d_153_6)
theorem ki_153_5 : js_Ok 153 5 (o_b2 (fun x y => x + y) 6) := js_St.ok (st_iadd d_153_5)
theorem ki_153_4 : js_Ok 153 4 (o_ic 4 5) := js_St.ok (st_iconst rfl d_153_4)
theorem ki_153_3 : js_Ok 153 3 (o_il 2 4) := js_St.ok (st_iloadn rfl d_153_3)
theorem ki_153_2 : js_Ok 153 2 (o_ic 2 3) := js_St.ok (st_iconst rfl d_153_2)
theorem ki_153_1 : js_Ok 153 1 (o_il 1 2) := js_St.ok (st_iloadn rfl d_153_1)
theorem ki_153_0 : js_Ok 153 0 (o_al 0 1) := js_St.ok (st_aloadn rfl d_153_0)
theorem d_154_0 : decode (js_b 154) 0 = .ok (.aload_n 0, 1) := by decide +kernel
theorem d_154_1 : decode (js_b 154) 1 = .ok (.iload_n 1, 1) := by decide +kernel
theorem d_154_2 : decode (js_b 154) 2 = .ok (.iload_n 2, 1) := by decide +kernel
theorem d_154_3 : decode (js_b 154) 3 = .ok (.invokevirtual 80, 3) := by decide +kernel
theorem d_154_6 : decode (js_b 154) 6 = .ok (.istore_n 3, 1) := by decide +kernel
theorem d_154_7 : decode (js_b 154) 7 = .ok (.aload_n 0, 1) := by decide +kernel
theorem d_154_8 : decode (js_b 154) 8 = .ok (.iload_n 3, 1) := by decide +kernel
theorem d_154_9 : decode (js_b 154) 9 = .ok (.iload_n 2, 1) := by decide +kernel
theorem d_154_10 : decode (js_b 154) 10 = .ok (.iconst 2, 1) := by decide +kernel
theorem d_154_11 : decode (js_b 154) 11 = .ok (.iadd, 1) := by decide +kernel
theorem d_154_12 : decode (js_b 154) 12 = .ok (.iconst 4, 1) := by decide +kernel
theorem d_154_13 : decode (js_b 154) 13 = .ok (.irem, 1) := by decide +kernel
theorem d_154_14 : decode (js_b 154) 14 = .ok (.aload_n 0, 1) := by decide +kernel
theorem d_154_15 : decode (js_b 154) 15 = .ok (.iload_n 3, 1) := by decide +kernel
theorem d_154_16 : decode (js_b 154) 16 = .ok (.bipush 6, 2) := by decide +kernel
theorem d_154_18 : decode (js_b 154) 18 = .ok (.invokevirtual 51, 3) := by decide +kernel
theorem d_154_21 : decode (js_b 154) 21 = .ok (.invokevirtual 83, 3) := by decide +kernel
theorem d_154_24 : decode (js_b 154) 24 = .ok (.ireturn, 1) := by decide +kernel
theorem ki_154_15 : js_Ok 154 15 (o_il 3 16) := js_St.ok (st_iloadn rfl d_154_15)
theorem ki_154_14 : js_Ok 154 14 (o_al 0 15) := js_St.ok (st_aloadn rfl d_154_14)
theorem ki_154_13 : js_Ok 154 13 (o_rem 14) := js_St.ok (st_irem d_154_13)
theorem ki_154_12 : js_Ok 154 12 (o_ic 4 13) := js_St.ok (st_iconst rfl d_154_12)
theorem ki_154_11 : js_Ok 154 11 (o_b2 (fun x y => x + y) 12) := js_St.ok (st_iadd d_154_11)
theorem ki_154_10 : js_Ok 154 10 (o_ic 2 11) := js_St.ok (st_iconst rfl d_154_10)
theorem ki_154_9 : js_Ok 154 9 (o_il 2 10) := js_St.ok (st_iloadn rfl d_154_9)
theorem ki_154_8 : js_Ok 154 8 (o_il 3 9) := js_St.ok (st_iloadn rfl d_154_8)
theorem ki_154_7 : js_Ok 154 7 (o_al 0 8) := js_St.ok (st_aloadn rfl d_154_7)
theorem ki_154_6 : js_Ok 154 6 (o_is 3 7) := js_St.ok (st_istoren rfl (Nat.le_of_ble_eq_true rfl) d_154_6)
theorem ki_154_3 : js_Ok 154 3 (o_cI 152 3 9 6) := ok_cI (site_V kk_154_152 (by decide) kw_1431 kw_1433 ks_41 (fun t ht => by cases ht; exact Or.inl ⟨_, rfl, rfl⟩) d_154_3) rfl
theorem ki_154_2 : js_Ok 154 2 (o_il 2 3) := js_St.ok (st_iloadn rfl d_154_2)
theorem ki_154_1 : js_Ok 154 1 (o_il 1 2) := js_St.ok (st_iloadn rfl d_154_1)
theorem ki_154_0 : js_Ok 154 0 (o_al 0 1) := js_St.ok (st_aloadn rfl d_154_0)
theorem ki_154_24 : js_Ok 154 24 (o_rI) := ok_rI rfl d_154_24
theorem ki_154_21 : js_Ok 154 21 (o_cI 153 4 9 24) := ok_cI (site_V kk_154_153 (by decide) kw_1388 kw_1390 ks_35 (fun t ht => by cases ht; exact Or.inl ⟨_, rfl, rfl⟩) d_154_21) rfl
theorem ki_154_18 : js_Ok 154 18 (o_cI 140 3 9 21) := ok_cI (site_V kk_154_140 (by decide) kw_1324 kw_1326 ks_27 (fun t ht => by cases ht; exact Or.inl ⟨_, rfl, rfl⟩) d_154_18) rfl
theorem ki_154_16 : js_Ok 154 16 (o_ic 6 18) := js_St.ok (st_bipush rfl d_154_16)
theorem d_155_0 : decode (js_b 155) 0 = .ok (.aload_n 0, 1) := by decide +kernel
theorem d_155_1 : decode (js_b 155) 1 = .ok (.getfield 9, 3) := by decide +kernel
theorem d_155_4 : decode (js_b 155) 4 = .ok (.sipush 161, 3) := by decide +kernel
theorem d_155_7 : decode (js_b 155) 7 = .ok (.iload_n 1, 1) := by decide +kernel
theorem d_155_8 : decode (js_b 155) 8 = .ok (.iadd, 1) := by decide +kernel
theorem d_155_9 : decode (js_b 155) 9 = .ok (.iaload, 1) := by decide +kernel
theorem d_155_10 : decode (js_b 155) 10 = .ok (.iconst 1, 1) := by decide +kernel
theorem d_155_11 : decode (js_b 155) 11 = .ok (.isub, 1) := by decide +kernel
theorem d_155_12 : decode (js_b 155) 12 = .ok (.istore_n 3, 1) := by decide +kernel
theorem d_155_13 : decode (js_b 155) 13 = .ok (.iload_n 3, 1) := by decide +kernel
theorem d_155_14 : decode (js_b 155) 14 = .ok (.ifCond .lt 12, 3) := by decide +kernel
theorem d_155_17 : decode (js_b 155) 17 = .ok (.aload_n 0, 1) := by decide +kernel
theorem d_155_18 : decode (js_b 155) 18 = .ok (.iload_n 1, 1) := by decide +kernel
theorem d_155_19 : decode (js_b 155) 19 = .ok (.iload_n 2, 1) := by decide +kernel
theorem d_155_20 : decode (js_b 155) 20 = .ok (.invokevirtual 80, 3) := by decide +kernel
theorem d_155_23 : decode (js_b 155) 23 = .ok (.ifCond .ge 5, 3) := by decide +kernel
theorem d_155_26 : decode (js_b 155) 26 = .ok (.iconst 0, 1) := by decide +kernel
theorem d_155_27 : decode (js_b 155) 27 = .ok (.ireturn, 1) := by decide +kernel
theorem d_155_28 : decode (js_b 155) 28 = .ok (.aload_n 0, 1) := by decide +kernel
theorem d_155_29 : decode (js_b 155) 29 = .ok (.iload_n 3, 1) := by decide +kernel
theorem d_155_30 : decode (js_b 155) 30 = .ok (.iload_n 2, 1) := by decide +kernel
theorem d_155_31 : decode (js_b 155) 31 = .ok (.aload_n 0, 1) := by decide +kernel
theorem d_155_32 : decode (js_b 155) 32 = .ok (.iload_n 3, 1) := by decide +kernel
theorem d_155_33 : decode (js_b 155) 33 = .ok (.bipush 6, 2) := by decide +kernel
theorem d_155_35 : decode (js_b 155) 35 = .ok (.invokevirtual 51, 3) := by decide +kernel
theorem d_155_38 : decode (js_b 155) 38 = .ok (.invokevirtual 83, 3) := by decide +kernel
theorem d_155_41 : decode (js_b 155) 41 = .ok (.aload_n 0, 1) := by decide +kernel
theorem d_155_42 : decode (js_b 155) 42 = .ok (.iload_n 1, 1) := by decide +kernel
theorem d_155_43 : decode (js_b 155) 43 = .ok (.iload_n 2, 1) := by decide +kernel
theorem d_155_44 : decode (js_b 155) 44 = .ok (.invokevirtual 87, 3) := by decide +kernel
theorem d_155_47 : decode (js_b 155) 47 = .ok (.iadd, 1) := by decide +kernel
theorem d_155_48 : decode (js_b 155) 48 = .ok (.bipush 15, 2) := by decide +kernel
theorem d_155_50 : decode (js_b 155) 50 = .ok (.if_icmp .ne 7, 3) := by decide +kernel
theorem d_155_53 : decode (js_b 155) 53 = .ok (.iconst 1, 1) := by decide +kernel
theorem d_155_54 : decode (js_b 155) 54 = .ok (.goto 4, 3) := by decide +kernel
theorem d_155_57 : decode (js_b 155) 57 = .ok (.iconst (-1), 1) := by decide +kernel
theorem d_155_58 : decode (js_b 155) 58 = .ok (.ireturn, 1) := by decide +kernel
theorem ki_155_14 : js_Ok 155 14 (o_lt 26 17) := js_St.ok (st_iflt (by decide) d_155_14)
theorem ki_155_13 : js_Ok 155 13 (o_il 3 14) := js_St.ok (st_iloadn rfl d_155_13)
theorem ki_155_12 : js_Ok 155 12 (o_is 3 13) := js_St.ok (st_istoren rfl (Nat.le_of_ble_eq_true rfl) d_155_12)
theorem ki_155_11 : js_Ok 155 11 (o_b2 (fun x y => x - y) 12) := js_St.ok (st_isub d_155_11)
theorem ki_155_10 : js_Ok 155 10 (o_ic 1 11) := js_St.ok (st_iconst rfl d_155_10)
theorem ki_155_9 : js_Ok 155 9 (o_lI 100 10) := js_St.ok (st_lI d_155_9)
theorem ki_155_8 : js_Ok 155 8 (o_b2 (fun x y => x + y) 9) := js_St.ok (st_iadd d_155_8)
theorem ki_155_7 : js_Ok 155 7 (o_il 1 8) := js_St.ok (st_iloadn rfl d_155_7)
theorem ki_155_4 : js_Ok 155 4 (o_ic 161 7) := js_St.ok (st_sipush rfl d_155_4)
theorem ki_155_1 : js_Ok 155 1 (o_gA 8 0 4) := js_St.ok (st_gA js_c8 (by decide) kw_1233 d_155_1)
theorem ki_155_0 : js_Ok 155 0 (o_al 0 1) := js_St.ok (st_aloadn rfl d_155_0)
theorem ki_155_31 : js_Ok 155 31 (o_al 0 32) := js_St.ok (st_aloadn rfl d_155_31)
theorem ki_155_30 : js_Ok 155 30 (o_il 2 31) := js_St.ok (st_iloadn rfl d_155_30)
theorem ki_155_29 : js_Ok 155 29 (o_il 3 30) := js_St.ok (st_iloadn rfl d_155_29)
theorem ki_155_28 : js_Ok 155 28 (o_al 0 29) := js_St.ok (st_aloadn rfl d_155_28)
theorem ki_155_27 : js_Ok 155 27 (o_rI) := ok_rI rfl d_155_27
theorem ki_155_26 : js_Ok 155 26 (o_ic 0 27) := js_St.ok (st_iconst rfl d_155_26)
theorem ki_155_23 : js_Ok 155 23 (o_ge 28 26) := js_St.ok (st_ifge (by decide) d_155_23)
theorem ki_155_20 : js_Ok 155 20 (o_cI 152 3 9 23) := ok_cI (site_V kk_155_152 (by decide) kw_1431 kw_1433 ks_41 (fun t ht => by cases ht; exact Or.inl ⟨_, rfl, rfl⟩) d_155_20) rfl
theorem ki_155_19 : js_Ok 155 19 (o_il 2 20) := js_St.ok (st_iloadn rfl d_155_19)
theorem ki_155_18 : js_Ok 155 18 (o_il 1 19) := js_St.ok (st_iloadn rfl d_155_18)
theorem ki_155_17 : js_Ok 155 17 (o_al 0 18) := js_St.ok (st_aloadn rfl d_155_17)
theorem ki_155_47 : js_Ok 155 47 (o_b2 (fun x y => x + y) 48) := js_St.ok (st_iadd d_155_47)
theorem ki_155_44 : js_Ok 155 44 (o_cI 154 3 9 47) := ok_cI (site_V kk_155_154 (by decide) kw_1438 kw_1440 ks_42 (fun t ht => by cases ht; exact Or.inl ⟨_, rfl, rfl⟩) d_155_44) rfl
theorem ki_155_43 : js_Ok 155 43 (o_il 2 44) := js_St.ok (st_iloadn rfl d_155_43)
theorem ki_155_42 : js_Ok 155 42 (o_il 1 43) := js_St.ok (st_iloadn rfl d_155_42)
theorem ki_155_41 : js_Ok 155 41 (o_al 0 42) := js_St.ok (st_aloadn rfl d_155_41)
theorem ki_155_38 : js_Ok 155 38 (o_cI 153 4 9 41) := ok_cI (site_V kk_155_153 (by decide) kw_1388 kw_1390 ks_35 (fun t ht => by cases ht; exact Or.inl ⟨_, rfl, rfl⟩) d_155_38) rfl
theorem ki_155_35 : js_Ok 155 35 (o_cI 140 3 9 38) := ok_cI (site_V kk_155_140 (by decide) kw_1324 kw_1326 ks_27 (fun t ht => by cases ht; exact Or.inl ⟨_, rfl, rfl⟩) d_155_35) rfl
theorem ki_155_33 : js_Ok 155 33 (o_ic 6 35) := js_St.ok (st_bipush rfl d_155_33)
theorem ki_155_32 : js_Ok 155 32 (o_il 3 33) := js_St.ok (st_iloadn rfl d_155_32)
theorem ki_155_58 : js_Ok 155 58 (o_rI) := ok_rI rfl d_155_58
theorem ki_155_57 : js_Ok 155 57 (o_ic (-1) 58) := js_St.ok (st_iconst rfl d_155_57)
theorem ki_155_54 : js_Ok 155 54 (o_go 58) := js_St.ok (st_goto (by decide) d_155_54)
theorem ki_155_53 : js_Ok 155 53 (o_ic 1 54) := js_St.ok (st_iconst rfl d_155_53)
theorem ki_155_50 : js_Ok 155 50 (o_cne 57 53) := js_St.ok (st_icne (by decide) d_155_50)
theorem ki_155_48 : js_Ok 155 48 (o_ic 15 50) := js_St.ok (st_bipush rfl d_155_48)
theorem d_156_0 : decode (js_b 156) 0 = .ok (.iconst 0, 1) := by decide +kernel
theorem d_156_1 : decode (js_b 156) 1 = .ok (.istore_n 3, 1) := by decide +kernel
theorem d_156_2 : decode (js_b 156) 2 = .ok (.iconst 0, 1) := by decide +kernel
theorem d_156_3 : decode (js_b 156) 3 = .ok (.istore 4, 2) := by decide +kernel
theorem d_156_5 : decode (js_b 156) 5 = .ok (.iload 4, 2) := by decide +kernel
theorem d_156_7 : decode (js_b 156) 7 = .ok (.iconst 4, 1) := by decide +kernel
theorem d_156_8 : decode (js_b 156) 8 = .ok (.if_icmp .ge 28, 3) := by decide +kernel
theorem d_156_11 : decode (js_b 156) 11 = .ok (.iload_n 3, 1) := by decide +kernel
theorem d_156_12 : decode (js_b 156) 12 = .ok (.aload_n 0, 1) := by decide +kernel
theorem d_156_13 : decode (js_b 156) 13 = .ok (.iload_n 1, 1) := by decide +kernel
theorem d_156_14 : decode (js_b 156) 14 = .ok (.iload 4, 2) := by decide +kernel
theorem d_156_16 : decode (js_b 156) 16 = .ok (.invokevirtual 90, 3) := by decide +kernel
theorem d_156_19 : decode (js_b 156) 19 = .ok (.iload_n 2, 1) := by decide +kernel
theorem d_156_20 : decode (js_b 156) 20 = .ok (.if_icmp .ne 7, 3) := by decide +kernel
theorem d_156_23 : decode (js_b 156) 23 = .ok (.iconst 1, 1) := by decide +kernel
theorem d_156_24 : decode (js_b 156) 24 = .ok (.goto 4, 3) := by decide +kernel
theorem d_156_27 : decode (js_b 156) 27 = .ok (.iconst 0, 1) := by decide +kernel
theorem d_156_28 : decode (js_b 156) 28 = .ok (.iadd, 1) := by decide +kernel
theorem d_156_29 : decode (js_b 156) 29 = .ok (.istore_n 3, 1) := by decide +kernel
theorem d_156_30 : decode (js_b 156) 30 = .ok (.iinc 4 1, 3) := by decide +kernel
theorem d_156_33 : decode (js_b 156) 33 = .ok (.goto (-28), 3) := by decide +kernel
theorem d_156_36 : decode (js_b 156) 36 = .ok (.iload_n 3, 1) := by decide +kernel
theorem d_156_37 : decode (js_b 156) 37 = .ok (.ireturn, 1) := by decide +kernel
theorem ki_156_14 : js_Ok 156 14 (o_il 4 16) := js_St.ok (st_iload d_156_14)
theorem ki_156_13 : js_Ok 156 13 (o_il 1 14) := js_St.ok (st_iloadn rfl d_156_13)
theorem ki_156_12 : js_Ok 156 12 (o_al 0 13) := js_St.ok (st_aloadn rfl d_156_12)
theorem ki_156_11 : js_Ok 156 11 (o_il 3 12) := js_St.ok (st_iloadn rfl d_156_11)
theorem ki_156_8 : js_Ok 156 8 (o_cge 36 11) := js_St.ok (st_icge (by decide) d_156_8)
theorem ki_156_7 : js_Ok 156 7 (o_ic 4 8) := js_St.ok (st_iconst rfl d_156_7)
theorem ki_156_5 : js_Ok 156 5 (o_il 4 7) := js_St.ok (st_iload d_156_5)
theorem ki_156_3 : js_Ok 156 3 (o_is 4 5) := js_St.ok (st_istore (Nat.le_of_ble_eq_true rfl) d_156_3)
theorem ki_156_2 : js_Ok 156 2 (o_ic 0 3) := js_St.ok (st_iconst rfl d_156_2)
theorem ki_156_1 : js_Ok 156 1 (o_is 3 2) := js_St.ok (st_istoren rfl (Nat.le_of_ble_eq_true rfl) d_156_1)
theorem ki_156_0 : js_Ok 156 0 (o_ic 0 1) := js_St.ok (st_iconst rfl d_156_0)
theorem ki_156_30 : js_Ok 156 30 (o_inc 4 1 33) := js_St.ok (st_iinc rfl (Nat.le_of_ble_eq_true rfl) d_156_30)
theorem ki_156_29 : js_Ok 156 29 (o_is 3 30) := js_St.ok (st_istoren rfl (Nat.le_of_ble_eq_true rfl) d_156_29)
theorem ki_156_28 : js_Ok 156 28 (o_b2 (fun x y => x + y) 29) := js_St.ok (st_iadd d_156_28)
theorem ki_156_27 : js_Ok 156 27 (o_ic 0 28) := js_St.ok (st_iconst rfl d_156_27)
theorem ki_156_24 : js_Ok 156 24 (o_go 28) := js_St.ok (st_goto (by decide) d_156_24)
theorem ki_156_23 : js_Ok 156 23 (o_ic 1 24) := js_St.ok (st_iconst rfl d_156_23)
theorem ki_156_20 : js_Ok 156 20 (o_cne 27 23) := js_St.ok (st_icne (by decide) d_156_20)
theorem ki_156_19 : js_Ok 156 19 (o_il 2 20) := js_St.ok (st_iloadn rfl d_156_19)
theorem ki_156_16 : js_Ok 156 16 (o_cI 155 3 9 19) := ok_cI (site_V kk_156_155 (by decide) kw_1427 kw_1429 ks_40 (fun t ht => by cases ht; exact Or.inl ⟨_, rfl, rfl⟩) d_156_16) rfl
theorem ki_156_37 : js_Ok 156 37 (o_rI) := ok_rI rfl d_156_37
theorem ki_156_36 : js_Ok 156 36 (o_il 3 37) := js_St.ok (st_iloadn rfl d_156_36)
theorem ki_156_33 : js_Ok 156 33 (o_go 5) := js_St.ok (st_goto (by decide) d_156_33)
theorem d_157_0 : decode (js_b 157) 0 = .ok (.iconst 0, 1) := by decide +kernel
theorem d_157_1 : decode (js_b 157) 1 = .ok (.istore_n 2, 1) := by decide +kernel
theorem d_157_2 : decode (js_b 157) 2 = .ok (.iconst 0, 1) := by decide +kernel
theorem d_157_3 : decode (js_b 157) 3 = .ok (.istore_n 3, 1) := by decide +kernel
theorem d_157_4 : decode (js_b 157) 4 = .ok (.iload_n 3, 1) := by decide +kernel
theorem d_157_5 : decode (js_b 157) 5 = .ok (.bipush 64, 2) := by decide +kernel
theorem d_157_7 : decode (js_b 157) 7 = .ok (.if_icmp .ge 18, 3) := by decide +kernel
theorem d_157_10 : decode (js_b 157) 10 = .ok (.iload_n 2, 1) := by decide +kernel
theorem d_157_11 : decode (js_b 157) 11 = .ok (.aload_n 0, 1) := by decide +kernel
theorem d_157_12 : decode (js_b 157) 12 = .ok (.iload_n 3, 1) := by decide +kernel
theorem d_157_13 : decode (js_b 157) 13 = .ok (.iload_n 1, 1) := by decide +kernel
theorem d_157_14 : decode (js_b 157) 14 = .ok (.invokevirtual 93, 3) := by decide +kernel
theorem d_157_17 : decode (js_b 157) 17 = .ok (.iadd, 1) := by decide +kernel
theorem d_157_18 : decode (js_b 157) 18 = .ok (.istore_n 2, 1) := by decide +kernel
theorem d_157_19 : decode (js_b 157) 19 = .ok (.iinc 3 1, 3) := by decide +kernel
theorem d_157_22 : decode (js_b 157) 22 = .ok (.goto (-18), 3) := by decide +kernel
theorem d_157_25 : decode (js_b 157) 25 = .ok (.iload_n 2, 1) := by decide +kernel
theorem d_157_26 : decode (js_b 157) 26 = .ok (.iconst 2, 1) := by decide +kernel
theorem d_157_27 : decode (js_b 157) 27 = .ok (.idiv, 1) := by decide +kernel
theorem d_157_28 : decode (js_b 157) 28 = .ok (.ireturn, 1) := by decide +kernel
theorem ki_157_14 : js_Ok 157 14 (o_cI 156 3 9 17) := ok_cI (site_V kk_157_156 (by decide) kw_1423 kw_1425 ks_39 (fun t ht => by cases ht; exact Or.inl ⟨_, rfl, rfl⟩) d_157_14) rfl
theorem ki_157_13 : js_Ok 157 13 (o_il 1 14) := js_St.ok (st_iloadn rfl d_157_13)
theorem ki_157_12 : js_Ok 157 12 (o_il 3 13) := js_St.ok (st_iloadn rfl d_157_12)
theorem ki_157_11 : js_Ok 157 11 (o_al 0 12) := js_St.ok (st_aloadn rfl d_157_11)
theorem ki_157_10 : js_Ok 157 10 (o_il 2 11) := js_St.ok (st_iloadn rfl d_157_10)
theorem ki_157_7 : js_Ok 157 7 (o_cge 25 10) := js_St.ok (st_icge (by decide) d_157_7)
theorem ki_157_5 : js_Ok 157 5 (o_ic 64 7) := js_St.ok (st_bipush rfl d_157_5)
theorem ki_157_4 : js_Ok 157 4 (o_il 3 5) := js_St.ok (st_iloadn rfl d_157_4)
theorem ki_157_3 : js_Ok 157 3 (o_is 3 4) := js_St.ok (st_istoren rfl (Nat.le_of_ble_eq_true rfl) d_157_3)
theorem ki_157_2 : js_Ok 157 2 (o_ic 0 3) := js_St.ok (st_iconst rfl d_157_2)
theorem ki_157_1 : js_Ok 157 1 (o_is 2 2) := js_St.ok (st_istoren rfl (Nat.le_of_ble_eq_true rfl) d_157_1)
theorem ki_157_0 : js_Ok 157 0 (o_ic 0 1) := js_St.ok (st_iconst rfl d_157_0)
theorem ki_157_28 : js_Ok 157 28 (o_rI) := ok_rI rfl d_157_28
theorem ki_157_27 : js_Ok 157 27 (o_div 28) := js_St.ok (st_idiv d_157_27)
theorem ki_157_26 : js_Ok 157 26 (o_ic 2 27) := js_St.ok (st_iconst rfl d_157_26)
theorem ki_157_25 : js_Ok 157 25 (o_il 2 26) := js_St.ok (st_iloadn rfl d_157_25)
theorem ki_157_22 : js_Ok 157 22 (o_go 4) := js_St.ok (st_goto (by decide) d_157_22)
theorem ki_157_19 : js_Ok 157 19 (o_inc 3 1 22) := js_St.ok (st_iinc rfl (Nat.le_of_ble_eq_true rfl) d_157_19)
theorem ki_157_18 : js_Ok 157 18 (o_is 2 19) := js_St.ok (st_istoren rfl (Nat.le_of_ble_eq_true rfl) d_157_18)
theorem ki_157_17 : js_Ok 157 17 (o_b2 (fun x y => x + y) 18) := js_St.ok (st_iadd d_157_17)
theorem d_158_0 : decode (js_b 158) 0 = .ok (.iconst 0, 1) := by decide +kernel
theorem d_158_1 : decode (js_b 158) 1 = .ok (.istore_n 2, 1) := by decide +kernel
theorem d_158_2 : decode (js_b 158) 2 = .ok (.iconst 0, 1) := by decide +kernel
theorem d_158_3 : decode (js_b 158) 3 = .ok (.istore_n 3, 1) := by decide +kernel
theorem d_158_4 : decode (js_b 158) 4 = .ok (.iload_n 3, 1) := by decide +kernel
theorem d_158_5 : decode (js_b 158) 5 = .ok (.iconst 4, 1) := by decide +kernel
theorem d_158_6 : decode (js_b 158) 6 = .ok (.if_icmp .ge 26, 3) := by decide +kernel
theorem d_158_9 : decode (js_b 158) 9 = .ok (.iload_n 2, 1) := by decide +kernel
theorem d_158_10 : decode (js_b 158) 10 = .ok (.aload_n 0, 1) := by decide +kernel
theorem d_158_11 : decode (js_b 158) 11 = .ok (.iload_n 1, 1) := by decide +kernel
theorem d_158_12 : decode (js_b 158) 12 = .ok (.iload_n 3, 1) := by decide +kernel
theorem d_158_13 : decode (js_b 158) 13 = .ok (.invokevirtual 80, 3) := by decide +kernel
theorem d_158_16 : decode (js_b 158) 16 = .ok (.ifCond .lt 7, 3) := by decide +kernel
theorem d_158_19 : decode (js_b 158) 19 = .ok (.iconst 1, 1) := by decide +kernel
theorem d_158_20 : decode (js_b 158) 20 = .ok (.goto 4, 3) := by decide +kernel
theorem d_158_23 : decode (js_b 158) 23 = .ok (.iconst 0, 1) := by decide +kernel
theorem d_158_24 : decode (js_b 158) 24 = .ok (.iadd, 1) := by decide +kernel
theorem d_158_25 : decode (js_b 158) 25 = .ok (.istore_n 2, 1) := by decide +kernel
theorem d_158_26 : decode (js_b 158) 26 = .ok (.iinc 3 1, 3) := by decide +kernel
theorem d_158_29 : decode (js_b 158) 29 = .ok (.goto (-25), 3) := by decide +kernel
theorem d_158_32 : decode (js_b 158) 32 = .ok (.iload_n 2, 1) := by decide +kernel
theorem d_158_33 : decode (js_b 158) 33 = .ok (.ireturn, 1) := by decide +kernel
theorem ki_158_13 : js_Ok 158 13 (o_cI 152 3 9 16) := ok_cI (site_V kk_158_152 (by decide) kw_1431 kw_1433 ks_41 (fun t ht => by cases ht; exact Or.inl ⟨_, rfl, rfl⟩) d_158_13) rfl
theorem ki_158_12 : js_Ok 158 12 (o_il 3 13) := js_St.ok (st_iloadn rfl d_158_12)
theorem ki_158_11 : js_Ok 158 11 (o_il 1 12) := js_St.ok (st_iloadn rfl d_158_11)
theorem ki_158_10 : js_Ok 158 10 (o_al 0 11) := js_St.ok (st_aloadn rfl d_158_10)
theorem ki_158_9 : js_Ok 158 9 (o_il 2 10) := js_St.ok (st_iloadn rfl d_158_9)
theorem ki_158_6 : js_Ok 158 6 (o_cge 32 9) := js_St.ok (st_icge (by decide) d_158_6)
theorem ki_158_5 : js_Ok 158 5 (o_ic 4 6) := js_St.ok (st_iconst rfl d_158_5)
theorem ki_158_4 : js_Ok 158 4 (o_il 3 5) := js_St.ok (st_iloadn rfl d_158_4)
theorem ki_158_3 : js_Ok 158 3 (o_is 3 4) := js_St.ok (st_istoren rfl (Nat.le_of_ble_eq_true rfl) d_158_3)
theorem ki_158_2 : js_Ok 158 2 (o_ic 0 3) := js_St.ok (st_iconst rfl d_158_2)
theorem ki_158_1 : js_Ok 158 1 (o_is 2 2) := js_St.ok (st_istoren rfl (Nat.le_of_ble_eq_true rfl) d_158_1)
theorem ki_158_0 : js_Ok 158 0 (o_ic 0 1) := js_St.ok (st_iconst rfl d_158_0)
theorem ki_158_29 : js_Ok 158 29 (o_go 4) := js_St.ok (st_goto (by decide) d_158_29)
theorem ki_158_26 : js_Ok 158 26 (o_inc 3 1 29) := js_St.ok (st_iinc rfl (Nat.le_of_ble_eq_true rfl) d_158_26)
theorem ki_158_25 : js_Ok 158 25 (o_is 2 26) := js_St.ok (st_istoren rfl (Nat.le_of_ble_eq_true rfl) d_158_25)
theorem ki_158_24 : js_Ok 158 24 (o_b2 (fun x y => x + y) 25) := js_St.ok (st_iadd d_158_24)
theorem ki_158_23 : js_Ok 158 23 (o_ic 0 24) := js_St.ok (st_iconst rfl d_158_23)
theorem ki_158_20 : js_Ok 158 20 (o_go 24) := js_St.ok (st_goto (by decide) d_158_20)
theorem ki_158_19 : js_Ok 158 19 (o_ic 1 20) := js_St.ok (st_iconst rfl d_158_19)
theorem ki_158_16 : js_Ok 158 16 (o_lt 23 19) := js_St.ok (st_iflt (by decide) d_158_16)
theorem ki_158_33 : js_Ok 158 33 (o_rI) := ok_rI rfl d_158_33
theorem ki_158_32 : js_Ok 158 32 (o_il 2 33) := js_St.ok (st_iloadn rfl d_158_32)
theorem d_159_0 : decode (js_b 159) 0 = .ok (.aload_n 0, 1) := by decide +kernel
theorem d_159_1 : decode (js_b 159) 1 = .ok (.getfield 9, 3) := by decide +kernel
theorem d_159_4 : decode (js_b 159) 4 = .ok (.sipush 161, 3) := by decide +kernel
theorem d_159_7 : decode (js_b 159) 7 = .ok (.iload_n 1, 1) := by decide +kernel
theorem d_159_8 : decode (js_b 159) 8 = .ok (.iadd, 1) := by decide +kernel
theorem d_159_9 : decode (js_b 159) 9 = .ok (.iaload, 1) := by decide +kernel
theorem d_159_10 : decode (js_b 159) 10 = .ok (.ifCond .ne 15, 3) := by decide +kernel
theorem d_159_13 : decode (js_b 159) 13 = .ok (.aload_n 0, 1) := by decide +kernel
theorem d_159_14 : decode (js_b 159) 14 = .ok (.iload_n 1, 1) := by decide +kernel
theorem d_159_15 : decode (js_b 159) 15 = .ok (.invokevirtual 96, 3) := by decide +kernel
theorem d_159_18 : decode (js_b 159) 18 = .ok (.ifCond .le 7, 3) := by decide +kernel
theorem d_159_21 : decode (js_b 159) 21 = .ok (.iconst 1, 1) := by decide +kernel
theorem d_159_22 : decode (js_b 159) 22 = .ok (.goto 4, 3) := by decide +kernel
theorem d_159_25 : decode (js_b 159) 25 = .ok (.iconst 0, 1) := by decide +kernel
theorem d_159_26 : decode (js_b 159) 26 = .ok (.ireturn, 1) := by decide +kernel
theorem ki_159_15 : js_Ok 159 15 (o_cI 158 2 9 18) := ok_cI (site_V kk_159_158 (by decide) kw_1486 kw_1488 ks_50 (fun t ht => by cases ht; exact Or.inl ⟨_, rfl, rfl⟩) d_159_15) rfl
theorem ki_159_14 : js_Ok 159 14 (o_il 1 15) := js_St.ok (st_iloadn rfl d_159_14)
theorem ki_159_13 : js_Ok 159 13 (o_al 0 14) := js_St.ok (st_aloadn rfl d_159_13)
theorem ki_159_10 : js_Ok 159 10 (o_ne 25 13) := js_St.ok (st_ifne (by decide) d_159_10)
theorem ki_159_9 : js_Ok 159 9 (o_lI 100 10) := js_St.ok (st_lI d_159_9)
theorem ki_159_8 : js_Ok 159 8 (o_b2 (fun x y => x + y) 9) := js_St.ok (st_iadd d_159_8)
theorem ki_159_7 : js_Ok 159 7 (o_il 1 8) := js_St.ok (st_iloadn rfl d_159_7)
theorem ki_159_4 : js_Ok 159 4 (o_ic 161 7) := js_St.ok (st_sipush rfl d_159_4)
theorem ki_159_1 : js_Ok 159 1 (o_gA 8 0 4) := js_St.ok (st_gA js_c8 (by decide) kw_1233 d_159_1)
theorem ki_159_0 : js_Ok 159 0 (o_al 0 1) := js_St.ok (st_aloadn rfl d_159_0)
theorem ki_159_26 : js_Ok 159 26 (o_rZ) := ok_rZ rfl d_159_26
theorem ki_159_25 : js_Ok 159 25 (o_ic 0 26) := js_St.ok (st_iconst rfl d_159_25)
theorem ki_159_22 : js_Ok 159 22 (o_go 26) := js_St.ok (st_goto (by decide) d_159_22)
theorem ki_159_21 : js_Ok 159 21 (o_ic 1 22) := js_St.ok (st_iconst rfl d_159_21)
theorem ki_159_18 : js_Ok 159 18 (o_le 25 21) := js_St.ok (st_ifle (by decide) d_159_18)
theorem d_160_0 : decode (js_b 160) 0 = .ok (.iload_n 2, 1) := by decide +kernel
theorem d_160_1 : decode (js_b 160) 1 = .ok (.iconst 0, 1) := by decide +kernel
theorem d_160_2 : decode (js_b 160) 2 = .ok (.bipush 15, 2) := by decide +kernel
theorem d_160_4 : decode (js_b 160) 4 = .ok (.invokestatic 69, 3) := by decide +kernel
theorem d_160_7 : decode (js_b 160) 7 = .ok (.ifCond .eq 39, 3) := by decide +kernel
theorem d_160_10 : decode (js_b 160) 10 = .ok (.iload_n 3, 1) := by decide +kernel
theorem d_160_11 : decode (js_b 160) 11 = .ok (.iconst 0, 1) := by decide +kernel
theorem d_160_12 : decode (js_b 160) 12 = .ok (.bipush 15, 2) := by decide +kernel
theorem d_160_14 : decode (js_b 160) 14 = .ok (.invokestatic 69, 3) := by decide +kernel
theorem d_160_17 : decode (js_b 160) 17 = .ok (.ifCond .eq 29, 3) := by decide +kernel
theorem d_160_20 : decode (js_b 160) 20 = .ok (.iload 4, 2) := by decide +kernel
theorem d_160_22 : decode (js_b 160) 22 = .ok (.iconst 0, 1) := by decide +kernel
theorem d_160_23 : decode (js_b 160) 23 = .ok (.bipush 15, 2) := by decide +kernel
theorem d_160_25 : decode (js_b 160) 25 = .ok (.invokestatic 69, 3) := by decide +kernel
theorem d_160_28 : decode (js_b 160) 28 = .ok (.ifCond .eq 18, 3) := by decide +kernel
theorem d_160_31 : decode (js_b 160) 31 = .ok (.iload 5, 2) := by decide +kernel
theorem d_160_33 : decode (js_b 160) 33 = .ok (.iconst 0, 1) := by decide +kernel
theorem d_160_34 : decode (js_b 160) 34 = .ok (.bipush 15, 2) := by decide +kernel
theorem d_160_36 : decode (js_b 160) 36 = .ok (.invokestatic 69, 3) := by decide +kernel
theorem d_160_39 : decode (js_b 160) 39 = .ok (.ifCond .eq 7, 3) := by decide +kernel
theorem d_160_42 : decode (js_b 160) 42 = .ok (.iconst 1, 1) := by decide +kernel
theorem d_160_43 : decode (js_b 160) 43 = .ok (.goto 4, 3) := by decide +kernel
theorem d_160_46 : decode (js_b 160) 46 = .ok (.iconst 0, 1) := by decide +kernel
theorem d_160_47 : decode (js_b 160) 47 = .ok (.istore 6, 2) := by decide +kernel
theorem d_160_49 : decode (js_b 160) 49 = .ok (.iload_n 1, 1) := by decide +kernel
theorem d_160_50 : decode (js_b 160) 50 = .ok (.invokestatic 99, 3) := by decide +kernel
theorem d_160_53 : decode (js_b 160) 53 = .ok (.ifCond .eq 8, 3) := by decide +kernel
theorem d_160_56 : decode (js_b 160) 56 = .ok (.iload 6, 2) := by decide +kernel
theorem d_160_58 : decode (js_b 160) 58 = .ok (.ifCond .ne 9, 3) := by decide +kernel
theorem d_160_61 : decode (js_b 160) 61 = .ok (.aload_n 0, 1) := by decide +kernel
theorem d_160_62 : decode (js_b 160) 62 = .ok (.iconst 1, 1) := by decide +kernel
theorem d_160_63 : decode (js_b 160) 63 = .ok (.invokevirtual 102, 3) := by decide +kernel
theorem d_160_66 : decode (js_b 160) 66 = .ok (.ireturn, 1) := by decide +kernel
theorem d_160_67 : decode (js_b 160) 67 = .ok (.aload_n 0, 1) := by decide +kernel
theorem d_160_68 : decode (js_b 160) 68 = .ok (.iconst 0, 1) := by decide +kernel
theorem d_160_69 : decode (js_b 160) 69 = .ok (.invokevirtual 105, 3) := by decide +kernel
theorem d_160_72 : decode (js_b 160) 72 = .ok (.bipush 20, 2) := by decide +kernel
theorem d_160_74 : decode (js_b 160) 74 = .ok (.if_icmp .ne 9, 3) := by decide +kernel
theorem d_160_77 : decode (js_b 160) 77 = .ok (.aload_n 0, 1) := by decide +kernel
theorem d_160_78 : decode (js_b 160) 78 = .ok (.iconst 2, 1) := by decide +kernel
theorem d_160_79 : decode (js_b 160) 79 = .ok (.invokevirtual 102, 3) := by decide +kernel
theorem d_160_82 : decode (js_b 160) 82 = .ok (.ireturn, 1) := by decide +kernel
theorem d_160_83 : decode (js_b 160) 83 = .ok (.iconst 0, 1) := by decide +kernel
theorem d_160_84 : decode (js_b 160) 84 = .ok (.istore 7, 2) := by decide +kernel
theorem d_160_86 : decode (js_b 160) 86 = .ok (.aload_n 0, 1) := by decide +kernel
theorem d_160_87 : decode (js_b 160) 87 = .ok (.iload 7, 2) := by decide +kernel
theorem d_160_89 : decode (js_b 160) 89 = .ok (.invokevirtual 63, 3) := by decide +kernel
theorem d_160_92 : decode (js_b 160) 92 = .ok (.ifCond .eq 9, 3) := by decide +kernel
theorem d_160_95 : decode (js_b 160) 95 = .ok (.iinc 7 1, 3) := by decide +kernel
theorem d_160_98 : decode (js_b 160) 98 = .ok (.goto (-12), 3) := by decide +kernel
theorem d_160_101 : decode (js_b 160) 101 = .ok (.aload_n 0, 1) := by decide +kernel
theorem d_160_102 : decode (js_b 160) 102 = .ok (.getfield 9, 3) := by decide +kernel
theorem d_160_105 : decode (js_b 160) 105 = .ok (.iconst 0, 1) := by decide +kernel
theorem d_160_106 : decode (js_b 160) 106 = .ok (.iaload, 1) := by decide +kernel
theorem d_160_107 : decode (js_b 160) 107 = .ok (.istore 8, 2) := by decide +kernel
theorem d_160_109 : decode (js_b 160) 109 = .ok (.aload_n 0, 1) := by decide +kernel
theorem d_160_110 : decode (js_b 160) 110 = .ok (.iload 7, 2) := by decide +kernel
theorem d_160_112 : decode (js_b 160) 112 = .ok (.iconst 0, 1) := by decide +kernel
theorem d_160_113 : decode (js_b 160) 113 = .ok (.iload 8, 2) := by decide +kernel
theorem d_160_115 : decode (js_b 160) 115 = .ok (.iconst 1, 1) := by decide +kernel
theorem d_160_116 : decode (js_b 160) 116 = .ok (.iadd, 1) := by decide +kernel
theorem d_160_117 : decode (js_b 160) 117 = .ok (.invokevirtual 109, 3) := by decide +kernel
theorem d_160_120 : decode (js_b 160) 120 = .ok (.aload_n 0, 1) := by decide +kernel
theorem d_160_121 : decode (js_b 160) 121 = .ok (.iload 7, 2) := by decide +kernel
theorem d_160_123 : decode (js_b 160) 123 = .ok (.iconst 1, 1) := by decide +kernel
theorem d_160_124 : decode (js_b 160) 124 = .ok (.iload_n 1, 1) := by decide +kernel
theorem d_160_125 : decode (js_b 160) 125 = .ok (.invokevirtual 109, 3) := by decide +kernel
theorem d_160_128 : decode (js_b 160) 128 = .ok (.aload_n 0, 1) := by decide +kernel
theorem d_160_129 : decode (js_b 160) 129 = .ok (.iload 7, 2) := by decide +kernel
theorem d_160_131 : decode (js_b 160) 131 = .ok (.iconst 2, 1) := by decide +kernel
theorem d_160_132 : decode (js_b 160) 132 = .ok (.iload_n 2, 1) := by decide +kernel
theorem d_160_133 : decode (js_b 160) 133 = .ok (.invokevirtual 109, 3) := by decide +kernel
theorem d_160_136 : decode (js_b 160) 136 = .ok (.aload_n 0, 1) := by decide +kernel
theorem d_160_137 : decode (js_b 160) 137 = .ok (.iload 7, 2) := by decide +kernel
theorem d_160_139 : decode (js_b 160) 139 = .ok (.iconst 3, 1) := by decide +kernel
theorem d_160_140 : decode (js_b 160) 140 = .ok (.iload_n 3, 1) := by decide +kernel
theorem d_160_141 : decode (js_b 160) 141 = .ok (.invokevirtual 109, 3) := by decide +kernel
theorem d_160_144 : decode (js_b 160) 144 = .ok (.aload_n 0, 1) := by decide +kernel
theorem d_160_145 : decode (js_b 160) 145 = .ok (.iload 7, 2) := by decide +kernel
theorem d_160_147 : decode (js_b 160) 147 = .ok (.iconst 4, 1) := by decide +kernel
theorem d_160_148 : decode (js_b 160) 148 = .ok (.iload 4, 2) := by decide +kernel
theorem d_160_150 : decode (js_b 160) 150 = .ok (.invokevirtual 109, 3) := by decide +kernel
theorem d_160_153 : decode (js_b 160) 153 = .ok (.aload_n 0, 1) := by decide +kernel
theorem d_160_154 : decode (js_b 160) 154 = .ok (.iload 7, 2) := by decide +kernel
theorem d_160_156 : decode (js_b 160) 156 = .ok (.iconst 5, 1) := by decide +kernel
theorem d_160_157 : decode (js_b 160) 157 = .ok (.iload 5, 2) := by decide +kernel
theorem d_160_159 : decode (js_b 160) 159 = .ok (.invokevirtual 109, 3) := by decide +kernel
theorem d_160_162 : decode (js_b 160) 162 = .ok (.aload_n 0, 1) := by decide +kernel
theorem d_160_163 : decode (js_b 160) 163 = .ok (.iload 7, 2) := by decide +kernel
theorem d_160_165 : decode (js_b 160) 165 = .ok (.bipush 6, 2) := by decide +kernel
theorem d_160_167 : decode (js_b 160) 167 = .ok (.iconst 0, 1) := by decide +kernel
theorem d_160_168 : decode (js_b 160) 168 = .ok (.invokevirtual 109, 3) := by decide +kernel
theorem d_160_171 : decode (js_b 160) 171 = .ok (.aload_n 0, 1) := by decide +kernel
theorem d_160_172 : decode (js_b 160) 172 = .ok (.iload 7, 2) := by decide +kernel
theorem d_160_174 : decode (js_b 160) 174 = .ok (.bipush 7, 2) := by decide +kernel
theorem d_160_176 : decode (js_b 160) 176 = .ok (.iconst 0, 1) := by decide +kernel
theorem d_160_177 : decode (js_b 160) 177 = .ok (.invokevirtual 109, 3) := by decide +kernel
theorem d_160_180 : decode (js_b 160) 180 = .ok (.aload_n 0, 1) := by decide +kernel
theorem d_160_181 : decode (js_b 160) 181 = .ok (.getfield 9, 3) := by decide +kernel
theorem d_160_184 : decode (js_b 160) 184 = .ok (.iconst 0, 1) := by decide +kernel
theorem d_160_185 : decode (js_b 160) 185 = .ok (.dup2, 1) := by decide +kernel
theorem d_160_186 : decode (js_b 160) 186 = .ok (.iaload, 1) := by decide +kernel
theorem d_160_187 : decode (js_b 160) 187 = .ok (.iconst 1, 1) := by decide +kernel
theorem d_160_188 : decode (js_b 160) 188 = .ok (.iadd, 1) := by decide +kernel
theorem d_160_189 : decode (js_b 160) 189 = .ok (.iastore, 1) := by decide +kernel
theorem d_160_190 : decode (js_b 160) 190 = .ok (.iload 8, 2) := by decide +kernel
theorem d_160_192 : decode (js_b 160) 192 = .ok (.ireturn, 1) := by decide +kernel
theorem ki_160_14 : js_Ok 160 14 (o_cI 135 3 0 17) := ok_cI (site_S kk_160_135 kw_1302 kw_1303 d_160_14) rfl
theorem ki_160_12 : js_Ok 160 12 (o_ic 15 14) := js_St.ok (st_bipush rfl d_160_12)
theorem ki_160_11 : js_Ok 160 11 (o_ic 0 12) := js_St.ok (st_iconst rfl d_160_11)
theorem ki_160_10 : js_Ok 160 10 (o_il 3 11) := js_St.ok (st_iloadn rfl d_160_10)
theorem ki_160_7 : js_Ok 160 7 (o_eq 46 10) := js_St.ok (st_ifeq (by decide) d_160_7)
theorem ki_160_4 : js_Ok 160 4 (o_cI 135 3 0 7) := ok_cI (site_S kk_160_135 kw_1302 kw_1303 d_160_4) rfl
theorem ki_160_2 : js_Ok 160 2 (o_ic 15 4) := js_St.ok (st_bipush rfl d_160_2)
theorem ki_160_1 : js_Ok 160 1 (o_ic 0 2) := js_St.ok (st_iconst rfl d_160_1)
theorem ki_160_0 : js_Ok 160 0 (o_il 2 1) := js_St.ok (st_iloadn rfl d_160_0)
theorem ki_160_31 : js_Ok 160 31 (o_il 5 33) := js_St.ok (st_iload d_160_31)
theorem ki_160_28 : js_Ok 160 28 (o_eq 46 31) := js_St.ok (st_ifeq (by decide) d_160_28)
theorem ki_160_25 : js_Ok 160 25 (o_cI 135 3 0 28) := ok_cI (site_S kk_160_135 kw_1302 kw_1303 d_160_25) rfl
theorem ki_160_23 : js_Ok 160 23 (o_ic 15 25) := js_St.ok (st_bipush rfl d_160_23)
theorem ki_160_22 : js_Ok 160 22 (o_ic 0 23) := js_St.ok (st_iconst rfl d_160_22)
theorem ki_160_20 : js_Ok 160 20 (o_il 4 22) := js_St.ok (st_iload d_160_20)
theorem ki_160_17 : js_Ok 160 17 (o_eq 46 20) := js_St.ok (st_ifeq (by decide) d_160_17)
theorem ki_160_47 : js_Ok 160 47 (o_is 6 49) := js_St.ok (st_istore (Nat.le_of_ble_eq_true rfl) d_160_47)
theorem ki_160_46 : js_Ok 160 46 (o_ic 0 47) := js_St.ok (st_iconst rfl d_160_46)
theorem ki_160_43 : js_Ok 160 43 (o_go 47) := js_St.ok (st_goto (by decide) d_160_43)
theorem ki_160_42 : js_Ok 160 42 (o_ic 1 43) := js_St.ok (st_iconst rfl d_160_42)
theorem ki_160_39 : js_Ok 160 39 (o_eq 46 42) := js_St.ok (st_ifeq (by decide) d_160_39)
theorem ki_160_36 : js_Ok 160 36 (o_cI 135 3 0 39) := ok_cI (site_S kk_160_135 kw_1302 kw_1303 d_160_36) rfl
theorem ki_160_34 : js_Ok 160 34 (o_ic 15 36) := js_St.ok (st_bipush rfl d_160_34)
theorem ki_160_33 : js_Ok 160 33 (o_ic 0 34) := js_St.ok (st_iconst rfl d_160_33)
theorem ki_160_63 : js_Ok 160 63 (o_cI 138 2 9 66) := ok_cI (site_V kk_160_138 (by decide) kw_1308 kw_1310 ks_23 (fun t ht => by cases ht; exact Or.inl ⟨_, rfl, rfl⟩) d_160_63) rfl
theorem ki_160_62 : js_Ok 160 62 (o_ic 1 63) := js_St.ok (st_iconst rfl d_160_62)
theorem ki_160_61 : js_Ok 160 61 (o_al 0 62) := js_St.ok (st_aloadn rfl d_160_61)
theorem ki_160_58 : js_Ok 160 58 (o_ne 67 61) := js_St.ok (st_ifne (by decide) d_160_58)
theorem ki_160_56 : js_Ok 160 56 (o_il 6 58) := js_St.ok (st_iload d_160_56)
theorem ki_160_53 : js_Ok 160 53 (o_eq 61 56) := js_St.ok (st_ifeq (by decide) d_160_53)
theorem ki_160_50 : js_Ok 160 50 (o_cI 150 1 0 53) := ok_cI (site_S kk_160_150 kw_1305 kw_1306 d_160_50) rfl
theorem ki_160_49 : js_Ok 160 49 (o_il 1 50) := js_St.ok (st_iloadn rfl d_160_49)
theorem ki_160_79 : js_Ok 160 79 (o_cI 138 2 9 82) := ok_cI (site_V kk_160_138 (by decide) kw_1308 kw_1310 ks_23 (fun t ht => by cases ht; exact Or.inl ⟨_, rfl, rfl⟩) d_160_79) rfl
theorem ki_160_78 : js_Ok 160 78 (o_ic 2 79) := js_St.ok (st_iconst rfl d_160_78)
theorem ki_160_77 : js_Ok 160 77 (o_al 0 78) := js_St.ok (st_aloadn rfl d_160_77)
theorem ki_160_74 : js_Ok 160 74 (o_cne 83 77) := js_St.ok (st_icne (by decide) d_160_74)
theorem ki_160_72 : js_Ok 160 72 (o_ic 20 74) := js_St.ok (st_bipush rfl d_160_72)
theorem ki_160_69 : js_Ok 160 69 (o_cI 148 2 9 72) := ok_cI (site_V kk_160_148 (by decide) kw_1312 kw_1314 ks_24 (fun t ht => by cases ht; exact Or.inl ⟨_, rfl, rfl⟩) d_160_69) rfl
theorem ki_160_68 : js_Ok 160 68 (o_ic 0 69) := js_St.ok (st_iconst rfl d_160_68)
theorem ki_160_67 : js_Ok 160 67 (o_al 0 68) := js_St.ok (st_aloadn rfl d_160_67)
theorem ki_160_66 : js_Ok 160 66 (o_rI) := ok_rI rfl d_160_66
theorem ki_160_95 : js_Ok 160 95 (o_inc 7 1 98) := js_St.ok (st_iinc rfl (Nat.le_of_ble_eq_true rfl) d_160_95)
theorem ki_160_92 : js_Ok 160 92 (o_eq 101 95) := js_St.ok (st_ifeq (by decide) d_160_92)
theorem ki_160_89 : js_Ok 160 89 (o_cI 142 2 9 92) := ok_cI (site_V kk_160_142 (by decide) kw_1320 kw_1322 ks_26 (fun t ht => by cases ht; exact Or.inl ⟨_, rfl, rfl⟩) d_160_89) rfl
theorem ki_160_87 : js_Ok 160 87 (o_il 7 89) := js_St.ok (st_iload d_160_87)
theorem ki_160_86 : js_Ok 160 86 (o_al 0 87) := js_St.ok (st_aloadn rfl d_160_86)
theorem ki_160_84 : js_Ok 160 84 (o_is 7 86) := js_St.ok (st_istore (Nat.le_of_ble_eq_true rfl) d_160_84)
theorem ki_160_83 : js_Ok 160 83 (o_ic 0 84) := js_St.ok (st_iconst rfl d_160_83)
theorem ki_160_82 : js_Ok 160 82 (o_rI) := ok_rI rfl d_160_82
theorem ki_160_110 : js_Ok 160 110 (o_il 7 112) := js_St.ok (st_iload d_160_110)
theorem ki_160_109 : js_Ok 160 109 (o_al 0 110) := js_St.ok (st_aloadn rfl d_160_109)
theorem ki_160_107 : js_Ok 160 107 (o_is 8 109) := js_St.ok (st_istore (Nat.le_of_ble_eq_true rfl) d_160_107)
theorem ki_160_106 : js_Ok 160 106 (o_lI 100 107) := js_St.ok (st_lI d_160_106)
theorem ki_160_105 : js_Ok 160 105 (o_ic 0 106) := js_St.ok (st_iconst rfl d_160_105)
theorem ki_160_102 : js_Ok 160 102 (o_gA 8 0 105) := js_St.ok (st_gA js_c8 (by decide) kw_1233 d_160_102)
theorem ki_160_101 : js_Ok 160 101 (o_al 0 102) := js_St.ok (st_aloadn rfl d_160_101)
theorem ki_160_98 : js_Ok 160 98 (o_go 86) := js_St.ok (st_goto (by decide) d_160_98)
theorem ki_160_125 : js_Ok 160 125 (o_cV 141 4 9 128) := ok_cV (site_V kk_160_141 (by decide) kw_1332 kw_1334 ks_29 (fun t ht => by cases ht; exact Or.inl ⟨_, rfl, rfl⟩) d_160_125) rfl
theorem ki_160_124 : js_Ok 160 124 (o_il 1 125) := js_St.ok (st_iloadn rfl d_160_124)
theorem ki_160_123 : js_Ok 160 123 (o_ic 1 124) := js_St.ok (st_iconst rfl d_160_123)
theorem ki_160_121 : js_Ok 160 121 (o_il 7 123) := js_St.ok (st_iload d_160_121)
theorem ki_160_120 : js_Ok 160 120 (o_al 0 121) := js_St.ok (st_aloadn rfl d_160_120)
theorem ki_160_117 : js_Ok 160 117 (o_cV 141 4 9 120) := ok_cV (site_V kk_160_141 (by decide) kw_1332 kw_1334 ks_29 (fun t ht => by cases ht; exact Or.inl ⟨_, rfl, rfl⟩) d_160_117) rfl
theorem ki_160_116 : js_Ok 160 116 (o_b2 (fun x y => x + y) 117) := js_St.ok (st_iadd d_160_116)
theorem ki_160_115 : js_Ok 160 115 (o_ic 1 116) := js_St.ok (st_iconst rfl d_160_115)
theorem ki_160_113 : js_Ok 160 113 (o_il 8 115) := js_St.ok (st_iload d_160_113)
theorem ki_160_112 : js_Ok 160 112 (o_ic 0 113) := js_St.ok (st_iconst rfl d_160_112)
theorem ki_160_141 : js_Ok 160 141 (o_cV 141 4 9 144) := ok_cV (site_V kk_160_141 (by decide) kw_1332 kw_1334 ks_29 (fun t ht => by cases ht; exact Or.inl ⟨_, rfl, rfl⟩) d_160_141) rfl
theorem ki_160_140 : js_Ok 160 140 (o_il 3 141) := js_St.ok (st_iloadn rfl d_160_140)
theorem ki_160_139 : js_Ok 160 139 (o_ic 3 140) := js_St.ok (st_iconst rfl d_160_139)
theorem ki_160_137 : js_Ok 160 137 (o_il 7 139) := js_St.ok (st_iload d_160_137)
theorem ki_160_136 : js_Ok 160 136 (o_al 0 137) := js_St.ok (st_aloadn rfl d_160_136)
theorem ki_160_133 : js_Ok 160 133 (o_cV 141 4 9 136) := ok_cV (site_V kk_160_141 (by decide) kw_1332 kw_1334 ks_29 (fun t ht => by cases ht; exact Or.inl ⟨_, rfl, rfl⟩) d_160_133) rfl
theorem ki_160_132 : js_Ok 160 132 (o_il 2 133) := js_St.ok (st_iloadn rfl d_160_132)
theorem ki_160_131 : js_Ok 160 131 (o_ic 2 132) := js_St.ok (st_iconst rfl d_160_131)
theorem ki_160_129 : js_Ok 160 129 (o_il 7 131) := js_St.ok (st_iload d_160_129)
theorem ki_160_128 : js_Ok 160 128 (o_al 0 129) := js_St.ok (st_aloadn rfl d_160_128)
theorem ki_160_159 : js_Ok 160 159 (o_cV 141 4 9 162) := ok_cV (site_V kk_160_141 (by decide) kw_1332 kw_1334 ks_29 (fun t ht => by cases ht; exact Or.inl ⟨_, rfl, rfl⟩) d_160_159) rfl
theorem ki_160_157 : js_Ok 160 157 (o_il 5 159) := js_St.ok (st_iload d_160_157)
theorem ki_160_156 : js_Ok 160 156 (o_ic 5 157) := js_St.ok (st_iconst rfl d_160_156)
theorem ki_160_154 : js_Ok 160 154 (o_il 7 156) := js_St.ok (st_iload d_160_154)
theorem ki_160_153 : js_Ok 160 153 (o_al 0 154) := js_St.ok (st_aloadn rfl d_160_153)
theorem ki_160_150 : js_Ok 160 150 (o_cV 141 4 9 153) := ok_cV (site_V kk_160_141 (by decide) kw_1332 kw_1334 ks_29 (fun t ht => by cases ht; exact Or.inl ⟨_, rfl, rfl⟩) d_160_150) rfl
theorem ki_160_148 : js_Ok 160 148 (o_il 4 150) := js_St.ok (st_iload d_160_148)
theorem ki_160_147 : js_Ok 160 147 (o_ic 4 148) := js_St.ok (st_iconst rfl d_160_147)
theorem ki_160_145 : js_Ok 160 145 (o_il 7 147) := js_St.ok (st_iload d_160_145)
theorem ki_160_144 : js_Ok 160 144 (o_al 0 145) := js_St.ok (st_aloadn rfl d_160_144)
theorem ki_160_174 : js_Ok 160 174 (o_ic 7 176) := js_St.ok (st_bipush rfl d_160_174)
theorem ki_160_172 : js_Ok 160 172 (o_il 7 174) := js_St.ok (st_iload d_160_172)
theorem ki_160_171 : js_Ok 160 171 (o_al 0 172) := js_St.ok (st_aloadn rfl d_160_171)
theorem ki_160_168 : js_Ok 160 168 (o_cV 141 4 9 171) := ok_cV (site_V kk_160_141 (by decide) kw_1332 kw_1334 ks_29 (fun t ht => by cases ht; exact Or.inl ⟨_, rfl, rfl⟩) d_160_168) rfl
theorem ki_160_167 : js_Ok 160 167 (o_ic 0 168) := js_St.ok (st_iconst rfl d_160_167)
theorem ki_160_165 : js_Ok 160 165 (o_ic 6 167) := js_St.ok (st_bipush rfl d_160_165)
theorem ki_160_163 : js_Ok 160 163 (o_il 7 165) := js_St.ok (st_iload d_160_163)
theorem ki_160_162 : js_Ok 160 162 (o_al 0 163) := js_St.ok (st_aloadn rfl d_160_162)
theorem ki_160_190 : js_Ok 160 190 (o_il 8 192) := js_St.ok (st_iload d_160_190)
theorem ki_160_189 : js_Ok 160 189 (o_sI 100 190) := js_St.ok (st_sI d_160_189)
theorem ki_160_188 : js_Ok 160 188 (o_b2 (fun x y => x + y) 189) := js_St.ok (st_iadd d_160_188)
theorem ki_160_187 : js_Ok 160 187 (o_ic 1 188) := js_St.ok (st_iconst rfl d_160_187)
theorem ki_160_186 : js_Ok 160 186 (o_lI 100 187) := js_St.ok (st_lI d_160_186)
theorem ki_160_185 : js_Ok 160 185 (o_d11 186) := js_St.ok (st_dup2 d_160_185)
theorem ki_160_184 : js_Ok 160 184 (o_ic 0 185) := js_St.ok (st_iconst rfl d_160_184)
theorem ki_160_181 : js_Ok 160 181 (o_gA 8 0 184) := js_St.ok (st_gA js_c8 (by decide) kw_1233 d_160_181)
theorem ki_160_180 : js_Ok 160 180 (o_al 0 181) := js_St.ok (st_aloadn rfl d_160_180)
theorem ki_160_177 : js_Ok 160 177 (o_cV 141 4 9 180) := ok_cV (site_V kk_160_141 (by decide) kw_1332 kw_1334 ks_29 (fun t ht => by cases ht; exact Or.inl ⟨_, rfl, rfl⟩) d_160_177) rfl
theorem ki_160_176 : js_Ok 160 176 (o_ic 0 177) := js_St.ok (st_iconst rfl d_160_176)
theorem ki_160_192 : js_Ok 160 192 (o_rI) := ok_rI rfl d_160_192
theorem d_161_0 : decode (js_b 161) 0 = .ok (.aload_n 0, 1) := by decide +kernel
theorem d_161_1 : decode (js_b 161) 1 = .ok (.invokevirtual 113, 3) := by decide +kernel
theorem d_161_4 : decode (js_b 161) 4 = .ok (.aload_n 0, 1) := by decide +kernel
theorem d_161_5 : decode (js_b 161) 5 = .ok (.aload_n 0, 1) := by decide +kernel
theorem d_161_6 : decode (js_b 161) 6 = .ok (.iload_n 1, 1) := by decide +kernel
theorem d_161_7 : decode (js_b 161) 7 = .ok (.iload_n 2, 1) := by decide +kernel
theorem d_161_8 : decode (js_b 161) 8 = .ok (.iload_n 3, 1) := by decide +kernel
theorem d_161_9 : decode (js_b 161) 9 = .ok (.iload 4, 2) := by decide +kernel
theorem d_161_11 : decode (js_b 161) 11 = .ok (.iload 5, 2) := by decide +kernel
theorem d_161_13 : decode (js_b 161) 13 = .ok (.invokevirtual 116, 3) := by decide +kernel
theorem d_161_16 : decode (js_b 161) 16 = .ok (.invokevirtual 120, 3) := by decide +kernel
theorem d_161_19 : decode (js_b 161) 19 = .ok (.ireturn, 1) := by decide +kernel
theorem ki_161_13 : js_Ok 161 13 (o_cI 160 6 9 16) := ok_cI (site_V kk_161_160 (by decide) kw_1298 kw_1300 ks_22 (fun t ht => by cases ht; exact Or.inl ⟨_, rfl, rfl⟩) d_161_13) rfl
theorem ki_161_11 : js_Ok 161 11 (o_il 5 13) := js_St.ok (st_iload d_161_11)
theorem ki_161_9 : js_Ok 161 9 (o_il 4 11) := js_St.ok (st_iload d_161_9)
theorem ki_161_8 : js_Ok 161 8 (o_il 3 9) := js_St.ok (st_iloadn rfl d_161_8)
theorem ki_161_7 : js_Ok 161 7 (o_il 2 8) := js_St.ok (st_iloadn rfl d_161_7)
theorem ki_161_6 : js_Ok 161 6 (o_il 1 7) := js_St.ok (st_iloadn rfl d_161_6)
theorem ki_161_5 : js_Ok 161 5 (o_al 0 6) := js_St.ok (st_aloadn rfl d_161_5)
theorem ki_161_4 : js_Ok 161 4 (o_al 0 5) := js_St.ok (st_aloadn rfl d_161_4)
theorem ki_161_1 : js_Ok 161 1 (o_cV 136 1 9 4) := ok_cV (site_V kk_161_136 (by decide) kw_1293 kw_1295 ks_21 (fun t ht => by cases ht; exact Or.inl ⟨_, rfl, rfl⟩) d_161_1) rfl
theorem ki_161_0 : js_Ok 161 0 (o_al 0 1) := js_St.ok (st_aloadn rfl d_161_0)
theorem ki_161_19 : js_Ok 161 19 (o_rI) := ok_rI rfl d_161_19
theorem ki_161_16 : js_Ok 161 16 (o_cI 137 2 9 19) := ok_cI (site_V kk_161_137 (by decide) kw_1336 kw_1338 ks_30 (fun t ht => by cases ht; exact Or.inl ⟨_, rfl, rfl⟩) d_161_16) rfl
theorem d_162_0 : decode (js_b 162) 0 = .ok (.aload_n 0, 1) := by decide +kernel
theorem d_162_1 : decode (js_b 162) 1 = .ok (.iload_n 1, 1) := by decide +kernel
theorem d_162_2 : decode (js_b 162) 2 = .ok (.invokevirtual 55, 3) := by decide +kernel
theorem d_162_5 : decode (js_b 162) 5 = .ok (.istore_n 2, 1) := by decide +kernel
theorem d_162_6 : decode (js_b 162) 6 = .ok (.iload_n 2, 1) := by decide +kernel
theorem d_162_7 : decode (js_b 162) 7 = .ok (.ifCond .ge 9, 3) := by decide +kernel
theorem d_162_10 : decode (js_b 162) 10 = .ok (.aload_n 0, 1) := by decide +kernel
theorem d_162_11 : decode (js_b 162) 11 = .ok (.iconst 1, 1) := by decide +kernel
theorem d_162_12 : decode (js_b 162) 12 = .ok (.invokevirtual 102, 3) := by decide +kernel
theorem d_162_15 : decode (js_b 162) 15 = .ok (.ireturn, 1) := by decide +kernel
theorem d_162_16 : decode (js_b 162) 16 = .ok (.aload_n 0, 1) := by decide +kernel
theorem d_162_17 : decode (js_b 162) 17 = .ok (.iload_n 2, 1) := by decide +kernel
theorem d_162_18 : decode (js_b 162) 18 = .ok (.invokevirtual 59, 3) := by decide +kernel
theorem d_162_21 : decode (js_b 162) 21 = .ok (.ifCond .eq 9, 3) := by decide +kernel
theorem d_162_24 : decode (js_b 162) 24 = .ok (.aload_n 0, 1) := by decide +kernel
theorem d_162_25 : decode (js_b 162) 25 = .ok (.iconst 2, 1) := by decide +kernel
theorem d_162_26 : decode (js_b 162) 26 = .ok (.invokevirtual 102, 3) := by decide +kernel
theorem d_162_29 : decode (js_b 162) 29 = .ok (.ireturn, 1) := by decide +kernel
theorem d_162_30 : decode (js_b 162) 30 = .ok (.iconst 0, 1) := by decide +kernel
theorem d_162_31 : decode (js_b 162) 31 = .ok (.istore_n 3, 1) := by decide +kernel
theorem d_162_32 : decode (js_b 162) 32 = .ok (.iload_n 3, 1) := by decide +kernel
theorem d_162_33 : decode (js_b 162) 33 = .ok (.bipush 8, 2) := by decide +kernel
theorem d_162_35 : decode (js_b 162) 35 = .ok (.if_icmp .ge 16, 3) := by decide +kernel
theorem d_162_38 : decode (js_b 162) 38 = .ok (.aload_n 0, 1) := by decide +kernel
theorem d_162_39 : decode (js_b 162) 39 = .ok (.iload_n 2, 1) := by decide +kernel
theorem d_162_40 : decode (js_b 162) 40 = .ok (.iload_n 3, 1) := by decide +kernel
theorem d_162_41 : decode (js_b 162) 41 = .ok (.iconst 0, 1) := by decide +kernel
theorem d_162_42 : decode (js_b 162) 42 = .ok (.invokevirtual 109, 3) := by decide +kernel
theorem d_162_45 : decode (js_b 162) 45 = .ok (.iinc 3 1, 3) := by decide +kernel
theorem d_162_48 : decode (js_b 162) 48 = .ok (.goto (-16), 3) := by decide +kernel
theorem d_162_51 : decode (js_b 162) 51 = .ok (.aload_n 0, 1) := by decide +kernel
theorem d_162_52 : decode (js_b 162) 52 = .ok (.iconst 0, 1) := by decide +kernel
theorem d_162_53 : decode (js_b 162) 53 = .ok (.invokevirtual 105, 3) := by decide +kernel
theorem d_162_56 : decode (js_b 162) 56 = .ok (.ireturn, 1) := by decide +kernel
theorem ki_162_15 : js_Ok 162 15 (o_rI) := ok_rI rfl d_162_15
theorem ki_162_12 : js_Ok 162 12 (o_cI 138 2 9 15) := ok_cI (site_V kk_162_138 (by decide) kw_1308 kw_1310 ks_23 (fun t ht => by cases ht; exact Or.inl ⟨_, rfl, rfl⟩) d_162_12) rfl
theorem ki_162_11 : js_Ok 162 11 (o_ic 1 12) := js_St.ok (st_iconst rfl d_162_11)
theorem ki_162_10 : js_Ok 162 10 (o_al 0 11) := js_St.ok (st_aloadn rfl d_162_10)
theorem ki_162_7 : js_Ok 162 7 (o_ge 16 10) := js_St.ok (st_ifge (by decide) d_162_7)
theorem ki_162_6 : js_Ok 162 6 (o_il 2 7) := js_St.ok (st_iloadn rfl d_162_6)
theorem ki_162_5 : js_Ok 162 5 (o_is 2 6) := js_St.ok (st_istoren rfl (Nat.le_of_ble_eq_true rfl) d_162_5)
theorem ki_162_2 : js_Ok 162 2 (o_cI 144 2 9 5) := ok_cI (site_V kk_162_144 (by decide) kw_1348 kw_1350 ks_32 (fun t ht => by cases ht; exact Or.inl ⟨_, rfl, rfl⟩) d_162_2) rfl
theorem ki_162_1 : js_Ok 162 1 (o_il 1 2) := js_St.ok (st_iloadn rfl d_162_1)
theorem ki_162_0 : js_Ok 162 0 (o_al 0 1) := js_St.ok (st_aloadn rfl d_162_0)
theorem ki_162_31 : js_Ok 162 31 (o_is 3 32) := js_St.ok (st_istoren rfl (Nat.le_of_ble_eq_true rfl) d_162_31)
theorem ki_162_30 : js_Ok 162 30 (o_ic 0 31) := js_St.ok (st_iconst rfl d_162_30)
theorem ki_162_29 : js_Ok 162 29 (o_rI) := ok_rI rfl d_162_29
theorem ki_162_26 : js_Ok 162 26 (o_cI 138 2 9 29) := ok_cI (site_V kk_162_138 (by decide) kw_1308 kw_1310 ks_23 (fun t ht => by cases ht; exact Or.inl ⟨_, rfl, rfl⟩) d_162_26) rfl
theorem ki_162_25 : js_Ok 162 25 (o_ic 2 26) := js_St.ok (st_iconst rfl d_162_25)
theorem ki_162_24 : js_Ok 162 24 (o_al 0 25) := js_St.ok (st_aloadn rfl d_162_24)
theorem ki_162_21 : js_Ok 162 21 (o_eq 30 24) := js_St.ok (st_ifeq (by decide) d_162_21)
theorem ki_162_18 : js_Ok 162 18 (o_cI 145 2 9 21) := ok_cI (site_V kk_162_145 (by decide) kw_1328 kw_1330 ks_28 (fun t ht => by cases ht; exact Or.inl ⟨_, rfl, rfl⟩) d_162_18) rfl
theorem ki_162_17 : js_Ok 162 17 (o_il 2 18) := js_St.ok (st_iloadn rfl d_162_17)
theorem ki_162_16 : js_Ok 162 16 (o_al 0 17) := js_St.ok (st_aloadn rfl d_162_16)
theorem ki_162_45 : js_Ok 162 45 (o_inc 3 1 48) := js_St.ok (st_iinc rfl (Nat.le_of_ble_eq_true rfl) d_162_45)
theorem ki_162_42 : js_Ok 162 42 (o_cV 141 4 9 45) := ok_cV (site_V kk_162_141 (by decide) kw_1332 kw_1334 ks_29 (fun t ht => by cases ht; exact Or.inl ⟨_, rfl, rfl⟩) d_162_42) rfl
theorem ki_162_41 : js_Ok 162 41 (o_ic 0 42) := js_St.ok (st_iconst rfl d_162_41)
theorem ki_162_40 : js_Ok 162 40 (o_il 3 41) := js_St.ok (st_iloadn rfl d_162_40)
theorem ki_162_39 : js_Ok 162 39 (o_il 2 40) := js_St.ok (st_iloadn rfl d_162_39)
theorem ki_162_38 : js_Ok 162 38 (o_al 0 39) := js_St.ok (st_aloadn rfl d_162_38)
theorem ki_162_35 : js_Ok 162 35 (o_cge 51 38) := js_St.ok (st_icge (by decide) d_162_35)
theorem ki_162_33 : js_Ok 162 33 (o_ic 8 35) := js_St.ok (st_bipush rfl d_162_33)
theorem ki_162_32 : js_Ok 162 32 (o_il 3 33) := js_St.ok (st_iloadn rfl d_162_32)
theorem ki_162_56 : js_Ok 162 56 (o_rI) := ok_rI rfl d_162_56
theorem ki_162_53 : js_Ok 162 53 (o_cI 148 2 9 56) := ok_cI (site_V kk_162_148 (by decide) kw_1312 kw_1314 ks_24 (fun t ht => by cases ht; exact Or.inl ⟨_, rfl, rfl⟩) d_162_53) rfl
theorem ki_162_52 : js_Ok 162 52 (o_ic 0 53) := js_St.ok (st_iconst rfl d_162_52)
theorem ki_162_51 : js_Ok 162 51 (o_al 0 52) := js_St.ok (st_aloadn rfl d_162_51)
theorem ki_162_48 : js_Ok 162 48 (o_go 32) := js_St.ok (st_goto (by decide) d_162_48)
theorem d_163_0 : decode (js_b 163) 0 = .ok (.aload_n 0, 1) := by decide +kernel
theorem d_163_1 : decode (js_b 163) 1 = .ok (.invokevirtual 113, 3) := by decide +kernel
theorem d_163_4 : decode (js_b 163) 4 = .ok (.aload_n 0, 1) := by decide +kernel
theorem d_163_5 : decode (js_b 163) 5 = .ok (.aload_n 0, 1) := by decide +kernel
theorem d_163_6 : decode (js_b 163) 6 = .ok (.iload_n 1, 1) := by decide +kernel
theorem d_163_7 : decode (js_b 163) 7 = .ok (.invokevirtual 123, 3) := by decide +kernel
theorem d_163_10 : decode (js_b 163) 10 = .ok (.invokevirtual 120, 3) := by decide +kernel
theorem d_163_13 : decode (js_b 163) 13 = .ok (.ireturn, 1) := by decide +kernel
theorem ki_163_13 : js_Ok 163 13 (o_rI) := ok_rI rfl d_163_13
theorem ki_163_10 : js_Ok 163 10 (o_cI 137 2 9 13) := ok_cI (site_V kk_163_137 (by decide) kw_1336 kw_1338 ks_30 (fun t ht => by cases ht; exact Or.inl ⟨_, rfl, rfl⟩) d_163_10) rfl
theorem ki_163_7 : js_Ok 163 7 (o_cI 162 2 9 10) := ok_cI (site_V kk_163_162 (by decide) kw_1344 kw_1346 ks_31 (fun t ht => by cases ht; exact Or.inl ⟨_, rfl, rfl⟩) d_163_7) rfl
theorem ki_163_6 : js_Ok 163 6 (o_il 1 7) := js_St.ok (st_iloadn rfl d_163_6)
theorem ki_163_5 : js_Ok 163 5 (o_al 0 6) := js_St.ok (st_aloadn rfl d_163_5)
theorem ki_163_4 : js_Ok 163 4 (o_al 0 5) := js_St.ok (st_aloadn rfl d_163_4)
theorem ki_163_1 : js_Ok 163 1 (o_cV 136 1 9 4) := ok_cV (site_V kk_163_136 (by decide) kw_1293 kw_1295 ks_21 (fun t ht => by cases ht; exact Or.inl ⟨_, rfl, rfl⟩) d_163_1) rfl
theorem ki_163_0 : js_Ok 163 0 (o_al 0 1) := js_St.ok (st_aloadn rfl d_163_0)
theorem d_164_0 : decode (js_b 164) 0 = .ok (.aload_n 0, 1) := by decide +kernel
theorem d_164_1 : decode (js_b 164) 1 = .ok (.iconst 0, 1) := by decide +kernel
theorem d_164_2 : decode (js_b 164) 2 = .ok (.putfield 39, 3) := by decide +kernel
theorem d_164_5 : decode (js_b 164) 5 = .ok (.aload_n 0, 1) := by decide +kernel
theorem d_164_6 : decode (js_b 164) 6 = .ok (.iconst 0, 1) := by decide +kernel
theorem d_164_7 : decode (js_b 164) 7 = .ok (.invokevirtual 105, 3) := by decide +kernel
theorem d_164_10 : decode (js_b 164) 10 = .ok (.ireturn, 1) := by decide +kernel
theorem ki_164_10 : js_Ok 164 10 (o_rI) := ok_rI rfl d_164_10
theorem ki_164_7 : js_Ok 164 7 (o_cI 148 2 9 10) := ok_cI (site_V kk_164_148 (by decide) kw_1312 kw_1314 ks_24 (fun t ht => by cases ht; exact Or.inl ⟨_, rfl, rfl⟩) d_164_7) rfl
theorem ki_164_6 : js_Ok 164 6 (o_ic 0 7) := js_St.ok (st_iconst rfl d_164_6)
theorem ki_164_5 : js_Ok 164 5 (o_al 0 6) := js_St.ok (st_aloadn rfl d_164_5)
theorem ki_164_2 : js_Ok 164 2 (o_pI 8 6 5) := js_St.ok (st_pIown js_c8 (by decide) rfl kw_1239 (js_c8.2.2.1 6 (by decide)) d_164_2)
theorem ki_164_1 : js_Ok 164 1 (o_ic 0 2) := js_St.ok (st_iconst rfl d_164_1)
theorem ki_164_0 : js_Ok 164 0 (o_al 0 1) := js_St.ok (st_aloadn rfl d_164_0)
theorem d_165_0 : decode (js_b 165) 0 = .ok (.aload_n 0, 1) := by decide +kernel
theorem d_165_1 : decode (js_b 165) 1 = .ok (.iconst 0, 1) := by decide +kernel
theorem d_165_2 : decode (js_b 165) 2 = .ok (.putfield 39, 3) := by decide +kernel
theorem d_165_5 : decode (js_b 165) 5 = .ok (.aload_n 0, 1) := by decide +kernel
theorem d_165_6 : decode (js_b 165) 6 = .ok (.iconst 1, 1) := by decide +kernel
theorem d_165_7 : decode (js_b 165) 7 = .ok (.invokevirtual 105, 3) := by decide +kernel
theorem d_165_10 : decode (js_b 165) 10 = .ok (.ireturn, 1) := by decide +kernel
theorem ki_165_10 : js_Ok 165 10 (o_rI) := ok_rI rfl d_165_10
theorem ki_165_7 : js_Ok 165 7 (o_cI 148 2 9 10) := ok_cI (site_V kk_165_148 (by decide) kw_1312 kw_1314 ks_24 (fun t ht => by cases ht; exact Or.inl ⟨_, rfl, rfl⟩) d_165_7) rfl
theorem ki_165_6 : js_Ok 165 6 (o_ic 1 7) := js_St.ok (st_iconst rfl d_165_6)
theorem ki_165_5 : js_Ok 165 5 (o_al 0 6) := js_St.ok (st_aloadn rfl d_165_5)
theorem ki_165_2 : js_Ok 165 2 (o_pI 8 6 5) := js_St.ok (st_pIown js_c8 (by decide) rfl kw_1239 (js_c8.2.2.1 6 (by decide)) d_165_2)
theorem ki_165_1 : js_Ok 165 1 (o_ic 0 2) := js_St.ok (st_iconst rfl d_165_1)
theorem ki_165_0 : js_Ok 165 0 (o_al 0 1) := js_St.ok (st_aloadn rfl d_165_0)
theorem d_166_0 : decode (js_b 166) 0 = .ok (.iconst 0, 1) := by decide +kernel
theorem d_166_1 : decode (js_b 166) 1 = .ok (.istore_n 2, 1) := by decide +kernel
theorem d_166_2 : decode (js_b 166) 2 = .ok (.aload_n 0, 1) := by decide +kernel
theorem d_166_3 : decode (js_b 166) 3 = .ok (.iload_n 1, 1) := by decide +kernel
theorem d_166_4 : decode (js_b 166) 4 = .ok (.iconst 0, 1) := by decide +kernel
theorem d_166_5 : decode (js_b 166) 5 = .ok (.aload_n 0, 1) := by decide +kernel
theorem d_166_6 : decode (js_b 166) 6 = .ok (.iconst 1, 1) := by decide +kernel
theorem d_166_7 : decode (js_b 166) 7 = .ok (.invokevirtual 105, 3) := by decide +kernel
theorem d_166_10 : decode (js_b 166) 10 = .ok (.iconst 1, 1) := by decide +kernel
theorem d_166_11 : decode (js_b 166) 11 = .ok (.isub, 1) := by decide +kernel
theorem d_166_12 : decode (js_b 166) 12 = .ok (.invokestatic 69, 3) := by decide +kernel
theorem d_166_15 : decode (js_b 166) 15 = .ok (.invokevirtual 126, 3) := by decide +kernel
theorem d_166_18 : decode (js_b 166) 18 = .ok (.istore_n 3, 1) := by decide +kernel
theorem d_166_19 : decode (js_b 166) 19 = .ok (.iconst 0, 1) := by decide +kernel
theorem d_166_20 : decode (js_b 166) 20 = .ok (.istore 4, 2) := by decide +kernel
theorem d_166_22 : decode (js_b 166) 22 = .ok (.iload 4, 2) := by decide +kernel
theorem d_166_24 : decode (js_b 166) 24 = .ok (.bipush 20, 2) := by decide +kernel
theorem d_166_26 : decode (js_b 166) 26 = .ok (.if_icmp .ge 92, 3) := by decide +kernel
theorem d_166_29 : decode (js_b 166) 29 = .ok (.iload_n 3, 1) := by decide +kernel
theorem d_166_30 : decode (js_b 166) 30 = .ok (.ifCond .eq 88, 3) := by decide +kernel
theorem d_166_33 : decode (js_b 166) 33 = .ok (.iconst 0, 1) := by decide +kernel
theorem d_166_34 : decode (js_b 166) 34 = .ok (.istore 5, 2) := by decide +kernel
theorem d_166_36 : decode (js_b 166) 36 = .ok (.iconst 0, 1) := by decide +kernel
theorem d_166_37 : decode (js_b 166) 37 = .ok (.istore 6, 2) := by decide +kernel
theorem d_166_39 : decode (js_b 166) 39 = .ok (.iload 6, 2) := by decide +kernel
theorem d_166_41 : decode (js_b 166) 41 = .ok (.bipush 20, 2) := by decide +kernel
theorem d_166_43 : decode (js_b 166) 43 = .ok (.if_icmp .ge 43, 3) := by decide +kernel
theorem d_166_46 : decode (js_b 166) 46 = .ok (.iload 5, 2) := by decide +kernel
theorem d_166_48 : decode (js_b 166) 48 = .ok (.aload_n 0, 1) := by decide +kernel
theorem d_166_49 : decode (js_b 166) 49 = .ok (.iload 6, 2) := by decide +kernel
theorem d_166_51 : decode (js_b 166) 51 = .ok (.invokevirtual 66, 3) := by decide +kernel
theorem d_166_54 : decode (js_b 166) 54 = .ok (.ifCond .eq 22, 3) := by decide +kernel
theorem d_166_57 : decode (js_b 166) 57 = .ok (.aload_n 0, 1) := by decide +kernel
theorem d_166_58 : decode (js_b 166) 58 = .ok (.iload 6, 2) := by decide +kernel
theorem d_166_60 : decode (js_b 166) 60 = .ok (.invokevirtual 130, 3) := by decide +kernel
theorem d_166_63 : decode (js_b 166) 63 = .ok (.aload_n 0, 1) := by decide +kernel
theorem d_166_64 : decode (js_b 166) 64 = .ok (.iload 4, 2) := by decide +kernel
theorem d_166_66 : decode (js_b 166) 66 = .ok (.invokevirtual 130, 3) := by decide +kernel
theorem d_166_69 : decode (js_b 166) 69 = .ok (.if_icmp .ge 7, 3) := by decide +kernel
theorem d_166_72 : decode (js_b 166) 72 = .ok (.iconst 1, 1) := by decide +kernel
theorem d_166_73 : decode (js_b 166) 73 = .ok (.goto 4, 3) := by decide +kernel
theorem d_166_76 : decode (js_b 166) 76 = .ok (.iconst 0, 1) := by decide +kernel
theorem d_166_77 : decode (js_b 166) 77 = .ok (.iadd, 1) := by decide +kernel
theorem d_166_78 : decode (js_b 166) 78 = .ok (.istore 5, 2) := by decide +kernel
theorem d_166_80 : decode (js_b 166) 80 = .ok (.iinc 6 1, 3) := by decide +kernel
theorem d_166_83 : decode (js_b 166) 83 = .ok (.goto (-44), 3) := by decide +kernel
theorem d_166_86 : decode (js_b 166) 86 = .ok (.aload_n 0, 1) := by decide +kernel
theorem d_166_87 : decode (js_b 166) 87 = .ok (.iload 4, 2) := by decide +kernel
theorem d_166_89 : decode (js_b 166) 89 = .ok (.invokevirtual 66, 3) := by decide +kernel
theorem d_166_92 : decode (js_b 166) 92 = .ok (.ifCond .eq 18, 3) := by decide +kernel
theorem d_166_95 : decode (js_b 166) 95 = .ok (.iload 5, 2) := by decide +kernel
theorem d_166_97 : decode (js_b 166) 97 = .ok (.iload_n 1, 1) := by decide +kernel
theorem d_166_98 : decode (js_b 166) 98 = .ok (.if_icmp .ne 12, 3) := by decide +kernel
theorem d_166_101 : decode (js_b 166) 101 = .ok (.aload_n 0, 1) := by decide +kernel
theorem d_166_102 : decode (js_b 166) 102 = .ok (.iload 4, 2) := by decide +kernel
theorem d_166_104 : decode (js_b 166) 104 = .ok (.invokevirtual 130, 3) := by decide +kernel
theorem d_166_107 : decode (js_b 166) 107 = .ok (.goto 4, 3) := by decide +kernel
theorem d_166_110 : decode (js_b 166) 110 = .ok (.iload_n 2, 1) := by decide +kernel
theorem d_166_111 : decode (js_b 166) 111 = .ok (.istore_n 2, 1) := by decide +kernel
theorem d_166_112 : decode (js_b 166) 112 = .ok (.iinc 4 1, 3) := by decide +kernel
theorem d_166_115 : decode (js_b 166) 115 = .ok (.goto (-93), 3) := by decide +kernel
theorem d_166_118 : decode (js_b 166) 118 = .ok (.iload_n 2, 1) := by decide +kernel
theorem d_166_119 : decode (js_b 166) 119 = .ok (.ireturn, 1) := by decide +kernel
theorem ki_166_15 : js_Ok 166 15 (o_cI 139 2 9 18) := ok_cI (site_V kk_166_139 (by decide) kw_1364 kw_1366 ks_33 (fun t ht => by cases ht; exact Or.inl ⟨_, rfl, rfl⟩) d_166_15) rfl
theorem ki_166_12 : js_Ok 166 12 (o_cI 135 3 0 15) := ok_cI (site_S kk_166_135 kw_1302 kw_1303 d_166_12) rfl
theorem ki_166_11 : js_Ok 166 11 (o_b2 (fun x y => x - y) 12) := js_St.ok (st_isub d_166_11)
theorem ki_166_10 : js_Ok 166 10 (o_ic 1 11) := js_St.ok (st_iconst rfl d_166_10)
theorem ki_166_7 : js_Ok 166 7 (o_cI 148 2 9 10) := ok_cI (site_V kk_166_148 (by decide) kw_1312 kw_1314 ks_24 (fun t ht => by cases ht; exact Or.inl ⟨_, rfl, rfl⟩) d_166_7) rfl
theorem ki_166_6 : js_Ok 166 6 (o_ic 1 7) := js_St.ok (st_iconst rfl d_166_6)
theorem ki_166_5 : js_Ok 166 5 (o_al 0 6) := js_St.ok (st_aloadn rfl d_166_5)
theorem ki_166_4 : js_Ok 166 4 (o_ic 0 5) := js_St.ok (st_iconst rfl d_166_4)
theorem ki_166_3 : js_Ok 166 3 (o_il 1 4) := js_St.ok (st_iloadn rfl d_166_3)
theorem ki_166_2 : js_Ok 166 2 (o_al 0 3) := js_St.ok (st_aloadn rfl d_166_2)
theorem ki_166_1 : js_Ok 166 1 (o_is 2 2) := js_St.ok (st_istoren rfl (Nat.le_of_ble_eq_true rfl) d_166_1)
theorem ki_166_0 : js_Ok 166 0 (o_ic 0 1) := js_St.ok (st_iconst rfl d_166_0)
theorem ki_166_30 : js_Ok 166 30 (o_eq 118 33) := js_St.ok (st_ifeq (by decide) d_166_30)
theorem ki_166_29 : js_Ok 166 29 (o_il 3 30) := js_St.ok (st_iloadn rfl d_166_29)
theorem ki_166_26 : js_Ok 166 26 (o_cge 118 29) := js_St.ok (st_icge (by decide) d_166_26)
theorem ki_166_24 : js_Ok 166 24 (o_ic 20 26) := js_St.ok (st_bipush rfl d_166_24)
theorem ki_166_22 : js_Ok 166 22 (o_il 4 24) := js_St.ok (st_iload d_166_22)
theorem ki_166_20 : js_Ok 166 20 (o_is 4 22) := js_St.ok (st_istore (Nat.le_of_ble_eq_true rfl) d_166_20)
theorem ki_166_19 : js_Ok 166 19 (o_ic 0 20) := js_St.ok (st_iconst rfl d_166_19)
theorem ki_166_18 : js_Ok 166 18 (o_is 3 19) := js_St.ok (st_istoren rfl (Nat.le_of_ble_eq_true rfl) d_166_18)
theorem ki_166_46 : js_Ok 166 46 (o_il 5 48) := js_St.ok (st_iload d_166_46)
theorem ki_166_43 : js_Ok 166 43 (o_cge 86 46) := js_St.ok (st_icge (by decide) d_166_43)
theorem ki_166_41 : js_Ok 166 41 (o_ic 20 43) := js_St.ok (st_bipush rfl d_166_41)
theorem ki_166_39 : js_Ok 166 39 (o_il 6 41) := js_St.ok (st_iload d_166_39)
theorem ki_166_37 : js_Ok 166 37 (o_is 6 39) := js_St.ok (st_istore (Nat.le_of_ble_eq_true rfl) d_166_37)
theorem ki_166_36 : js_Ok 166 36 (o_ic 0 37) := js_St.ok (st_iconst rfl d_166_36)
theorem ki_166_34 : js_Ok 166 34 (o_is 5 36) := js_St.ok (st_istore (Nat.le_of_ble_eq_true rfl) d_166_34)
theorem ki_166_33 : js_Ok 166 33 (o_ic 0 34) := js_St.ok (st_iconst rfl d_166_33)
theorem ki_166_63 : js_Ok 166 63 (o_al 0 64) := js_St.ok (st_aloadn rfl d_166_63)
theorem ki_166_60 : js_Ok 166 60 (o_cI 143 2 9 63) := ok_cI (site_V kk_166_143 (by decide) kw_1368 kw_1370 ks_34 (fun t ht => by cases ht; exact Or.inl ⟨_, rfl, rfl⟩) d_166_60) rfl
theorem ki_166_58 : js_Ok 166 58 (o_il 6 60) := js_St.ok (st_iload d_166_58)
theorem ki_166_57 : js_Ok 166 57 (o_al 0 58) := js_St.ok (st_aloadn rfl d_166_57)
theorem ki_166_54 : js_Ok 166 54 (o_eq 76 57) := js_St.ok (st_ifeq (by decide) d_166_54)
theorem ki_166_51 : js_Ok 166 51 (o_cI 147 2 9 54) := ok_cI (site_V kk_166_147 (by decide) kw_1316 kw_1318 ks_25 (fun t ht => by cases ht; exact Or.inl ⟨_, rfl, rfl⟩) d_166_51) rfl
theorem ki_166_49 : js_Ok 166 49 (o_il 6 51) := js_St.ok (st_iload d_166_49)
theorem ki_166_48 : js_Ok 166 48 (o_al 0 49) := js_St.ok (st_aloadn rfl d_166_48)
theorem ki_166_78 : js_Ok 166 78 (o_is 5 80) := js_St.ok (st_istore (Nat.le_of_ble_eq_true rfl) d_166_78)
theorem ki_166_77 : js_Ok 166 77 (o_b2 (fun x y => x + y) 78) := js_St.ok (st_iadd d_166_77)
theorem ki_166_76 : js_Ok 166 76 (o_ic 0 77) := js_St.ok (st_iconst rfl d_166_76)
theorem ki_166_73 : js_Ok 166 73 (o_go 77) := js_St.ok (st_goto (by decide) d_166_73)
theorem ki_166_72 : js_Ok 166 72 (o_ic 1 73) := js_St.ok (st_iconst rfl d_166_72)
theorem ki_166_69 : js_Ok 166 69 (o_cge 76 72) := js_St.ok (st_icge (by decide) d_166_69)
theorem ki_166_66 : js_Ok 166 66 (o_cI 143 2 9 69) := ok_cI (site_V kk_166_143 (by decide) kw_1368 kw_1370 ks_34 (fun t ht => by cases ht; exact Or.inl ⟨_, rfl, rfl⟩) d_166_66) rfl
theorem ki_166_64 : js_Ok 166 64 (o_il 4 66) := js_St.ok (st_iload d_166_64)
theorem ki_166_95 : js_Ok 166 95 (o_il 5 97) := js_St.ok (st_iload d_166_95)
theorem ki_166_92 : js_Ok 166 92 (o_eq 110 95) := js_St.ok (st_ifeq (by decide) d_166_92)
theorem ki_166_89 : js_Ok 166 89 (o_cI 147 2 9 92) := ok_cI (site_V kk_166_147 (by decide) kw_1316 kw_1318 ks_25 (fun t ht => by cases ht; exact Or.inl ⟨_, rfl, rfl⟩) d_166_89) rfl
theorem ki_166_87 : js_Ok 166 87 (o_il 4 89) := js_St.ok (st_iload d_166_87)
theorem ki_166_86 : js_Ok 166 86 (o_al 0 87) := js_St.ok (st_aloadn rfl d_166_86)
theorem ki_166_83 : js_Ok 166 83 (o_go 39) := js_St.ok (st_goto (by decide) d_166_83)
theorem ki_166_80 : js_Ok 166 80 (o_inc 6 1 83) := js_St.ok (st_iinc rfl (Nat.le_of_ble_eq_true rfl) d_166_80)
theorem ki_166_111 : js_Ok 166 111 (o_is 2 112) := js_St.ok (st_istoren rfl (Nat.le_of_ble_eq_true rfl) d_166_111)
theorem ki_166_110 : js_Ok 166 110 (o_il 2 111) := js_St.ok (st_iloadn rfl d_166_110)
theorem ki_166_107 : js_Ok 166 107 (o_go 111) := js_St.ok (st_goto (by decide) d_166_107)
theorem ki_166_104 : js_Ok 166 104 (o_cI 143 2 9 107) := ok_cI (site_V kk_166_143 (by decide) kw_1368 kw_1370 ks_34 (fun t ht => by cases ht; exact Or.inl ⟨_, rfl, rfl⟩) d_166_104) rfl
theorem ki_166_102 : js_Ok 166 102 (o_il 4 104) := js_St.ok (st_iload d_166_102)
theorem ki_166_101 : js_Ok 166 101 (o_al 0 102) := js_St.ok (st_aloadn rfl d_166_101)
theorem ki_166_98 : js_Ok 166 98 (o_cne 110 101) := js_St.ok (st_icne (by decide) d_166_98)
theorem ki_166_97 : js_Ok 166 97 (o_il 1 98) := js_St.ok (st_iloadn rfl d_166_97)
theorem ki_166_119 : js_Ok 166 119 (o_rI) := ok_rI rfl d_166_119
theorem ki_166_118 : js_Ok 166 118 (o_il 2 119) := js_St.ok (st_iloadn rfl d_166_118)
theorem ki_166_115 : js_Ok 166 115 (o_go 22) := js_St.ok (st_goto (by decide) d_166_115)
theorem ki_166_112 : js_Ok 166 112 (o_inc 4 1 115) := js_St.ok (st_iinc rfl (Nat.le_of_ble_eq_true rfl) d_166_112)
theorem d_167_0 : decode (js_b 167) 0 = .ok (.aload_n 0, 1) := by decide +kernel
theorem d_167_1 : decode (js_b 167) 1 = .ok (.iconst 0, 1) := by decide +kernel
theorem d_167_2 : decode (js_b 167) 2 = .ok (.putfield 39, 3) := by decide +kernel
theorem d_167_5 : decode (js_b 167) 5 = .ok (.aload_n 0, 1) := by decide +kernel
theorem d_167_6 : decode (js_b 167) 6 = .ok (.iload_n 1, 1) := by decide +kernel
theorem d_167_7 : decode (js_b 167) 7 = .ok (.invokevirtual 55, 3) := by decide +kernel
theorem d_167_10 : decode (js_b 167) 10 = .ok (.ifCond .lt 7, 3) := by decide +kernel
theorem d_167_13 : decode (js_b 167) 13 = .ok (.iconst 1, 1) := by decide +kernel
theorem d_167_14 : decode (js_b 167) 14 = .ok (.goto 4, 3) := by decide +kernel
theorem d_167_17 : decode (js_b 167) 17 = .ok (.iconst 0, 1) := by decide +kernel
theorem d_167_18 : decode (js_b 167) 18 = .ok (.ireturn, 1) := by decide +kernel
theorem ki_167_14 : js_Ok 167 14 (o_go 18) := js_St.ok (st_goto (by decide) d_167_14)
theorem ki_167_13 : js_Ok 167 13 (o_ic 1 14) := js_St.ok (st_iconst rfl d_167_13)
theorem ki_167_10 : js_Ok 167 10 (o_lt 17 13) := js_St.ok (st_iflt (by decide) d_167_10)
theorem ki_167_7 : js_Ok 167 7 (o_cI 144 2 9 10) := ok_cI (site_V kk_167_144 (by decide) kw_1348 kw_1350 ks_32 (fun t ht => by cases ht; exact Or.inl ⟨_, rfl, rfl⟩) d_167_7) rfl
theorem ki_167_6 : js_Ok 167 6 (o_il 1 7) := js_St.ok (st_iloadn rfl d_167_6)
theorem ki_167_5 : js_Ok 167 5 (o_al 0 6) := js_St.ok (st_aloadn rfl d_167_5)
theorem ki_167_2 : js_Ok 167 2 (o_pI 8 6 5) := js_St.ok (st_pIown js_c8 (by decide) rfl kw_1239 (js_c8.2.2.1 6 (by decide)) d_167_2)
theorem ki_167_1 : js_Ok 167 1 (o_ic 0 2) := js_St.ok (st_iconst rfl d_167_1)
theorem ki_167_0 : js_Ok 167 0 (o_al 0 1) := js_St.ok (st_aloadn rfl d_167_0)
theorem ki_167_18 : js_Ok 167 18 (o_rZ) := ok_rZ rfl d_167_18
theorem ki_167_17 : js_Ok 167 17 (o_ic 0 18) := js_St.ok (st_iconst rfl d_167_17)
theorem d_168_0 : decode (js_b 168) 0 = .ok (.aload_n 0, 1) := by decide +kernel
theorem d_168_1 : decode (js_b 168) 1 = .ok (.iload_n 1, 1) := by decide +kernel
theorem d_168_2 : decode (js_b 168) 2 = .ok (.invokevirtual 55, 3) := by decide +kernel
theorem d_168_5 : decode (js_b 168) 5 = .ok (.istore_n 2, 1) := by decide +kernel
theorem d_168_6 : decode (js_b 168) 6 = .ok (.aload_n 0, 1) := by decide +kernel
theorem d_168_7 : decode (js_b 168) 7 = .ok (.iload_n 2, 1) := by decide +kernel
theorem d_168_8 : decode (js_b 168) 8 = .ok (.ifCond .lt 7, 3) := by decide +kernel
theorem d_168_11 : decode (js_b 168) 11 = .ok (.iconst 1, 1) := by decide +kernel
theorem d_168_12 : decode (js_b 168) 12 = .ok (.goto 4, 3) := by decide +kernel
theorem d_168_15 : decode (js_b 168) 15 = .ok (.iconst 0, 1) := by decide +kernel
theorem d_168_16 : decode (js_b 168) 16 = .ok (.invokevirtual 126, 3) := by decide +kernel
theorem d_168_19 : decode (js_b 168) 19 = .ok (.ifCond .eq 13, 3) := by decide +kernel
theorem d_168_22 : decode (js_b 168) 22 = .ok (.aload_n 0, 1) := by decide +kernel
theorem d_168_23 : decode (js_b 168) 23 = .ok (.iload_n 2, 1) := by decide +kernel
theorem d_168_24 : decode (js_b 168) 24 = .ok (.iconst 1, 1) := by decide +kernel
theorem d_168_25 : decode (js_b 168) 25 = .ok (.invokevirtual 51, 3) := by decide +kernel
theorem d_168_28 : decode (js_b 168) 28 = .ok (.i2c, 1) := by decide +kernel
theorem d_168_29 : decode (js_b 168) 29 = .ok (.goto 5, 3) := by decide +kernel
theorem d_168_32 : decode (js_b 168) 32 = .ok (.bipush 32, 2) := by decide +kernel
theorem d_168_34 : decode (js_b 168) 34 = .ok (.ireturn, 1) := by decide +kernel
theorem ki_168_15 : js_Ok 168 15 (o_ic 0 16) := js_St.ok (st_iconst rfl d_168_15)
theorem ki_168_12 : js_Ok 168 12 (o_go 16) := js_St.ok (st_goto (by decide) d_168_12)
theorem ki_168_11 : js_Ok 168 11 (o_ic 1 12) := js_St.ok (st_iconst rfl d_168_11)
theorem ki_168_8 : js_Ok 168 8 (o_lt 15 11) := js_St.ok (st_iflt (by decide) d_168_8)
theorem ki_168_7 : js_Ok 168 7 (o_il 2 8) := js_St.ok (st_iloadn rfl d_168_7)
theorem ki_168_6 : js_Ok 168 6 (o_al 0 7) := js_St.ok (st_aloadn rfl d_168_6)
theorem ki_168_5 : js_Ok 168 5 (o_is 2 6) := js_St.ok (st_istoren rfl (Nat.le_of_ble_eq_true rfl) d_168_5)
theorem ki_168_2 : js_Ok 168 2 (o_cI 144 2 9 5) := ok_cI (site_V kk_168_144 (by decide) kw_1348 kw_1350 ks_32 (fun t ht => by cases ht; exact Or.inl ⟨_, rfl, rfl⟩) d_168_2) rfl
theorem ki_168_1 : js_Ok 168 1 (o_il 1 2) := js_St.ok (st_iloadn rfl d_168_1)
theorem ki_168_0 : js_Ok 168 0 (o_al 0 1) := js_St.ok (st_aloadn rfl d_168_0)
theorem ki_168_29 : js_Ok 168 29 (o_go 34) := js_St.ok (st_goto (by decide) d_168_29)
theorem ki_168_28 : js_Ok 168 28 (o_u (fun x => (x.toUInt32 % 65536).toInt32) 29) := js_St.ok (st_i2c d_168_28)
theorem ki_168_25 : js_Ok 168 25 (o_cI 140 3 9 28) := ok_cI (site_V kk_168_140 (by decide) kw_1324 kw_1326 ks_27 (fun t ht => by cases ht; exact Or.inl ⟨_, rfl, rfl⟩) d_168_25) rfl
theorem ki_168_24 : js_Ok 168 24 (o_ic 1 25) := js_St.ok (st_iconst rfl d_168_24)
theorem ki_168_23 : js_Ok 168 23 (o_il 2 24) := js_St.ok (st_iloadn rfl d_168_23)
theorem ki_168_22 : js_Ok 168 22 (o_al 0 23) := js_St.ok (st_aloadn rfl d_168_22)
theorem ki_168_19 : js_Ok 168 19 (o_eq 32 22) := js_St.ok (st_ifeq (by decide) d_168_19)
theorem ki_168_16 : js_Ok 168 16 (o_cI 139 2 9 19) := ok_cI (site_V kk_168_139 (by decide) kw_1364 kw_1366 ks_33 (fun t ht => by cases ht; exact Or.inl ⟨_, rfl, rfl⟩) d_168_16) rfl
theorem ki_168_34 : js_Ok 168 34 (o_rC) := ok_rC rfl d_168_34
theorem ki_168_32 : js_Ok 168 32 (o_ic 32 34) := js_St.ok (st_bipush rfl d_168_32)
theorem d_169_0 : decode (js_b 169) 0 = .ok (.aload_n 0, 1) := by decide +kernel
theorem d_169_1 : decode (js_b 169) 1 = .ok (.iload_n 1, 1) := by decide +kernel
theorem d_169_2 : decode (js_b 169) 2 = .ok (.invokevirtual 55, 3) := by decide +kernel
theorem d_169_5 : decode (js_b 169) 5 = .ok (.istore_n 2, 1) := by decide +kernel
theorem d_169_6 : decode (js_b 169) 6 = .ok (.aload_n 0, 1) := by decide +kernel
theorem d_169_7 : decode (js_b 169) 7 = .ok (.iload_n 2, 1) := by decide +kernel
theorem d_169_8 : decode (js_b 169) 8 = .ok (.ifCond .lt 7, 3) := by decide +kernel
theorem d_169_11 : decode (js_b 169) 11 = .ok (.iconst 1, 1) := by decide +kernel
theorem d_169_12 : decode (js_b 169) 12 = .ok (.goto 4, 3) := by decide +kernel
theorem d_169_15 : decode (js_b 169) 15 = .ok (.iconst 0, 1) := by decide +kernel
theorem d_169_16 : decode (js_b 169) 16 = .ok (.invokevirtual 126, 3) := by decide +kernel
theorem d_169_19 : decode (js_b 169) 19 = .ok (.ifCond .eq 13, 3) := by decide +kernel
theorem d_169_22 : decode (js_b 169) 22 = .ok (.aload_n 0, 1) := by decide +kernel
theorem d_169_23 : decode (js_b 169) 23 = .ok (.iload_n 2, 1) := by decide +kernel
theorem d_169_24 : decode (js_b 169) 24 = .ok (.bipush 6, 2) := by decide +kernel
theorem d_169_26 : decode (js_b 169) 26 = .ok (.invokevirtual 51, 3) := by decide +kernel
theorem d_169_29 : decode (js_b 169) 29 = .ok (.goto 4, 3) := by decide +kernel
theorem d_169_32 : decode (js_b 169) 32 = .ok (.iconst 0, 1) := by decide +kernel
theorem d_169_33 : decode (js_b 169) 33 = .ok (.ireturn, 1) := by decide +kernel
theorem ki_169_15 : js_Ok 169 15 (o_ic 0 16) := js_St.ok (st_iconst rfl d_169_15)
theorem ki_169_12 : js_Ok 169 12 (o_go 16) := js_St.ok (st_goto (by decide) d_169_12)
theorem ki_169_11 : js_Ok 169 11 (o_ic 1 12) := js_St.ok (st_iconst rfl d_169_11)
theorem ki_169_8 : js_Ok 169 8 (o_lt 15 11) := js_St.ok (st_iflt (by decide) d_169_8)
theorem ki_169_7 : js_Ok 169 7 (o_il 2 8) := js_St.ok (st_iloadn rfl d_169_7)
theorem ki_169_6 : js_Ok 169 6 (o_al 0 7) := js_St.ok (st_aloadn rfl d_169_6)
theorem ki_169_5 : js_Ok 169 5 (o_is 2 6) := js_St.ok (st_istoren rfl (Nat.le_of_ble_eq_true rfl) d_169_5)
theorem ki_169_2 : js_Ok 169 2 (o_cI 144 2 9 5) := ok_cI (site_V kk_169_144 (by decide) kw_1348 kw_1350 ks_32 (fun t ht => by cases ht; exact Or.inl ⟨_, rfl, rfl⟩) d_169_2) rfl
theorem ki_169_1 : js_Ok 169 1 (o_il 1 2) := js_St.ok (st_iloadn rfl d_169_1)
theorem ki_169_0 : js_Ok 169 0 (o_al 0 1) := js_St.ok (st_aloadn rfl d_169_0)
theorem ki_169_29 : js_Ok 169 29 (o_go 33) := js_St.ok (st_goto (by decide) d_169_29)
theorem ki_169_26 : js_Ok 169 26 (o_cI 140 3 9 29) := ok_cI (site_V kk_169_140 (by decide) kw_1324 kw_1326 ks_27 (fun t ht => by cases ht; exact Or.inl ⟨_, rfl, rfl⟩) d_169_26) rfl
theorem ki_169_24 : js_Ok 169 24 (o_ic 6 26) := js_St.ok (st_bipush rfl d_169_24)
theorem ki_169_23 : js_Ok 169 23 (o_il 2 24) := js_St.ok (st_iloadn rfl d_169_23)
theorem ki_169_22 : js_Ok 169 22 (o_al 0 23) := js_St.ok (st_aloadn rfl d_169_22)
theorem ki_169_19 : js_Ok 169 19 (o_eq 32 22) := js_St.ok (st_ifeq (by decide) d_169_19)
theorem ki_169_16 : js_Ok 169 16 (o_cI 139 2 9 19) := ok_cI (site_V kk_169_139 (by decide) kw_1364 kw_1366 ks_33 (fun t ht => by cases ht; exact Or.inl ⟨_, rfl, rfl⟩) d_169_16) rfl
theorem ki_169_33 : js_Ok 169 33 (o_rI) := ok_rI rfl d_169_33
theorem ki_169_32 : js_Ok 169 32 (o_ic 0 33) := js_St.ok (st_iconst rfl d_169_32)
theorem d_170_0 : decode (js_b 170) 0 = .ok (.aload_n 0, 1) := by decide +kernel
theorem d_170_1 : decode (js_b 170) 1 = .ok (.iload_n 1, 1) := by decide +kernel
theorem d_170_2 : decode (js_b 170) 2 = .ok (.invokevirtual 55, 3) := by decide +kernel
theorem d_170_5 : decode (js_b 170) 5 = .ok (.istore_n 3, 1) := by decide +kernel
theorem d_170_6 : decode (js_b 170) 6 = .ok (.aload_n 0, 1) := by decide +kernel
theorem d_170_7 : decode (js_b 170) 7 = .ok (.iload_n 3, 1) := by decide +kernel
theorem d_170_8 : decode (js_b 170) 8 = .ok (.ifCond .ge 7, 3) := by decide +kernel
theorem d_170_11 : decode (js_b 170) 11 = .ok (.iconst 1, 1) := by decide +kernel
theorem d_170_12 : decode (js_b 170) 12 = .ok (.goto 17, 3) := by decide +kernel
theorem d_170_15 : decode (js_b 170) 15 = .ok (.iload_n 2, 1) := by decide +kernel
theorem d_170_16 : decode (js_b 170) 16 = .ok (.iconst 0, 1) := by decide +kernel
theorem d_170_17 : decode (js_b 170) 17 = .ok (.iconst 3, 1) := by decide +kernel
theorem d_170_18 : decode (js_b 170) 18 = .ok (.invokestatic 69, 3) := by decide +kernel
theorem d_170_21 : decode (js_b 170) 21 = .ok (.ifCond .ne 7, 3) := by decide +kernel
theorem d_170_24 : decode (js_b 170) 24 = .ok (.iconst 2, 1) := by decide +kernel
theorem d_170_25 : decode (js_b 170) 25 = .ok (.goto 4, 3) := by decide +kernel
theorem d_170_28 : decode (js_b 170) 28 = .ok (.iconst 0, 1) := by decide +kernel
theorem d_170_29 : decode (js_b 170) 29 = .ok (.putfield 39, 3) := by decide +kernel
theorem d_170_32 : decode (js_b 170) 32 = .ok (.aload_n 0, 1) := by decide +kernel
theorem d_170_33 : decode (js_b 170) 33 = .ok (.getfield 39, 3) := by decide +kernel
theorem d_170_36 : decode (js_b 170) 36 = .ok (.ifCond .le 7, 3) := by decide +kernel
theorem d_170_39 : decode (js_b 170) 39 = .ok (.iconst 0, 1) := by decide +kernel
theorem d_170_40 : decode (js_b 170) 40 = .ok (.goto 16, 3) := by decide +kernel
theorem d_170_43 : decode (js_b 170) 43 = .ok (.aload_n 0, 1) := by decide +kernel
theorem d_170_44 : decode (js_b 170) 44 = .ok (.iload_n 3, 1) := by decide +kernel
theorem d_170_45 : decode (js_b 170) 45 = .ok (.iload_n 2, 1) := by decide +kernel
theorem d_170_46 : decode (js_b 170) 46 = .ok (.aload_n 0, 1) := by decide +kernel
theorem d_170_47 : decode (js_b 170) 47 = .ok (.iload_n 3, 1) := by decide +kernel
theorem d_170_48 : decode (js_b 170) 48 = .ok (.bipush 6, 2) := by decide +kernel
theorem d_170_50 : decode (js_b 170) 50 = .ok (.invokevirtual 51, 3) := by decide +kernel
theorem d_170_53 : decode (js_b 170) 53 = .ok (.invokevirtual 83, 3) := by decide +kernel
theorem d_170_56 : decode (js_b 170) 56 = .ok (.ireturn, 1) := by decide +kernel
theorem ki_170_15 : js_Ok 170 15 (o_il 2 16) := js_St.ok (st_iloadn rfl d_170_15)
theorem ki_170_12 : js_Ok 170 12 (o_go 29) := js_St.ok (st_goto (by decide) d_170_12)
theorem ki_170_11 : js_Ok 170 11 (o_ic 1 12) := js_St.ok (st_iconst rfl d_170_11)
theorem ki_170_8 : js_Ok 170 8 (o_ge 15 11) := js_St.ok (st_ifge (by decide) d_170_8)
theorem ki_170_7 : js_Ok 170 7 (o_il 3 8) := js_St.ok (st_iloadn rfl d_170_7)
theorem ki_170_6 : js_Ok 170 6 (o_al 0 7) := js_St.ok (st_aloadn rfl d_170_6)
theorem ki_170_5 : js_Ok 170 5 (o_is 3 6) := js_St.ok (st_istoren rfl (Nat.le_of_ble_eq_true rfl) d_170_5)
theorem ki_170_2 : js_Ok 170 2 (o_cI 144 2 9 5) := ok_cI (site_V kk_170_144 (by decide) kw_1348 kw_1350 ks_32 (fun t ht => by cases ht; exact Or.inl ⟨_, rfl, rfl⟩) d_170_2) rfl
theorem ki_170_1 : js_Ok 170 1 (o_il 1 2) := js_St.ok (st_iloadn rfl d_170_1)
theorem ki_170_0 : js_Ok 170 0 (o_al 0 1) := js_St.ok (st_aloadn rfl d_170_0)
theorem ki_170_29 : js_Ok 170 29 (o_pI 8 6 32) := js_St.ok (st_pIown js_c8 (by decide) rfl kw_1239 (js_c8.2.2.1 6 (by decide)) d_170_29)
theorem ki_170_28 : js_Ok 170 28 (o_ic 0 29) := js_St.ok (st_iconst rfl d_170_28)
theorem ki_170_25 : js_Ok 170 25 (o_go 29) := js_St.ok (st_goto (by decide) d_170_25)
theorem ki_170_24 : js_Ok 170 24 (o_ic 2 25) := js_St.ok (st_iconst rfl d_170_24)
theorem ki_170_21 : js_Ok 170 21 (o_ne 28 24) := js_St.ok (st_ifne (by decide) d_170_21)
theorem ki_170_18 : js_Ok 170 18 (o_cI 135 3 0 21) := ok_cI (site_S kk_170_135 kw_1302 kw_1303 d_170_18) rfl
theorem ki_170_17 : js_Ok 170 17 (o_ic 3 18) := js_St.ok (st_iconst rfl d_170_17)
theorem ki_170_16 : js_Ok 170 16 (o_ic 0 17) := js_St.ok (st_iconst rfl d_170_16)
theorem ki_170_47 : js_Ok 170 47 (o_il 3 48) := js_St.ok (st_iloadn rfl d_170_47)
theorem ki_170_46 : js_Ok 170 46 (o_al 0 47) := js_St.ok (st_aloadn rfl d_170_46)
theorem ki_170_45 : js_Ok 170 45 (o_il 2 46) := js_St.ok (st_iloadn rfl d_170_45)
theorem ki_170_44 : js_Ok 170 44 (o_il 3 45) := js_St.ok (st_iloadn rfl d_170_44)
theorem ki_170_43 : js_Ok 170 43 (o_al 0 44) := js_St.ok (st_aloadn rfl d_170_43)
theorem ki_170_40 : js_Ok 170 40 (o_go 56) := js_St.ok (st_goto (by decide) d_170_40)
theorem ki_170_39 : js_Ok 170 39 (o_ic 0 40) := js_St.ok (st_iconst rfl d_170_39)
theorem ki_170_36 : js_Ok 170 36 (o_le 43 39) := js_St.ok (st_ifle (by decide) d_170_36)
theorem ki_170_33 : js_Ok 170 33 (o_gI 8 6 36) := js_St.ok (st_gI js_c8 (by decide) kw_1239 d_170_33)
theorem ki_170_32 : js_Ok 170 32 (o_al 0 33) := js_St.ok (st_aloadn rfl d_170_32)
theorem ki_170_56 : js_Ok 170 56 (o_rI) := ok_rI rfl d_170_56
theorem ki_170_53 : js_Ok 170 53 (o_cI 153 4 9 56) := ok_cI (site_V kk_170_153 (by decide) kw_1388 kw_1390 ks_35 (fun t ht => by cases ht; exact Or.inl ⟨_, rfl, rfl⟩) d_170_53) rfl
theorem ki_170_50 : js_Ok 170 50 (o_cI 140 3 9 53) := ok_cI (site_V kk_170_140 (by decide) kw_1324 kw_1326 ks_27 (fun t ht => by cases ht; exact Or.inl ⟨_, rfl, rfl⟩) d_170_50) rfl
theorem ki_170_48 : js_Ok 170 48 (o_ic 6 50) := js_St.ok (st_bipush rfl d_170_48)
theorem d_171_0 : decode (js_b 171) 0 = .ok (.aload_n 0, 1) := by decide +kernel
theorem d_171_1 : decode (js_b 171) 1 = .ok (.iload_n 1, 1) := by decide +kernel
theorem d_171_2 : decode (js_b 171) 2 = .ok (.invokevirtual 55, 3) := by decide +kernel
theorem d_171_5 : decode (js_b 171) 5 = .ok (.istore_n 2, 1) := by decide +kernel
theorem d_171_6 : decode (js_b 171) 6 = .ok (.aload_n 0, 1) := by decide +kernel
theorem d_171_7 : decode (js_b 171) 7 = .ok (.iload_n 2, 1) := by decide +kernel
theorem d_171_8 : decode (js_b 171) 8 = .ok (.ifCond .lt 7, 3) := by decide +kernel
theorem d_171_11 : decode (js_b 171) 11 = .ok (.iconst 1, 1) := by decide +kernel
theorem d_171_12 : decode (js_b 171) 12 = .ok (.goto 4, 3) := by decide +kernel
theorem d_171_15 : decode (js_b 171) 15 = .ok (.iconst 0, 1) := by decide +kernel
theorem d_171_16 : decode (js_b 171) 16 = .ok (.invokevirtual 126, 3) := by decide +kernel
theorem d_171_19 : decode (js_b 171) 19 = .ok (.ifCond .eq 15, 3) := by decide +kernel
theorem d_171_22 : decode (js_b 171) 22 = .ok (.aload_n 0, 1) := by decide +kernel
theorem d_171_23 : decode (js_b 171) 23 = .ok (.iload_n 2, 1) := by decide +kernel
theorem d_171_24 : decode (js_b 171) 24 = .ok (.invokevirtual 59, 3) := by decide +kernel
theorem d_171_27 : decode (js_b 171) 27 = .ok (.ifCond .eq 7, 3) := by decide +kernel
theorem d_171_30 : decode (js_b 171) 30 = .ok (.iconst 1, 1) := by decide +kernel
theorem d_171_31 : decode (js_b 171) 31 = .ok (.goto 4, 3) := by decide +kernel
theorem d_171_34 : decode (js_b 171) 34 = .ok (.iconst 0, 1) := by decide +kernel
theorem d_171_35 : decode (js_b 171) 35 = .ok (.ireturn, 1) := by decide +kernel
theorem ki_171_15 : js_Ok 171 15 (o_ic 0 16) := js_St.ok (st_iconst rfl d_171_15)
theorem ki_171_12 : js_Ok 171 12 (o_go 16) := js_St.ok (st_goto (by decide) d_171_12)
theorem ki_171_11 : js_Ok 171 11 (o_ic 1 12) := js_St.ok (st_iconst rfl d_171_11)
theorem ki_171_8 : js_Ok 171 8 (o_lt 15 11) := js_St.ok (st_iflt (by decide) d_171_8)
theorem ki_171_7 : js_Ok 171 7 (o_il 2 8) := js_St.ok (st_iloadn rfl d_171_7)
theorem ki_171_6 : js_Ok 171 6 (o_al 0 7) := js_St.ok (st_aloadn rfl d_171_6)
theorem ki_171_5 : js_Ok 171 5 (o_is 2 6) := js_St.ok (st_istoren rfl (Nat.le_of_ble_eq_true rfl) d_171_5)
theorem ki_171_2 : js_Ok 171 2 (o_cI 144 2 9 5) := ok_cI (site_V kk_171_144 (by decide) kw_1348 kw_1350 ks_32 (fun t ht => by cases ht; exact Or.inl ⟨_, rfl, rfl⟩) d_171_2) rfl
theorem ki_171_1 : js_Ok 171 1 (o_il 1 2) := js_St.ok (st_iloadn rfl d_171_1)
theorem ki_171_0 : js_Ok 171 0 (o_al 0 1) := js_St.ok (st_aloadn rfl d_171_0)
theorem ki_171_31 : js_Ok 171 31 (o_go 35) := js_St.ok (st_goto (by decide) d_171_31)
theorem ki_171_30 : js_Ok 171 30 (o_ic 1 31) := js_St.ok (st_iconst rfl d_171_30)
theorem ki_171_27 : js_Ok 171 27 (o_eq 34 30) := js_St.ok (st_ifeq (by decide) d_171_27)
theorem ki_171_24 : js_Ok 171 24 (o_cI 145 2 9 27) := ok_cI (site_V kk_171_145 (by decide) kw_1328 kw_1330 ks_28 (fun t ht => by cases ht; exact Or.inl ⟨_, rfl, rfl⟩) d_171_24) rfl
theorem ki_171_23 : js_Ok 171 23 (o_il 2 24) := js_St.ok (st_iloadn rfl d_171_23)
theorem ki_171_22 : js_Ok 171 22 (o_al 0 23) := js_St.ok (st_aloadn rfl d_171_22)
theorem ki_171_19 : js_Ok 171 19 (o_eq 34 22) := js_St.ok (st_ifeq (by decide) d_171_19)
theorem ki_171_16 : js_Ok 171 16 (o_cI 139 2 9 19) := ok_cI (site_V kk_171_139 (by decide) kw_1364 kw_1366 ks_33 (fun t ht => by cases ht; exact Or.inl ⟨_, rfl, rfl⟩) d_171_16) rfl
theorem ki_171_35 : js_Ok 171 35 (o_rZ) := ok_rZ rfl d_171_35
theorem ki_171_34 : js_Ok 171 34 (o_ic 0 35) := js_St.ok (st_iconst rfl d_171_34)
theorem d_172_0 : decode (js_b 172) 0 = .ok (.aload_n 0, 1) := by decide +kernel
theorem d_172_1 : decode (js_b 172) 1 = .ok (.iload_n 1, 1) := by decide +kernel
theorem d_172_2 : decode (js_b 172) 2 = .ok (.invokevirtual 133, 3) := by decide +kernel
theorem d_172_5 : decode (js_b 172) 5 = .ok (.istore_n 2, 1) := by decide +kernel
theorem d_172_6 : decode (js_b 172) 6 = .ok (.aload_n 0, 1) := by decide +kernel
theorem d_172_7 : decode (js_b 172) 7 = .ok (.iload_n 2, 1) := by decide +kernel
theorem d_172_8 : decode (js_b 172) 8 = .ok (.ifCond .lt 7, 3) := by decide +kernel
theorem d_172_11 : decode (js_b 172) 11 = .ok (.iconst 1, 1) := by decide +kernel
theorem d_172_12 : decode (js_b 172) 12 = .ok (.goto 4, 3) := by decide +kernel
theorem d_172_15 : decode (js_b 172) 15 = .ok (.iconst 0, 1) := by decide +kernel
theorem d_172_16 : decode (js_b 172) 16 = .ok (.invokevirtual 126, 3) := by decide +kernel
theorem d_172_19 : decode (js_b 172) 19 = .ok (.ifCond .eq 15, 3) := by decide +kernel
theorem d_172_22 : decode (js_b 172) 22 = .ok (.aload_n 0, 1) := by decide +kernel
theorem d_172_23 : decode (js_b 172) 23 = .ok (.iload_n 2, 1) := by decide +kernel
theorem d_172_24 : decode (js_b 172) 24 = .ok (.bipush 7, 2) := by decide +kernel
theorem d_172_26 : decode (js_b 172) 26 = .ok (.invokevirtual 51, 3) := by decide +kernel
theorem d_172_29 : decode (js_b 172) 29 = .ok (.iconst 1, 1) := by decide +kernel
theorem d_172_30 : decode (js_b 172) 30 = .ok (.isub, 1) := by decide +kernel
theorem d_172_31 : decode (js_b 172) 31 = .ok (.goto 4, 3) := by decide +kernel
theorem d_172_34 : decode (js_b 172) 34 = .ok (.iconst 0, 1) := by decide +kernel
theorem d_172_35 : decode (js_b 172) 35 = .ok (.ireturn, 1) := by decide +kernel
theorem ki_172_15 : js_Ok 172 15 (o_ic 0 16) := js_St.ok (st_iconst rfl d_172_15)
theorem ki_172_12 : js_Ok 172 12 (o_go 16) := js_St.ok (st_goto (by decide) d_172_12)
theorem ki_172_11 : js_Ok 172 11 (o_ic 1 12) := js_St.ok (st_iconst rfl d_172_11)
theorem ki_172_8 : js_Ok 172 8 (o_lt 15 11) := js_St.ok (st_iflt (by decide) d_172_8)
theorem ki_172_7 : js_Ok 172 7 (o_il 2 8) := js_St.ok (st_iloadn rfl d_172_7)
theorem ki_172_6 : js_Ok 172 6 (o_al 0 7) := js_St.ok (st_aloadn rfl d_172_6)
theorem ki_172_5 : js_Ok 172 5 (o_is 2 6) := js_St.ok (st_istoren rfl (Nat.le_of_ble_eq_true rfl) d_172_5)
theorem ki_172_2 : js_Ok 172 2 (o_cI 146 2 9 5) := ok_cI (site_V kk_172_146 (by decide) kw_1400 kw_1402 ks_36 (fun t ht => by cases ht; exact Or.inl ⟨_, rfl, rfl⟩) d_172_2) rfl
theorem ki_172_1 : js_Ok 172 1 (o_il 1 2) := js_St.ok (st_iloadn rfl d_172_1)
theorem ki_172_0 : js_Ok 172 0 (o_al 0 1) := js_St.ok (st_aloadn rfl d_172_0)
theorem ki_172_31 : js_Ok 172 31 (o_go 35) := js_St.ok (st_goto (by decide) d_172_31)
theorem ki_172_30 : js_Ok 172 30 (o_b2 (fun x y => x - y) 31) := js_St.ok (st_isub d_172_30)
theorem ki_172_29 : js_Ok 172 29 (o_ic 1 30) := js_St.ok (st_iconst rfl d_172_29)
theorem ki_172_26 : js_Ok 172 26 (o_cI 140 3 9 29) := ok_cI (site_V kk_172_140 (by decide) kw_1324 kw_1326 ks_27 (fun t ht => by cases ht; exact Or.inl ⟨_, rfl, rfl⟩) d_172_26) rfl
theorem ki_172_24 : js_Ok 172 24 (o_ic 7 26) := js_St.ok (st_bipush rfl d_172_24)
theorem ki_172_23 : js_Ok 172 23 (o_il 2 24) := js_St.ok (st_iloadn rfl d_172_23)
theorem ki_172_22 : js_Ok 172 22 (o_al 0 23) := js_St.ok (st_aloadn rfl d_172_22)
theorem ki_172_19 : js_Ok 172 19 (o_eq 34 22) := js_St.ok (st_ifeq (by decide) d_172_19)
theorem ki_172_16 : js_Ok 172 16 (o_cI 139 2 9 19) := ok_cI (site_V kk_172_139 (by decide) kw_1364 kw_1366 ks_33 (fun t ht => by cases ht; exact Or.inl ⟨_, rfl, rfl⟩) d_172_16) rfl
theorem ki_172_35 : js_Ok 172 35 (o_rI) := ok_rI rfl d_172_35
theorem ki_172_34 : js_Ok 172 34 (o_ic 0 35) := js_St.ok (st_iconst rfl d_172_34)
theorem d_173_0 : decode (js_b 173) 0 = .ok (.aload_n 0, 1) := by decide +kernel
theorem d_173_1 : decode (js_b 173) 1 = .ok (.iconst 0, 1) := by decide +kernel
theorem d_173_2 : decode (js_b 173) 2 = .ok (.putfield 39, 3) := by decide +kernel
theorem d_173_5 : decode (js_b 173) 5 = .ok (.iconst 0, 1) := by decide +kernel
theorem d_173_6 : decode (js_b 173) 6 = .ok (.istore_n 1, 1) := by decide +kernel
theorem d_173_7 : decode (js_b 173) 7 = .ok (.iconst 0, 1) := by decide +kernel
theorem d_173_8 : decode (js_b 173) 8 = .ok (.istore_n 2, 1) := by decide +kernel
theorem d_173_9 : decode (js_b 173) 9 = .ok (.iload_n 2, 1) := by decide +kernel
theorem d_173_10 : decode (js_b 173) 10 = .ok (.bipush 20, 2) := by decide +kernel
theorem d_173_12 : decode (js_b 173) 12 = .ok (.if_icmp .ge 43, 3) := by decide +kernel
theorem d_173_15 : decode (js_b 173) 15 = .ok (.iconst 0, 1) := by decide +kernel
theorem d_173_16 : decode (js_b 173) 16 = .ok (.istore_n 3, 1) := by decide +kernel
theorem d_173_17 : decode (js_b 173) 17 = .ok (.iload_n 3, 1) := by decide +kernel
theorem d_173_18 : decode (js_b 173) 18 = .ok (.iconst 4, 1) := by decide +kernel
theorem d_173_19 : decode (js_b 173) 19 = .ok (.if_icmp .ge 30, 3) := by decide +kernel
theorem d_173_22 : decode (js_b 173) 22 = .ok (.aload_n 0, 1) := by decide +kernel
theorem d_173_23 : decode (js_b 173) 23 = .ok (.iload_n 2, 1) := by decide +kernel
theorem d_173_24 : decode (js_b 173) 24 = .ok (.invokevirtual 63, 3) := by decide +kernel
theorem d_173_27 : decode (js_b 173) 27 = .ok (.ifCond .eq 22, 3) := by decide +kernel
theorem d_173_30 : decode (js_b 173) 30 = .ok (.iload_n 1, 1) := by decide +kernel
theorem d_173_31 : decode (js_b 173) 31 = .ok (.iconst 1, 1) := by decide +kernel
theorem d_173_32 : decode (js_b 173) 32 = .ok (.aload_n 0, 1) := by decide +kernel
theorem d_173_33 : decode (js_b 173) 33 = .ok (.iload_n 2, 1) := by decide +kernel
theorem d_173_34 : decode (js_b 173) 34 = .ok (.iconst 2, 1) := by decide +kernel
theorem d_173_35 : decode (js_b 173) 35 = .ok (.iload_n 3, 1) := by decide +kernel
theorem d_173_36 : decode (js_b 173) 36 = .ok (.iadd, 1) := by decide +kernel
theorem d_173_37 : decode (js_b 173) 37 = .ok (.invokevirtual 51, 3) := by decide +kernel
theorem d_173_40 : decode (js_b 173) 40 = .ok (.ishl, 1) := by decide +kernel
theorem d_173_41 : decode (js_b 173) 41 = .ok (.ior, 1) := by decide +kernel
theorem d_173_42 : decode (js_b 173) 42 = .ok (.istore_n 1, 1) := by decide +kernel
theorem d_173_43 : decode (js_b 173) 43 = .ok (.iinc 3 1, 3) := by decide +kernel
theorem d_173_46 : decode (js_b 173) 46 = .ok (.goto (-29), 3) := by decide +kernel
theorem d_173_49 : decode (js_b 173) 49 = .ok (.iinc 2 1, 3) := by decide +kernel
theorem d_173_52 : decode (js_b 173) 52 = .ok (.goto (-43), 3) := by decide +kernel
theorem d_173_55 : decode (js_b 173) 55 = .ok (.iconst 0, 1) := by decide +kernel
theorem d_173_56 : decode (js_b 173) 56 = .ok (.istore_n 2, 1) := by decide +kernel
theorem d_173_57 : decode (js_b 173) 57 = .ok (.iconst 0, 1) := by decide +kernel
theorem d_173_58 : decode (js_b 173) 58 = .ok (.istore_n 3, 1) := by decide +kernel
theorem d_173_59 : decode (js_b 173) 59 = .ok (.iload_n 3, 1) := by decide +kernel
theorem d_173_60 : decode (js_b 173) 60 = .ok (.bipush 16, 2) := by decide +kernel
theorem d_173_62 : decode (js_b 173) 62 = .ok (.if_icmp .ge 17, 3) := by decide +kernel
theorem d_173_65 : decode (js_b 173) 65 = .ok (.iload_n 2, 1) := by decide +kernel
theorem d_173_66 : decode (js_b 173) 66 = .ok (.iload_n 1, 1) := by decide +kernel
theorem d_173_67 : decode (js_b 173) 67 = .ok (.iload_n 3, 1) := by decide +kernel
theorem d_173_68 : decode (js_b 173) 68 = .ok (.ishr, 1) := by decide +kernel
theorem d_173_69 : decode (js_b 173) 69 = .ok (.iconst 1, 1) := by decide +kernel
theorem d_173_70 : decode (js_b 173) 70 = .ok (.iand, 1) := by decide +kernel
theorem d_173_71 : decode (js_b 173) 71 = .ok (.iadd, 1) := by decide +kernel
theorem d_173_72 : decode (js_b 173) 72 = .ok (.istore_n 2, 1) := by decide +kernel
theorem d_173_73 : decode (js_b 173) 73 = .ok (.iinc 3 1, 3) := by decide +kernel
theorem d_173_76 : decode (js_b 173) 76 = .ok (.goto (-17), 3) := by decide +kernel
theorem d_173_79 : decode (js_b 173) 79 = .ok (.iload_n 2, 1) := by decide +kernel
theorem d_173_80 : decode (js_b 173) 80 = .ok (.ireturn, 1) := by decide +kernel
theorem ki_173_15 : js_Ok 173 15 (o_ic 0 16) := js_St.ok (st_iconst rfl d_173_15)
theorem ki_173_12 : js_Ok 173 12 (o_cge 55 15) := js_St.ok (st_icge (by decide) d_173_12)
theorem ki_173_10 : js_Ok 173 10 (o_ic 20 12) := js_St.ok (st_bipush rfl d_173_10)
theorem ki_173_9 : js_Ok 173 9 (o_il 2 10) := js_St.ok (st_iloadn rfl d_173_9)
theorem ki_173_8 : js_Ok 173 8 (o_is 2 9) := js_St.ok (st_istoren rfl (Nat.le_of_ble_eq_true rfl) d_173_8)
theorem ki_173_7 : js_Ok 173 7 (o_ic 0 8) := js_St.ok (st_iconst rfl d_173_7)
theorem ki_173_6 : js_Ok 173 6 (o_is 1 7) := js_St.ok (st_istoren rfl (Nat.le_of_ble_eq_true rfl) d_173_6)
theorem ki_173_5 : js_Ok 173 5 (o_ic 0 6) := js_St.ok (st_iconst rfl d_173_5)
theorem ki_173_2 : js_Ok 173 2 (o_pI 8 6 5) := js_St.ok (st_pIown js_c8 (by decide) rfl kw_1239 (js_c8.2.2.1 6 (by decide)) d_173_2)
theorem ki_173_1 : js_Ok 173 1 (o_ic 0 2) := js_St.ok (st_iconst rfl d_173_1)
theorem ki_173_0 : js_Ok 173 0 (o_al 0 1) := js_St.ok (st_aloadn rfl d_173_0)
theorem ki_173_31 : js_Ok 173 31 (o_ic 1 32) := js_St.ok (st_iconst rfl d_173_31)
theorem ki_173_30 : js_Ok 173 30 (o_il 1 31) := js_St.ok (st_iloadn rfl d_173_30)
theorem ki_173_27 : js_Ok 173 27 (o_eq 49 30) := js_St.ok (st_ifeq (by decide) d_173_27)
theorem ki_173_24 : js_Ok 173 24 (o_cI 142 2 9 27) := ok_cI (site_V kk_173_142 (by decide) kw_1320 kw_1322 ks_26 (fun t ht => by cases ht; exact Or.inl ⟨_, rfl, rfl⟩) d_173_24) rfl
theorem ki_173_23 : js_Ok 173 23 (o_il 2 24) := js_St.ok (st_iloadn rfl d_173_23)
theorem ki_173_22 : js_Ok 173 22 (o_al 0 23) := js_St.ok (st_aloadn rfl d_173_22)
theorem ki_173_19 : js_Ok 173 19 (o_cge 49 22) := js_St.ok (st_icge (by decide) d_173_19)
theorem ki_173_18 : js_Ok 173 18 (o_ic 4 19) := js_St.ok (st_iconst rfl d_173_18)
theorem ki_173_17 : js_Ok 173 17 (o_il 3 18) := js_St.ok (st_iloadn rfl d_173_17)
theorem ki_173_16 : js_Ok 173 16 (o_is 3 17) := js_St.ok (st_istoren rfl (Nat.le_of_ble_eq_true rfl) d_173_16)
theorem ki_173_46 : js_Ok 173 46 (o_go 17) := js_St.ok (st_goto (by decide) d_173_46)
theorem ki_173_43 : js_Ok 173 43 (o_inc 3 1 46) := js_St.ok (st_iinc rfl (Nat.le_of_ble_eq_true rfl) d_173_43)
theorem ki_173_42 : js_Ok 173 42 (o_is 1 43) := js_St.ok (st_istoren rfl (Nat.le_of_ble_eq_true rfl) d_173_42)
theorem ki_173_41 : js_Ok 173 41 (o_b2 (fun x y => x ||| y) 42) := js_St.ok (st_ior d_173_41)
theorem ki_173_40 : js_Ok 173 40 (o_b2 (fun x y => x <<< (y &&& 31)) 41) := js_St.ok (st_ishl d_173_40)
theorem ki_173_37 : js_Ok 173 37 (o_cI 140 3 9 40) := ok_cI (site_V kk_173_140 (by decide) kw_1324 kw_1326 ks_27 (fun t ht => by cases ht; exact Or.inl ⟨_, rfl, rfl⟩) d_173_37) rfl
theorem ki_173_36 : js_Ok 173 36 (o_b2 (fun x y => x + y) 37) := js_St.ok (st_iadd d_173_36)
theorem ki_173_35 : js_Ok 173 35 (o_il 3 36) := js_St.ok (st_iloadn rfl d_173_35)
theorem ki_173_34 : js_Ok 173 34 (o_ic 2 35) := js_St.ok (st_iconst rfl d_173_34)
theorem ki_173_33 : js_Ok 173 33 (o_il 2 34) := js_St.ok (st_iloadn rfl d_173_33)
theorem ki_173_32 : js_Ok 173 32 (o_al 0 33) := js_St.ok (st_aloadn rfl d_173_32)
theorem ki_173_62 : js_Ok 173 62 (o_cge 79 65) := js_St.ok (st_icge (by decide) d_173_62)
theorem ki_173_60 : js_Ok 173 60 (o_ic 16 62) := js_St.ok (st_bipush rfl d_173_60)
theorem ki_173_59 : js_Ok 173 59 (o_il 3 60) := js_St.ok (st_iloadn rfl d_173_59)
theorem ki_173_58 : js_Ok 173 58 (o_is 3 59) := js_St.ok (st_istoren rfl (Nat.le_of_ble_eq_true rfl) d_173_58)
theorem ki_173_57 : js_Ok 173 57 (o_ic 0 58) := js_St.ok (st_iconst rfl d_173_57)
theorem ki_173_56 : js_Ok 173 56 (o_is 2 57) := js_St.ok (st_istoren rfl (Nat.le_of_ble_eq_true rfl) d_173_56)
theorem ki_173_55 : js_Ok 173 55 (o_ic 0 56) := js_St.ok (st_iconst rfl d_173_55)
theorem ki_173_52 : js_Ok 173 52 (o_go 9) := js_St.ok (st_goto (by decide) d_173_52)
theorem ki_173_49 : js_Ok 173 49 (o_inc 2 1 52) := js_St.ok (st_iinc rfl (Nat.le_of_ble_eq_true rfl) d_173_49)
theorem ki_173_79 : js_Ok 173 79 (o_il 2 80) := js_St.ok (st_iloadn rfl d_173_79)
theorem ki_173_76 : js_Ok 173 76 (o_go 59) := js_St.ok (st_goto (by decide) d_173_76)
theorem ki_173_73 : js_Ok 173 73 (o_inc 3 1 76) := js_St.ok (st_iinc rfl (Nat.le_of_ble_eq_true rfl) d_173_73)
theorem ki_173_72 : js_Ok 173 72 (o_is 2 73) := js_St.ok (st_istoren rfl (Nat.le_of_ble_eq_true rfl) d_173_72)
theorem ki_173_71 : js_Ok 173 71 (o_b2 (fun x y => x + y) 72) := js_St.ok (st_iadd d_173_71)
theorem ki_173_70 : js_Ok 173 70 (o_b2 (fun x y => x &&& y) 71) := js_St.ok (st_iand d_173_70)
theorem ki_173_69 : js_Ok 173 69 (o_ic 1 70) := js_St.ok (st_iconst rfl d_173_69)
theorem ki_173_68 : js_Ok 173 68 (o_b2 (fun x y => x >>> (y &&& 31)) 69) := js_St.ok (st_ishr d_173_68)
theorem ki_173_67 : js_Ok 173 67 (o_il 3 68) := js_St.ok (st_iloadn rfl d_173_67)
theorem ki_173_66 : js_Ok 173 66 (o_il 1 67) := js_St.ok (st_iloadn rfl d_173_66)
theorem ki_173_65 : js_Ok 173 65 (o_il 2 66) := js_St.ok (st_iloadn rfl d_173_65)
theorem ki_173_80 : js_Ok 173 80 (o_rI) := ok_rI rfl d_173_80
theorem d_174_0 : decode (js_b 174) 0 = .ok (.aload_n 0, 1) := by decide +kernel
theorem d_174_1 : decode (js_b 174) 1 = .ok (.iload_n 1, 1) := by decide +kernel
theorem d_174_2 : decode (js_b 174) 2 = .ok (.bipush 7, 2) := by decide +kernel
theorem d_174_4 : decode (js_b 174) 4 = .ok (.iload_n 2, 1) := by decide +kernel
theorem d_174_5 : decode (js_b 174) 5 = .ok (.iconst 1, 1) := by decide +kernel
theorem d_174_6 : decode (js_b 174) 6 = .ok (.iadd, 1) := by decide +kernel
theorem d_174_7 : decode (js_b 174) 7 = .ok (.invokevirtual 109, 3) := by decide +kernel
theorem d_174_10 : decode (js_b 174) 10 = .ok (.aload_n 0, 1) := by decide +kernel
theorem d_174_11 : decode (js_b 174) 11 = .ok (.getfield 9, 3) := by decide +kernel
theorem d_174_14 : decode (js_b 174) 14 = .ok (.sipush 161, 3) := by decide +kernel
theorem d_174_17 : decode (js_b 174) 17 = .ok (.iload_n 2, 1) := by decide +kernel
theorem d_174_18 : decode (js_b 174) 18 = .ok (.iadd, 1) := by decide +kernel
theorem d_174_19 : decode (js_b 174) 19 = .ok (.iload_n 1, 1) := by decide +kernel
theorem d_174_20 : decode (js_b 174) 20 = .ok (.iconst 1, 1) := by decide +kernel
theorem d_174_21 : decode (js_b 174) 21 = .ok (.iadd, 1) := by decide +kernel
theorem d_174_22 : decode (js_b 174) 22 = .ok (.iastore, 1) := by decide +kernel
theorem d_174_23 : decode (js_b 174) 23 = .ok (.return_, 1) := by decide +kernel
theorem ki_174_14 : js_Ok 174 14 (o_ic 161 17) := js_St.ok (st_sipush rfl d_174_14)
theorem ki_174_11 : js_Ok 174 11 (o_gA 8 0 14) := js_St.ok (st_gA js_c8 (by decide) kw_1233 d_174_11)
theorem ki_174_10 : js_Ok 174 10 (o_al 0 11) := js_St.ok (st_aloadn rfl d_174_10)
theorem ki_174_7 : js_Ok 174 7 (o_cV 141 4 9 10) := ok_cV (site_V kk_174_141 (by decide) kw_1332 kw_1334 ks_29 (fun t ht => by cases ht; exact Or.inl ⟨_, rfl, rfl⟩) d_174_7) rfl
theorem ki_174_6 : js_Ok 174 6 (o_b2 (fun x y => x + y) 7) := js_St.ok (st_iadd d_174_6)
theorem ki_174_5 : js_Ok 174 5 (o_ic 1 6) := js_St.ok (st_iconst rfl d_174_5)
theorem ki_174_4 : js_Ok 174 4 (o_il 2 5) := js_St.ok (st_iloadn rfl d_174_4)
theorem ki_174_2 : js_Ok 174 2 (o_ic 7 4) := js_St.ok (st_bipush rfl d_174_2)
theorem ki_174_1 : js_Ok 174 1 (o_il 1 2) := js_St.ok (st_iloadn rfl d_174_1)
theorem ki_174_0 : js_Ok 174 0 (o_al 0 1) := js_St.ok (st_aloadn rfl d_174_0)
theorem ki_174_23 : js_Ok 174 23 (o_rV) := ok_rV rfl d_174_23
theorem ki_174_22 : js_Ok 174 22 (o_sI 100 23) := js_St.ok (st_sI d_174_22)
theorem ki_174_21 : js_Ok 174 21 (o_b2 (fun x y => x + y) 22) := js_St.ok (st_iadd d_174_21)
theorem ki_174_20 : js_Ok 174 20 (o_ic 1 21) := js_St.ok (st_iconst rfl d_174_20)
theorem ki_174_19 : js_Ok 174 19 (o_il 1 20) := js_St.ok (st_iloadn rfl d_174_19)
theorem ki_174_18 : js_Ok 174 18 (o_b2 (fun x y => x + y) 19) := js_St.ok (st_iadd d_174_18)
theorem ki_174_17 : js_Ok 174 17 (o_il 2 18) := js_St.ok (st_iloadn rfl d_174_17)
theorem d_175_0 : decode (js_b 175) 0 = .ok (.aload_n 0, 1) := by decide +kernel
theorem d_175_1 : decode (js_b 175) 1 = .ok (.iload_n 1, 1) := by decide +kernel
theorem d_175_2 : decode (js_b 175) 2 = .ok (.invokevirtual 55, 3) := by decide +kernel
theorem d_175_5 : decode (js_b 175) 5 = .ok (.istore 4, 2) := by decide +kernel
theorem d_175_7 : decode (js_b 175) 7 = .ok (.iload 4, 2) := by decide +kernel
theorem d_175_9 : decode (js_b 175) 9 = .ok (.ifCond .ge 9, 3) := by decide +kernel
theorem d_175_12 : decode (js_b 175) 12 = .ok (.aload_n 0, 1) := by decide +kernel
theorem d_175_13 : decode (js_b 175) 13 = .ok (.iconst 1, 1) := by decide +kernel
theorem d_175_14 : decode (js_b 175) 14 = .ok (.invokevirtual 102, 3) := by decide +kernel
theorem d_175_17 : decode (js_b 175) 17 = .ok (.ireturn, 1) := by decide +kernel
theorem d_175_18 : decode (js_b 175) 18 = .ok (.iload_n 2, 1) := by decide +kernel
theorem d_175_19 : decode (js_b 175) 19 = .ok (.iload_n 3, 1) := by decide +kernel
theorem d_175_20 : decode (js_b 175) 20 = .ok (.invokestatic 73, 3) := by decide +kernel
theorem d_175_23 : decode (js_b 175) 23 = .ok (.ifCond .ne 9, 3) := by decide +kernel
theorem d_175_26 : decode (js_b 175) 26 = .ok (.aload_n 0, 1) := by decide +kernel
theorem d_175_27 : decode (js_b 175) 27 = .ok (.iconst 2, 1) := by decide +kernel
theorem d_175_28 : decode (js_b 175) 28 = .ok (.invokevirtual 102, 3) := by decide +kernel
theorem d_175_31 : decode (js_b 175) 31 = .ok (.ireturn, 1) := by decide +kernel
theorem d_175_32 : decode (js_b 175) 32 = .ok (.bipush 8, 2) := by decide +kernel
theorem d_175_34 : decode (js_b 175) 34 = .ok (.iload_n 2, 1) := by decide +kernel
theorem d_175_35 : decode (js_b 175) 35 = .ok (.imul, 1) := by decide +kernel
theorem d_175_36 : decode (js_b 175) 36 = .ok (.iload_n 3, 1) := by decide +kernel
theorem d_175_37 : decode (js_b 175) 37 = .ok (.iadd, 1) := by decide +kernel
theorem d_175_38 : decode (js_b 175) 38 = .ok (.istore 5, 2) := by decide +kernel
theorem d_175_40 : decode (js_b 175) 40 = .ok (.aload_n 0, 1) := by decide +kernel
theorem d_175_41 : decode (js_b 175) 41 = .ok (.iload 4, 2) := by decide +kernel
theorem d_175_43 : decode (js_b 175) 43 = .ok (.invokevirtual 59, 3) := by decide +kernel
theorem d_175_46 : decode (js_b 175) 46 = .ok (.ifCond .ne 17, 3) := by decide +kernel
theorem d_175_49 : decode (js_b 175) 49 = .ok (.aload_n 0, 1) := by decide +kernel
theorem d_175_50 : decode (js_b 175) 50 = .ok (.getfield 9, 3) := by decide +kernel
theorem d_175_53 : decode (js_b 175) 53 = .ok (.sipush 161, 3) := by decide +kernel
theorem d_175_56 : decode (js_b 175) 56 = .ok (.iload 5, 2) := by decide +kernel
theorem d_175_58 : decode (js_b 175) 58 = .ok (.iadd, 1) := by decide +kernel
theorem d_175_59 : decode (js_b 175) 59 = .ok (.iaload, 1) := by decide +kernel
theorem d_175_60 : decode (js_b 175) 60 = .ok (.ifCond .le 9, 3) := by decide +kernel
theorem d_175_63 : decode (js_b 175) 63 = .ok (.aload_n 0, 1) := by decide +kernel
theorem d_175_64 : decode (js_b 175) 64 = .ok (.iconst 3, 1) := by decide +kernel
theorem d_175_65 : decode (js_b 175) 65 = .ok (.invokevirtual 102, 3) := by decide +kernel
theorem d_175_68 : decode (js_b 175) 68 = .ok (.ireturn, 1) := by decide +kernel
theorem d_175_69 : decode (js_b 175) 69 = .ok (.aload_n 0, 1) := by decide +kernel
theorem d_175_70 : decode (js_b 175) 70 = .ok (.iload 4, 2) := by decide +kernel
theorem d_175_72 : decode (js_b 175) 72 = .ok (.iload 5, 2) := by decide +kernel
theorem d_175_74 : decode (js_b 175) 74 = .ok (.invokevirtual 136, 3) := by decide +kernel
theorem d_175_77 : decode (js_b 175) 77 = .ok (.aload_n 0, 1) := by decide +kernel
theorem d_175_78 : decode (js_b 175) 78 = .ok (.iload 5, 2) := by decide +kernel
theorem d_175_80 : decode (js_b 175) 80 = .ok (.iconst 1, 1) := by decide +kernel
theorem d_175_81 : decode (js_b 175) 81 = .ok (.invokevirtual 93, 3) := by decide +kernel
theorem d_175_84 : decode (js_b 175) 84 = .ok (.ireturn, 1) := by decide +kernel
theorem ki_175_14 : js_Ok 175 14 (o_cI 138 2 9 17) := ok_cI (site_V kk_175_138 (by decide) kw_1308 kw_1310 ks_23 (fun t ht => by cases ht; exact Or.inl ⟨_, rfl, rfl⟩) d_175_14) rfl
theorem ki_175_13 : js_Ok 175 13 (o_ic 1 14) := js_St.ok (st_iconst rfl d_175_13)
theorem ki_175_12 : js_Ok 175 12 (o_al 0 13) := js_St.ok (st_aloadn rfl d_175_12)
theorem ki_175_9 : js_Ok 175 9 (o_ge 18 12) := js_St.ok (st_ifge (by decide) d_175_9)
theorem ki_175_7 : js_Ok 175 7 (o_il 4 9) := js_St.ok (st_iload d_175_7)
theorem ki_175_5 : js_Ok 175 5 (o_is 4 7) := js_St.ok (st_istore (Nat.le_of_ble_eq_true rfl) d_175_5)
theorem ki_175_2 : js_Ok 175 2 (o_cI 144 2 9 5) := ok_cI (site_V kk_175_144 (by decide) kw_1348 kw_1350 ks_32 (fun t ht => by cases ht; exact Or.inl ⟨_, rfl, rfl⟩) d_175_2) rfl
theorem ki_175_1 : js_Ok 175 1 (o_il 1 2) := js_St.ok (st_iloadn rfl d_175_1)
theorem ki_175_0 : js_Ok 175 0 (o_al 0 1) := js_St.ok (st_aloadn rfl d_175_0)
theorem ki_175_31 : js_Ok 175 31 (o_rI) := ok_rI rfl d_175_31
theorem ki_175_28 : js_Ok 175 28 (o_cI 138 2 9 31) := ok_cI (site_V kk_175_138 (by decide) kw_1308 kw_1310 ks_23 (fun t ht => by cases ht; exact Or.inl ⟨_, rfl, rfl⟩) d_175_28) rfl
theorem ki_175_27 : js_Ok 175 27 (o_ic 2 28) := js_St.ok (st_iconst rfl d_175_27)
theorem ki_175_26 : js_Ok 175 26 (o_al 0 27) := js_St.ok (st_aloadn rfl d_175_26)
theorem ki_175_23 : js_Ok 175 23 (o_ne 32 26) := js_St.ok (st_ifne (by decide) d_175_23)
theorem ki_175_20 : js_Ok 175 20 (o_cI 149 2 0 23) := ok_cI (site_S kk_175_149 kw_1416 kw_1417 d_175_20) rfl
theorem ki_175_19 : js_Ok 175 19 (o_il 3 20) := js_St.ok (st_iloadn rfl d_175_19)
theorem ki_175_18 : js_Ok 175 18 (o_il 2 19) := js_St.ok (st_iloadn rfl d_175_18)
theorem ki_175_17 : js_Ok 175 17 (o_rI) := ok_rI rfl d_175_17
theorem ki_175_46 : js_Ok 175 46 (o_ne 63 49) := js_St.ok (st_ifne (by decide) d_175_46)
theorem ki_175_43 : js_Ok 175 43 (o_cI 145 2 9 46) := ok_cI (site_V kk_175_145 (by decide) kw_1328 kw_1330 ks_28 (fun t ht => by cases ht; exact Or.inl ⟨_, rfl, rfl⟩) d_175_43) rfl
theorem ki_175_41 : js_Ok 175 41 (o_il 4 43) := js_St.ok (st_iload d_175_41)
theorem ki_175_40 : js_Ok 175 40 (o_al 0 41) := js_St.ok (st_aloadn rfl d_175_40)
theorem ki_175_38 : js_Ok 175 38 (o_is 5 40) := js_St.ok (st_istore (Nat.le_of_ble_eq_true rfl) d_175_38)
theorem ki_175_37 : js_Ok 175 37 (o_b2 (fun x y => x + y) 38) := js_St.ok (st_iadd d_175_37)
theorem ki_175_36 : js_Ok 175 36 (o_il 3 37) := js_St.ok (st_iloadn rfl d_175_36)
theorem ki_175_35 : js_Ok 175 35 (o_b2 (fun x y => x * y) 36) := js_St.ok (st_imul d_175_35)
theorem ki_175_34 : js_Ok 175 34 (o_il 2 35) := js_St.ok (st_iloadn rfl d_175_34)
theorem ki_175_32 : js_Ok 175 32 (o_ic 8 34) := js_St.ok (st_bipush rfl d_175_32)
theorem ki_175_63 : js_Ok 175 63 (o_al 0 64) := js_St.ok (st_aloadn rfl d_175_63)
theorem ki_175_60 : js_Ok 175 60 (o_le 69 63) := js_St.ok (st_ifle (by decide) d_175_60)
theorem ki_175_59 : js_Ok 175 59 (o_lI 100 60) := js_St.ok (st_lI d_175_59)
theorem ki_175_58 : js_Ok 175 58 (o_b2 (fun x y => x + y) 59) := js_St.ok (st_iadd d_175_58)
theorem ki_175_56 : js_Ok 175 56 (o_il 5 58) := js_St.ok (st_iload d_175_56)
theorem ki_175_53 : js_Ok 175 53 (o_ic 161 56) := js_St.ok (st_sipush rfl d_175_53)
theorem ki_175_50 : js_Ok 175 50 (o_gA 8 0 53) := js_St.ok (st_gA js_c8 (by decide) kw_1233 d_175_50)
theorem ki_175_49 : js_Ok 175 49 (o_al 0 50) := js_St.ok (st_aloadn rfl d_175_49)
theorem ki_175_78 : js_Ok 175 78 (o_il 5 80) := js_St.ok (st_iload d_175_78)
theorem ki_175_77 : js_Ok 175 77 (o_al 0 78) := js_St.ok (st_aloadn rfl d_175_77)
theorem ki_175_74 : js_Ok 175 74 (o_cV 174 3 9 77) := ok_cV (site_V kk_175_174 (by decide) kw_1419 kw_1421 ks_38 (fun t ht => by cases ht; exact Or.inl ⟨_, rfl, rfl⟩) d_175_74) rfl
theorem ki_175_72 : js_Ok 175 72 (o_il 5 74) := js_St.ok (st_iload d_175_72)
theorem ki_175_70 : js_Ok 175 70 (o_il 4 72) := js_St.ok (st_iload d_175_70)
theorem ki_175_69 : js_Ok 175 69 (o_al 0 70) := js_St.ok (st_aloadn rfl d_175_69)
theorem ki_175_68 : js_Ok 175 68 (o_rI) := ok_rI rfl d_175_68
theorem ki_175_65 : js_Ok 175 65 (o_cI 138 2 9 68) := ok_cI (site_V kk_175_138 (by decide) kw_1308 kw_1310 ks_23 (fun t ht => by cases ht; exact Or.inl ⟨_, rfl, rfl⟩) d_175_65) rfl
theorem ki_175_64 : js_Ok 175 64 (o_ic 3 65) := js_St.ok (st_iconst rfl d_175_64)
theorem ki_175_84 : js_Ok 175 84 (o_rI) := ok_rI rfl d_175_84
theorem ki_175_81 : js_Ok 175 81 (o_cI 156 3 9 84) := ok_cI (site_V kk_175_156 (by decide) kw_1423 kw_1425 ks_39 (fun t ht => by cases ht; exact Or.inl ⟨_, rfl, rfl⟩) d_175_81) rfl
theorem ki_175_80 : js_Ok 175 80 (o_ic 1 81) := js_St.ok (st_iconst rfl d_175_80)
theorem d_176_0 : decode (js_b 176) 0 = .ok (.aload_n 0, 1) := by decide +kernel
theorem d_176_1 : decode (js_b 176) 1 = .ok (.invokevirtual 113, 3) := by decide +kernel
theorem d_176_4 : decode (js_b 176) 4 = .ok (.aload_n 0, 1) := by decide +kernel
theorem d_176_5 : decode (js_b 176) 5 = .ok (.aload_n 0, 1) := by decide +kernel
theorem d_176_6 : decode (js_b 176) 6 = .ok (.iload_n 1, 1) := by decide +kernel
theorem d_176_7 : decode (js_b 176) 7 = .ok (.iload_n 2, 1) := by decide +kernel
theorem d_176_8 : decode (js_b 176) 8 = .ok (.iload_n 3, 1) := by decide +kernel
theorem d_176_9 : decode (js_b 176) 9 = .ok (.invokevirtual 140, 3) := by decide +kernel
theorem d_176_12 : decode (js_b 176) 12 = .ok (.invokevirtual 120, 3) := by decide +kernel
theorem d_176_15 : decode (js_b 176) 15 = .ok (.ireturn, 1) := by decide +kernel
theorem ki_176_15 : js_Ok 176 15 (o_rI) := ok_rI rfl d_176_15
theorem ki_176_12 : js_Ok 176 12 (o_cI 137 2 9 15) := ok_cI (site_V kk_176_137 (by decide) kw_1336 kw_1338 ks_30 (fun t ht => by cases ht; exact Or.inl ⟨_, rfl, rfl⟩) d_176_12) rfl
theorem ki_176_9 : js_Ok 176 9 (o_cI 175 4 9 12) := ok_cI (site_V kk_176_175 (by decide) kw_1412 kw_1414 ks_37 (fun t ht => by cases ht; exact Or.inl ⟨_, rfl, rfl⟩) d_176_9) rfl
theorem ki_176_8 : js_Ok 176 8 (o_il 3 9) := js_St.ok (st_iloadn rfl d_176_8)
theorem ki_176_7 : js_Ok 176 7 (o_il 2 8) := js_St.ok (st_iloadn rfl d_176_7)
theorem ki_176_6 : js_Ok 176 6 (o_il 1 7) := js_St.ok (st_iloadn rfl d_176_6)
theorem ki_176_5 : js_Ok 176 5 (o_al 0 6) := js_St.ok (st_aloadn rfl d_176_5)
theorem ki_176_4 : js_Ok 176 4 (o_al 0 5) := js_St.ok (st_aloadn rfl d_176_4)
theorem ki_176_1 : js_Ok 176 1 (o_cV 136 1 9 4) := ok_cV (site_V kk_176_136 (by decide) kw_1293 kw_1295 ks_21 (fun t ht => by cases ht; exact Or.inl ⟨_, rfl, rfl⟩) d_176_1) rfl
theorem ki_176_0 : js_Ok 176 0 (o_al 0 1) := js_St.ok (st_aloadn rfl d_176_0)
theorem d_177_0 : decode (js_b 177) 0 = .ok (.aload_n 0, 1) := by decide +kernel
theorem d_177_1 : decode (js_b 177) 1 = .ok (.iload_n 1, 1) := by decide +kernel
theorem d_177_2 : decode (js_b 177) 2 = .ok (.invokevirtual 55, 3) := by decide +kernel
theorem d_177_5 : decode (js_b 177) 5 = .ok (.istore_n 2, 1) := by decide +kernel
theorem d_177_6 : decode (js_b 177) 6 = .ok (.iload_n 2, 1) := by decide +kernel
theorem d_177_7 : decode (js_b 177) 7 = .ok (.ifCond .ge 9, 3) := by decide +kernel
theorem d_177_10 : decode (js_b 177) 10 = .ok (.aload_n 0, 1) := by decide +kernel
theorem d_177_11 : decode (js_b 177) 11 = .ok (.iconst 1, 1) := by decide +kernel
theorem d_177_12 : decode (js_b 177) 12 = .ok (.invokevirtual 102, 3) := by decide +kernel
theorem d_177_15 : decode (js_b 177) 15 = .ok (.ireturn, 1) := by decide +kernel
theorem d_177_16 : decode (js_b 177) 16 = .ok (.aload_n 0, 1) := by decide +kernel
theorem d_177_17 : decode (js_b 177) 17 = .ok (.iload_n 2, 1) := by decide +kernel
theorem d_177_18 : decode (js_b 177) 18 = .ok (.invokevirtual 59, 3) := by decide +kernel
theorem d_177_21 : decode (js_b 177) 21 = .ok (.ifCond .ne 9, 3) := by decide +kernel
theorem d_177_24 : decode (js_b 177) 24 = .ok (.aload_n 0, 1) := by decide +kernel
theorem d_177_25 : decode (js_b 177) 25 = .ok (.iconst 2, 1) := by decide +kernel
theorem d_177_26 : decode (js_b 177) 26 = .ok (.invokevirtual 102, 3) := by decide +kernel
theorem d_177_29 : decode (js_b 177) 29 = .ok (.ireturn, 1) := by decide +kernel
theorem d_177_30 : decode (js_b 177) 30 = .ok (.aload_n 0, 1) := by decide +kernel
theorem d_177_31 : decode (js_b 177) 31 = .ok (.iload_n 2, 1) := by decide +kernel
theorem d_177_32 : decode (js_b 177) 32 = .ok (.bipush 7, 2) := by decide +kernel
theorem d_177_34 : decode (js_b 177) 34 = .ok (.invokevirtual 51, 3) := by decide +kernel
theorem d_177_37 : decode (js_b 177) 37 = .ok (.iconst 1, 1) := by decide +kernel
theorem d_177_38 : decode (js_b 177) 38 = .ok (.isub, 1) := by decide +kernel
theorem d_177_39 : decode (js_b 177) 39 = .ok (.istore_n 3, 1) := by decide +kernel
theorem d_177_40 : decode (js_b 177) 40 = .ok (.aload_n 0, 1) := by decide +kernel
theorem d_177_41 : decode (js_b 177) 41 = .ok (.iload_n 3, 1) := by decide +kernel
theorem d_177_42 : decode (js_b 177) 42 = .ok (.iconst 1, 1) := by decide +kernel
theorem d_177_43 : decode (js_b 177) 43 = .ok (.invokevirtual 93, 3) := by decide +kernel
theorem d_177_46 : decode (js_b 177) 46 = .ok (.istore 4, 2) := by decide +kernel
theorem d_177_48 : decode (js_b 177) 48 = .ok (.aload_n 0, 1) := by decide +kernel
theorem d_177_49 : decode (js_b 177) 49 = .ok (.getfield 9, 3) := by decide +kernel
theorem d_177_52 : decode (js_b 177) 52 = .ok (.sipush 161, 3) := by decide +kernel
theorem d_177_55 : decode (js_b 177) 55 = .ok (.iload_n 3, 1) := by decide +kernel
theorem d_177_56 : decode (js_b 177) 56 = .ok (.iadd, 1) := by decide +kernel
theorem d_177_57 : decode (js_b 177) 57 = .ok (.iconst 0, 1) := by decide +kernel
theorem d_177_58 : decode (js_b 177) 58 = .ok (.iastore, 1) := by decide +kernel
theorem d_177_59 : decode (js_b 177) 59 = .ok (.aload_n 0, 1) := by decide +kernel
theorem d_177_60 : decode (js_b 177) 60 = .ok (.iload_n 2, 1) := by decide +kernel
theorem d_177_61 : decode (js_b 177) 61 = .ok (.bipush 7, 2) := by decide +kernel
theorem d_177_63 : decode (js_b 177) 63 = .ok (.iconst 0, 1) := by decide +kernel
theorem d_177_64 : decode (js_b 177) 64 = .ok (.invokevirtual 109, 3) := by decide +kernel
theorem d_177_67 : decode (js_b 177) 67 = .ok (.iload 4, 2) := by decide +kernel
theorem d_177_69 : decode (js_b 177) 69 = .ok (.ireturn, 1) := by decide +kernel
theorem ki_177_15 : js_Ok 177 15 (o_rI) := ok_rI rfl d_177_15
theorem ki_177_12 : js_Ok 177 12 (o_cI 138 2 9 15) := ok_cI (site_V kk_177_138 (by decide) kw_1308 kw_1310 ks_23 (fun t ht => by cases ht; exact Or.inl ⟨_, rfl, rfl⟩) d_177_12) rfl
theorem ki_177_11 : js_Ok 177 11 (o_ic 1 12) := js_St.ok (st_iconst rfl d_177_11)
theorem ki_177_10 : js_Ok 177 10 (o_al 0 11) := js_St.ok (st_aloadn rfl d_177_10)
theorem ki_177_7 : js_Ok 177 7 (o_ge 16 10) := js_St.ok (st_ifge (by decide) d_177_7)
theorem ki_177_6 : js_Ok 177 6 (o_il 2 7) := js_St.ok (st_iloadn rfl d_177_6)
theorem ki_177_5 : js_Ok 177 5 (o_is 2 6) := js_St.ok (st_istoren rfl (Nat.le_of_ble_eq_true rfl) d_177_5)
theorem ki_177_2 : js_Ok 177 2 (o_cI 144 2 9 5) := ok_cI (site_V kk_177_144 (by decide) kw_1348 kw_1350 ks_32 (fun t ht => by cases ht; exact Or.inl ⟨_, rfl, rfl⟩) d_177_2) rfl
theorem ki_177_1 : js_Ok 177 1 (o_il 1 2) := js_St.ok (st_iloadn rfl d_177_1)
theorem ki_177_0 : js_Ok 177 0 (o_al 0 1) := js_St.ok (st_aloadn rfl d_177_0)
theorem ki_177_31 : js_Ok 177 31 (o_il 2 32) := js_St.ok (st_iloadn rfl d_177_31)
theorem ki_177_30 : js_Ok 177 30 (o_al 0 31) := js_St.ok (st_aloadn rfl d_177_30)
theorem ki_177_29 : js_Ok 177 29 (o_rI) := ok_rI rfl d_177_29
theorem ki_177_26 : js_Ok 177 26 (o_cI 138 2 9 29) := ok_cI (site_V kk_177_138 (by decide) kw_1308 kw_1310 ks_23 (fun t ht => by cases ht; exact Or.inl ⟨_, rfl, rfl⟩) d_177_26) rfl
theorem ki_177_25 : js_Ok 177 25 (o_ic 2 26) := js_St.ok (st_iconst rfl d_177_25)
theorem ki_177_24 : js_Ok 177 24 (o_al 0 25) := js_St.ok (st_aloadn rfl d_177_24)
theorem ki_177_21 : js_Ok 177 21 (o_ne 30 24) := js_St.ok (st_ifne (by decide) d_177_21)
theorem ki_177_18 : js_Ok 177 18 (o_cI 145 2 9 21) := ok_cI (site_V kk_177_145 (by decide) kw_1328 kw_1330 ks_28 (fun t ht => by cases ht; exact Or.inl ⟨_, rfl, rfl⟩) d_177_18) rfl
theorem ki_177_17 : js_Ok 177 17 (o_il 2 18) := js_St.ok (st_iloadn rfl d_177_17)
theorem ki_177_16 : js_Ok 177 16 (o_al 0 17) := js_St.ok (st_aloadn rfl d_177_16)
theorem ki_177_46 : js_Ok 177 46 (o_is 4 48) := js_St.ok (st_istore (Nat.le_of_ble_eq_true rfl) d_177_46)
theorem ki_177_43 : js_Ok 177 43 (o_cI 156 3 9 46) := ok_cI (site_V kk_177_156 (by decide) kw_1423 kw_1425 ks_39 (fun t ht => by cases ht; exact Or.inl ⟨_, rfl, rfl⟩) d_177_43) rfl
theorem ki_177_42 : js_Ok 177 42 (o_ic 1 43) := js_St.ok (st_iconst rfl d_177_42)
theorem ki_177_41 : js_Ok 177 41 (o_il 3 42) := js_St.ok (st_iloadn rfl d_177_41)
theorem ki_177_40 : js_Ok 177 40 (o_al 0 41) := js_St.ok (st_aloadn rfl d_177_40)
theorem ki_177_39 : js_Ok 177 39 (o_is 3 40) := js_St.ok (st_istoren rfl (Nat.le_of_ble_eq_true rfl) d_177_39)
theorem ki_177_38 : js_Ok 177 38 (o_b2 (fun x y => x - y) 39) := js_St.ok (st_isub d_177_38)
theorem ki_177_37 : js_Ok 177 37 (o_ic 1 38) := js_St.ok (st_iconst rfl d_177_37)
theorem ki_177_34 : js_Ok 177 34 (o_cI 140 3 9 37) := ok_cI (site_V kk_177_140 (by decide) kw_1324 kw_1326 ks_27 (fun t ht => by cases ht; exact Or.inl ⟨_, rfl, rfl⟩) d_177_34) rfl
theorem ki_177_32 : js_Ok 177 32 (o_ic 7 34) := js_St.ok (st_bipush rfl d_177_32)
theorem ki_177_63 : js_Ok 177 63 (o_ic 0 64) := js_St.ok (st_iconst rfl d_177_63)
theorem ki_177_61 : js_Ok 177 61 (o_ic 7 63) := js_St.ok (st_bipush rfl d_177_61)
theorem ki_177_60 : js_Ok 177 60 (o_il 2 61) := js_St.ok (st_iloadn rfl d_177_60)
theorem ki_177_59 : js_Ok 177 59 (o_al 0 60) := js_St.ok (st_aloadn rfl d_177_59)
theorem ki_177_58 : js_Ok 177 58 (o_sI 100 59) := js_St.ok (st_sI d_177_58)
theorem ki_177_57 : js_Ok 177 57 (o_ic 0 58) := js_St.ok (st_iconst rfl d_177_57)
theorem ki_177_56 : js_Ok 177 56 (o_b2 (fun x y => x + y) 57) := js_St.ok (st_iadd d_177_56)
theorem ki_177_55 : js_Ok 177 55 (o_il 3 56) := js_St.ok (st_iloadn rfl d_177_55)
theorem ki_177_52 : js_Ok 177 52 (o_ic 161 55) := js_St.ok (st_sipush rfl d_177_52)
theorem ki_177_49 : js_Ok 177 49 (o_gA 8 0 52) := js_St.ok (st_gA js_c8 (by decide) kw_1233 d_177_49)
theorem ki_177_48 : js_Ok 177 48 (o_al 0 49) := js_St.ok (st_aloadn rfl d_177_48)
theorem ki_177_69 : js_Ok 177 69 (o_rI) := ok_rI rfl d_177_69
theorem ki_177_67 : js_Ok 177 67 (o_il 4 69) := js_St.ok (st_iload d_177_67)
theorem ki_177_64 : js_Ok 177 64 (o_cV 141 4 9 67) := ok_cV (site_V kk_177_141 (by decide) kw_1332 kw_1334 ks_29 (fun t ht => by cases ht; exact Or.inl ⟨_, rfl, rfl⟩) d_177_64) rfl
theorem d_178_0 : decode (js_b 178) 0 = .ok (.aload_n 0, 1) := by decide +kernel
theorem d_178_1 : decode (js_b 178) 1 = .ok (.invokevirtual 113, 3) := by decide +kernel
theorem d_178_4 : decode (js_b 178) 4 = .ok (.aload_n 0, 1) := by decide +kernel
theorem d_178_5 : decode (js_b 178) 5 = .ok (.aload_n 0, 1) := by decide +kernel
theorem d_178_6 : decode (js_b 178) 6 = .ok (.iload_n 1, 1) := by decide +kernel
theorem d_178_7 : decode (js_b 178) 7 = .ok (.invokevirtual 143, 3) := by decide +kernel
theorem d_178_10 : decode (js_b 178) 10 = .ok (.invokevirtual 120, 3) := by decide +kernel
theorem d_178_13 : decode (js_b 178) 13 = .ok (.ireturn, 1) := by decide +kernel
theorem ki_178_13 : js_Ok 178 13 (o_rI) := ok_rI rfl d_178_13
theorem ki_178_10 : js_Ok 178 10 (o_cI 137 2 9 13) := ok_cI (site_V kk_178_137 (by decide) kw_1336 kw_1338 ks_30 (fun t ht => by cases ht; exact Or.inl ⟨_, rfl, rfl⟩) d_178_10) rfl
theorem ki_178_7 : js_Ok 178 7 (o_cI 177 2 9 10) := ok_cI (site_V kk_178_177 (by decide) kw_1446 kw_1448 ks_43 (fun t ht => by cases ht; exact Or.inl ⟨_, rfl, rfl⟩) d_178_7) rfl
theorem ki_178_6 : js_Ok 178 6 (o_il 1 7) := js_St.ok (st_iloadn rfl d_178_6)
theorem ki_178_5 : js_Ok 178 5 (o_al 0 6) := js_St.ok (st_aloadn rfl d_178_5)
theorem ki_178_4 : js_Ok 178 4 (o_al 0 5) := js_St.ok (st_aloadn rfl d_178_4)
theorem ki_178_1 : js_Ok 178 1 (o_cV 136 1 9 4) := ok_cV (site_V kk_178_136 (by decide) kw_1293 kw_1295 ks_21 (fun t ht => by cases ht; exact Or.inl ⟨_, rfl, rfl⟩) d_178_1) rfl
theorem ki_178_0 : js_Ok 178 0 (o_al 0 1) := js_St.ok (st_aloadn rfl d_178_0)
theorem d_179_0 : decode (js_b 179) 0 = .ok (.aload_n 0, 1) := by decide +kernel
theorem d_179_1 : decode (js_b 179) 1 = .ok (.iload_n 1, 1) := by decide +kernel
theorem d_179_2 : decode (js_b 179) 2 = .ok (.invokevirtual 55, 3) := by decide +kernel
theorem d_179_5 : decode (js_b 179) 5 = .ok (.istore_n 3, 1) := by decide +kernel
theorem d_179_6 : decode (js_b 179) 6 = .ok (.iload_n 3, 1) := by decide +kernel
theorem d_179_7 : decode (js_b 179) 7 = .ok (.ifCond .ge 9, 3) := by decide +kernel
theorem d_179_10 : decode (js_b 179) 10 = .ok (.aload_n 0, 1) := by decide +kernel
theorem d_179_11 : decode (js_b 179) 11 = .ok (.iconst 1, 1) := by decide +kernel
theorem d_179_12 : decode (js_b 179) 12 = .ok (.invokevirtual 102, 3) := by decide +kernel
theorem d_179_15 : decode (js_b 179) 15 = .ok (.ireturn, 1) := by decide +kernel
theorem d_179_16 : decode (js_b 179) 16 = .ok (.iload_n 2, 1) := by decide +kernel
theorem d_179_17 : decode (js_b 179) 17 = .ok (.iconst 0, 1) := by decide +kernel
theorem d_179_18 : decode (js_b 179) 18 = .ok (.iconst 3, 1) := by decide +kernel
theorem d_179_19 : decode (js_b 179) 19 = .ok (.invokestatic 69, 3) := by decide +kernel
theorem d_179_22 : decode (js_b 179) 22 = .ok (.ifCond .ne 9, 3) := by decide +kernel
theorem d_179_25 : decode (js_b 179) 25 = .ok (.aload_n 0, 1) := by decide +kernel
theorem d_179_26 : decode (js_b 179) 26 = .ok (.iconst 2, 1) := by decide +kernel
theorem d_179_27 : decode (js_b 179) 27 = .ok (.invokevirtual 102, 3) := by decide +kernel
theorem d_179_30 : decode (js_b 179) 30 = .ok (.ireturn, 1) := by decide +kernel
theorem d_179_31 : decode (js_b 179) 31 = .ok (.aload_n 0, 1) := by decide +kernel
theorem d_179_32 : decode (js_b 179) 32 = .ok (.iload_n 3, 1) := by decide +kernel
theorem d_179_33 : decode (js_b 179) 33 = .ok (.bipush 6, 2) := by decide +kernel
theorem d_179_35 : decode (js_b 179) 35 = .ok (.invokevirtual 51, 3) := by decide +kernel
theorem d_179_38 : decode (js_b 179) 38 = .ok (.istore 4, 2) := by decide +kernel
theorem d_179_40 : decode (js_b 179) 40 = .ok (.aload_n 0, 1) := by decide +kernel
theorem d_179_41 : decode (js_b 179) 41 = .ok (.iload_n 3, 1) := by decide +kernel
theorem d_179_42 : decode (js_b 179) 42 = .ok (.bipush 6, 2) := by decide +kernel
theorem d_179_44 : decode (js_b 179) 44 = .ok (.iload_n 2, 1) := by decide +kernel
theorem d_179_45 : decode (js_b 179) 45 = .ok (.invokevirtual 109, 3) := by decide +kernel
theorem d_179_48 : decode (js_b 179) 48 = .ok (.iload 4, 2) := by decide +kernel
theorem d_179_50 : decode (js_b 179) 50 = .ok (.ireturn, 1) := by decide +kernel
theorem ki_179_15 : js_Ok 179 15 (o_rI) := ok_rI rfl d_179_15
theorem ki_179_12 : js_Ok 179 12 (o_cI 138 2 9 15) := ok_cI (site_V kk_179_138 (by decide) kw_1308 kw_1310 ks_23 (fun t ht => by cases ht; exact Or.inl ⟨_, rfl, rfl⟩) d_179_12) rfl
theorem ki_179_11 : js_Ok 179 11 (o_ic 1 12) := js_St.ok (st_iconst rfl d_179_11)
theorem ki_179_10 : js_Ok 179 10 (o_al 0 11) := js_St.ok (st_aloadn rfl d_179_10)
theorem ki_179_7 : js_Ok 179 7 (o_ge 16 10) := js_St.ok (st_ifge (by decide) d_179_7)
theorem ki_179_6 : js_Ok 179 6 (o_il 3 7) := js_St.ok (st_iloadn rfl d_179_6)
theorem ki_179_5 : js_Ok 179 5 (o_is 3 6) := js_St.ok (st_istoren rfl (Nat.le_of_ble_eq_true rfl) d_179_5)
theorem ki_179_2 : js_Ok 179 2 (o_cI 144 2 9 5) := ok_cI (site_V kk_179_144 (by decide) kw_1348 kw_1350 ks_32 (fun t ht => by cases ht; exact Or.inl ⟨_, rfl, rfl⟩) d_179_2) rfl
theorem ki_179_1 : js_Ok 179 1 (o_il 1 2) := js_St.ok (st_iloadn rfl d_179_1)
theorem ki_179_0 : js_Ok 179 0 (o_al 0 1) := js_St.ok (st_aloadn rfl d_179_0)
theorem ki_179_31 : js_Ok 179 31 (o_al 0 32) := js_St.ok (st_aloadn rfl d_179_31)
theorem ki_179_30 : js_Ok 179 30 (o_rI) := ok_rI rfl d_179_30
theorem ki_179_27 : js_Ok 179 27 (o_cI 138 2 9 30) := ok_cI (site_V kk_179_138 (by decide) kw_1308 kw_1310 ks_23 (fun t ht => by cases ht; exact Or.inl ⟨_, rfl, rfl⟩) d_179_27) rfl
theorem ki_179_26 : js_Ok 179 26 (o_ic 2 27) := js_St.ok (st_iconst rfl d_179_26)
theorem ki_179_25 : js_Ok 179 25 (o_al 0 26) := js_St.ok (st_aloadn rfl d_179_25)
theorem ki_179_22 : js_Ok 179 22 (o_ne 31 25) := js_St.ok (st_ifne (by decide) d_179_22)
theorem ki_179_19 : js_Ok 179 19 (o_cI 135 3 0 22) := ok_cI (site_S kk_179_135 kw_1302 kw_1303 d_179_19) rfl
theorem ki_179_18 : js_Ok 179 18 (o_ic 3 19) := js_St.ok (st_iconst rfl d_179_18)
theorem ki_179_17 : js_Ok 179 17 (o_ic 0 18) := js_St.ok (st_iconst rfl d_179_17)
theorem ki_179_16 : js_Ok 179 16 (o_il 2 17) := js_St.ok (st_iloadn rfl d_179_16)
theorem ki_179_45 : js_Ok 179 45 (o_cV 141 4 9 48) := ok_cV (site_V kk_179_141 (by decide) kw_1332 kw_1334 ks_29 (fun t ht => by cases ht; exact Or.inl ⟨_, rfl, rfl⟩) d_179_45) rfl
theorem ki_179_44 : js_Ok 179 44 (o_il 2 45) := js_St.ok (st_iloadn rfl d_179_44)
theorem ki_179_42 : js_Ok 179 42 (o_ic 6 44) := js_St.ok (st_bipush rfl d_179_42)
theorem ki_179_41 : js_Ok 179 41 (o_il 3 42) := js_St.ok (st_iloadn rfl d_179_41)
theorem ki_179_40 : js_Ok 179 40 (o_al 0 41) := js_St.ok (st_aloadn rfl d_179_40)
theorem ki_179_38 : js_Ok 179 38 (o_is 4 40) := js_St.ok (st_istore (Nat.le_of_ble_eq_true rfl) d_179_38)
theorem ki_179_35 : js_Ok 179 35 (o_cI 140 3 9 38) := ok_cI (site_V kk_179_140 (by decide) kw_1324 kw_1326 ks_27 (fun t ht => by cases ht; exact Or.inl ⟨_, rfl, rfl⟩) d_179_35) rfl
theorem ki_179_33 : js_Ok 179 33 (o_ic 6 35) := js_St.ok (st_bipush rfl d_179_33)
theorem ki_179_32 : js_Ok 179 32 (o_il 3 33) := js_St.ok (st_iloadn rfl d_179_32)
theorem ki_179_50 : js_Ok 179 50 (o_rI) := ok_rI rfl d_179_50
theorem ki_179_48 : js_Ok 179 48 (o_il 4 50) := js_St.ok (st_iload d_179_48)
theorem d_180_0 : decode (js_b 180) 0 = .ok (.aload_n 0, 1) := by decide +kernel
theorem d_180_1 : decode (js_b 180) 1 = .ok (.invokevirtual 113, 3) := by decide +kernel
theorem d_180_4 : decode (js_b 180) 4 = .ok (.aload_n 0, 1) := by decide +kernel
theorem d_180_5 : decode (js_b 180) 5 = .ok (.aload_n 0, 1) := by decide +kernel
theorem d_180_6 : decode (js_b 180) 6 = .ok (.iload_n 1, 1) := by decide +kernel
theorem d_180_7 : decode (js_b 180) 7 = .ok (.iload_n 2, 1) := by decide +kernel
theorem d_180_8 : decode (js_b 180) 8 = .ok (.invokevirtual 146, 3) := by decide +kernel
theorem d_180_11 : decode (js_b 180) 11 = .ok (.invokevirtual 120, 3) := by decide +kernel
theorem d_180_14 : decode (js_b 180) 14 = .ok (.ireturn, 1) := by decide +kernel
theorem ki_180_14 : js_Ok 180 14 (o_rI) := ok_rI rfl d_180_14
theorem ki_180_11 : js_Ok 180 11 (o_cI 137 2 9 14) := ok_cI (site_V kk_180_137 (by decide) kw_1336 kw_1338 ks_30 (fun t ht => by cases ht; exact Or.inl ⟨_, rfl, rfl⟩) d_180_11) rfl
theorem ki_180_8 : js_Ok 180 8 (o_cI 179 3 9 11) := ok_cI (site_V kk_180_179 (by decide) kw_1454 kw_1456 ks_44 (fun t ht => by cases ht; exact Or.inl ⟨_, rfl, rfl⟩) d_180_8) rfl
theorem ki_180_7 : js_Ok 180 7 (o_il 2 8) := js_St.ok (st_iloadn rfl d_180_7)
theorem ki_180_6 : js_Ok 180 6 (o_il 1 7) := js_St.ok (st_iloadn rfl d_180_6)
theorem ki_180_5 : js_Ok 180 5 (o_al 0 6) := js_St.ok (st_aloadn rfl d_180_5)
theorem ki_180_4 : js_Ok 180 4 (o_al 0 5) := js_St.ok (st_aloadn rfl d_180_4)
theorem ki_180_1 : js_Ok 180 1 (o_cV 136 1 9 4) := ok_cV (site_V kk_180_136 (by decide) kw_1293 kw_1295 ks_21 (fun t ht => by cases ht; exact Or.inl ⟨_, rfl, rfl⟩) d_180_1) rfl
theorem ki_180_0 : js_Ok 180 0 (o_al 0 1) := js_St.ok (st_aloadn rfl d_180_0)
theorem d_181_0 : decode (js_b 181) 0 = .ok (.aload_n 0, 1) := by decide +kernel
theorem d_181_1 : decode (js_b 181) 1 = .ok (.iload_n 1, 1) := by decide +kernel
theorem d_181_2 : decode (js_b 181) 2 = .ok (.invokevirtual 55, 3) := by decide +kernel
theorem d_181_5 : decode (js_b 181) 5 = .ok (.istore_n 3, 1) := by decide +kernel
theorem d_181_6 : decode (js_b 181) 6 = .ok (.aload_n 0, 1) := by decide +kernel
theorem d_181_7 : decode (js_b 181) 7 = .ok (.iload_n 2, 1) := by decide +kernel
theorem d_181_8 : decode (js_b 181) 8 = .ok (.invokevirtual 55, 3) := by decide +kernel
theorem d_181_11 : decode (js_b 181) 11 = .ok (.istore 4, 2) := by decide +kernel
theorem d_181_13 : decode (js_b 181) 13 = .ok (.iload_n 3, 1) := by decide +kernel
theorem d_181_14 : decode (js_b 181) 14 = .ok (.ifCond .lt 8, 3) := by decide +kernel
theorem d_181_17 : decode (js_b 181) 17 = .ok (.iload 4, 2) := by decide +kernel
theorem d_181_19 : decode (js_b 181) 19 = .ok (.ifCond .ge 9, 3) := by decide +kernel
theorem d_181_22 : decode (js_b 181) 22 = .ok (.aload_n 0, 1) := by decide +kernel
theorem d_181_23 : decode (js_b 181) 23 = .ok (.iconst 1, 1) := by decide +kernel
theorem d_181_24 : decode (js_b 181) 24 = .ok (.invokevirtual 102, 3) := by decide +kernel
theorem d_181_27 : decode (js_b 181) 27 = .ok (.ireturn, 1) := by decide +kernel
theorem d_181_28 : decode (js_b 181) 28 = .ok (.iload_n 1, 1) := by decide +kernel
theorem d_181_29 : decode (js_b 181) 29 = .ok (.iload_n 2, 1) := by decide +kernel
theorem d_181_30 : decode (js_b 181) 30 = .ok (.if_icmp .ne 9, 3) := by decide +kernel
theorem d_181_33 : decode (js_b 181) 33 = .ok (.aload_n 0, 1) := by decide +kernel
theorem d_181_34 : decode (js_b 181) 34 = .ok (.iconst 2, 1) := by decide +kernel
theorem d_181_35 : decode (js_b 181) 35 = .ok (.invokevirtual 102, 3) := by decide +kernel
theorem d_181_38 : decode (js_b 181) 38 = .ok (.ireturn, 1) := by decide +kernel
theorem d_181_39 : decode (js_b 181) 39 = .ok (.aload_n 0, 1) := by decide +kernel
theorem d_181_40 : decode (js_b 181) 40 = .ok (.iload_n 3, 1) := by decide +kernel
theorem d_181_41 : decode (js_b 181) 41 = .ok (.invokevirtual 59, 3) := by decide +kernel
theorem d_181_44 : decode (js_b 181) 44 = .ok (.ifCond .eq 12, 3) := by decide +kernel
theorem d_181_47 : decode (js_b 181) 47 = .ok (.aload_n 0, 1) := by decide +kernel
theorem d_181_48 : decode (js_b 181) 48 = .ok (.iload 4, 2) := by decide +kernel
theorem d_181_50 : decode (js_b 181) 50 = .ok (.invokevirtual 59, 3) := by decide +kernel
theorem d_181_53 : decode (js_b 181) 53 = .ok (.ifCond .ne 9, 3) := by decide +kernel
theorem d_181_56 : decode (js_b 181) 56 = .ok (.aload_n 0, 1) := by decide +kernel
theorem d_181_57 : decode (js_b 181) 57 = .ok (.iconst 3, 1) := by decide +kernel
theorem d_181_58 : decode (js_b 181) 58 = .ok (.invokevirtual 102, 3) := by decide +kernel
theorem d_181_61 : decode (js_b 181) 61 = .ok (.ireturn, 1) := by decide +kernel
theorem d_181_62 : decode (js_b 181) 62 = .ok (.aload_n 0, 1) := by decide +kernel
theorem d_181_63 : decode (js_b 181) 63 = .ok (.iload_n 3, 1) := by decide +kernel
theorem d_181_64 : decode (js_b 181) 64 = .ok (.bipush 7, 2) := by decide +kernel
theorem d_181_66 : decode (js_b 181) 66 = .ok (.invokevirtual 51, 3) := by decide +kernel
theorem d_181_69 : decode (js_b 181) 69 = .ok (.iconst 1, 1) := by decide +kernel
theorem d_181_70 : decode (js_b 181) 70 = .ok (.isub, 1) := by decide +kernel
theorem d_181_71 : decode (js_b 181) 71 = .ok (.istore 5, 2) := by decide +kernel
theorem d_181_73 : decode (js_b 181) 73 = .ok (.aload_n 0, 1) := by decide +kernel
theorem d_181_74 : decode (js_b 181) 74 = .ok (.iload_n 3, 1) := by decide +kernel
theorem d_181_75 : decode (js_b 181) 75 = .ok (.aload_n 0, 1) := by decide +kernel
theorem d_181_76 : decode (js_b 181) 76 = .ok (.iload 4, 2) := by decide +kernel
theorem d_181_78 : decode (js_b 181) 78 = .ok (.bipush 7, 2) := by decide +kernel
theorem d_181_80 : decode (js_b 181) 80 = .ok (.invokevirtual 51, 3) := by decide +kernel
theorem d_181_83 : decode (js_b 181) 83 = .ok (.iconst 1, 1) := by decide +kernel
theorem d_181_84 : decode (js_b 181) 84 = .ok (.isub, 1) := by decide +kernel
theorem d_181_85 : decode (js_b 181) 85 = .ok (.invokevirtual 136, 3) := by decide +kernel
theorem d_181_88 : decode (js_b 181) 88 = .ok (.aload_n 0, 1) := by decide +kernel
theorem d_181_89 : decode (js_b 181) 89 = .ok (.iload 4, 2) := by decide +kernel
theorem d_181_91 : decode (js_b 181) 91 = .ok (.iload 5, 2) := by decide +kernel
theorem d_181_93 : decode (js_b 181) 93 = .ok (.invokevirtual 136, 3) := by decide +kernel
theorem d_181_96 : decode (js_b 181) 96 = .ok (.aload_n 0, 1) := by decide +kernel
theorem d_181_97 : decode (js_b 181) 97 = .ok (.iconst 1, 1) := by decide +kernel
theorem d_181_98 : decode (js_b 181) 98 = .ok (.invokevirtual 149, 3) := by decide +kernel
theorem d_181_101 : decode (js_b 181) 101 = .ok (.ireturn, 1) := by decide +kernel
theorem ki_181_14 : js_Ok 181 14 (o_lt 22 17) := js_St.ok (st_iflt (by decide) d_181_14)
theorem ki_181_13 : js_Ok 181 13 (o_il 3 14) := js_St.ok (st_iloadn rfl d_181_13)
theorem ki_181_11 : js_Ok 181 11 (o_is 4 13) := js_St.ok (st_istore (Nat.le_of_ble_eq_true rfl) d_181_11)
theorem ki_181_8 : js_Ok 181 8 (o_cI 144 2 9 11) := ok_cI (site_V kk_181_144 (by decide) kw_1348 kw_1350 ks_32 (fun t ht => by cases ht; exact Or.inl ⟨_, rfl, rfl⟩) d_181_8) rfl
theorem ki_181_7 : js_Ok 181 7 (o_il 2 8) := js_St.ok (st_iloadn rfl d_181_7)
theorem ki_181_6 : js_Ok 181 6 (o_al 0 7) := js_St.ok (st_aloadn rfl d_181_6)
theorem ki_181_5 : js_Ok 181 5 (o_is 3 6) := js_St.ok (st_istoren rfl (Nat.le_of_ble_eq_true rfl) d_181_5)
theorem ki_181_2 : js_Ok 181 2 (o_cI 144 2 9 5) := ok_cI (site_V kk_181_144 (by decide) kw_1348 kw_1350 ks_32 (fun t ht => by cases ht; exact Or.inl ⟨_, rfl, rfl⟩) d_181_2) rfl
theorem ki_181_1 : js_Ok 181 1 (o_il 1 2) := js_St.ok (st_iloadn rfl d_181_1)
theorem ki_181_0 : js_Ok 181 0 (o_al 0 1) := js_St.ok (st_aloadn rfl d_181_0)
theorem ki_181_30 : js_Ok 181 30 (o_cne 39 33) := js_St.ok (st_icne (by decide) d_181_30)
theorem ki_181_29 : js_Ok 181 29 (o_il 2 30) := js_St.ok (st_iloadn rfl d_181_29)
theorem ki_181_28 : js_Ok 181 28 (o_il 1 29) := js_St.ok (st_iloadn rfl d_181_28)
theorem ki_181_27 : js_Ok 181 27 (o_rI) := ok_rI rfl d_181_27
theorem ki_181_24 : js_Ok 181 24 (o_cI 138 2 9 27) := ok_cI (site_V kk_181_138 (by decide) kw_1308 kw_1310 ks_23 (fun t ht => by cases ht; exact Or.inl ⟨_, rfl, rfl⟩) d_181_24) rfl
theorem ki_181_23 : js_Ok 181 23 (o_ic 1 24) := js_St.ok (st_iconst rfl d_181_23)
theorem ki_181_22 : js_Ok 181 22 (o_al 0 23) := js_St.ok (st_aloadn rfl d_181_22)
theorem ki_181_19 : js_Ok 181 19 (o_ge 28 22) := js_St.ok (st_ifge (by decide) d_181_19)
theorem ki_181_17 : js_Ok 181 17 (o_il 4 19) := js_St.ok (st_iload d_181_17)
theorem ki_181_47 : js_Ok 181 47 (o_al 0 48) := js_St.ok (st_aloadn rfl d_181_47)
theorem ki_181_44 : js_Ok 181 44 (o_eq 56 47) := js_St.ok (st_ifeq (by decide) d_181_44)
theorem ki_181_41 : js_Ok 181 41 (o_cI 145 2 9 44) := ok_cI (site_V kk_181_145 (by decide) kw_1328 kw_1330 ks_28 (fun t ht => by cases ht; exact Or.inl ⟨_, rfl, rfl⟩) d_181_41) rfl
theorem ki_181_40 : js_Ok 181 40 (o_il 3 41) := js_St.ok (st_iloadn rfl d_181_40)
theorem ki_181_39 : js_Ok 181 39 (o_al 0 40) := js_St.ok (st_aloadn rfl d_181_39)
theorem ki_181_38 : js_Ok 181 38 (o_rI) := ok_rI rfl d_181_38
theorem ki_181_35 : js_Ok 181 35 (o_cI 138 2 9 38) := ok_cI (site_V kk_181_138 (by decide) kw_1308 kw_1310 ks_23 (fun t ht => by cases ht; exact Or.inl ⟨_, rfl, rfl⟩) d_181_35) rfl
theorem ki_181_34 : js_Ok 181 34 (o_ic 2 35) := js_St.ok (st_iconst rfl d_181_34)
theorem ki_181_33 : js_Ok 181 33 (o_al 0 34) := js_St.ok (st_aloadn rfl d_181_33)
theorem ki_181_63 : js_Ok 181 63 (o_il 3 64) := js_St.ok (st_iloadn rfl d_181_63)
theorem ki_181_62 : js_Ok 181 62 (o_al 0 63) := js_St.ok (st_aloadn rfl d_181_62)
theorem ki_181_61 : js_Ok 181 61 (o_rI) := ok_rI rfl d_181_61
theorem ki_181_58 : js_Ok 181 58 (o_cI 138 2 9 61) := ok_cI (site_V kk_181_138 (by decide) kw_1308 kw_1310 ks_23 (fun t ht => by cases ht; exact Or.inl ⟨_, rfl, rfl⟩) d_181_58) rfl
theorem ki_181_57 : js_Ok 181 57 (o_ic 3 58) := js_St.ok (st_iconst rfl d_181_57)
theorem ki_181_56 : js_Ok 181 56 (o_al 0 57) := js_St.ok (st_aloadn rfl d_181_56)
theorem ki_181_53 : js_Ok 181 53 (o_ne 62 56) := js_St.ok (st_ifne (by decide) d_181_53)
theorem ki_181_50 : js_Ok 181 50 (o_cI 145 2 9 53) := ok_cI (site_V kk_181_145 (by decide) kw_1328 kw_1330 ks_28 (fun t ht => by cases ht; exact Or.inl ⟨_, rfl, rfl⟩) d_181_50) rfl
theorem ki_181_48 : js_Ok 181 48 (o_il 4 50) := js_St.ok (st_iload d_181_48)
theorem ki_181_78 : js_Ok 181 78 (o_ic 7 80) := js_St.ok (st_bipush rfl d_181_78)
theorem ki_181_76 : js_Ok 181 76 (o_il 4 78) := js_St.ok (st_iload d_181_76)
theorem ki_181_75 : js_Ok 181 75 (o_al 0 76) := js_St.ok (st_aloadn rfl d_181_75)
theorem ki_181_74 : js_Ok 181 74 (o_il 3 75) := js_St.ok (st_iloadn rfl d_181_74)
theorem ki_181_73 : js_Ok 181 73 (o_al 0 74) := js_St.ok (st_aloadn rfl d_181_73)
theorem ki_181_71 : js_Ok 181 71 (o_is 5 73) := js_St.ok (st_istore (Nat.le_of_ble_eq_true rfl) d_181_71)
theorem ki_181_70 : js_Ok 181 70 (o_b2 (fun x y => x - y) 71) := js_St.ok (st_isub d_181_70)
theorem ki_181_69 : js_Ok 181 69 (o_ic 1 70) := js_St.ok (st_iconst rfl d_181_69)
theorem ki_181_66 : js_Ok 181 66 (o_cI 140 3 9 69) := ok_cI (site_V kk_181_140 (by decide) kw_1324 kw_1326 ks_27 (fun t ht => by cases ht; exact Or.inl ⟨_, rfl, rfl⟩) d_181_66) rfl
theorem ki_181_64 : js_Ok 181 64 (o_ic 7 66) := js_St.ok (st_bipush rfl d_181_64)
theorem ki_181_93 : js_Ok 181 93 (o_cV 174 3 9 96) := ok_cV (site_V kk_181_174 (by decide) kw_1419 kw_1421 ks_38 (fun t ht => by cases ht; exact Or.inl ⟨_, rfl, rfl⟩) d_181_93) rfl
theorem ki_181_91 : js_Ok 181 91 (o_il 5 93) := js_St.ok (st_iload d_181_91)
theorem ki_181_89 : js_Ok 181 89 (o_il 4 91) := js_St.ok (st_iload d_181_89)
theorem ki_181_88 : js_Ok 181 88 (o_al 0 89) := js_St.ok (st_aloadn rfl d_181_88)
theorem ki_181_85 : js_Ok 181 85 (o_cV 174 3 9 88) := ok_cV (site_V kk_181_174 (by decide) kw_1419 kw_1421 ks_38 (fun t ht => by cases ht; exact Or.inl ⟨_, rfl, rfl⟩) d_181_85) rfl
theorem ki_181_84 : js_Ok 181 84 (o_b2 (fun x y => x - y) 85) := js_St.ok (st_isub d_181_84)
theorem ki_181_83 : js_Ok 181 83 (o_ic 1 84) := js_St.ok (st_iconst rfl d_181_83)
theorem ki_181_80 : js_Ok 181 80 (o_cI 140 3 9 83) := ok_cI (site_V kk_181_140 (by decide) kw_1324 kw_1326 ks_27 (fun t ht => by cases ht; exact Or.inl ⟨_, rfl, rfl⟩) d_181_80) rfl
theorem ki_181_101 : js_Ok 181 101 (o_rI) := ok_rI rfl d_181_101
theorem ki_181_98 : js_Ok 181 98 (o_cI 157 2 9 101) := ok_cI (site_V kk_181_157 (by decide) kw_1466 kw_1468 ks_46 (fun t ht => by cases ht; exact Or.inl ⟨_, rfl, rfl⟩) d_181_98) rfl
theorem ki_181_97 : js_Ok 181 97 (o_ic 1 98) := js_St.ok (st_iconst rfl d_181_97)
theorem ki_181_96 : js_Ok 181 96 (o_al 0 97) := js_St.ok (st_aloadn rfl d_181_96)
theorem d_182_0 : decode (js_b 182) 0 = .ok (.aload_n 0, 1) := by decide +kernel
theorem d_182_1 : decode (js_b 182) 1 = .ok (.invokevirtual 113, 3) := by decide +kernel
theorem d_182_4 : decode (js_b 182) 4 = .ok (.aload_n 0, 1) := by decide +kernel
theorem d_182_5 : decode (js_b 182) 5 = .ok (.aload_n 0, 1) := by decide +kernel
theorem d_182_6 : decode (js_b 182) 6 = .ok (.iload_n 1, 1) := by decide +kernel
theorem d_182_7 : decode (js_b 182) 7 = .ok (.iload_n 2, 1) := by decide +kernel
theorem d_182_8 : decode (js_b 182) 8 = .ok (.invokevirtual 152, 3) := by decide +kernel
theorem d_182_11 : decode (js_b 182) 11 = .ok (.invokevirtual 120, 3) := by decide +kernel
theorem d_182_14 : decode (js_b 182) 14 = .ok (.ireturn, 1) := by decide +kernel
theorem ki_182_14 : js_Ok 182 14 (o_rI) := ok_rI rfl d_182_14
theorem ki_182_11 : js_Ok 182 11 (o_cI 137 2 9 14) := ok_cI (site_V kk_182_137 (by decide) kw_1336 kw_1338 ks_30 (fun t ht => by cases ht; exact Or.inl ⟨_, rfl, rfl⟩) d_182_11) rfl
theorem ki_182_8 : js_Ok 182 8 (o_cI 181 3 9 11) := ok_cI (site_V kk_182_181 (by decide) kw_1462 kw_1464 ks_45 (fun t ht => by cases ht; exact Or.inl ⟨_, rfl, rfl⟩) d_182_8) rfl
theorem ki_182_7 : js_Ok 182 7 (o_il 2 8) := js_St.ok (st_iloadn rfl d_182_7)
theorem ki_182_6 : js_Ok 182 6 (o_il 1 7) := js_St.ok (st_iloadn rfl d_182_6)
theorem ki_182_5 : js_Ok 182 5 (o_al 0 6) := js_St.ok (st_aloadn rfl d_182_5)
theorem ki_182_4 : js_Ok 182 4 (o_al 0 5) := js_St.ok (st_aloadn rfl d_182_4)
theorem ki_182_1 : js_Ok 182 1 (o_cV 136 1 9 4) := ok_cV (site_V kk_182_136 (by decide) kw_1293 kw_1295 ks_21 (fun t ht => by cases ht; exact Or.inl ⟨_, rfl, rfl⟩) d_182_1) rfl
theorem ki_182_0 : js_Ok 182 0 (o_al 0 1) := js_St.ok (st_aloadn rfl d_182_0)
theorem d_183_0 : decode (js_b 183) 0 = .ok (.iconst 0, 1) := by decide +kernel
theorem d_183_1 : decode (js_b 183) 1 = .ok (.istore 4, 2) := by decide +kernel
theorem d_183_3 : decode (js_b 183) 3 = .ok (.iconst 0, 1) := by decide +kernel
theorem d_183_4 : decode (js_b 183) 4 = .ok (.istore 5, 2) := by decide +kernel
theorem d_183_6 : decode (js_b 183) 6 = .ok (.iload 5, 2) := by decide +kernel
theorem d_183_8 : decode (js_b 183) 8 = .ok (.iconst 4, 1) := by decide +kernel
theorem d_183_9 : decode (js_b 183) 9 = .ok (.if_icmp .ge 81, 3) := by decide +kernel
theorem d_183_12 : decode (js_b 183) 12 = .ok (.aload_n 0, 1) := by decide +kernel
theorem d_183_13 : decode (js_b 183) 13 = .ok (.iload_n 2, 1) := by decide +kernel
theorem d_183_14 : decode (js_b 183) 14 = .ok (.iload 5, 2) := by decide +kernel
theorem d_183_16 : decode (js_b 183) 16 = .ok (.invokevirtual 80, 3) := by decide +kernel
theorem d_183_19 : decode (js_b 183) 19 = .ok (.istore 6, 2) := by decide +kernel
theorem d_183_21 : decode (js_b 183) 21 = .ok (.iload 6, 2) := by decide +kernel
theorem d_183_23 : decode (js_b 183) 23 = .ok (.ifCond .lt 61, 3) := by decide +kernel
theorem d_183_26 : decode (js_b 183) 26 = .ok (.iload 4, 2) := by decide +kernel
theorem d_183_28 : decode (js_b 183) 28 = .ok (.aload_n 0, 1) := by decide +kernel
theorem d_183_29 : decode (js_b 183) 29 = .ok (.iload_n 1, 1) := by decide +kernel
theorem d_183_30 : decode (js_b 183) 30 = .ok (.iload 5, 2) := by decide +kernel
theorem d_183_32 : decode (js_b 183) 32 = .ok (.iload_n 3, 1) := by decide +kernel
theorem d_183_33 : decode (js_b 183) 33 = .ok (.invokevirtual 83, 3) := by decide +kernel
theorem d_183_36 : decode (js_b 183) 36 = .ok (.aload_n 0, 1) := by decide +kernel
theorem d_183_37 : decode (js_b 183) 37 = .ok (.iload_n 2, 1) := by decide +kernel
theorem d_183_38 : decode (js_b 183) 38 = .ok (.iload 5, 2) := by decide +kernel
theorem d_183_40 : decode (js_b 183) 40 = .ok (.invokevirtual 87, 3) := by decide +kernel
theorem d_183_43 : decode (js_b 183) 43 = .ok (.iadd, 1) := by decide +kernel
theorem d_183_44 : decode (js_b 183) 44 = .ok (.bipush 15, 2) := by decide +kernel
theorem d_183_46 : decode (js_b 183) 46 = .ok (.if_icmp .ne 7, 3) := by decide +kernel
theorem d_183_49 : decode (js_b 183) 49 = .ok (.iconst 4, 1) := by decide +kernel
theorem d_183_50 : decode (js_b 183) 50 = .ok (.goto 5, 3) := by decide +kernel
theorem d_183_53 : decode (js_b 183) 53 = .ok (.bipush (-3), 2) := by decide +kernel
theorem d_183_55 : decode (js_b 183) 55 = .ok (.iadd, 1) := by decide +kernel
theorem d_183_56 : decode (js_b 183) 56 = .ok (.istore 4, 2) := by decide +kernel
theorem d_183_58 : decode (js_b 183) 58 = .ok (.iload 4, 2) := by decide +kernel
theorem d_183_60 : decode (js_b 183) 60 = .ok (.aload_n 0, 1) := by decide +kernel
theorem d_183_61 : decode (js_b 183) 61 = .ok (.iload_n 1, 1) := by decide +kernel
theorem d_183_62 : decode (js_b 183) 62 = .ok (.iconst 1, 1) := by decide +kernel
theorem d_183_63 : decode (js_b 183) 63 = .ok (.invokevirtual 51, 3) := by decide +kernel
theorem d_183_66 : decode (js_b 183) 66 = .ok (.aload_n 0, 1) := by decide +kernel
theorem d_183_67 : decode (js_b 183) 67 = .ok (.iload 6, 2) := by decide +kernel
theorem d_183_69 : decode (js_b 183) 69 = .ok (.iconst 1, 1) := by decide +kernel
theorem d_183_70 : decode (js_b 183) 70 = .ok (.invokevirtual 51, 3) := by decide +kernel
theorem d_183_73 : decode (js_b 183) 73 = .ok (.if_icmp .ne 7, 3) := by decide +kernel
theorem d_183_76 : decode (js_b 183) 76 = .ok (.iconst 1, 1) := by decide +kernel
theorem d_183_77 : decode (js_b 183) 77 = .ok (.goto 4, 3) := by decide +kernel
theorem d_183_80 : decode (js_b 183) 80 = .ok (.iconst 0, 1) := by decide +kernel
theorem d_183_81 : decode (js_b 183) 81 = .ok (.iadd, 1) := by decide +kernel
theorem d_183_82 : decode (js_b 183) 82 = .ok (.istore 4, 2) := by decide +kernel
theorem d_183_84 : decode (js_b 183) 84 = .ok (.iinc 5 1, 3) := by decide +kernel
theorem d_183_87 : decode (js_b 183) 87 = .ok (.goto (-81), 3) := by decide +kernel
theorem d_183_90 : decode (js_b 183) 90 = .ok (.iload 4, 2) := by decide +kernel
theorem d_183_92 : decode (js_b 183) 92 = .ok (.ireturn, 1) := by decide +kernel
theorem ki_183_14 : js_Ok 183 14 (o_il 5 16) := js_St.ok (st_iload d_183_14)
theorem ki_183_13 : js_Ok 183 13 (o_il 2 14) := js_St.ok (st_iloadn rfl d_183_13)
theorem ki_183_12 : js_Ok 183 12 (o_al 0 13) := js_St.ok (st_aloadn rfl d_183_12)
theorem ki_183_9 : js_Ok 183 9 (o_cge 90 12) := js_St.ok (st_icge (by decide) d_183_9)
theorem ki_183_8 : js_Ok 183 8 (o_ic 4 9) := js_St.ok (st_iconst rfl d_183_8)
theorem ki_183_6 : js_Ok 183 6 (o_il 5 8) := js_St.ok (st_iload d_183_6)
theorem ki_183_4 : js_Ok 183 4 (o_is 5 6) := js_St.ok (st_istore (Nat.le_of_ble_eq_true rfl) d_183_4)
theorem ki_183_3 : js_Ok 183 3 (o_ic 0 4) := js_St.ok (st_iconst rfl d_183_3)
theorem ki_183_1 : js_Ok 183 1 (o_is 4 3) := js_St.ok (st_istore (Nat.le_of_ble_eq_true rfl) d_183_1)
theorem ki_183_0 : js_Ok 183 0 (o_ic 0 1) := js_St.ok (st_iconst rfl d_183_0)
theorem ki_183_30 : js_Ok 183 30 (o_il 5 32) := js_St.ok (st_iload d_183_30)
theorem ki_183_29 : js_Ok 183 29 (o_il 1 30) := js_St.ok (st_iloadn rfl d_183_29)
theorem ki_183_28 : js_Ok 183 28 (o_al 0 29) := js_St.ok (st_aloadn rfl d_183_28)
theorem ki_183_26 : js_Ok 183 26 (o_il 4 28) := js_St.ok (st_iload d_183_26)
theorem ki_183_23 : js_Ok 183 23 (o_lt 84 26) := js_St.ok (st_iflt (by decide) d_183_23)
theorem ki_183_21 : js_Ok 183 21 (o_il 6 23) := js_St.ok (st_iload d_183_21)
theorem ki_183_19 : js_Ok 183 19 (o_is 6 21) := js_St.ok (st_istore (Nat.le_of_ble_eq_true rfl) d_183_19)
theorem ki_183_16 : js_Ok 183 16 (o_cI 152 3 9 19) := ok_cI (site_V kk_183_152 (by decide) kw_1431 kw_1433 ks_41 (fun t ht => by cases ht; exact Or.inl ⟨_, rfl, rfl⟩) d_183_16) rfl
theorem ki_183_46 : js_Ok 183 46 (o_cne 53 49) := js_St.ok (st_icne (by decide) d_183_46)
theorem ki_183_44 : js_Ok 183 44 (o_ic 15 46) := js_St.ok (st_bipush rfl d_183_44)
theorem ki_183_43 : js_Ok 183 43 (o_b2 (fun x y => x + y) 44) := js_St.ok (st_iadd d_183_43)
theorem ki_183_40 : js_Ok 183 40 (o_cI 154 3 9 43) := ok_cI (site_V kk_183_154 (by decide) kw_1438 kw_1440 ks_42 (fun t ht => by cases ht; exact Or.inl ⟨_, rfl, rfl⟩) d_183_40) rfl
theorem ki_183_38 : js_Ok 183 38 (o_il 5 40) := js_St.ok (st_iload d_183_38)
theorem ki_183_37 : js_Ok 183 37 (o_il 2 38) := js_St.ok (st_iloadn rfl d_183_37)
theorem ki_183_36 : js_Ok 183 36 (o_al 0 37) := js_St.ok (st_aloadn rfl d_183_36)
theorem ki_183_33 : js_Ok 183 33 (o_cI 153 4 9 36) := ok_cI (site_V kk_183_153 (by decide) kw_1388 kw_1390 ks_35 (fun t ht => by cases ht; exact Or.inl ⟨_, rfl, rfl⟩) d_183_33) rfl
theorem ki_183_32 : js_Ok 183 32 (o_il 3 33) := js_St.ok (st_iloadn rfl d_183_32)
theorem ki_183_63 : js_Ok 183 63 (o_cI 140 3 9 66) := ok_cI (site_V kk_183_140 (by decide) kw_1324 kw_1326 ks_27 (fun t ht => by cases ht; exact Or.inl ⟨_, rfl, rfl⟩) d_183_63) rfl
theorem ki_183_62 : js_Ok 183 62 (o_ic 1 63) := js_St.ok (st_iconst rfl d_183_62)
theorem ki_183_61 : js_Ok 183 61 (o_il 1 62) := js_St.ok (st_iloadn rfl d_183_61)
theorem ki_183_60 : js_Ok 183 60 (o_al 0 61) := js_St.ok (st_aloadn rfl d_183_60)
theorem ki_183_58 : js_Ok 183 58 (o_il 4 60) := js_St.ok (st_iload d_183_58)
theorem ki_183_56 : js_Ok 183 56 (o_is 4 58) := js_St.ok (st_istore (Nat.le_of_ble_eq_true rfl) d_183_56)
theorem ki_183_55 : js_Ok 183 55 (o_b2 (fun x y => x + y) 56) := js_St.ok (st_iadd d_183_55)
theorem ki_183_53 : js_Ok 183 53 (o_ic (-3) 55) := js_St.ok (st_bipush rfl d_183_53)
theorem ki_183_50 : js_Ok 183 50 (o_go 55) := js_St.ok (st_goto (by decide) d_183_50)
theorem ki_183_49 : js_Ok 183 49 (o_ic 4 50) := js_St.ok (st_iconst rfl d_183_49)
theorem ki_183_77 : js_Ok 183 77 (o_go 81) := js_St.ok (st_goto (by decide) d_183_77)
theorem ki_183_76 : js_Ok 183 76 (o_ic 1 77) := js_St.ok (st_iconst rfl d_183_76)
theorem ki_183_73 : js_Ok 183 73 (o_cne 80 76) := js_St.ok (st_icne (by decide) d_183_73)
theorem ki_183_70 : js_Ok 183 70 (o_cI 140 3 9 73) := ok_cI (site_V kk_183_140 (by decide) kw_1324 kw_1326 ks_27 (fun t ht => by cases ht; exact Or.inl ⟨_, rfl, rfl⟩) d_183_70) rfl
theorem ki_183_69 : js_Ok 183 69 (o_ic 1 70) := js_St.ok (st_iconst rfl d_183_69)
theorem ki_183_67 : js_Ok 183 67 (o_il 6 69) := js_St.ok (st_iload d_183_67)
theorem ki_183_66 : js_Ok 183 66 (o_al 0 67) := js_St.ok (st_aloadn rfl d_183_66)
theorem ki_183_92 : js_Ok 183 92 (o_rI) := ok_rI rfl d_183_92
theorem ki_183_90 : js_Ok 183 90 (o_il 4 92) := js_St.ok (st_iload d_183_90)
theorem ki_183_87 : js_Ok 183 87 (o_go 6) := js_St.ok (st_goto (by decide) d_183_87)
theorem ki_183_84 : js_Ok 183 84 (o_inc 5 1 87) := js_St.ok (st_iinc rfl (Nat.le_of_ble_eq_true rfl) d_183_84)
theorem ki_183_82 : js_Ok 183 82 (o_is 4 84) := js_St.ok (st_istore (Nat.le_of_ble_eq_true rfl) d_183_82)
theorem ki_183_81 : js_Ok 183 81 (o_b2 (fun x y => x + y) 82) := js_St.ok (st_iadd d_183_81)
theorem ki_183_80 : js_Ok 183 80 (o_ic 0 81) := js_St.ok (st_iconst rfl d_183_80)
theorem d_184_0 : decode (js_b 184) 0 = .ok (.iconst 0, 1) := by decide +kernel
theorem d_184_1 : decode (js_b 184) 1 = .ok (.istore_n 3, 1) := by decide +kernel
theorem d_184_2 : decode (js_b 184) 2 = .ok (.iconst 1, 1) := by decide +kernel
theorem d_184_3 : decode (js_b 184) 3 = .ok (.istore 4, 2) := by decide +kernel
theorem d_184_5 : decode (js_b 184) 5 = .ok (.iload 4, 2) := by decide +kernel
theorem d_184_7 : decode (js_b 184) 7 = .ok (.iconst 4, 1) := by decide +kernel
theorem d_184_8 : decode (js_b 184) 8 = .ok (.if_icmp .ge 34, 3) := by decide +kernel
theorem d_184_11 : decode (js_b 184) 11 = .ok (.aload_n 0, 1) := by decide +kernel
theorem d_184_12 : decode (js_b 184) 12 = .ok (.iload_n 1, 1) := by decide +kernel
theorem d_184_13 : decode (js_b 184) 13 = .ok (.iload_n 2, 1) := by decide +kernel
theorem d_184_14 : decode (js_b 184) 14 = .ok (.iload 4, 2) := by decide +kernel
theorem d_184_16 : decode (js_b 184) 16 = .ok (.invokevirtual 155, 3) := by decide +kernel
theorem d_184_19 : decode (js_b 184) 19 = .ok (.aload_n 0, 1) := by decide +kernel
theorem d_184_20 : decode (js_b 184) 20 = .ok (.iload_n 1, 1) := by decide +kernel
theorem d_184_21 : decode (js_b 184) 21 = .ok (.iload_n 2, 1) := by decide +kernel
theorem d_184_22 : decode (js_b 184) 22 = .ok (.iload_n 3, 1) := by decide +kernel
theorem d_184_23 : decode (js_b 184) 23 = .ok (.invokevirtual 155, 3) := by decide +kernel
theorem d_184_26 : decode (js_b 184) 26 = .ok (.if_icmp .le 8, 3) := by decide +kernel
theorem d_184_29 : decode (js_b 184) 29 = .ok (.iload 4, 2) := by decide +kernel
theorem d_184_31 : decode (js_b 184) 31 = .ok (.goto 4, 3) := by decide +kernel
theorem d_184_34 : decode (js_b 184) 34 = .ok (.iload_n 3, 1) := by decide +kernel
theorem d_184_35 : decode (js_b 184) 35 = .ok (.istore_n 3, 1) := by decide +kernel
theorem d_184_36 : decode (js_b 184) 36 = .ok (.iinc 4 1, 3) := by decide +kernel
theorem d_184_39 : decode (js_b 184) 39 = .ok (.goto (-34), 3) := by decide +kernel
theorem d_184_42 : decode (js_b 184) 42 = .ok (.iload_n 3, 1) := by decide +kernel
theorem d_184_43 : decode (js_b 184) 43 = .ok (.ireturn, 1) := by decide +kernel
theorem ki_184_14 : js_Ok 184 14 (o_il 4 16) := js_St.ok (st_iload d_184_14)
theorem ki_184_13 : js_Ok 184 13 (o_il 2 14) := js_St.ok (st_iloadn rfl d_184_13)
theorem ki_184_12 : js_Ok 184 12 (o_il 1 13) := js_St.ok (st_iloadn rfl d_184_12)
theorem ki_184_11 : js_Ok 184 11 (o_al 0 12) := js_St.ok (st_aloadn rfl d_184_11)
theorem ki_184_8 : js_Ok 184 8 (o_cge 42 11) := js_St.ok (st_icge (by decide) d_184_8)
theorem ki_184_7 : js_Ok 184 7 (o_ic 4 8) := js_St.ok (st_iconst rfl d_184_7)
theorem ki_184_5 : js_Ok 184 5 (o_il 4 7) := js_St.ok (st_iload d_184_5)
theorem ki_184_3 : js_Ok 184 3 (o_is 4 5) := js_St.ok (st_istore (Nat.le_of_ble_eq_true rfl) d_184_3)
theorem ki_184_2 : js_Ok 184 2 (o_ic 1 3) := js_St.ok (st_iconst rfl d_184_2)
theorem ki_184_1 : js_Ok 184 1 (o_is 3 2) := js_St.ok (st_istoren rfl (Nat.le_of_ble_eq_true rfl) d_184_1)
theorem ki_184_0 : js_Ok 184 0 (o_ic 0 1) := js_St.ok (st_iconst rfl d_184_0)
theorem ki_184_31 : js_Ok 184 31 (o_go 35) := js_St.ok (st_goto (by decide) d_184_31)
theorem ki_184_29 : js_Ok 184 29 (o_il 4 31) := js_St.ok (st_iload d_184_29)
theorem ki_184_26 : js_Ok 184 26 (o_cle 34 29) := js_St.ok (st_icle (by decide) d_184_26)
theorem ki_184_23 : js_Ok 184 23 (o_cI 183 4 9 26) := ok_cI (site_V kk_184_183 (by decide) kw_1506 kw_1508 ks_55 (fun t ht => by cases ht; exact Or.inl ⟨_, rfl, rfl⟩) d_184_23) rfl
theorem ki_184_22 : js_Ok 184 22 (o_il 3 23) := js_St.ok (st_iloadn rfl d_184_22)
theorem ki_184_21 : js_Ok 184 21 (o_il 2 22) := js_St.ok (st_iloadn rfl d_184_21)
theorem ki_184_20 : js_Ok 184 20 (o_il 1 21) := js_St.ok (st_iloadn rfl d_184_20)
theorem ki_184_19 : js_Ok 184 19 (o_al 0 20) := js_St.ok (st_aloadn rfl d_184_19)
theorem ki_184_16 : js_Ok 184 16 (o_cI 183 4 9 19) := ok_cI (site_V kk_184_183 (by decide) kw_1506 kw_1508 ks_55 (fun t ht => by cases ht; exact Or.inl ⟨_, rfl, rfl⟩) d_184_16) rfl
theorem ki_184_43 : js_Ok 184 43 (o_rI) := ok_rI rfl d_184_43
theorem ki_184_42 : js_Ok 184 42 (o_il 3 43) := js_St.ok (st_iloadn rfl d_184_42)
theorem ki_184_39 : js_Ok 184 39 (o_go 5) := js_St.ok (st_goto (by decide) d_184_39)
theorem ki_184_36 : js_Ok 184 36 (o_inc 4 1 39) := js_St.ok (st_iinc rfl (Nat.le_of_ble_eq_true rfl) d_184_36)
theorem ki_184_35 : js_Ok 184 35 (o_is 3 36) := js_St.ok (st_istoren rfl (Nat.le_of_ble_eq_true rfl) d_184_35)
theorem ki_184_34 : js_Ok 184 34 (o_il 3 35) := js_St.ok (st_iloadn rfl d_184_34)
theorem d_185_0 : decode (js_b 185) 0 = .ok (.aload_n 0, 1) := by decide +kernel
theorem d_185_1 : decode (js_b 185) 1 = .ok (.iload_n 1, 1) := by decide +kernel
theorem d_185_2 : decode (js_b 185) 2 = .ok (.iload_n 2, 1) := by decide +kernel
theorem d_185_3 : decode (js_b 185) 3 = .ok (.aload_n 0, 1) := by decide +kernel
theorem d_185_4 : decode (js_b 185) 4 = .ok (.iload_n 1, 1) := by decide +kernel
theorem d_185_5 : decode (js_b 185) 5 = .ok (.iload_n 2, 1) := by decide +kernel
theorem d_185_6 : decode (js_b 185) 6 = .ok (.invokevirtual 158, 3) := by decide +kernel
theorem d_185_9 : decode (js_b 185) 9 = .ok (.invokevirtual 155, 3) := by decide +kernel
theorem d_185_12 : decode (js_b 185) 12 = .ok (.ireturn, 1) := by decide +kernel
theorem ki_185_12 : js_Ok 185 12 (o_rI) := ok_rI rfl d_185_12
theorem ki_185_9 : js_Ok 185 9 (o_cI 183 4 9 12) := ok_cI (site_V kk_185_183 (by decide) kw_1506 kw_1508 ks_55 (fun t ht => by cases ht; exact Or.inl ⟨_, rfl, rfl⟩) d_185_9) rfl
theorem ki_185_6 : js_Ok 185 6 (o_cI 184 3 9 9) := ok_cI (site_V kk_185_184 (by decide) kw_1502 kw_1504 ks_54 (fun t ht => by cases ht; exact Or.inl ⟨_, rfl, rfl⟩) d_185_6) rfl
theorem ki_185_5 : js_Ok 185 5 (o_il 2 6) := js_St.ok (st_iloadn rfl d_185_5)
theorem ki_185_4 : js_Ok 185 4 (o_il 1 5) := js_St.ok (st_iloadn rfl d_185_4)
theorem ki_185_3 : js_Ok 185 3 (o_al 0 4) := js_St.ok (st_aloadn rfl d_185_3)
theorem ki_185_2 : js_Ok 185 2 (o_il 2 3) := js_St.ok (st_iloadn rfl d_185_2)
theorem ki_185_1 : js_Ok 185 1 (o_il 1 2) := js_St.ok (st_iloadn rfl d_185_1)
theorem ki_185_0 : js_Ok 185 0 (o_al 0 1) := js_St.ok (st_aloadn rfl d_185_0)
theorem d_186_0 : decode (js_b 186) 0 = .ok (.aload_n 0, 1) := by decide +kernel
theorem d_186_1 : decode (js_b 186) 1 = .ok (.iload_n 1, 1) := by decide +kernel
theorem d_186_2 : decode (js_b 186) 2 = .ok (.iload_n 3, 1) := by decide +kernel
theorem d_186_3 : decode (js_b 186) 3 = .ok (.invokevirtual 161, 3) := by decide +kernel
theorem d_186_6 : decode (js_b 186) 6 = .ok (.aload_n 0, 1) := by decide +kernel
theorem d_186_7 : decode (js_b 186) 7 = .ok (.iload_n 2, 1) := by decide +kernel
theorem d_186_8 : decode (js_b 186) 8 = .ok (.iload_n 3, 1) := by decide +kernel
theorem d_186_9 : decode (js_b 186) 9 = .ok (.invokevirtual 161, 3) := by decide +kernel
theorem d_186_12 : decode (js_b 186) 12 = .ok (.isub, 1) := by decide +kernel
theorem d_186_13 : decode (js_b 186) 13 = .ok (.istore 4, 2) := by decide +kernel
theorem d_186_15 : decode (js_b 186) 15 = .ok (.iload 4, 2) := by decide +kernel
theorem d_186_17 : decode (js_b 186) 17 = .ok (.ifCond .gt 21, 3) := by decide +kernel
theorem d_186_20 : decode (js_b 186) 20 = .ok (.iload 4, 2) := by decide +kernel
theorem d_186_22 : decode (js_b 186) 22 = .ok (.ifCond .ne 20, 3) := by decide +kernel
theorem d_186_25 : decode (js_b 186) 25 = .ok (.aload_n 0, 1) := by decide +kernel
theorem d_186_26 : decode (js_b 186) 26 = .ok (.iload_n 1, 1) := by decide +kernel
theorem d_186_27 : decode (js_b 186) 27 = .ok (.invokevirtual 130, 3) := by decide +kernel
theorem d_186_30 : decode (js_b 186) 30 = .ok (.aload_n 0, 1) := by decide +kernel
theorem d_186_31 : decode (js_b 186) 31 = .ok (.iload_n 2, 1) := by decide +kernel
theorem d_186_32 : decode (js_b 186) 32 = .ok (.invokevirtual 130, 3) := by decide +kernel
theorem d_186_35 : decode (js_b 186) 35 = .ok (.if_icmp .ge 7, 3) := by decide +kernel
theorem d_186_38 : decode (js_b 186) 38 = .ok (.iconst 1, 1) := by decide +kernel
theorem d_186_39 : decode (js_b 186) 39 = .ok (.goto 4, 3) := by decide +kernel
theorem d_186_42 : decode (js_b 186) 42 = .ok (.iconst 0, 1) := by decide +kernel
theorem d_186_43 : decode (js_b 186) 43 = .ok (.ireturn, 1) := by decide +kernel
theorem ki_186_15 : js_Ok 186 15 (o_il 4 17) := js_St.ok (st_iload d_186_15)
theorem ki_186_13 : js_Ok 186 13 (o_is 4 15) := js_St.ok (st_istore (Nat.le_of_ble_eq_true rfl) d_186_13)
theorem ki_186_12 : js_Ok 186 12 (o_b2 (fun x y => x - y) 13) := js_St.ok (st_isub d_186_12)
theorem ki_186_9 : js_Ok 186 9 (o_cI 185 3 9 12) := ok_cI (site_V kk_186_185 (by decide) kw_1498 kw_1500 ks_53 (fun t ht => by cases ht; exact Or.inl ⟨_, rfl, rfl⟩) d_186_9) rfl
theorem ki_186_8 : js_Ok 186 8 (o_il 3 9) := js_St.ok (st_iloadn rfl d_186_8)
theorem ki_186_7 : js_Ok 186 7 (o_il 2 8) := js_St.ok (st_iloadn rfl d_186_7)
theorem ki_186_6 : js_Ok 186 6 (o_al 0 7) := js_St.ok (st_aloadn rfl d_186_6)
theorem ki_186_3 : js_Ok 186 3 (o_cI 185 3 9 6) := ok_cI (site_V kk_186_185 (by decide) kw_1498 kw_1500 ks_53 (fun t ht => by cases ht; exact Or.inl ⟨_, rfl, rfl⟩) d_186_3) rfl
theorem ki_186_2 : js_Ok 186 2 (o_il 3 3) := js_St.ok (st_iloadn rfl d_186_2)
theorem ki_186_1 : js_Ok 186 1 (o_il 1 2) := js_St.ok (st_iloadn rfl d_186_1)
theorem ki_186_0 : js_Ok 186 0 (o_al 0 1) := js_St.ok (st_aloadn rfl d_186_0)
theorem ki_186_31 : js_Ok 186 31 (o_il 2 32) := js_St.ok (st_iloadn rfl d_186_31)
theorem ki_186_30 : js_Ok 186 30 (o_al 0 31) := js_St.ok (st_aloadn rfl d_186_30)
theorem ki_186_27 : js_Ok 186 27 (o_cI 143 2 9 30) := ok_cI (site_V kk_186_143 (by decide) kw_1368 kw_1370 ks_34 (fun t ht => by cases ht; exact Or.inl ⟨_, rfl, rfl⟩) d_186_27) rfl
theorem ki_186_26 : js_Ok 186 26 (o_il 1 27) := js_St.ok (st_iloadn rfl d_186_26)
theorem ki_186_25 : js_Ok 186 25 (o_al 0 26) := js_St.ok (st_aloadn rfl d_186_25)
theorem ki_186_22 : js_Ok 186 22 (o_ne 42 25) := js_St.ok (st_ifne (by decide) d_186_22)
theorem ki_186_20 : js_Ok 186 20 (o_il 4 22) := js_St.ok (st_iload d_186_20)
theorem ki_186_17 : js_Ok 186 17 (o_gt 38 20) := js_St.ok (st_ifgt (by decide) d_186_17)
theorem ki_186_43 : js_Ok 186 43 (o_rZ) := ok_rZ rfl d_186_43
theorem ki_186_42 : js_Ok 186 42 (o_ic 0 43) := js_St.ok (st_iconst rfl d_186_42)
theorem ki_186_39 : js_Ok 186 39 (o_go 43) := js_St.ok (st_goto (by decide) d_186_39)
theorem ki_186_38 : js_Ok 186 38 (o_ic 1 39) := js_St.ok (st_iconst rfl d_186_38)
theorem ki_186_35 : js_Ok 186 35 (o_cge 42 38) := js_St.ok (st_icge (by decide) d_186_35)
theorem ki_186_32 : js_Ok 186 32 (o_cI 143 2 9 35) := ok_cI (site_V kk_186_143 (by decide) kw_1368 kw_1370 ks_34 (fun t ht => by cases ht; exact Or.inl ⟨_, rfl, rfl⟩) d_186_32) rfl
theorem d_187_0 : decode (js_b 187) 0 = .ok (.iconst (-1), 1) := by decide +kernel
theorem d_187_1 : decode (js_b 187) 1 = .ok (.istore_n 2, 1) := by decide +kernel
theorem d_187_2 : decode (js_b 187) 2 = .ok (.iconst 0, 1) := by decide +kernel
theorem d_187_3 : decode (js_b 187) 3 = .ok (.istore_n 3, 1) := by decide +kernel
theorem d_187_4 : decode (js_b 187) 4 = .ok (.iload_n 3, 1) := by decide +kernel
theorem d_187_5 : decode (js_b 187) 5 = .ok (.bipush 20, 2) := by decide +kernel
theorem d_187_7 : decode (js_b 187) 7 = .ok (.if_icmp .ge 37, 3) := by decide +kernel
theorem d_187_10 : decode (js_b 187) 10 = .ok (.aload_n 0, 1) := by decide +kernel
theorem d_187_11 : decode (js_b 187) 11 = .ok (.iload_n 3, 1) := by decide +kernel
theorem d_187_12 : decode (js_b 187) 12 = .ok (.invokevirtual 66, 3) := by decide +kernel
theorem d_187_15 : decode (js_b 187) 15 = .ok (.ifCond .eq 21, 3) := by decide +kernel
theorem d_187_18 : decode (js_b 187) 18 = .ok (.iload_n 2, 1) := by decide +kernel
theorem d_187_19 : decode (js_b 187) 19 = .ok (.ifCond .lt 13, 3) := by decide +kernel
theorem d_187_22 : decode (js_b 187) 22 = .ok (.aload_n 0, 1) := by decide +kernel
theorem d_187_23 : decode (js_b 187) 23 = .ok (.iload_n 3, 1) := by decide +kernel
theorem d_187_24 : decode (js_b 187) 24 = .ok (.iload_n 2, 1) := by decide +kernel
theorem d_187_25 : decode (js_b 187) 25 = .ok (.iload_n 1, 1) := by decide +kernel
theorem d_187_26 : decode (js_b 187) 26 = .ok (.invokevirtual 164, 3) := by decide +kernel
theorem d_187_29 : decode (js_b 187) 29 = .ok (.ifCond .eq 7, 3) := by decide +kernel
theorem d_187_32 : decode (js_b 187) 32 = .ok (.iload_n 3, 1) := by decide +kernel
theorem d_187_33 : decode (js_b 187) 33 = .ok (.goto 4, 3) := by decide +kernel
theorem d_187_36 : decode (js_b 187) 36 = .ok (.iload_n 2, 1) := by decide +kernel
theorem d_187_37 : decode (js_b 187) 37 = .ok (.istore_n 2, 1) := by decide +kernel
theorem d_187_38 : decode (js_b 187) 38 = .ok (.iinc 3 1, 3) := by decide +kernel
theorem d_187_41 : decode (js_b 187) 41 = .ok (.goto (-37), 3) := by decide +kernel
theorem d_187_44 : decode (js_b 187) 44 = .ok (.iload_n 2, 1) := by decide +kernel
theorem d_187_45 : decode (js_b 187) 45 = .ok (.ireturn, 1) := by decide +kernel
theorem ki_187_15 : js_Ok 187 15 (o_eq 36 18) := js_St.ok (st_ifeq (by decide) d_187_15)
theorem ki_187_12 : js_Ok 187 12 (o_cI 147 2 9 15) := ok_cI (site_V kk_187_147 (by decide) kw_1316 kw_1318 ks_25 (fun t ht => by cases ht; exact Or.inl ⟨_, rfl, rfl⟩) d_187_12) rfl
theorem ki_187_11 : js_Ok 187 11 (o_il 3 12) := js_St.ok (st_iloadn rfl d_187_11)
theorem ki_187_10 : js_Ok 187 10 (o_al 0 11) := js_St.ok (st_aloadn rfl d_187_10)
theorem ki_187_7 : js_Ok 187 7 (o_cge 44 10) := js_St.ok (st_icge (by decide) d_187_7)
theorem ki_187_5 : js_Ok 187 5 (o_ic 20 7) := js_St.ok (st_bipush rfl d_187_5)
theorem ki_187_4 : js_Ok 187 4 (o_il 3 5) := js_St.ok (st_iloadn rfl d_187_4)
theorem ki_187_3 : js_Ok 187 3 (o_is 3 4) := js_St.ok (st_istoren rfl (Nat.le_of_ble_eq_true rfl) d_187_3)
theorem ki_187_2 : js_Ok 187 2 (o_ic 0 3) := js_St.ok (st_iconst rfl d_187_2)
theorem ki_187_1 : js_Ok 187 1 (o_is 2 2) := js_St.ok (st_istoren rfl (Nat.le_of_ble_eq_true rfl) d_187_1)
theorem ki_187_0 : js_Ok 187 0 (o_ic (-1) 1) := js_St.ok (st_iconst rfl d_187_0)
theorem ki_187_29 : js_Ok 187 29 (o_eq 36 32) := js_St.ok (st_ifeq (by decide) d_187_29)
theorem ki_187_26 : js_Ok 187 26 (o_cI 186 4 9 29) := ok_cI (site_V kk_187_186 (by decide) kw_1494 kw_1496 ks_52 (fun t ht => by cases ht; exact Or.inl ⟨_, rfl, rfl⟩) d_187_26) rfl
theorem ki_187_25 : js_Ok 187 25 (o_il 1 26) := js_St.ok (st_iloadn rfl d_187_25)
theorem ki_187_24 : js_Ok 187 24 (o_il 2 25) := js_St.ok (st_iloadn rfl d_187_24)
theorem ki_187_23 : js_Ok 187 23 (o_il 3 24) := js_St.ok (st_iloadn rfl d_187_23)
theorem ki_187_22 : js_Ok 187 22 (o_al 0 23) := js_St.ok (st_aloadn rfl d_187_22)
theorem ki_187_19 : js_Ok 187 19 (o_lt 32 22) := js_St.ok (st_iflt (by decide) d_187_19)
theorem ki_187_18 : js_Ok 187 18 (o_il 2 19) := js_St.ok (st_iloadn rfl d_187_18)
theorem ki_187_45 : js_Ok 187 45 (o_rI) := ok_rI rfl d_187_45
theorem ki_187_44 : js_Ok 187 44 (o_il 2 45) := js_St.ok (st_iloadn rfl d_187_44)
theorem ki_187_41 : js_Ok 187 41 (o_go 4) := js_St.ok (st_goto (by decide) d_187_41)
theorem ki_187_38 : js_Ok 187 38 (o_inc 3 1 41) := js_St.ok (st_iinc rfl (Nat.le_of_ble_eq_true rfl) d_187_38)
theorem ki_187_37 : js_Ok 187 37 (o_is 2 38) := js_St.ok (st_istoren rfl (Nat.le_of_ble_eq_true rfl) d_187_37)
theorem ki_187_36 : js_Ok 187 36 (o_il 2 37) := js_St.ok (st_iloadn rfl d_187_36)
theorem ki_187_33 : js_Ok 187 33 (o_go 37) := js_St.ok (st_goto (by decide) d_187_33)
theorem ki_187_32 : js_Ok 187 32 (o_il 3 33) := js_St.ok (st_iloadn rfl d_187_32)
theorem d_188_0 : decode (js_b 188) 0 = .ok (.aload_n 0, 1) := by decide +kernel
theorem d_188_1 : decode (js_b 188) 1 = .ok (.iload_n 1, 1) := by decide +kernel
theorem d_188_2 : decode (js_b 188) 2 = .ok (.bipush 6, 2) := by decide +kernel
theorem d_188_4 : decode (js_b 188) 4 = .ok (.aload_n 0, 1) := by decide +kernel
theorem d_188_5 : decode (js_b 188) 5 = .ok (.iload_n 1, 1) := by decide +kernel
theorem d_188_6 : decode (js_b 188) 6 = .ok (.iload_n 2, 1) := by decide +kernel
theorem d_188_7 : decode (js_b 188) 7 = .ok (.invokevirtual 158, 3) := by decide +kernel
theorem d_188_10 : decode (js_b 188) 10 = .ok (.invokevirtual 109, 3) := by decide +kernel
theorem d_188_13 : decode (js_b 188) 13 = .ok (.aload_n 0, 1) := by decide +kernel
theorem d_188_14 : decode (js_b 188) 14 = .ok (.iload_n 1, 1) := by decide +kernel
theorem d_188_15 : decode (js_b 188) 15 = .ok (.iload_n 2, 1) := by decide +kernel
theorem d_188_16 : decode (js_b 188) 16 = .ok (.invokevirtual 136, 3) := by decide +kernel
theorem d_188_19 : decode (js_b 188) 19 = .ok (.return_, 1) := by decide +kernel
theorem ki_188_15 : js_Ok 188 15 (o_il 2 16) := js_St.ok (st_iloadn rfl d_188_15)
theorem ki_188_14 : js_Ok 188 14 (o_il 1 15) := js_St.ok (st_iloadn rfl d_188_14)
theorem ki_188_13 : js_Ok 188 13 (o_al 0 14) := js_St.ok (st_aloadn rfl d_188_13)
theorem ki_188_10 : js_Ok 188 10 (o_cV 141 4 9 13) := ok_cV (site_V kk_188_141 (by decide) kw_1332 kw_1334 ks_29 (fun t ht => by cases ht; exact Or.inl ⟨_, rfl, rfl⟩) d_188_10) rfl
theorem ki_188_7 : js_Ok 188 7 (o_cI 184 3 9 10) := ok_cI (site_V kk_188_184 (by decide) kw_1502 kw_1504 ks_54 (fun t ht => by cases ht; exact Or.inl ⟨_, rfl, rfl⟩) d_188_7) rfl
theorem ki_188_6 : js_Ok 188 6 (o_il 2 7) := js_St.ok (st_iloadn rfl d_188_6)
theorem ki_188_5 : js_Ok 188 5 (o_il 1 6) := js_St.ok (st_iloadn rfl d_188_5)
theorem ki_188_4 : js_Ok 188 4 (o_al 0 5) := js_St.ok (st_aloadn rfl d_188_4)
theorem ki_188_2 : js_Ok 188 2 (o_ic 6 4) := js_St.ok (st_bipush rfl d_188_2)
theorem ki_188_1 : js_Ok 188 1 (o_il 1 2) := js_St.ok (st_iloadn rfl d_188_1)
theorem ki_188_0 : js_Ok 188 0 (o_al 0 1) := js_St.ok (st_aloadn rfl d_188_0)
theorem ki_188_19 : js_Ok 188 19 (o_rV) := ok_rV rfl d_188_19
theorem ki_188_16 : js_Ok 188 16 (o_cV 174 3 9 19) := ok_cV (site_V kk_188_174 (by decide) kw_1419 kw_1421 ks_38 (fun t ht => by cases ht; exact Or.inl ⟨_, rfl, rfl⟩) d_188_16) rfl
theorem d_189_0 : decode (js_b 189) 0 = .ok (.iload_n 1, 1) := by decide +kernel
theorem d_189_1 : decode (js_b 189) 1 = .ok (.iload_n 2, 1) := by decide +kernel
theorem d_189_2 : decode (js_b 189) 2 = .ok (.invokestatic 73, 3) := by decide +kernel
theorem d_189_5 : decode (js_b 189) 5 = .ok (.ifCond .ne 7, 3) := by decide +kernel
theorem d_189_8 : decode (js_b 189) 8 = .ok (.iconst 1, 1) := by decide +kernel
theorem d_189_9 : decode (js_b 189) 9 = .ok (.goto 21, 3) := by decide +kernel
theorem d_189_12 : decode (js_b 189) 12 = .ok (.aload_n 0, 1) := by decide +kernel
theorem d_189_13 : decode (js_b 189) 13 = .ok (.bipush 8, 2) := by decide +kernel
theorem d_189_15 : decode (js_b 189) 15 = .ok (.iload_n 1, 1) := by decide +kernel
theorem d_189_16 : decode (js_b 189) 16 = .ok (.imul, 1) := by decide +kernel
theorem d_189_17 : decode (js_b 189) 17 = .ok (.iload_n 2, 1) := by decide +kernel
theorem d_189_18 : decode (js_b 189) 18 = .ok (.iadd, 1) := by decide +kernel
theorem d_189_19 : decode (js_b 189) 19 = .ok (.invokevirtual 167, 3) := by decide +kernel
theorem d_189_22 : decode (js_b 189) 22 = .ok (.ifCond .ne 7, 3) := by decide +kernel
theorem d_189_25 : decode (js_b 189) 25 = .ok (.iconst 2, 1) := by decide +kernel
theorem d_189_26 : decode (js_b 189) 26 = .ok (.goto 4, 3) := by decide +kernel
theorem d_189_29 : decode (js_b 189) 29 = .ok (.iconst 0, 1) := by decide +kernel
theorem d_189_30 : decode (js_b 189) 30 = .ok (.ireturn, 1) := by decide +kernel
theorem ki_189_15 : js_Ok 189 15 (o_il 1 16) := js_St.ok (st_iloadn rfl d_189_15)
theorem ki_189_13 : js_Ok 189 13 (o_ic 8 15) := js_St.ok (st_bipush rfl d_189_13)
theorem ki_189_12 : js_Ok 189 12 (o_al 0 13) := js_St.ok (st_aloadn rfl d_189_12)
theorem ki_189_9 : js_Ok 189 9 (o_go 30) := js_St.ok (st_goto (by decide) d_189_9)
theorem ki_189_8 : js_Ok 189 8 (o_ic 1 9) := js_St.ok (st_iconst rfl d_189_8)
theorem ki_189_5 : js_Ok 189 5 (o_ne 12 8) := js_St.ok (st_ifne (by decide) d_189_5)
theorem ki_189_2 : js_Ok 189 2 (o_cI 149 2 0 5) := ok_cI (site_S kk_189_149 kw_1416 kw_1417 d_189_2) rfl
theorem ki_189_1 : js_Ok 189 1 (o_il 2 2) := js_St.ok (st_iloadn rfl d_189_1)
theorem ki_189_0 : js_Ok 189 0 (o_il 1 1) := js_St.ok (st_iloadn rfl d_189_0)
theorem ki_189_30 : js_Ok 189 30 (o_rI) := ok_rI rfl d_189_30
theorem ki_189_29 : js_Ok 189 29 (o_ic 0 30) := js_St.ok (st_iconst rfl d_189_29)
theorem ki_189_26 : js_Ok 189 26 (o_go 30) := js_St.ok (st_goto (by decide) d_189_26)
theorem ki_189_25 : js_Ok 189 25 (o_ic 2 26) := js_St.ok (st_iconst rfl d_189_25)
theorem ki_189_22 : js_Ok 189 22 (o_ne 29 25) := js_St.ok (st_ifne (by decide) d_189_22)
theorem ki_189_19 : js_Ok 189 19 (o_cI 159 2 9 22) := ok_cI (site_V kk_189_159 (by decide) kw_1482 kw_1484 ks_49 (fun t ht => by cases ht; exact Or.inl ⟨_, rfl, rfl⟩) d_189_19) rfl
theorem ki_189_18 : js_Ok 189 18 (o_b2 (fun x y => x + y) 19) := js_St.ok (st_iadd d_189_18)
theorem ki_189_17 : js_Ok 189 17 (o_il 2 18) := js_St.ok (st_iloadn rfl d_189_17)
theorem ki_189_16 : js_Ok 189 16 (o_b2 (fun x y => x * y) 17) := js_St.ok (st_imul d_189_16)
theorem d_190_0 : decode (js_b 190) 0 = .ok (.aload_n 0, 1) := by decide +kernel
theorem d_190_1 : decode (js_b 190) 1 = .ok (.aload_n 0, 1) := by decide +kernel
theorem d_190_2 : decode (js_b 190) 2 = .ok (.iload_n 1, 1) := by decide +kernel
theorem d_190_3 : decode (js_b 190) 3 = .ok (.iload_n 2, 1) := by decide +kernel
theorem d_190_4 : decode (js_b 190) 4 = .ok (.invokevirtual 170, 3) := by decide +kernel
theorem d_190_7 : decode (js_b 190) 7 = .ok (.putfield 39, 3) := by decide +kernel
theorem d_190_10 : decode (js_b 190) 10 = .ok (.aload_n 0, 1) := by decide +kernel
theorem d_190_11 : decode (js_b 190) 11 = .ok (.getfield 39, 3) := by decide +kernel
theorem d_190_14 : decode (js_b 190) 14 = .ok (.ifCond .le 7, 3) := by decide +kernel
theorem d_190_17 : decode (js_b 190) 17 = .ok (.iconst (-1), 1) := by decide +kernel
theorem d_190_18 : decode (js_b 190) 18 = .ok (.goto 13, 3) := by decide +kernel
theorem d_190_21 : decode (js_b 190) 21 = .ok (.aload_n 0, 1) := by decide +kernel
theorem d_190_22 : decode (js_b 190) 22 = .ok (.bipush 8, 2) := by decide +kernel
theorem d_190_24 : decode (js_b 190) 24 = .ok (.iload_n 1, 1) := by decide +kernel
theorem d_190_25 : decode (js_b 190) 25 = .ok (.imul, 1) := by decide +kernel
theorem d_190_26 : decode (js_b 190) 26 = .ok (.iload_n 2, 1) := by decide +kernel
theorem d_190_27 : decode (js_b 190) 27 = .ok (.iadd, 1) := by decide +kernel
theorem d_190_28 : decode (js_b 190) 28 = .ok (.invokevirtual 173, 3) := by decide +kernel
theorem d_190_31 : decode (js_b 190) 31 = .ok (.istore_n 3, 1) := by decide +kernel
theorem d_190_32 : decode (js_b 190) 32 = .ok (.iload_n 3, 1) := by decide +kernel
theorem d_190_33 : decode (js_b 190) 33 = .ok (.ifCond .ge 23, 3) := by decide +kernel
theorem d_190_36 : decode (js_b 190) 36 = .ok (.aload_n 0, 1) := by decide +kernel
theorem d_190_37 : decode (js_b 190) 37 = .ok (.aload_n 0, 1) := by decide +kernel
theorem d_190_38 : decode (js_b 190) 38 = .ok (.getfield 39, 3) := by decide +kernel
theorem d_190_41 : decode (js_b 190) 41 = .ok (.ifCond .le 10, 3) := by decide +kernel
theorem d_190_44 : decode (js_b 190) 44 = .ok (.aload_n 0, 1) := by decide +kernel
theorem d_190_45 : decode (js_b 190) 45 = .ok (.getfield 39, 3) := by decide +kernel
theorem d_190_48 : decode (js_b 190) 48 = .ok (.goto 4, 3) := by decide +kernel
theorem d_190_51 : decode (js_b 190) 51 = .ok (.iconst 3, 1) := by decide +kernel
theorem d_190_52 : decode (js_b 190) 52 = .ok (.invokevirtual 102, 3) := by decide +kernel
theorem d_190_55 : decode (js_b 190) 55 = .ok (.ireturn, 1) := by decide +kernel
theorem d_190_56 : decode (js_b 190) 56 = .ok (.aload_n 0, 1) := by decide +kernel
theorem d_190_57 : decode (js_b 190) 57 = .ok (.iload_n 3, 1) := by decide +kernel
theorem d_190_58 : decode (js_b 190) 58 = .ok (.bipush 8, 2) := by decide +kernel
theorem d_190_60 : decode (js_b 190) 60 = .ok (.iload_n 1, 1) := by decide +kernel
theorem d_190_61 : decode (js_b 190) 61 = .ok (.imul, 1) := by decide +kernel
theorem d_190_62 : decode (js_b 190) 62 = .ok (.iload_n 2, 1) := by decide +kernel
theorem d_190_63 : decode (js_b 190) 63 = .ok (.iadd, 1) := by decide +kernel
theorem d_190_64 : decode (js_b 190) 64 = .ok (.invokevirtual 176, 3) := by decide +kernel
theorem d_190_67 : decode (js_b 190) 67 = .ok (.aload_n 0, 1) := by decide +kernel
theorem d_190_68 : decode (js_b 190) 68 = .ok (.iload_n 3, 1) := by decide +kernel
theorem d_190_69 : decode (js_b 190) 69 = .ok (.invokevirtual 130, 3) := by decide +kernel
theorem d_190_72 : decode (js_b 190) 72 = .ok (.ireturn, 1) := by decide +kernel
theorem ki_190_14 : js_Ok 190 14 (o_le 21 17) := js_St.ok (st_ifle (by decide) d_190_14)
theorem ki_190_11 : js_Ok 190 11 (o_gI 8 6 14) := js_St.ok (st_gI js_c8 (by decide) kw_1239 d_190_11)
theorem ki_190_10 : js_Ok 190 10 (o_al 0 11) := js_St.ok (st_aloadn rfl d_190_10)
theorem ki_190_7 : js_Ok 190 7 (o_pI 8 6 10) := js_St.ok (st_pIown js_c8 (by decide) rfl kw_1239 (js_c8.2.2.1 6 (by decide)) d_190_7)
theorem ki_190_4 : js_Ok 190 4 (o_cI 189 3 9 7) := ok_cI (site_V kk_190_189 (by decide) kw_1478 kw_1480 ks_48 (fun t ht => by cases ht; exact Or.inl ⟨_, rfl, rfl⟩) d_190_4) rfl
theorem ki_190_3 : js_Ok 190 3 (o_il 2 4) := js_St.ok (st_iloadn rfl d_190_3)
theorem ki_190_2 : js_Ok 190 2 (o_il 1 3) := js_St.ok (st_iloadn rfl d_190_2)
theorem ki_190_1 : js_Ok 190 1 (o_al 0 2) := js_St.ok (st_aloadn rfl d_190_1)
theorem ki_190_0 : js_Ok 190 0 (o_al 0 1) := js_St.ok (st_aloadn rfl d_190_0)
theorem ki_190_31 : js_Ok 190 31 (o_is 3 32) := js_St.ok (st_istoren rfl (Nat.le_of_ble_eq_true rfl) d_190_31)
theorem ki_190_28 : js_Ok 190 28 (o_cI 187 2 9 31) := ok_cI (site_V kk_190_187 (by decide) kw_1490 kw_1492 ks_51 (fun t ht => by cases ht; exact Or.inl ⟨_, rfl, rfl⟩) d_190_28) rfl
theorem ki_190_27 : js_Ok 190 27 (o_b2 (fun x y => x + y) 28) := js_St.ok (st_iadd d_190_27)
theorem ki_190_26 : js_Ok 190 26 (o_il 2 27) := js_St.ok (st_iloadn rfl d_190_26)
theorem ki_190_25 : js_Ok 190 25 (o_b2 (fun x y => x * y) 26) := js_St.ok (st_imul d_190_25)
theorem ki_190_24 : js_Ok 190 24 (o_il 1 25) := js_St.ok (st_iloadn rfl d_190_24)
theorem ki_190_22 : js_Ok 190 22 (o_ic 8 24) := js_St.ok (st_bipush rfl d_190_22)
theorem ki_190_21 : js_Ok 190 21 (o_al 0 22) := js_St.ok (st_aloadn rfl d_190_21)
theorem ki_190_18 : js_Ok 190 18 (o_go 31) := js_St.ok (st_goto (by decide) d_190_18)
theorem ki_190_17 : js_Ok 190 17 (o_ic (-1) 18) := js_St.ok (st_iconst rfl d_190_17)
theorem ki_190_45 : js_Ok 190 45 (o_gI 8 6 48) := js_St.ok (st_gI js_c8 (by decide) kw_1239 d_190_45)
theorem ki_190_44 : js_Ok 190 44 (o_al 0 45) := js_St.ok (st_aloadn rfl d_190_44)
theorem ki_190_41 : js_Ok 190 41 (o_le 51 44) := js_St.ok (st_ifle (by decide) d_190_41)
theorem ki_190_38 : js_Ok 190 38 (o_gI 8 6 41) := js_St.ok (st_gI js_c8 (by decide) kw_1239 d_190_38)
theorem ki_190_37 : js_Ok 190 37 (o_al 0 38) := js_St.ok (st_aloadn rfl d_190_37)
theorem ki_190_36 : js_Ok 190 36 (o_al 0 37) := js_St.ok (st_aloadn rfl d_190_36)
theorem ki_190_33 : js_Ok 190 33 (o_ge 56 36) := js_St.ok (st_ifge (by decide) d_190_33)
theorem ki_190_32 : js_Ok 190 32 (o_il 3 33) := js_St.ok (st_iloadn rfl d_190_32)
theorem ki_190_63 : js_Ok 190 63 (o_b2 (fun x y => x + y) 64) := js_St.ok (st_iadd d_190_63)
theorem ki_190_62 : js_Ok 190 62 (o_il 2 63) := js_St.ok (st_iloadn rfl d_190_62)
theorem ki_190_61 : js_Ok 190 61 (o_b2 (fun x y => x * y) 62) := js_St.ok (st_imul d_190_61)
theorem ki_190_60 : js_Ok 190 60 (o_il 1 61) := js_St.ok (st_iloadn rfl d_190_60)
theorem ki_190_58 : js_Ok 190 58 (o_ic 8 60) := js_St.ok (st_bipush rfl d_190_58)
theorem ki_190_57 : js_Ok 190 57 (o_il 3 58) := js_St.ok (st_iloadn rfl d_190_57)
theorem ki_190_56 : js_Ok 190 56 (o_al 0 57) := js_St.ok (st_aloadn rfl d_190_56)
theorem ki_190_55 : js_Ok 190 55 (o_rI) := ok_rI rfl d_190_55
theorem ki_190_52 : js_Ok 190 52 (o_cI 138 2 9 55) := ok_cI (site_V kk_190_138 (by decide) kw_1308 kw_1310 ks_23 (fun t ht => by cases ht; exact Or.inl ⟨_, rfl, rfl⟩) d_190_52) rfl
theorem ki_190_51 : js_Ok 190 51 (o_ic 3 52) := js_St.ok (st_iconst rfl d_190_51)
theorem ki_190_48 : js_Ok 190 48 (o_go 52) := js_St.ok (st_goto (by decide) d_190_48)
theorem ki_190_72 : js_Ok 190 72 (o_rI) := ok_rI rfl d_190_72
theorem ki_190_69 : js_Ok 190 69 (o_cI 143 2 9 72) := ok_cI (site_V kk_190_143 (by decide) kw_1368 kw_1370 ks_34 (fun t ht => by cases ht; exact Or.inl ⟨_, rfl, rfl⟩) d_190_69) rfl
theorem ki_190_68 : js_Ok 190 68 (o_il 3 69) := js_St.ok (st_iloadn rfl d_190_68)
theorem ki_190_67 : js_Ok 190 67 (o_al 0 68) := js_St.ok (st_aloadn rfl d_190_67)
theorem ki_190_64 : js_Ok 190 64 (o_cV 188 3 9 67) := ok_cV (site_V kk_190_188 (by decide) kw_1510 kw_1512 ks_56 (fun t ht => by cases ht; exact Or.inl ⟨_, rfl, rfl⟩) d_190_64) rfl
theorem d_191_0 : decode (js_b 191) 0 = .ok (.aload_n 0, 1) := by decide +kernel
theorem d_191_1 : decode (js_b 191) 1 = .ok (.invokevirtual 113, 3) := by decide +kernel
theorem d_191_4 : decode (js_b 191) 4 = .ok (.aload_n 0, 1) := by decide +kernel
theorem d_191_5 : decode (js_b 191) 5 = .ok (.aload_n 0, 1) := by decide +kernel
theorem d_191_6 : decode (js_b 191) 6 = .ok (.iload_n 1, 1) := by decide +kernel
theorem d_191_7 : decode (js_b 191) 7 = .ok (.iload_n 2, 1) := by decide +kernel
theorem d_191_8 : decode (js_b 191) 8 = .ok (.invokevirtual 179, 3) := by decide +kernel
theorem d_191_11 : decode (js_b 191) 11 = .ok (.invokevirtual 120, 3) := by decide +kernel
theorem d_191_14 : decode (js_b 191) 14 = .ok (.ireturn, 1) := by decide +kernel
theorem ki_191_14 : js_Ok 191 14 (o_rI) := ok_rI rfl d_191_14
theorem ki_191_11 : js_Ok 191 11 (o_cI 137 2 9 14) := ok_cI (site_V kk_191_137 (by decide) kw_1336 kw_1338 ks_30 (fun t ht => by cases ht; exact Or.inl ⟨_, rfl, rfl⟩) d_191_11) rfl
theorem ki_191_8 : js_Ok 191 8 (o_cI 190 3 9 11) := ok_cI (site_V kk_191_190 (by decide) kw_1474 kw_1476 ks_47 (fun t ht => by cases ht; exact Or.inl ⟨_, rfl, rfl⟩) d_191_8) rfl
theorem ki_191_7 : js_Ok 191 7 (o_il 2 8) := js_St.ok (st_iloadn rfl d_191_7)
theorem ki_191_6 : js_Ok 191 6 (o_il 1 7) := js_St.ok (st_iloadn rfl d_191_6)
theorem ki_191_5 : js_Ok 191 5 (o_al 0 6) := js_St.ok (st_aloadn rfl d_191_5)
theorem ki_191_4 : js_Ok 191 4 (o_al 0 5) := js_St.ok (st_aloadn rfl d_191_4)
theorem ki_191_1 : js_Ok 191 1 (o_cV 136 1 9 4) := ok_cV (site_V kk_191_136 (by decide) kw_1293 kw_1295 ks_21 (fun t ht => by cases ht; exact Or.inl ⟨_, rfl, rfl⟩) d_191_1) rfl
theorem ki_191_0 : js_Ok 191 0 (o_al 0 1) := js_St.ok (st_aloadn rfl d_191_0)
theorem d_192_0 : decode (js_b 192) 0 = .ok (.iconst 0, 1) := by decide +kernel
theorem d_192_1 : decode (js_b 192) 1 = .ok (.istore_n 1, 1) := by decide +kernel
theorem d_192_2 : decode (js_b 192) 2 = .ok (.aload_n 0, 1) := by decide +kernel
theorem d_192_3 : decode (js_b 192) 3 = .ok (.invokevirtual 182, 3) := by decide +kernel
theorem d_192_6 : decode (js_b 192) 6 = .ok (.istore_n 2, 1) := by decide +kernel
theorem d_192_7 : decode (js_b 192) 7 = .ok (.iload_n 2, 1) := by decide +kernel
theorem d_192_8 : decode (js_b 192) 8 = .ok (.ifCond .lt 24, 3) := by decide +kernel
theorem d_192_11 : decode (js_b 192) 11 = .ok (.aload_n 0, 1) := by decide +kernel
theorem d_192_12 : decode (js_b 192) 12 = .ok (.aload_n 0, 1) := by decide +kernel
theorem d_192_13 : decode (js_b 192) 13 = .ok (.iload_n 2, 1) := by decide +kernel
theorem d_192_14 : decode (js_b 192) 14 = .ok (.invokevirtual 173, 3) := by decide +kernel
theorem d_192_17 : decode (js_b 192) 17 = .ok (.iload_n 2, 1) := by decide +kernel
theorem d_192_18 : decode (js_b 192) 18 = .ok (.invokevirtual 176, 3) := by decide +kernel
theorem d_192_21 : decode (js_b 192) 21 = .ok (.iinc 1 1, 3) := by decide +kernel
theorem d_192_24 : decode (js_b 192) 24 = .ok (.aload_n 0, 1) := by decide +kernel
theorem d_192_25 : decode (js_b 192) 25 = .ok (.invokevirtual 182, 3) := by decide +kernel
theorem d_192_28 : decode (js_b 192) 28 = .ok (.istore_n 2, 1) := by decide +kernel
theorem d_192_29 : decode (js_b 192) 29 = .ok (.goto (-22), 3) := by decide +kernel
theorem d_192_32 : decode (js_b 192) 32 = .ok (.iload_n 1, 1) := by decide +kernel
theorem d_192_33 : decode (js_b 192) 33 = .ok (.ireturn, 1) := by decide +kernel
theorem ki_192_14 : js_Ok 192 14 (o_cI 187 2 9 17) := ok_cI (site_V kk_192_187 (by decide) kw_1490 kw_1492 ks_51 (fun t ht => by cases ht; exact Or.inl ⟨_, rfl, rfl⟩) d_192_14) rfl
theorem ki_192_13 : js_Ok 192 13 (o_il 2 14) := js_St.ok (st_iloadn rfl d_192_13)
theorem ki_192_12 : js_Ok 192 12 (o_al 0 13) := js_St.ok (st_aloadn rfl d_192_12)
theorem ki_192_11 : js_Ok 192 11 (o_al 0 12) := js_St.ok (st_aloadn rfl d_192_11)
theorem ki_192_8 : js_Ok 192 8 (o_lt 32 11) := js_St.ok (st_iflt (by decide) d_192_8)
theorem ki_192_7 : js_Ok 192 7 (o_il 2 8) := js_St.ok (st_iloadn rfl d_192_7)
theorem ki_192_6 : js_Ok 192 6 (o_is 2 7) := js_St.ok (st_istoren rfl (Nat.le_of_ble_eq_true rfl) d_192_6)
theorem ki_192_3 : js_Ok 192 3 (o_cI 193 1 9 6) := ok_cI (site_V kk_192_193 (by decide) kw_1522 kw_1524 ks_58 (fun t ht => by cases ht; exact Or.inl ⟨_, rfl, rfl⟩) d_192_3) rfl
theorem ki_192_2 : js_Ok 192 2 (o_al 0 3) := js_St.ok (st_aloadn rfl d_192_2)
theorem ki_192_1 : js_Ok 192 1 (o_is 1 2) := js_St.ok (st_istoren rfl (Nat.le_of_ble_eq_true rfl) d_192_1)
theorem ki_192_0 : js_Ok 192 0 (o_ic 0 1) := js_St.ok (st_iconst rfl d_192_0)
theorem ki_192_29 : js_Ok 192 29 (o_go 7) := js_St.ok (st_goto (by decide) d_192_29)
theorem ki_192_28 : js_Ok 192 28 (o_is 2 29) := js_St.ok (st_istoren rfl (Nat.le_of_ble_eq_true rfl) d_192_28)
theorem ki_192_25 : js_Ok 192 25 (o_cI 193 1 9 28) := ok_cI (site_V kk_192_193 (by decide) kw_1522 kw_1524 ks_58 (fun t ht => by cases ht; exact Or.inl ⟨_, rfl, rfl⟩) d_192_25) rfl
theorem ki_192_24 : js_Ok 192 24 (o_al 0 25) := js_St.ok (st_aloadn rfl d_192_24)
theorem ki_192_21 : js_Ok 192 21 (o_inc 1 1 24) := js_St.ok (st_iinc rfl (Nat.le_of_ble_eq_true rfl) d_192_21)
theorem ki_192_18 : js_Ok 192 18 (o_cV 188 3 9 21) := ok_cV (site_V kk_192_188 (by decide) kw_1510 kw_1512 ks_56 (fun t ht => by cases ht; exact Or.inl ⟨_, rfl, rfl⟩) d_192_18) rfl
theorem ki_192_17 : js_Ok 192 17 (o_il 2 18) := js_St.ok (st_iloadn rfl d_192_17)
theorem ki_192_33 : js_Ok 192 33 (o_rI) := ok_rI rfl d_192_33
theorem ki_192_32 : js_Ok 192 32 (o_il 1 33) := js_St.ok (st_iloadn rfl d_192_32)
theorem d_193_0 : decode (js_b 193) 0 = .ok (.iconst (-1), 1) := by decide +kernel
theorem d_193_1 : decode (js_b 193) 1 = .ok (.istore_n 1, 1) := by decide +kernel
theorem d_193_2 : decode (js_b 193) 2 = .ok (.iconst 0, 1) := by decide +kernel
theorem d_193_3 : decode (js_b 193) 3 = .ok (.istore_n 2, 1) := by decide +kernel
theorem d_193_4 : decode (js_b 193) 4 = .ok (.iconst 0, 1) := by decide +kernel
theorem d_193_5 : decode (js_b 193) 5 = .ok (.istore_n 3, 1) := by decide +kernel
theorem d_193_6 : decode (js_b 193) 6 = .ok (.iload_n 3, 1) := by decide +kernel
theorem d_193_7 : decode (js_b 193) 7 = .ok (.bipush 64, 2) := by decide +kernel
theorem d_193_9 : decode (js_b 193) 9 = .ok (.if_icmp .ge 60, 3) := by decide +kernel
theorem d_193_12 : decode (js_b 193) 12 = .ok (.aload_n 0, 1) := by decide +kernel
theorem d_193_13 : decode (js_b 193) 13 = .ok (.iconst 1, 1) := by decide +kernel
theorem d_193_14 : decode (js_b 193) 14 = .ok (.invokevirtual 105, 3) := by decide +kernel
theorem d_193_17 : decode (js_b 193) 17 = .ok (.ifCond .le 52, 3) := by decide +kernel
theorem d_193_20 : decode (js_b 193) 20 = .ok (.aload_n 0, 1) := by decide +kernel
theorem d_193_21 : decode (js_b 193) 21 = .ok (.iload_n 3, 1) := by decide +kernel
theorem d_193_22 : decode (js_b 193) 22 = .ok (.invokevirtual 167, 3) := by decide +kernel
theorem d_193_25 : decode (js_b 193) 25 = .ok (.ifCond .eq 16, 3) := by decide +kernel
theorem d_193_28 : decode (js_b 193) 28 = .ok (.aload_n 0, 1) := by decide +kernel
theorem d_193_29 : decode (js_b 193) 29 = .ok (.aload_n 0, 1) := by decide +kernel
theorem d_193_30 : decode (js_b 193) 30 = .ok (.iload_n 3, 1) := by decide +kernel
theorem d_193_31 : decode (js_b 193) 31 = .ok (.invokevirtual 173, 3) := by decide +kernel
theorem d_193_34 : decode (js_b 193) 34 = .ok (.iload_n 3, 1) := by decide +kernel
theorem d_193_35 : decode (js_b 193) 35 = .ok (.invokevirtual 161, 3) := by decide +kernel
theorem d_193_38 : decode (js_b 193) 38 = .ok (.goto 4, 3) := by decide +kernel
theorem d_193_41 : decode (js_b 193) 41 = .ok (.iconst 0, 1) := by decide +kernel
theorem d_193_42 : decode (js_b 193) 42 = .ok (.istore 4, 2) := by decide +kernel
theorem d_193_44 : decode (js_b 193) 44 = .ok (.iload 4, 2) := by decide +kernel
theorem d_193_46 : decode (js_b 193) 46 = .ok (.iload_n 2, 1) := by decide +kernel
theorem d_193_47 : decode (js_b 193) 47 = .ok (.if_icmp .le 7, 3) := by decide +kernel
theorem d_193_50 : decode (js_b 193) 50 = .ok (.iload_n 3, 1) := by decide +kernel
theorem d_193_51 : decode (js_b 193) 51 = .ok (.goto 4, 3) := by decide +kernel
theorem d_193_54 : decode (js_b 193) 54 = .ok (.iload_n 1, 1) := by decide +kernel
theorem d_193_55 : decode (js_b 193) 55 = .ok (.istore_n 1, 1) := by decide +kernel
theorem d_193_56 : decode (js_b 193) 56 = .ok (.iload_n 2, 1) := by decide +kernel
theorem d_193_57 : decode (js_b 193) 57 = .ok (.iload 4, 2) := by decide +kernel
theorem d_193_59 : decode (js_b 193) 59 = .ok (.invokestatic 186, 3) := by decide +kernel
theorem d_193_62 : decode (js_b 193) 62 = .ok (.istore_n 2, 1) := by decide +kernel
theorem d_193_63 : decode (js_b 193) 63 = .ok (.iinc 3 1, 3) := by decide +kernel
theorem d_193_66 : decode (js_b 193) 66 = .ok (.goto (-60), 3) := by decide +kernel
theorem d_193_69 : decode (js_b 193) 69 = .ok (.iload_n 1, 1) := by decide +kernel
theorem d_193_70 : decode (js_b 193) 70 = .ok (.ireturn, 1) := by decide +kernel
theorem ki_193_14 : js_Ok 193 14 (o_cI 148 2 9 17) := ok_cI (site_V kk_193_148 (by decide) kw_1312 kw_1314 ks_24 (fun t ht => by cases ht; exact Or.inl ⟨_, rfl, rfl⟩) d_193_14) rfl
theorem ki_193_13 : js_Ok 193 13 (o_ic 1 14) := js_St.ok (st_iconst rfl d_193_13)
theorem ki_193_12 : js_Ok 193 12 (o_al 0 13) := js_St.ok (st_aloadn rfl d_193_12)
theorem ki_193_9 : js_Ok 193 9 (o_cge 69 12) := js_St.ok (st_icge (by decide) d_193_9)
theorem ki_193_7 : js_Ok 193 7 (o_ic 64 9) := js_St.ok (st_bipush rfl d_193_7)
theorem ki_193_6 : js_Ok 193 6 (o_il 3 7) := js_St.ok (st_iloadn rfl d_193_6)
theorem ki_193_5 : js_Ok 193 5 (o_is 3 6) := js_St.ok (st_istoren rfl (Nat.le_of_ble_eq_true rfl) d_193_5)
theorem ki_193_4 : js_Ok 193 4 (o_ic 0 5) := js_St.ok (st_iconst rfl d_193_4)
theorem ki_193_3 : js_Ok 193 3 (o_is 2 4) := js_St.ok (st_istoren rfl (Nat.le_of_ble_eq_true rfl) d_193_3)
theorem ki_193_2 : js_Ok 193 2 (o_ic 0 3) := js_St.ok (st_iconst rfl d_193_2)
theorem ki_193_1 : js_Ok 193 1 (o_is 1 2) := js_St.ok (st_istoren rfl (Nat.le_of_ble_eq_true rfl) d_193_1)
theorem ki_193_0 : js_Ok 193 0 (o_ic (-1) 1) := js_St.ok (st_iconst rfl d_193_0)
theorem ki_193_31 : js_Ok 193 31 (o_cI 187 2 9 34) := ok_cI (site_V kk_193_187 (by decide) kw_1490 kw_1492 ks_51 (fun t ht => by cases ht; exact Or.inl ⟨_, rfl, rfl⟩) d_193_31) rfl
theorem ki_193_30 : js_Ok 193 30 (o_il 3 31) := js_St.ok (st_iloadn rfl d_193_30)
theorem ki_193_29 : js_Ok 193 29 (o_al 0 30) := js_St.ok (st_aloadn rfl d_193_29)
theorem ki_193_28 : js_Ok 193 28 (o_al 0 29) := js_St.ok (st_aloadn rfl d_193_28)
theorem ki_193_25 : js_Ok 193 25 (o_eq 41 28) := js_St.ok (st_ifeq (by decide) d_193_25)
theorem ki_193_22 : js_Ok 193 22 (o_cI 159 2 9 25) := ok_cI (site_V kk_193_159 (by decide) kw_1482 kw_1484 ks_49 (fun t ht => by cases ht; exact Or.inl ⟨_, rfl, rfl⟩) d_193_22) rfl
theorem ki_193_21 : js_Ok 193 21 (o_il 3 22) := js_St.ok (st_iloadn rfl d_193_21)
theorem ki_193_20 : js_Ok 193 20 (o_al 0 21) := js_St.ok (st_aloadn rfl d_193_20)
theorem ki_193_17 : js_Ok 193 17 (o_le 69 20) := js_St.ok (st_ifle (by decide) d_193_17)
theorem ki_193_47 : js_Ok 193 47 (o_cle 54 50) := js_St.ok (st_icle (by decide) d_193_47)
theorem ki_193_46 : js_Ok 193 46 (o_il 2 47) := js_St.ok (st_iloadn rfl d_193_46)
theorem ki_193_44 : js_Ok 193 44 (o_il 4 46) := js_St.ok (st_iload d_193_44)
theorem ki_193_42 : js_Ok 193 42 (o_is 4 44) := js_St.ok (st_istore (Nat.le_of_ble_eq_true rfl) d_193_42)
theorem ki_193_41 : js_Ok 193 41 (o_ic 0 42) := js_St.ok (st_iconst rfl d_193_41)
theorem ki_193_38 : js_Ok 193 38 (o_go 42) := js_St.ok (st_goto (by decide) d_193_38)
theorem ki_193_35 : js_Ok 193 35 (o_cI 185 3 9 38) := ok_cI (site_V kk_193_185 (by decide) kw_1498 kw_1500 ks_53 (fun t ht => by cases ht; exact Or.inl ⟨_, rfl, rfl⟩) d_193_35) rfl
theorem ki_193_34 : js_Ok 193 34 (o_il 3 35) := js_St.ok (st_iloadn rfl d_193_34)
theorem ki_193_63 : js_Ok 193 63 (o_inc 3 1 66) := js_St.ok (st_iinc rfl (Nat.le_of_ble_eq_true rfl) d_193_63)
theorem ki_193_62 : js_Ok 193 62 (o_is 2 63) := js_St.ok (st_istoren rfl (Nat.le_of_ble_eq_true rfl) d_193_62)
theorem ki_193_59 : js_Ok 193 59 (o_cI 246 2 0 62) := ok_cI (site_S kk_193_246 kw_1526 kw_416 d_193_59) rfl
theorem ki_193_57 : js_Ok 193 57 (o_il 4 59) := js_St.ok (st_iload d_193_57)
theorem ki_193_56 : js_Ok 193 56 (o_il 2 57) := js_St.ok (st_iloadn rfl d_193_56)
theorem ki_193_55 : js_Ok 193 55 (o_is 1 56) := js_St.ok (st_istoren rfl (Nat.le_of_ble_eq_true rfl) d_193_55)
theorem ki_193_54 : js_Ok 193 54 (o_il 1 55) := js_St.ok (st_iloadn rfl d_193_54)
theorem ki_193_51 : js_Ok 193 51 (o_go 55) := js_St.ok (st_goto (by decide) d_193_51)
theorem ki_193_50 : js_Ok 193 50 (o_il 3 51) := js_St.ok (st_iloadn rfl d_193_50)
theorem ki_193_70 : js_Ok 193 70 (o_rI) := ok_rI rfl d_193_70
theorem ki_193_69 : js_Ok 193 69 (o_il 1 70) := js_St.ok (st_iloadn rfl d_193_69)
theorem ki_193_66 : js_Ok 193 66 (o_go 6) := js_St.ok (st_goto (by decide) d_193_66)
theorem d_194_0 : decode (js_b 194) 0 = .ok (.aload_n 0, 1) := by decide +kernel
theorem d_194_1 : decode (js_b 194) 1 = .ok (.invokevirtual 113, 3) := by decide +kernel
theorem d_194_4 : decode (js_b 194) 4 = .ok (.aload_n 0, 1) := by decide +kernel
theorem d_194_5 : decode (js_b 194) 5 = .ok (.aload_n 0, 1) := by decide +kernel
theorem d_194_6 : decode (js_b 194) 6 = .ok (.invokevirtual 191, 3) := by decide +kernel
theorem d_194_9 : decode (js_b 194) 9 = .ok (.invokevirtual 120, 3) := by decide +kernel
theorem d_194_12 : decode (js_b 194) 12 = .ok (.ireturn, 1) := by decide +kernel
theorem ki_194_12 : js_Ok 194 12 (o_rI) := ok_rI rfl d_194_12
theorem ki_194_9 : js_Ok 194 9 (o_cI 137 2 9 12) := ok_cI (site_V kk_194_137 (by decide) kw_1336 kw_1338 ks_30 (fun t ht => by cases ht; exact Or.inl ⟨_, rfl, rfl⟩) d_194_9) rfl
theorem ki_194_6 : js_Ok 194 6 (o_cI 192 1 9 9) := ok_cI (site_V kk_194_192 (by decide) kw_1518 kw_1520 ks_57 (fun t ht => by cases ht; exact Or.inl ⟨_, rfl, rfl⟩) d_194_6) rfl
theorem ki_194_5 : js_Ok 194 5 (o_al 0 6) := js_St.ok (st_aloadn rfl d_194_5)
theorem ki_194_4 : js_Ok 194 4 (o_al 0 5) := js_St.ok (st_aloadn rfl d_194_4)
theorem ki_194_1 : js_Ok 194 1 (o_cV 136 1 9 4) := ok_cV (site_V kk_194_136 (by decide) kw_1293 kw_1295 ks_21 (fun t ht => by cases ht; exact Or.inl ⟨_, rfl, rfl⟩) d_194_1) rfl
theorem ki_194_0 : js_Ok 194 0 (o_al 0 1) := js_St.ok (st_aloadn rfl d_194_0)
theorem d_195_0 : decode (js_b 195) 0 = .ok (.aload_n 0, 1) := by decide +kernel
theorem d_195_1 : decode (js_b 195) 1 = .ok (.iload_n 1, 1) := by decide +kernel
theorem d_195_2 : decode (js_b 195) 2 = .ok (.invokevirtual 55, 3) := by decide +kernel
theorem d_195_5 : decode (js_b 195) 5 = .ok (.istore 5, 2) := by decide +kernel
theorem d_195_7 : decode (js_b 195) 7 = .ok (.aload_n 0, 1) := by decide +kernel
theorem d_195_8 : decode (js_b 195) 8 = .ok (.iload 5, 2) := by decide +kernel
theorem d_195_10 : decode (js_b 195) 10 = .ok (.ifCond .ge 7, 3) := by decide +kernel
theorem d_195_13 : decode (js_b 195) 13 = .ok (.iconst 1, 1) := by decide +kernel
theorem d_195_14 : decode (js_b 195) 14 = .ok (.goto 56, 3) := by decide +kernel
theorem d_195_17 : decode (js_b 195) 17 = .ok (.iload_n 2, 1) := by decide +kernel
theorem d_195_18 : decode (js_b 195) 18 = .ok (.iload_n 3, 1) := by decide +kernel
theorem d_195_19 : decode (js_b 195) 19 = .ok (.invokestatic 73, 3) := by decide +kernel
theorem d_195_22 : decode (js_b 195) 22 = .ok (.ifCond .ne 7, 3) := by decide +kernel
theorem d_195_25 : decode (js_b 195) 25 = .ok (.iconst 2, 1) := by decide +kernel
theorem d_195_26 : decode (js_b 195) 26 = .ok (.goto 44, 3) := by decide +kernel
theorem d_195_29 : decode (js_b 195) 29 = .ok (.iload 4, 2) := by decide +kernel
theorem d_195_31 : decode (js_b 195) 31 = .ok (.iconst 0, 1) := by decide +kernel
theorem d_195_32 : decode (js_b 195) 32 = .ok (.iconst 3, 1) := by decide +kernel
theorem d_195_33 : decode (js_b 195) 33 = .ok (.invokestatic 69, 3) := by decide +kernel
theorem d_195_36 : decode (js_b 195) 36 = .ok (.ifCond .ne 7, 3) := by decide +kernel
theorem d_195_39 : decode (js_b 195) 39 = .ok (.iconst 3, 1) := by decide +kernel
theorem d_195_40 : decode (js_b 195) 40 = .ok (.goto 30, 3) := by decide +kernel
theorem d_195_43 : decode (js_b 195) 43 = .ok (.aload_n 0, 1) := by decide +kernel
theorem d_195_44 : decode (js_b 195) 44 = .ok (.iload 5, 2) := by decide +kernel
theorem d_195_46 : decode (js_b 195) 46 = .ok (.invokevirtual 59, 3) := by decide +kernel
theorem d_195_49 : decode (js_b 195) 49 = .ok (.ifCond .eq 7, 3) := by decide +kernel
theorem d_195_52 : decode (js_b 195) 52 = .ok (.iconst 4, 1) := by decide +kernel
theorem d_195_53 : decode (js_b 195) 53 = .ok (.goto 17, 3) := by decide +kernel
theorem d_195_56 : decode (js_b 195) 56 = .ok (.aload_n 0, 1) := by decide +kernel
theorem d_195_57 : decode (js_b 195) 57 = .ok (.iload_n 2, 1) := by decide +kernel
theorem d_195_58 : decode (js_b 195) 58 = .ok (.iload_n 3, 1) := by decide +kernel
theorem d_195_59 : decode (js_b 195) 59 = .ok (.invokevirtual 170, 3) := by decide +kernel
theorem d_195_62 : decode (js_b 195) 62 = .ok (.ifCond .le 7, 3) := by decide +kernel
theorem d_195_65 : decode (js_b 195) 65 = .ok (.iconst 5, 1) := by decide +kernel
theorem d_195_66 : decode (js_b 195) 66 = .ok (.goto 4, 3) := by decide +kernel
theorem d_195_69 : decode (js_b 195) 69 = .ok (.iconst 0, 1) := by decide +kernel
theorem d_195_70 : decode (js_b 195) 70 = .ok (.putfield 39, 3) := by decide +kernel
theorem d_195_73 : decode (js_b 195) 73 = .ok (.aload_n 0, 1) := by decide +kernel
theorem d_195_74 : decode (js_b 195) 74 = .ok (.getfield 39, 3) := by decide +kernel
theorem d_195_77 : decode (js_b 195) 77 = .ok (.ifCond .le 7, 3) := by decide +kernel
theorem d_195_80 : decode (js_b 195) 80 = .ok (.iconst 0, 1) := by decide +kernel
theorem d_195_81 : decode (js_b 195) 81 = .ok (.goto 17, 3) := by decide +kernel
theorem d_195_84 : decode (js_b 195) 84 = .ok (.aload_n 0, 1) := by decide +kernel
theorem d_195_85 : decode (js_b 195) 85 = .ok (.iload 5, 2) := by decide +kernel
theorem d_195_87 : decode (js_b 195) 87 = .ok (.bipush 8, 2) := by decide +kernel
theorem d_195_89 : decode (js_b 195) 89 = .ok (.iload_n 2, 1) := by decide +kernel
theorem d_195_90 : decode (js_b 195) 90 = .ok (.imul, 1) := by decide +kernel
theorem d_195_91 : decode (js_b 195) 91 = .ok (.iload_n 3, 1) := by decide +kernel
theorem d_195_92 : decode (js_b 195) 92 = .ok (.iadd, 1) := by decide +kernel
theorem d_195_93 : decode (js_b 195) 93 = .ok (.iload 4, 2) := by decide +kernel
theorem d_195_95 : decode (js_b 195) 95 = .ok (.invokevirtual 155, 3) := by decide +kernel
theorem d_195_98 : decode (js_b 195) 98 = .ok (.ireturn, 1) := by decide +kernel
theorem ki_195_14 : js_Ok 195 14 (o_go 70) := js_St.ok (st_goto (by decide) d_195_14)
theorem ki_195_13 : js_Ok 195 13 (o_ic 1 14) := js_St.ok (st_iconst rfl d_195_13)
theorem ki_195_10 : js_Ok 195 10 (o_ge 17 13) := js_St.ok (st_ifge (by decide) d_195_10)
theorem ki_195_8 : js_Ok 195 8 (o_il 5 10) := js_St.ok (st_iload d_195_8)
theorem ki_195_7 : js_Ok 195 7 (o_al 0 8) := js_St.ok (st_aloadn rfl d_195_7)
theorem ki_195_5 : js_Ok 195 5 (o_is 5 7) := js_St.ok (st_istore (Nat.le_of_ble_eq_true rfl) d_195_5)
theorem ki_195_2 : js_Ok 195 2 (o_cI 144 2 9 5) := ok_cI (site_V kk_195_144 (by decide) kw_1348 kw_1350 ks_32 (fun t ht => by cases ht; exact Or.inl ⟨_, rfl, rfl⟩) d_195_2) rfl
theorem ki_195_1 : js_Ok 195 1 (o_il 1 2) := js_St.ok (st_iloadn rfl d_195_1)
theorem ki_195_0 : js_Ok 195 0 (o_al 0 1) := js_St.ok (st_aloadn rfl d_195_0)
theorem ki_195_31 : js_Ok 195 31 (o_ic 0 32) := js_St.ok (st_iconst rfl d_195_31)
theorem ki_195_29 : js_Ok 195 29 (o_il 4 31) := js_St.ok (st_iload d_195_29)
theorem ki_195_26 : js_Ok 195 26 (o_go 70) := js_St.ok (st_goto (by decide) d_195_26)
theorem ki_195_25 : js_Ok 195 25 (o_ic 2 26) := js_St.ok (st_iconst rfl d_195_25)
theorem ki_195_22 : js_Ok 195 22 (o_ne 29 25) := js_St.ok (st_ifne (by decide) d_195_22)
theorem ki_195_19 : js_Ok 195 19 (o_cI 149 2 0 22) := ok_cI (site_S kk_195_149 kw_1416 kw_1417 d_195_19) rfl
theorem ki_195_18 : js_Ok 195 18 (o_il 3 19) := js_St.ok (st_iloadn rfl d_195_18)
theorem ki_195_17 : js_Ok 195 17 (o_il 2 18) := js_St.ok (st_iloadn rfl d_195_17)
theorem ki_195_46 : js_Ok 195 46 (o_cI 145 2 9 49) := ok_cI (site_V kk_195_145 (by decide) kw_1328 kw_1330 ks_28 (fun t ht => by cases ht; exact Or.inl ⟨_, rfl, rfl⟩) d_195_46) rfl
theorem ki_195_44 : js_Ok 195 44 (o_il 5 46) := js_St.ok (st_iload d_195_44)
theorem ki_195_43 : js_Ok 195 43 (o_al 0 44) := js_St.ok (st_aloadn rfl d_195_43)
theorem ki_195_40 : js_Ok 195 40 (o_go 70) := js_St.ok (st_goto (by decide) d_195_40)
theorem ki_195_39 : js_Ok 195 39 (o_ic 3 40) := js_St.ok (st_iconst rfl d_195_39)
theorem ki_195_36 : js_Ok 195 36 (o_ne 43 39) := js_St.ok (st_ifne (by decide) d_195_36)
theorem ki_195_33 : js_Ok 195 33 (o_cI 135 3 0 36) := ok_cI (site_S kk_195_135 kw_1302 kw_1303 d_195_33) rfl
theorem ki_195_32 : js_Ok 195 32 (o_ic 3 33) := js_St.ok (st_iconst rfl d_195_32)
theorem ki_195_62 : js_Ok 195 62 (o_le 69 65) := js_St.ok (st_ifle (by decide) d_195_62)
theorem ki_195_59 : js_Ok 195 59 (o_cI 189 3 9 62) := ok_cI (site_V kk_195_189 (by decide) kw_1478 kw_1480 ks_48 (fun t ht => by cases ht; exact Or.inl ⟨_, rfl, rfl⟩) d_195_59) rfl
theorem ki_195_58 : js_Ok 195 58 (o_il 3 59) := js_St.ok (st_iloadn rfl d_195_58)
theorem ki_195_57 : js_Ok 195 57 (o_il 2 58) := js_St.ok (st_iloadn rfl d_195_57)
theorem ki_195_56 : js_Ok 195 56 (o_al 0 57) := js_St.ok (st_aloadn rfl d_195_56)
theorem ki_195_53 : js_Ok 195 53 (o_go 70) := js_St.ok (st_goto (by decide) d_195_53)
theorem ki_195_52 : js_Ok 195 52 (o_ic 4 53) := js_St.ok (st_iconst rfl d_195_52)
theorem ki_195_49 : js_Ok 195 49 (o_eq 56 52) := js_St.ok (st_ifeq (by decide) d_195_49)
theorem ki_195_77 : js_Ok 195 77 (o_le 84 80) := js_St.ok (st_ifle (by decide) d_195_77)
theorem ki_195_74 : js_Ok 195 74 (o_gI 8 6 77) := js_St.ok (st_gI js_c8 (by decide) kw_1239 d_195_74)
theorem ki_195_73 : js_Ok 195 73 (o_al 0 74) := js_St.ok (st_aloadn rfl d_195_73)
theorem ki_195_70 : js_Ok 195 70 (o_pI 8 6 73) := js_St.ok (st_pIown js_c8 (by decide) rfl kw_1239 (js_c8.2.2.1 6 (by decide)) d_195_70)
theorem ki_195_69 : js_Ok 195 69 (o_ic 0 70) := js_St.ok (st_iconst rfl d_195_69)
theorem ki_195_66 : js_Ok 195 66 (o_go 70) := js_St.ok (st_goto (by decide) d_195_66)
theorem ki_195_65 : js_Ok 195 65 (o_ic 5 66) := js_St.ok (st_iconst rfl d_195_65)
theorem ki_195_95 : js_Ok 195 95 (o_cI 183 4 9 98) := ok_cI (site_V kk_195_183 (by decide) kw_1506 kw_1508 ks_55 (fun t ht => by cases ht; exact Or.inl ⟨_, rfl, rfl⟩) d_195_95) rfl
theorem ki_195_93 : js_Ok 195 93 (o_il 4 95) := js_St.ok (st_iload d_195_93)
theorem ki_195_92 : js_Ok 195 92 (o_b2 (fun x y => x + y) 93) := js_St.ok (st_iadd d_195_92)
theorem ki_195_91 : js_Ok 195 91 (o_il 3 92) := js_St.ok (st_iloadn rfl d_195_91)
theorem ki_195_90 : js_Ok 195 90 (o_b2 (fun x y => x * y) 91) := js_St.ok (st_imul d_195_90)
theorem ki_195_89 : js_Ok 195 89 (o_il 2 90) := js_St.ok (st_iloadn rfl d_195_89)
theorem ki_195_87 : js_Ok 195 87 (o_ic 8 89) := js_St.ok (st_bipush rfl d_195_87)
theorem ki_195_85 : js_Ok 195 85 (o_il 5 87) := js_St.ok (st_iload d_195_85)
theorem ki_195_84 : js_Ok 195 84 (o_al 0 85) := js_St.ok (st_aloadn rfl d_195_84)
theorem ki_195_81 : js_Ok 195 81 (o_go 98) := js_St.ok (st_goto (by decide) d_195_81)
theorem ki_195_80 : js_Ok 195 80 (o_ic 0 81) := js_St.ok (st_iconst rfl d_195_80)
theorem ki_195_98 : js_Ok 195 98 (o_rI) := ok_rI rfl d_195_98
theorem d_196_0 : decode (js_b 196) 0 = .ok (.aload_n 0, 1) := by decide +kernel
theorem d_196_1 : decode (js_b 196) 1 = .ok (.iload_n 1, 1) := by decide +kernel
theorem d_196_2 : decode (js_b 196) 2 = .ok (.invokevirtual 55, 3) := by decide +kernel
theorem d_196_5 : decode (js_b 196) 5 = .ok (.istore 4, 2) := by decide +kernel
theorem d_196_7 : decode (js_b 196) 7 = .ok (.aload_n 0, 1) := by decide +kernel
theorem d_196_8 : decode (js_b 196) 8 = .ok (.iload 4, 2) := by decide +kernel
theorem d_196_10 : decode (js_b 196) 10 = .ok (.ifCond .ge 7, 3) := by decide +kernel
theorem d_196_13 : decode (js_b 196) 13 = .ok (.iconst 1, 1) := by decide +kernel
theorem d_196_14 : decode (js_b 196) 14 = .ok (.goto 42, 3) := by decide +kernel
theorem d_196_17 : decode (js_b 196) 17 = .ok (.iload_n 2, 1) := by decide +kernel
theorem d_196_18 : decode (js_b 196) 18 = .ok (.iload_n 3, 1) := by decide +kernel
theorem d_196_19 : decode (js_b 196) 19 = .ok (.invokestatic 73, 3) := by decide +kernel
theorem d_196_22 : decode (js_b 196) 22 = .ok (.ifCond .ne 7, 3) := by decide +kernel
theorem d_196_25 : decode (js_b 196) 25 = .ok (.iconst 2, 1) := by decide +kernel
theorem d_196_26 : decode (js_b 196) 26 = .ok (.goto 30, 3) := by decide +kernel
theorem d_196_29 : decode (js_b 196) 29 = .ok (.aload_n 0, 1) := by decide +kernel
theorem d_196_30 : decode (js_b 196) 30 = .ok (.iload 4, 2) := by decide +kernel
theorem d_196_32 : decode (js_b 196) 32 = .ok (.invokevirtual 59, 3) := by decide +kernel
theorem d_196_35 : decode (js_b 196) 35 = .ok (.ifCond .eq 7, 3) := by decide +kernel
theorem d_196_38 : decode (js_b 196) 38 = .ok (.iconst 3, 1) := by decide +kernel
theorem d_196_39 : decode (js_b 196) 39 = .ok (.goto 17, 3) := by decide +kernel
theorem d_196_42 : decode (js_b 196) 42 = .ok (.aload_n 0, 1) := by decide +kernel
theorem d_196_43 : decode (js_b 196) 43 = .ok (.iload_n 2, 1) := by decide +kernel
theorem d_196_44 : decode (js_b 196) 44 = .ok (.iload_n 3, 1) := by decide +kernel
theorem d_196_45 : decode (js_b 196) 45 = .ok (.invokevirtual 170, 3) := by decide +kernel
theorem d_196_48 : decode (js_b 196) 48 = .ok (.ifCond .le 7, 3) := by decide +kernel
theorem d_196_51 : decode (js_b 196) 51 = .ok (.iconst 4, 1) := by decide +kernel
theorem d_196_52 : decode (js_b 196) 52 = .ok (.goto 4, 3) := by decide +kernel
theorem d_196_55 : decode (js_b 196) 55 = .ok (.iconst 0, 1) := by decide +kernel
theorem d_196_56 : decode (js_b 196) 56 = .ok (.putfield 39, 3) := by decide +kernel
theorem d_196_59 : decode (js_b 196) 59 = .ok (.aload_n 0, 1) := by decide +kernel
theorem d_196_60 : decode (js_b 196) 60 = .ok (.getfield 39, 3) := by decide +kernel
theorem d_196_63 : decode (js_b 196) 63 = .ok (.ifCond .le 7, 3) := by decide +kernel
theorem d_196_66 : decode (js_b 196) 66 = .ok (.iconst 0, 1) := by decide +kernel
theorem d_196_67 : decode (js_b 196) 67 = .ok (.goto 15, 3) := by decide +kernel
theorem d_196_70 : decode (js_b 196) 70 = .ok (.aload_n 0, 1) := by decide +kernel
theorem d_196_71 : decode (js_b 196) 71 = .ok (.iload 4, 2) := by decide +kernel
theorem d_196_73 : decode (js_b 196) 73 = .ok (.bipush 8, 2) := by decide +kernel
theorem d_196_75 : decode (js_b 196) 75 = .ok (.iload_n 2, 1) := by decide +kernel
theorem d_196_76 : decode (js_b 196) 76 = .ok (.imul, 1) := by decide +kernel
theorem d_196_77 : decode (js_b 196) 77 = .ok (.iload_n 3, 1) := by decide +kernel
theorem d_196_78 : decode (js_b 196) 78 = .ok (.iadd, 1) := by decide +kernel
theorem d_196_79 : decode (js_b 196) 79 = .ok (.invokevirtual 158, 3) := by decide +kernel
theorem d_196_82 : decode (js_b 196) 82 = .ok (.ireturn, 1) := by decide +kernel
theorem ki_196_14 : js_Ok 196 14 (o_go 56) := js_St.ok (st_goto (by decide) d_196_14)
theorem ki_196_13 : js_Ok 196 13 (o_ic 1 14) := js_St.ok (st_iconst rfl d_196_13)
theorem ki_196_10 : js_Ok 196 10 (o_ge 17 13) := js_St.ok (st_ifge (by decide) d_196_10)
theorem ki_196_8 : js_Ok 196 8 (o_il 4 10) := js_St.ok (st_iload d_196_8)
theorem ki_196_7 : js_Ok 196 7 (o_al 0 8) := js_St.ok (st_aloadn rfl d_196_7)
theorem ki_196_5 : js_Ok 196 5 (o_is 4 7) := js_St.ok (st_istore (Nat.le_of_ble_eq_true rfl) d_196_5)
theorem ki_196_2 : js_Ok 196 2 (o_cI 144 2 9 5) := ok_cI (site_V kk_196_144 (by decide) kw_1348 kw_1350 ks_32 (fun t ht => by cases ht; exact Or.inl ⟨_, rfl, rfl⟩) d_196_2) rfl
theorem ki_196_1 : js_Ok 196 1 (o_il 1 2) := js_St.ok (st_iloadn rfl d_196_1)
theorem ki_196_0 : js_Ok 196 0 (o_al 0 1) := js_St.ok (st_aloadn rfl d_196_0)
theorem ki_196_30 : js_Ok 196 30 (o_il 4 32) := js_St.ok (st_iload d_196_30)
theorem ki_196_29 : js_Ok 196 29 (o_al 0 30) := js_St.ok (st_aloadn rfl d_196_29)
theorem ki_196_26 : js_Ok 196 26 (o_go 56) := js_St.ok (st_goto (by decide) d_196_26)
theorem ki_196_25 : js_Ok 196 25 (o_ic 2 26) := js_St.ok (st_iconst rfl d_196_25)
theorem ki_196_22 : js_Ok 196 22 (o_ne 29 25) := js_St.ok (st_ifne (by decide) d_196_22)
theorem ki_196_19 : js_Ok 196 19 (o_cI 149 2 0 22) := ok_cI (site_S kk_196_149 kw_1416 kw_1417 d_196_19) rfl
theorem ki_196_18 : js_Ok 196 18 (o_il 3 19) := js_St.ok (st_iloadn rfl d_196_18)
theorem ki_196_17 : js_Ok 196 17 (o_il 2 18) := js_St.ok (st_iloadn rfl d_196_17)
theorem ki_196_45 : js_Ok 196 45 (o_cI 189 3 9 48) := ok_cI (site_V kk_196_189 (by decide) kw_1478 kw_1480 ks_48 (fun t ht => by cases ht; exact Or.inl ⟨_, rfl, rfl⟩) d_196_45) rfl
theorem ki_196_44 : js_Ok 196 44 (o_il 3 45) := js_St.ok (st_iloadn rfl d_196_44)
theorem ki_196_43 : js_Ok 196 43 (o_il 2 44) := js_St.ok (st_iloadn rfl d_196_43)
theorem ki_196_42 : js_Ok 196 42 (o_al 0 43) := js_St.ok (st_aloadn rfl d_196_42)
theorem ki_196_39 : js_Ok 196 39 (o_go 56) := js_St.ok (st_goto (by decide) d_196_39)
theorem ki_196_38 : js_Ok 196 38 (o_ic 3 39) := js_St.ok (st_iconst rfl d_196_38)
theorem ki_196_35 : js_Ok 196 35 (o_eq 42 38) := js_St.ok (st_ifeq (by decide) d_196_35)
theorem ki_196_32 : js_Ok 196 32 (o_cI 145 2 9 35) := ok_cI (site_V kk_196_145 (by decide) kw_1328 kw_1330 ks_28 (fun t ht => by cases ht; exact Or.inl ⟨_, rfl, rfl⟩) d_196_32) rfl
theorem ki_196_63 : js_Ok 196 63 (o_le 70 66) := js_St.ok (st_ifle (by decide) d_196_63)
theorem ki_196_60 : js_Ok 196 60 (o_gI 8 6 63) := js_St.ok (st_gI js_c8 (by decide) kw_1239 d_196_60)
theorem ki_196_59 : js_Ok 196 59 (o_al 0 60) := js_St.ok (st_aloadn rfl d_196_59)
theorem ki_196_56 : js_Ok 196 56 (o_pI 8 6 59) := js_St.ok (st_pIown js_c8 (by decide) rfl kw_1239 (js_c8.2.2.1 6 (by decide)) d_196_56)
theorem ki_196_55 : js_Ok 196 55 (o_ic 0 56) := js_St.ok (st_iconst rfl d_196_55)
theorem ki_196_52 : js_Ok 196 52 (o_go 56) := js_St.ok (st_goto (by decide) d_196_52)
theorem ki_196_51 : js_Ok 196 51 (o_ic 4 52) := js_St.ok (st_iconst rfl d_196_51)
theorem ki_196_48 : js_Ok 196 48 (o_le 55 51) := js_St.ok (st_ifle (by decide) d_196_48)
theorem ki_196_79 : js_Ok 196 79 (o_cI 184 3 9 82) := ok_cI (site_V kk_196_184 (by decide) kw_1502 kw_1504 ks_54 (fun t ht => by cases ht; exact Or.inl ⟨_, rfl, rfl⟩) d_196_79) rfl
theorem ki_196_78 : js_Ok 196 78 (o_b2 (fun x y => x + y) 79) := js_St.ok (st_iadd d_196_78)
theorem ki_196_77 : js_Ok 196 77 (o_il 3 78) := js_St.ok (st_iloadn rfl d_196_77)
theorem ki_196_76 : js_Ok 196 76 (o_b2 (fun x y => x * y) 77) := js_St.ok (st_imul d_196_76)
theorem ki_196_75 : js_Ok 196 75 (o_il 2 76) := js_St.ok (st_iloadn rfl d_196_75)
theorem ki_196_73 : js_Ok 196 73 (o_ic 8 75) := js_St.ok (st_bipush rfl d_196_73)
theorem ki_196_71 : js_Ok 196 71 (o_il 4 73) := js_St.ok (st_iload d_196_71)
theorem ki_196_70 : js_Ok 196 70 (o_al 0 71) := js_St.ok (st_aloadn rfl d_196_70)
theorem ki_196_67 : js_Ok 196 67 (o_go 82) := js_St.ok (st_goto (by decide) d_196_67)
theorem ki_196_66 : js_Ok 196 66 (o_ic 0 67) := js_St.ok (st_iconst rfl d_196_66)
theorem ki_196_82 : js_Ok 196 82 (o_rI) := ok_rI rfl d_196_82
theorem d_197_0 : decode (js_b 197) 0 = .ok (.aload_n 0, 1) := by decide +kernel
theorem d_197_1 : decode (js_b 197) 1 = .ok (.aload_n 0, 1) := by decide +kernel
theorem d_197_2 : decode (js_b 197) 2 = .ok (.iload_n 1, 1) := by decide +kernel
theorem d_197_3 : decode (js_b 197) 3 = .ok (.iload_n 2, 1) := by decide +kernel
theorem d_197_4 : decode (js_b 197) 4 = .ok (.invokevirtual 170, 3) := by decide +kernel
theorem d_197_7 : decode (js_b 197) 7 = .ok (.putfield 39, 3) := by decide +kernel
theorem d_197_10 : decode (js_b 197) 10 = .ok (.aload_n 0, 1) := by decide +kernel
theorem d_197_11 : decode (js_b 197) 11 = .ok (.aload_n 0, 1) := by decide +kernel
theorem d_197_12 : decode (js_b 197) 12 = .ok (.getfield 39, 3) := by decide +kernel
theorem d_197_15 : decode (js_b 197) 15 = .ok (.ifCond .ne 15, 3) := by decide +kernel
theorem d_197_18 : decode (js_b 197) 18 = .ok (.aload_n 0, 1) := by decide +kernel
theorem d_197_19 : decode (js_b 197) 19 = .ok (.iconst 1, 1) := by decide +kernel
theorem d_197_20 : decode (js_b 197) 20 = .ok (.invokevirtual 105, 3) := by decide +kernel
theorem d_197_23 : decode (js_b 197) 23 = .ok (.ifCond .ne 7, 3) := by decide +kernel
theorem d_197_26 : decode (js_b 197) 26 = .ok (.iconst 3, 1) := by decide +kernel
theorem d_197_27 : decode (js_b 197) 27 = .ok (.goto 7, 3) := by decide +kernel
theorem d_197_30 : decode (js_b 197) 30 = .ok (.aload_n 0, 1) := by decide +kernel
theorem d_197_31 : decode (js_b 197) 31 = .ok (.getfield 39, 3) := by decide +kernel
theorem d_197_34 : decode (js_b 197) 34 = .ok (.putfield 39, 3) := by decide +kernel
theorem d_197_37 : decode (js_b 197) 37 = .ok (.aload_n 0, 1) := by decide +kernel
theorem d_197_38 : decode (js_b 197) 38 = .ok (.getfield 39, 3) := by decide +kernel
theorem d_197_41 : decode (js_b 197) 41 = .ok (.ifCond .le 7, 3) := by decide +kernel
theorem d_197_44 : decode (js_b 197) 44 = .ok (.iconst 0, 1) := by decide +kernel
theorem d_197_45 : decode (js_b 197) 45 = .ok (.goto 17, 3) := by decide +kernel
theorem d_197_48 : decode (js_b 197) 48 = .ok (.aload_n 0, 1) := by decide +kernel
theorem d_197_49 : decode (js_b 197) 49 = .ok (.aload_n 0, 1) := by decide +kernel
theorem d_197_50 : decode (js_b 197) 50 = .ok (.bipush 8, 2) := by decide +kernel
theorem d_197_52 : decode (js_b 197) 52 = .ok (.iload_n 1, 1) := by decide +kernel
theorem d_197_53 : decode (js_b 197) 53 = .ok (.imul, 1) := by decide +kernel
theorem d_197_54 : decode (js_b 197) 54 = .ok (.iload_n 2, 1) := by decide +kernel
theorem d_197_55 : decode (js_b 197) 55 = .ok (.iadd, 1) := by decide +kernel
theorem d_197_56 : decode (js_b 197) 56 = .ok (.invokevirtual 173, 3) := by decide +kernel
theorem d_197_59 : decode (js_b 197) 59 = .ok (.invokevirtual 130, 3) := by decide +kernel
theorem d_197_62 : decode (js_b 197) 62 = .ok (.ireturn, 1) := by decide +kernel
theorem ki_197_15 : js_Ok 197 15 (o_ne 30 18) := js_St.ok (st_ifne (by decide) d_197_15)
theorem ki_197_12 : js_Ok 197 12 (o_gI 8 6 15) := js_St.ok (st_gI js_c8 (by decide) kw_1239 d_197_12)
theorem ki_197_11 : js_Ok 197 11 (o_al 0 12) := js_St.ok (st_aloadn rfl d_197_11)
theorem ki_197_10 : js_Ok 197 10 (o_al 0 11) := js_St.ok (st_aloadn rfl d_197_10)
theorem ki_197_7 : js_Ok 197 7 (o_pI 8 6 10) := js_St.ok (st_pIown js_c8 (by decide) rfl kw_1239 (js_c8.2.2.1 6 (by decide)) d_197_7)
theorem ki_197_4 : js_Ok 197 4 (o_cI 189 3 9 7) := ok_cI (site_V kk_197_189 (by decide) kw_1478 kw_1480 ks_48 (fun t ht => by cases ht; exact Or.inl ⟨_, rfl, rfl⟩) d_197_4) rfl
theorem ki_197_3 : js_Ok 197 3 (o_il 2 4) := js_St.ok (st_iloadn rfl d_197_3)
theorem ki_197_2 : js_Ok 197 2 (o_il 1 3) := js_St.ok (st_iloadn rfl d_197_2)
theorem ki_197_1 : js_Ok 197 1 (o_al 0 2) := js_St.ok (st_aloadn rfl d_197_1)
theorem ki_197_0 : js_Ok 197 0 (o_al 0 1) := js_St.ok (st_aloadn rfl d_197_0)
theorem ki_197_31 : js_Ok 197 31 (o_gI 8 6 34) := js_St.ok (st_gI js_c8 (by decide) kw_1239 d_197_31)
theorem ki_197_30 : js_Ok 197 30 (o_al 0 31) := js_St.ok (st_aloadn rfl d_197_30)
theorem ki_197_27 : js_Ok 197 27 (o_go 34) := js_St.ok (st_goto (by decide) d_197_27)
theorem ki_197_26 : js_Ok 197 26 (o_ic 3 27) := js_St.ok (st_iconst rfl d_197_26)
theorem ki_197_23 : js_Ok 197 23 (o_ne 30 26) := js_St.ok (st_ifne (by decide) d_197_23)
theorem ki_197_20 : js_Ok 197 20 (o_cI 148 2 9 23) := ok_cI (site_V kk_197_148 (by decide) kw_1312 kw_1314 ks_24 (fun t ht => by cases ht; exact Or.inl ⟨_, rfl, rfl⟩) d_197_20) rfl
theorem ki_197_19 : js_Ok 197 19 (o_ic 1 20) := js_St.ok (st_iconst rfl d_197_19)
theorem ki_197_18 : js_Ok 197 18 (o_al 0 19) := js_St.ok (st_aloadn rfl d_197_18)
theorem ki_197_45 : js_Ok 197 45 (o_go 62) := js_St.ok (st_goto (by decide) d_197_45)
theorem ki_197_44 : js_Ok 197 44 (o_ic 0 45) := js_St.ok (st_iconst rfl d_197_44)
theorem ki_197_41 : js_Ok 197 41 (o_le 48 44) := js_St.ok (st_ifle (by decide) d_197_41)
theorem ki_197_38 : js_Ok 197 38 (o_gI 8 6 41) := js_St.ok (st_gI js_c8 (by decide) kw_1239 d_197_38)
theorem ki_197_37 : js_Ok 197 37 (o_al 0 38) := js_St.ok (st_aloadn rfl d_197_37)
theorem ki_197_34 : js_Ok 197 34 (o_pI 8 6 37) := js_St.ok (st_pIown js_c8 (by decide) rfl kw_1239 (js_c8.2.2.1 6 (by decide)) d_197_34)
theorem ki_197_62 : js_Ok 197 62 (o_rI) := ok_rI rfl d_197_62
theorem ki_197_59 : js_Ok 197 59 (o_cI 143 2 9 62) := ok_cI (site_V kk_197_143 (by decide) kw_1368 kw_1370 ks_34 (fun t ht => by cases ht; exact Or.inl ⟨_, rfl, rfl⟩) d_197_59) rfl
theorem ki_197_56 : js_Ok 197 56 (o_cI 187 2 9 59) := ok_cI (site_V kk_197_187 (by decide) kw_1490 kw_1492 ks_51 (fun t ht => by cases ht; exact Or.inl ⟨_, rfl, rfl⟩) d_197_56) rfl
theorem ki_197_55 : js_Ok 197 55 (o_b2 (fun x y => x + y) 56) := js_St.ok (st_iadd d_197_55)
theorem ki_197_54 : js_Ok 197 54 (o_il 2 55) := js_St.ok (st_iloadn rfl d_197_54)
theorem ki_197_53 : js_Ok 197 53 (o_b2 (fun x y => x * y) 54) := js_St.ok (st_imul d_197_53)
theorem ki_197_52 : js_Ok 197 52 (o_il 1 53) := js_St.ok (st_iloadn rfl d_197_52)
theorem ki_197_50 : js_Ok 197 50 (o_ic 8 52) := js_St.ok (st_bipush rfl d_197_50)
theorem ki_197_49 : js_Ok 197 49 (o_al 0 50) := js_St.ok (st_aloadn rfl d_197_49)
theorem ki_197_48 : js_Ok 197 48 (o_al 0 49) := js_St.ok (st_aloadn rfl d_197_48)
theorem d_198_0 : decode (js_b 198) 0 = .ok (.aload_n 0, 1) := by decide +kernel
theorem d_198_1 : decode (js_b 198) 1 = .ok (.aload_n 0, 1) := by decide +kernel
theorem d_198_2 : decode (js_b 198) 2 = .ok (.iload_n 1, 1) := by decide +kernel
theorem d_198_3 : decode (js_b 198) 3 = .ok (.iload_n 2, 1) := by decide +kernel
theorem d_198_4 : decode (js_b 198) 4 = .ok (.invokevirtual 170, 3) := by decide +kernel
theorem d_198_7 : decode (js_b 198) 7 = .ok (.putfield 39, 3) := by decide +kernel
theorem d_198_10 : decode (js_b 198) 10 = .ok (.aload_n 0, 1) := by decide +kernel
theorem d_198_11 : decode (js_b 198) 11 = .ok (.aload_n 0, 1) := by decide +kernel
theorem d_198_12 : decode (js_b 198) 12 = .ok (.getfield 39, 3) := by decide +kernel
theorem d_198_15 : decode (js_b 198) 15 = .ok (.ifCond .ne 22, 3) := by decide +kernel
theorem d_198_18 : decode (js_b 198) 18 = .ok (.iload_n 3, 1) := by decide +kernel
theorem d_198_19 : decode (js_b 198) 19 = .ok (.iconst 0, 1) := by decide +kernel
theorem d_198_20 : decode (js_b 198) 20 = .ok (.aload_n 0, 1) := by decide +kernel
theorem d_198_21 : decode (js_b 198) 21 = .ok (.iconst 1, 1) := by decide +kernel
theorem d_198_22 : decode (js_b 198) 22 = .ok (.invokevirtual 105, 3) := by decide +kernel
theorem d_198_25 : decode (js_b 198) 25 = .ok (.iconst 1, 1) := by decide +kernel
theorem d_198_26 : decode (js_b 198) 26 = .ok (.isub, 1) := by decide +kernel
theorem d_198_27 : decode (js_b 198) 27 = .ok (.invokestatic 69, 3) := by decide +kernel
theorem d_198_30 : decode (js_b 198) 30 = .ok (.ifCond .ne 7, 3) := by decide +kernel
theorem d_198_33 : decode (js_b 198) 33 = .ok (.iconst 3, 1) := by decide +kernel
theorem d_198_34 : decode (js_b 198) 34 = .ok (.goto 7, 3) := by decide +kernel
theorem d_198_37 : decode (js_b 198) 37 = .ok (.aload_n 0, 1) := by decide +kernel
theorem d_198_38 : decode (js_b 198) 38 = .ok (.getfield 39, 3) := by decide +kernel
theorem d_198_41 : decode (js_b 198) 41 = .ok (.putfield 39, 3) := by decide +kernel
theorem d_198_44 : decode (js_b 198) 44 = .ok (.iconst 0, 1) := by decide +kernel
theorem d_198_45 : decode (js_b 198) 45 = .ok (.istore 4, 2) := by decide +kernel
theorem d_198_47 : decode (js_b 198) 47 = .ok (.iconst 0, 1) := by decide +kernel
theorem d_198_48 : decode (js_b 198) 48 = .ok (.istore 5, 2) := by decide +kernel
theorem d_198_50 : decode (js_b 198) 50 = .ok (.iload 5, 2) := by decide +kernel
theorem d_198_52 : decode (js_b 198) 52 = .ok (.bipush 20, 2) := by decide +kernel
theorem d_198_54 : decode (js_b 198) 54 = .ok (.if_icmp .ge 115, 3) := by decide +kernel
theorem d_198_57 : decode (js_b 198) 57 = .ok (.aload_n 0, 1) := by decide +kernel
theorem d_198_58 : decode (js_b 198) 58 = .ok (.getfield 39, 3) := by decide +kernel
theorem d_198_61 : decode (js_b 198) 61 = .ok (.ifCond .ne 108, 3) := by decide +kernel
theorem d_198_64 : decode (js_b 198) 64 = .ok (.iconst 0, 1) := by decide +kernel
theorem d_198_65 : decode (js_b 198) 65 = .ok (.istore 6, 2) := by decide +kernel
theorem d_198_67 : decode (js_b 198) 67 = .ok (.iconst 0, 1) := by decide +kernel
theorem d_198_68 : decode (js_b 198) 68 = .ok (.istore 7, 2) := by decide +kernel
theorem d_198_70 : decode (js_b 198) 70 = .ok (.iload 7, 2) := by decide +kernel
theorem d_198_72 : decode (js_b 198) 72 = .ok (.bipush 20, 2) := by decide +kernel
theorem d_198_74 : decode (js_b 198) 74 = .ok (.if_icmp .ge 61, 3) := by decide +kernel
theorem d_198_77 : decode (js_b 198) 77 = .ok (.iload 6, 2) := by decide +kernel
theorem d_198_79 : decode (js_b 198) 79 = .ok (.aload_n 0, 1) := by decide +kernel
theorem d_198_80 : decode (js_b 198) 80 = .ok (.iload 5, 2) := by decide +kernel
theorem d_198_82 : decode (js_b 198) 82 = .ok (.invokevirtual 66, 3) := by decide +kernel
theorem d_198_85 : decode (js_b 198) 85 = .ok (.ifCond .eq 40, 3) := by decide +kernel
theorem d_198_88 : decode (js_b 198) 88 = .ok (.aload_n 0, 1) := by decide +kernel
theorem d_198_89 : decode (js_b 198) 89 = .ok (.iload 7, 2) := by decide +kernel
theorem d_198_91 : decode (js_b 198) 91 = .ok (.invokevirtual 66, 3) := by decide +kernel
theorem d_198_94 : decode (js_b 198) 94 = .ok (.ifCond .eq 31, 3) := by decide +kernel
theorem d_198_97 : decode (js_b 198) 97 = .ok (.iload 7, 2) := by decide +kernel
theorem d_198_99 : decode (js_b 198) 99 = .ok (.iload 5, 2) := by decide +kernel
theorem d_198_101 : decode (js_b 198) 101 = .ok (.if_icmp .eq 24, 3) := by decide +kernel
theorem d_198_104 : decode (js_b 198) 104 = .ok (.aload_n 0, 1) := by decide +kernel
theorem d_198_105 : decode (js_b 198) 105 = .ok (.iload 7, 2) := by decide +kernel
theorem d_198_107 : decode (js_b 198) 107 = .ok (.iload 5, 2) := by decide +kernel
theorem d_198_109 : decode (js_b 198) 109 = .ok (.bipush 8, 2) := by decide +kernel
theorem d_198_111 : decode (js_b 198) 111 = .ok (.iload_n 1, 1) := by decide +kernel
theorem d_198_112 : decode (js_b 198) 112 = .ok (.imul, 1) := by decide +kernel
theorem d_198_113 : decode (js_b 198) 113 = .ok (.iload_n 2, 1) := by decide +kernel
theorem d_198_114 : decode (js_b 198) 114 = .ok (.iadd, 1) := by decide +kernel
theorem d_198_115 : decode (js_b 198) 115 = .ok (.invokevirtual 164, 3) := by decide +kernel
theorem d_198_118 : decode (js_b 198) 118 = .ok (.ifCond .eq 7, 3) := by decide +kernel
theorem d_198_121 : decode (js_b 198) 121 = .ok (.iconst 1, 1) := by decide +kernel
theorem d_198_122 : decode (js_b 198) 122 = .ok (.goto 4, 3) := by decide +kernel
theorem d_198_125 : decode (js_b 198) 125 = .ok (.iconst 0, 1) := by decide +kernel
theorem d_198_126 : decode (js_b 198) 126 = .ok (.iadd, 1) := by decide +kernel
theorem d_198_127 : decode (js_b 198) 127 = .ok (.istore 6, 2) := by decide +kernel
theorem d_198_129 : decode (js_b 198) 129 = .ok (.iinc 7 1, 3) := by decide +kernel
theorem d_198_132 : decode (js_b 198) 132 = .ok (.goto (-62), 3) := by decide +kernel
theorem d_198_135 : decode (js_b 198) 135 = .ok (.aload_n 0, 1) := by decide +kernel
theorem d_198_136 : decode (js_b 198) 136 = .ok (.iload 5, 2) := by decide +kernel
theorem d_198_138 : decode (js_b 198) 138 = .ok (.invokevirtual 66, 3) := by decide +kernel
theorem d_198_141 : decode (js_b 198) 141 = .ok (.ifCond .eq 18, 3) := by decide +kernel
theorem d_198_144 : decode (js_b 198) 144 = .ok (.iload 6, 2) := by decide +kernel
theorem d_198_146 : decode (js_b 198) 146 = .ok (.iload_n 3, 1) := by decide +kernel
theorem d_198_147 : decode (js_b 198) 147 = .ok (.if_icmp .ne 12, 3) := by decide +kernel
theorem d_198_150 : decode (js_b 198) 150 = .ok (.aload_n 0, 1) := by decide +kernel
theorem d_198_151 : decode (js_b 198) 151 = .ok (.iload 5, 2) := by decide +kernel
theorem d_198_153 : decode (js_b 198) 153 = .ok (.invokevirtual 130, 3) := by decide +kernel
theorem d_198_156 : decode (js_b 198) 156 = .ok (.goto 5, 3) := by decide +kernel
theorem d_198_159 : decode (js_b 198) 159 = .ok (.iload 4, 2) := by decide +kernel
theorem d_198_161 : decode (js_b 198) 161 = .ok (.istore 4, 2) := by decide +kernel
theorem d_198_163 : decode (js_b 198) 163 = .ok (.iinc 5 1, 3) := by decide +kernel
theorem d_198_166 : decode (js_b 198) 166 = .ok (.goto (-116), 3) := by decide +kernel
theorem d_198_169 : decode (js_b 198) 169 = .ok (.iload 4, 2) := by decide +kernel
theorem d_198_171 : decode (js_b 198) 171 = .ok (.ireturn, 1) := by decide +kernel
theorem ki_198_15 : js_Ok 198 15 (o_ne 37 18) := js_St.ok (st_ifne (by decide) d_198_15)
theorem ki_198_12 : js_Ok 198 12 (o_gI 8 6 15) := js_St.ok (st_gI js_c8 (by decide) kw_1239 d_198_12)
theorem ki_198_11 : js_Ok 198 11 (o_al 0 12) := js_St.ok (st_aloadn rfl d_198_11)
theorem ki_198_10 : js_Ok 198 10 (o_al 0 11) := js_St.ok (st_aloadn rfl d_198_10)
theorem ki_198_7 : js_Ok 198 7 (o_pI 8 6 10) := js_St.ok (st_pIown js_c8 (by decide) rfl kw_1239 (js_c8.2.2.1 6 (by decide)) d_198_7)
theorem ki_198_4 : js_Ok 198 4 (o_cI 189 3 9 7) := ok_cI (site_V kk_198_189 (by decide) kw_1478 kw_1480 ks_48 (fun t ht => by cases ht; exact Or.inl ⟨_, rfl, rfl⟩) d_198_4) rfl
theorem ki_198_3 : js_Ok 198 3 (o_il 2 4) := js_St.ok (st_iloadn rfl d_198_3)
theorem ki_198_2 : js_Ok 198 2 (o_il 1 3) := js_St.ok (st_iloadn rfl d_198_2)
theorem ki_198_1 : js_Ok 198 1 (o_al 0 2) := js_St.ok (st_aloadn rfl d_198_1)
theorem ki_198_0 : js_Ok 198 0 (o_al 0 1) := js_St.ok (st_aloadn rfl d_198_0)
theorem ki_198_30 : js_Ok 198 30 (o_ne 37 33) := js_St.ok (st_ifne (by decide) d_198_30)
theorem ki_198_27 : js_Ok 198 27 (o_cI 135 3 0 30) := ok_cI (site_S kk_198_135 kw_1302 kw_1303 d_198_27) rfl
theorem ki_198_26 : js_Ok 198 26 (o_b2 (fun x y => x - y) 27) := js_St.ok (st_isub d_198_26)
theorem ki_198_25 : js_Ok 198 25 (o_ic 1 26) := js_St.ok (st_iconst rfl d_198_25)
theorem ki_198_22 : js_Ok 198 22 (o_cI 148 2 9 25) := ok_cI (site_V kk_198_148 (by decide) kw_1312 kw_1314 ks_24 (fun t ht => by cases ht; exact Or.inl ⟨_, rfl, rfl⟩) d_198_22) rfl
theorem ki_198_21 : js_Ok 198 21 (o_ic 1 22) := js_St.ok (st_iconst rfl d_198_21)
theorem ki_198_20 : js_Ok 198 20 (o_al 0 21) := js_St.ok (st_aloadn rfl d_198_20)
theorem ki_198_19 : js_Ok 198 19 (o_ic 0 20) := js_St.ok (st_iconst rfl d_198_19)
theorem ki_198_18 : js_Ok 198 18 (o_il 3 19) := js_St.ok (st_iloadn rfl d_198_18)
theorem ki_198_47 : js_Ok 198 47 (o_ic 0 48) := js_St.ok (st_iconst rfl d_198_47)
theorem ki_198_45 : js_Ok 198 45 (o_is 4 47) := js_St.ok (st_istore (Nat.le_of_ble_eq_true rfl) d_198_45)
theorem ki_198_44 : js_Ok 198 44 (o_ic 0 45) := js_St.ok (st_iconst rfl d_198_44)
theorem ki_198_41 : js_Ok 198 41 (o_pI 8 6 44) := js_St.ok (st_pIown js_c8 (by decide) rfl kw_1239 (js_c8.2.2.1 6 (by decide)) d_198_41)
theorem ki_198_38 : js_Ok 198 38 (o_gI 8 6 41) := js_St.ok (st_gI js_c8 (by decide) kw_1239 d_198_38)
theorem ki_198_37 : js_Ok 198 37 (o_al 0 38) := js_St.ok (st_aloadn rfl d_198_37)
theorem ki_198_34 : js_Ok 198 34 (o_go 41) := js_St.ok (st_goto (by decide) d_198_34)
theorem ki_198_33 : js_Ok 198 33 (o_ic 3 34) := js_St.ok (st_iconst rfl d_198_33)
theorem ki_198_61 : js_Ok 198 61 (o_ne 169 64) := js_St.ok (st_ifne (by decide) d_198_61)
theorem ki_198_58 : js_Ok 198 58 (o_gI 8 6 61) := js_St.ok (st_gI js_c8 (by decide) kw_1239 d_198_58)
theorem ki_198_57 : js_Ok 198 57 (o_al 0 58) := js_St.ok (st_aloadn rfl d_198_57)
theorem ki_198_54 : js_Ok 198 54 (o_cge 169 57) := js_St.ok (st_icge (by decide) d_198_54)
theorem ki_198_52 : js_Ok 198 52 (o_ic 20 54) := js_St.ok (st_bipush rfl d_198_52)
theorem ki_198_50 : js_Ok 198 50 (o_il 5 52) := js_St.ok (st_iload d_198_50)
theorem ki_198_48 : js_Ok 198 48 (o_is 5 50) := js_St.ok (st_istore (Nat.le_of_ble_eq_true rfl) d_198_48)
theorem ki_198_79 : js_Ok 198 79 (o_al 0 80) := js_St.ok (st_aloadn rfl d_198_79)
theorem ki_198_77 : js_Ok 198 77 (o_il 6 79) := js_St.ok (st_iload d_198_77)
theorem ki_198_74 : js_Ok 198 74 (o_cge 135 77) := js_St.ok (st_icge (by decide) d_198_74)
theorem ki_198_72 : js_Ok 198 72 (o_ic 20 74) := js_St.ok (st_bipush rfl d_198_72)
theorem ki_198_70 : js_Ok 198 70 (o_il 7 72) := js_St.ok (st_iload d_198_70)
theorem ki_198_68 : js_Ok 198 68 (o_is 7 70) := js_St.ok (st_istore (Nat.le_of_ble_eq_true rfl) d_198_68)
theorem ki_198_67 : js_Ok 198 67 (o_ic 0 68) := js_St.ok (st_iconst rfl d_198_67)
theorem ki_198_65 : js_Ok 198 65 (o_is 6 67) := js_St.ok (st_istore (Nat.le_of_ble_eq_true rfl) d_198_65)
theorem ki_198_64 : js_Ok 198 64 (o_ic 0 65) := js_St.ok (st_iconst rfl d_198_64)
theorem ki_198_94 : js_Ok 198 94 (o_eq 125 97) := js_St.ok (st_ifeq (by decide) d_198_94)
theorem ki_198_91 : js_Ok 198 91 (o_cI 147 2 9 94) := ok_cI (site_V kk_198_147 (by decide) kw_1316 kw_1318 ks_25 (fun t ht => by cases ht; exact Or.inl ⟨_, rfl, rfl⟩) d_198_91) rfl
theorem ki_198_89 : js_Ok 198 89 (o_il 7 91) := js_St.ok (st_iload d_198_89)
theorem ki_198_88 : js_Ok 198 88 (o_al 0 89) := js_St.ok (st_aloadn rfl d_198_88)
theorem ki_198_85 : js_Ok 198 85 (o_eq 125 88) := js_St.ok (st_ifeq (by decide) d_198_85)
theorem ki_198_82 : js_Ok 198 82 (o_cI 147 2 9 85) := ok_cI (site_V kk_198_147 (by decide) kw_1316 kw_1318 ks_25 (fun t ht => by cases ht; exact Or.inl ⟨_, rfl, rfl⟩) d_198_82) rfl
theorem ki_198_80 : js_Ok 198 80 (o_il 5 82) := js_St.ok (st_iload d_198_80)
theorem ki_198_111 : js_Ok 198 111 (o_il 1 112) := js_St.ok (st_iloadn rfl d_198_111)
theorem ki_198_109 : js_Ok 198 109 (o_ic 8 111) := js_St.ok (st_bipush rfl d_198_109)
theorem ki_198_107 : js_Ok 198 107 (o_il 5 109) := js_St.ok (st_iload d_198_107)
theorem ki_198_105 : js_Ok 198 105 (o_il 7 107) := js_St.ok (st_iload d_198_105)
theorem ki_198_104 : js_Ok 198 104 (o_al 0 105) := js_St.ok (st_aloadn rfl d_198_104)
theorem ki_198_101 : js_Ok 198 101 (o_ceq 125 104) := js_St.ok (st_iceq (by decide) d_198_101)
theorem ki_198_99 : js_Ok 198 99 (o_il 5 101) := js_St.ok (st_iload d_198_99)
theorem ki_198_97 : js_Ok 198 97 (o_il 7 99) := js_St.ok (st_iload d_198_97)
theorem ki_198_127 : js_Ok 198 127 (o_is 6 129) := js_St.ok (st_istore (Nat.le_of_ble_eq_true rfl) d_198_127)
theorem ki_198_126 : js_Ok 198 126 (o_b2 (fun x y => x + y) 127) := js_St.ok (st_iadd d_198_126)
theorem ki_198_125 : js_Ok 198 125 (o_ic 0 126) := js_St.ok (st_iconst rfl d_198_125)
theorem ki_198_122 : js_Ok 198 122 (o_go 126) := js_St.ok (st_goto (by decide) d_198_122)
theorem ki_198_121 : js_Ok 198 121 (o_ic 1 122) := js_St.ok (st_iconst rfl d_198_121)
theorem ki_198_118 : js_Ok 198 118 (o_eq 125 121) := js_St.ok (st_ifeq (by decide) d_198_118)
theorem ki_198_115 : js_Ok 198 115 (o_cI 186 4 9 118) := ok_cI (site_V kk_198_186 (by decide) kw_1494 kw_1496 ks_52 (fun t ht => by cases ht; exact Or.inl ⟨_, rfl, rfl⟩) d_198_115) rfl
theorem ki_198_114 : js_Ok 198 114 (o_b2 (fun x y => x + y) 115) := js_St.ok (st_iadd d_198_114)
theorem ki_198_113 : js_Ok 198 113 (o_il 2 114) := js_St.ok (st_iloadn rfl d_198_113)
theorem ki_198_112 : js_Ok 198 112 (o_b2 (fun x y => x * y) 113) := js_St.ok (st_imul d_198_112)
theorem ki_198_141 : js_Ok 198 141 (o_eq 159 144) := js_St.ok (st_ifeq (by decide) d_198_141)
theorem ki_198_138 : js_Ok 198 138 (o_cI 147 2 9 141) := ok_cI (site_V kk_198_147 (by decide) kw_1316 kw_1318 ks_25 (fun t ht => by cases ht; exact Or.inl ⟨_, rfl, rfl⟩) d_198_138) rfl
theorem ki_198_136 : js_Ok 198 136 (o_il 5 138) := js_St.ok (st_iload d_198_136)
theorem ki_198_135 : js_Ok 198 135 (o_al 0 136) := js_St.ok (st_aloadn rfl d_198_135)
theorem ki_198_132 : js_Ok 198 132 (o_go 70) := js_St.ok (st_goto (by decide) d_198_132)
theorem ki_198_129 : js_Ok 198 129 (o_inc 7 1 132) := js_St.ok (st_iinc rfl (Nat.le_of_ble_eq_true rfl) d_198_129)
theorem ki_198_159 : js_Ok 198 159 (o_il 4 161) := js_St.ok (st_iload d_198_159)
theorem ki_198_156 : js_Ok 198 156 (o_go 161) := js_St.ok (st_goto (by decide) d_198_156)
theorem ki_198_153 : js_Ok 198 153 (o_cI 143 2 9 156) := ok_cI (site_V kk_198_143 (by decide) kw_1368 kw_1370 ks_34 (fun t ht => by cases ht; exact Or.inl ⟨_, rfl, rfl⟩) d_198_153) rfl
theorem ki_198_151 : js_Ok 198 151 (o_il 5 153) := js_St.ok (st_iload d_198_151)
theorem ki_198_150 : js_Ok 198 150 (o_al 0 151) := js_St.ok (st_aloadn rfl d_198_150)
theorem ki_198_147 : js_Ok 198 147 (o_cne 159 150) := js_St.ok (st_icne (by decide) d_198_147)
theorem ki_198_146 : js_Ok 198 146 (o_il 3 147) := js_St.ok (st_iloadn rfl d_198_146)
theorem ki_198_144 : js_Ok 198 144 (o_il 6 146) := js_St.ok (st_iload d_198_144)
theorem ki_198_171 : js_Ok 198 171 (o_rI) := ok_rI rfl d_198_171
theorem ki_198_169 : js_Ok 198 169 (o_il 4 171) := js_St.ok (st_iload d_198_169)
theorem ki_198_166 : js_Ok 198 166 (o_go 50) := js_St.ok (st_goto (by decide) d_198_166)
theorem ki_198_163 : js_Ok 198 163 (o_inc 5 1 166) := js_St.ok (st_iinc rfl (Nat.le_of_ble_eq_true rfl) d_198_163)
theorem ki_198_161 : js_Ok 198 161 (o_is 4 163) := js_St.ok (st_istore (Nat.le_of_ble_eq_true rfl) d_198_161)
theorem d_199_0 : decode (js_b 199) 0 = .ok (.aload_n 0, 1) := by decide +kernel
theorem d_199_1 : decode (js_b 199) 1 = .ok (.iload_n 1, 1) := by decide +kernel
theorem d_199_2 : decode (js_b 199) 2 = .ok (.iload_n 2, 1) := by decide +kernel
theorem d_199_3 : decode (js_b 199) 3 = .ok (.invokestatic 73, 3) := by decide +kernel
theorem d_199_6 : decode (js_b 199) 6 = .ok (.invokevirtual 126, 3) := by decide +kernel
theorem d_199_9 : decode (js_b 199) 9 = .ok (.ifCond .eq 25, 3) := by decide +kernel
theorem d_199_12 : decode (js_b 199) 12 = .ok (.aload_n 0, 1) := by decide +kernel
theorem d_199_13 : decode (js_b 199) 13 = .ok (.getfield 9, 3) := by decide +kernel
theorem d_199_16 : decode (js_b 199) 16 = .ok (.sipush 161, 3) := by decide +kernel
theorem d_199_19 : decode (js_b 199) 19 = .ok (.bipush 8, 2) := by decide +kernel
theorem d_199_21 : decode (js_b 199) 21 = .ok (.iload_n 1, 1) := by decide +kernel
theorem d_199_22 : decode (js_b 199) 22 = .ok (.imul, 1) := by decide +kernel
theorem d_199_23 : decode (js_b 199) 23 = .ok (.iadd, 1) := by decide +kernel
theorem d_199_24 : decode (js_b 199) 24 = .ok (.iload_n 2, 1) := by decide +kernel
theorem d_199_25 : decode (js_b 199) 25 = .ok (.iadd, 1) := by decide +kernel
theorem d_199_26 : decode (js_b 199) 26 = .ok (.iaload, 1) := by decide +kernel
theorem d_199_27 : decode (js_b 199) 27 = .ok (.ifCond .ne 7, 3) := by decide +kernel
theorem d_199_30 : decode (js_b 199) 30 = .ok (.iconst 1, 1) := by decide +kernel
theorem d_199_31 : decode (js_b 199) 31 = .ok (.goto 4, 3) := by decide +kernel
theorem d_199_34 : decode (js_b 199) 34 = .ok (.iconst 0, 1) := by decide +kernel
theorem d_199_35 : decode (js_b 199) 35 = .ok (.ireturn, 1) := by decide +kernel
theorem ki_199_13 : js_Ok 199 13 (o_gA 8 0 16) := js_St.ok (st_gA js_c8 (by decide) kw_1233 d_199_13)
theorem ki_199_12 : js_Ok 199 12 (o_al 0 13) := js_St.ok (st_aloadn rfl d_199_12)
theorem ki_199_9 : js_Ok 199 9 (o_eq 34 12) := js_St.ok (st_ifeq (by decide) d_199_9)
theorem ki_199_6 : js_Ok 199 6 (o_cI 139 2 9 9) := ok_cI (site_V kk_199_139 (by decide) kw_1364 kw_1366 ks_33 (fun t ht => by cases ht; exact Or.inl ⟨_, rfl, rfl⟩) d_199_6) rfl
theorem ki_199_3 : js_Ok 199 3 (o_cI 149 2 0 6) := ok_cI (site_S kk_199_149 kw_1416 kw_1417 d_199_3) rfl
theorem ki_199_2 : js_Ok 199 2 (o_il 2 3) := js_St.ok (st_iloadn rfl d_199_2)
theorem ki_199_1 : js_Ok 199 1 (o_il 1 2) := js_St.ok (st_iloadn rfl d_199_1)
theorem ki_199_0 : js_Ok 199 0 (o_al 0 1) := js_St.ok (st_aloadn rfl d_199_0)
theorem ki_199_31 : js_Ok 199 31 (o_go 35) := js_St.ok (st_goto (by decide) d_199_31)
theorem ki_199_30 : js_Ok 199 30 (o_ic 1 31) := js_St.ok (st_iconst rfl d_199_30)
theorem ki_199_27 : js_Ok 199 27 (o_ne 34 30) := js_St.ok (st_ifne (by decide) d_199_27)
theorem ki_199_26 : js_Ok 199 26 (o_lI 100 27) := js_St.ok (st_lI d_199_26)
theorem ki_199_25 : js_Ok 199 25 (o_b2 (fun x y => x + y) 26) := js_St.ok (st_iadd d_199_25)
theorem ki_199_24 : js_Ok 199 24 (o_il 2 25) := js_St.ok (st_iloadn rfl d_199_24)
theorem ki_199_23 : js_Ok 199 23 (o_b2 (fun x y => x + y) 24) := js_St.ok (st_iadd d_199_23)
theorem ki_199_22 : js_Ok 199 22 (o_b2 (fun x y => x * y) 23) := js_St.ok (st_imul d_199_22)
theorem ki_199_21 : js_Ok 199 21 (o_il 1 22) := js_St.ok (st_iloadn rfl d_199_21)
theorem ki_199_19 : js_Ok 199 19 (o_ic 8 21) := js_St.ok (st_bipush rfl d_199_19)
theorem ki_199_16 : js_Ok 199 16 (o_ic 161 19) := js_St.ok (st_sipush rfl d_199_16)
theorem ki_199_35 : js_Ok 199 35 (o_rZ) := ok_rZ rfl d_199_35
theorem ki_199_34 : js_Ok 199 34 (o_ic 0 35) := js_St.ok (st_iconst rfl d_199_34)
theorem d_200_0 : decode (js_b 200) 0 = .ok (.aload_n 0, 1) := by decide +kernel
theorem d_200_1 : decode (js_b 200) 1 = .ok (.iload_n 1, 1) := by decide +kernel
theorem d_200_2 : decode (js_b 200) 2 = .ok (.iload_n 2, 1) := by decide +kernel
theorem d_200_3 : decode (js_b 200) 3 = .ok (.invokestatic 73, 3) := by decide +kernel
theorem d_200_6 : decode (js_b 200) 6 = .ok (.ifCond .ne 7, 3) := by decide +kernel
theorem d_200_9 : decode (js_b 200) 9 = .ok (.iconst 1, 1) := by decide +kernel
theorem d_200_10 : decode (js_b 200) 10 = .ok (.goto 26, 3) := by decide +kernel
theorem d_200_13 : decode (js_b 200) 13 = .ok (.aload_n 0, 1) := by decide +kernel
theorem d_200_14 : decode (js_b 200) 14 = .ok (.getfield 9, 3) := by decide +kernel
theorem d_200_17 : decode (js_b 200) 17 = .ok (.sipush 161, 3) := by decide +kernel
theorem d_200_20 : decode (js_b 200) 20 = .ok (.bipush 8, 2) := by decide +kernel
theorem d_200_22 : decode (js_b 200) 22 = .ok (.iload_n 1, 1) := by decide +kernel
theorem d_200_23 : decode (js_b 200) 23 = .ok (.imul, 1) := by decide +kernel
theorem d_200_24 : decode (js_b 200) 24 = .ok (.iadd, 1) := by decide +kernel
theorem d_200_25 : decode (js_b 200) 25 = .ok (.iload_n 2, 1) := by decide +kernel
theorem d_200_26 : decode (js_b 200) 26 = .ok (.iadd, 1) := by decide +kernel
theorem d_200_27 : decode (js_b 200) 27 = .ok (.iaload, 1) := by decide +kernel
theorem d_200_28 : decode (js_b 200) 28 = .ok (.ifCond .ne 7, 3) := by decide +kernel
theorem d_200_31 : decode (js_b 200) 31 = .ok (.iconst 2, 1) := by decide +kernel
theorem d_200_32 : decode (js_b 200) 32 = .ok (.goto 4, 3) := by decide +kernel
theorem d_200_35 : decode (js_b 200) 35 = .ok (.iconst 0, 1) := by decide +kernel
theorem d_200_36 : decode (js_b 200) 36 = .ok (.putfield 39, 3) := by decide +kernel
theorem d_200_39 : decode (js_b 200) 39 = .ok (.aload_n 0, 1) := by decide +kernel
theorem d_200_40 : decode (js_b 200) 40 = .ok (.getfield 39, 3) := by decide +kernel
theorem d_200_43 : decode (js_b 200) 43 = .ok (.ifCond .le 7, 3) := by decide +kernel
theorem d_200_46 : decode (js_b 200) 46 = .ok (.iconst 0, 1) := by decide +kernel
theorem d_200_47 : decode (js_b 200) 47 = .ok (.goto 24, 3) := by decide +kernel
theorem d_200_50 : decode (js_b 200) 50 = .ok (.aload_n 0, 1) := by decide +kernel
theorem d_200_51 : decode (js_b 200) 51 = .ok (.aload_n 0, 1) := by decide +kernel
theorem d_200_52 : decode (js_b 200) 52 = .ok (.getfield 9, 3) := by decide +kernel
theorem d_200_55 : decode (js_b 200) 55 = .ok (.sipush 161, 3) := by decide +kernel
theorem d_200_58 : decode (js_b 200) 58 = .ok (.bipush 8, 2) := by decide +kernel
theorem d_200_60 : decode (js_b 200) 60 = .ok (.iload_n 1, 1) := by decide +kernel
theorem d_200_61 : decode (js_b 200) 61 = .ok (.imul, 1) := by decide +kernel
theorem d_200_62 : decode (js_b 200) 62 = .ok (.iadd, 1) := by decide +kernel
theorem d_200_63 : decode (js_b 200) 63 = .ok (.iload_n 2, 1) := by decide +kernel
theorem d_200_64 : decode (js_b 200) 64 = .ok (.iadd, 1) := by decide +kernel
theorem d_200_65 : decode (js_b 200) 65 = .ok (.iaload, 1) := by decide +kernel
theorem d_200_66 : decode (js_b 200) 66 = .ok (.iconst 1, 1) := by decide +kernel
theorem d_200_67 : decode (js_b 200) 67 = .ok (.isub, 1) := by decide +kernel
theorem d_200_68 : decode (js_b 200) 68 = .ok (.invokevirtual 130, 3) := by decide +kernel
theorem d_200_71 : decode (js_b 200) 71 = .ok (.ireturn, 1) := by decide +kernel
theorem ki_200_14 : js_Ok 200 14 (o_gA 8 0 17) := js_St.ok (st_gA js_c8 (by decide) kw_1233 d_200_14)
theorem ki_200_13 : js_Ok 200 13 (o_al 0 14) := js_St.ok (st_aloadn rfl d_200_13)
theorem ki_200_10 : js_Ok 200 10 (o_go 36) := js_St.ok (st_goto (by decide) d_200_10)
theorem ki_200_9 : js_Ok 200 9 (o_ic 1 10) := js_St.ok (st_iconst rfl d_200_9)
theorem ki_200_6 : js_Ok 200 6 (o_ne 13 9) := js_St.ok (st_ifne (by decide) d_200_6)
theorem ki_200_3 : js_Ok 200 3 (o_cI 149 2 0 6) := ok_cI (site_S kk_200_149 kw_1416 kw_1417 d_200_3) rfl
theorem ki_200_2 : js_Ok 200 2 (o_il 2 3) := js_St.ok (st_iloadn rfl d_200_2)
theorem ki_200_1 : js_Ok 200 1 (o_il 1 2) := js_St.ok (st_iloadn rfl d_200_1)
theorem ki_200_0 : js_Ok 200 0 (o_al 0 1) := js_St.ok (st_aloadn rfl d_200_0)
theorem ki_200_31 : js_Ok 200 31 (o_ic 2 32) := js_St.ok (st_iconst rfl d_200_31)
theorem ki_200_28 : js_Ok 200 28 (o_ne 35 31) := js_St.ok (st_ifne (by decide) d_200_28)
theorem ki_200_27 : js_Ok 200 27 (o_lI 100 28) := js_St.ok (st_lI d_200_27)
theorem ki_200_26 : js_Ok 200 26 (o_b2 (fun x y => x + y) 27) := js_St.ok (st_iadd d_200_26)
theorem ki_200_25 : js_Ok 200 25 (o_il 2 26) := js_St.ok (st_iloadn rfl d_200_25)
theorem ki_200_24 : js_Ok 200 24 (o_b2 (fun x y => x + y) 25) := js_St.ok (st_iadd d_200_24)
theorem ki_200_23 : js_Ok 200 23 (o_b2 (fun x y => x * y) 24) := js_St.ok (st_imul d_200_23)
theorem ki_200_22 : js_Ok 200 22 (o_il 1 23) := js_St.ok (st_iloadn rfl d_200_22)
theorem ki_200_20 : js_Ok 200 20 (o_ic 8 22) := js_St.ok (st_bipush rfl d_200_20)
theorem ki_200_17 : js_Ok 200 17 (o_ic 161 20) := js_St.ok (st_sipush rfl d_200_17)
theorem ki_200_47 : js_Ok 200 47 (o_go 71) := js_St.ok (st_goto (by decide) d_200_47)
theorem ki_200_46 : js_Ok 200 46 (o_ic 0 47) := js_St.ok (st_iconst rfl d_200_46)
theorem ki_200_43 : js_Ok 200 43 (o_le 50 46) := js_St.ok (st_ifle (by decide) d_200_43)
theorem ki_200_40 : js_Ok 200 40 (o_gI 8 6 43) := js_St.ok (st_gI js_c8 (by decide) kw_1239 d_200_40)
theorem ki_200_39 : js_Ok 200 39 (o_al 0 40) := js_St.ok (st_aloadn rfl d_200_39)
theorem ki_200_36 : js_Ok 200 36 (o_pI 8 6 39) := js_St.ok (st_pIown js_c8 (by decide) rfl kw_1239 (js_c8.2.2.1 6 (by decide)) d_200_36)
theorem ki_200_35 : js_Ok 200 35 (o_ic 0 36) := js_St.ok (st_iconst rfl d_200_35)
theorem ki_200_32 : js_Ok 200 32 (o_go 36) := js_St.ok (st_goto (by decide) d_200_32)
theorem ki_200_63 : js_Ok 200 63 (o_il 2 64) := js_St.ok (st_iloadn rfl d_200_63)
theorem ki_200_62 : js_Ok 200 62 (o_b2 (fun x y => x + y) 63) := js_St.ok (st_iadd d_200_62)
theorem ki_200_61 : js_Ok 200 61 (o_b2 (fun x y => x * y) 62) := js_St.ok (st_imul d_200_61)
theorem ki_200_60 : js_Ok 200 60 (o_il 1 61) := js_St.ok (st_iloadn rfl d_200_60)
theorem ki_200_58 : js_Ok 200 58 (o_ic 8 60) := js_St.ok (st_bipush rfl d_200_58)
theorem ki_200_55 : js_Ok 200 55 (o_ic 161 58) := js_St.ok (st_sipush rfl d_200_55)
theorem ki_200_52 : js_Ok 200 52 (o_gA 8 0 55) := js_St.ok (st_gA js_c8 (by decide) kw_1233 d_200_52)
theorem ki_200_51 : js_Ok 200 51 (o_al 0 52) := js_St.ok (st_aloadn rfl d_200_51)
theorem ki_200_50 : js_Ok 200 50 (o_al 0 51) := js_St.ok (st_aloadn rfl d_200_50)
theorem ki_200_71 : js_Ok 200 71 (o_rI) := ok_rI rfl d_200_71
theorem ki_200_68 : js_Ok 200 68 (o_cI 143 2 9 71) := ok_cI (site_V kk_200_143 (by decide) kw_1368 kw_1370 ks_34 (fun t ht => by cases ht; exact Or.inl ⟨_, rfl, rfl⟩) d_200_68) rfl
theorem ki_200_67 : js_Ok 200 67 (o_b2 (fun x y => x - y) 68) := js_St.ok (st_isub d_200_67)
theorem ki_200_66 : js_Ok 200 66 (o_ic 1 67) := js_St.ok (st_iconst rfl d_200_66)
theorem ki_200_65 : js_Ok 200 65 (o_lI 100 66) := js_St.ok (st_lI d_200_65)
theorem ki_200_64 : js_Ok 200 64 (o_b2 (fun x y => x + y) 65) := js_St.ok (st_iadd d_200_64)
set_option maxRecDepth 20000 in
theorem mk_145 : js_mok 145 := ⟨by decide +kernel, jk_tab (fun _ => js_St.ok st_bad) (show jk_all (js_Ok 145) 0 tb_145 from ⟨⟨ki_145_0, ⟨ki_145_1, ⟨ki_145_2, ⟨kbad, ⟨ki_145_4, ⟨kbad, ⟨kbad, ⟨ki_145_7, ⟨kbad, ⟨kbad, ⟨ki_145_10, ⟨ki_145_11, ⟨kbad, ⟨kbad, ⟨ki_145_14, ⟨ki_145_15, trivial⟩⟩⟩⟩⟩⟩⟩⟩⟩⟩⟩⟩⟩⟩⟩⟩, trivial⟩)⟩
set_option maxRecDepth 20000 in
theorem mk_146 : js_mok 146 := ⟨by decide +kernel, jk_tab (fun _ => js_St.ok st_bad) (show jk_all (js_Ok 146) 0 tb_146 from ⟨⟨ki_146_0, ⟨ki_146_1, ⟨ki_146_2, ⟨kbad, ⟨kbad, ⟨ki_146_5, ⟨ki_146_6, ⟨ki_146_7, ⟨kbad, ⟨kbad, ⟨ki_146_10, ⟨ki_146_11, ⟨ki_146_12, ⟨kbad, ⟨kbad, ⟨ki_146_15, trivial⟩⟩⟩⟩⟩⟩⟩⟩⟩⟩⟩⟩⟩⟩⟩⟩, ⟨⟨kbad, ⟨kbad, ⟨ki_146_18, ⟨ki_146_19, ⟨kbad, ⟨kbad, ⟨ki_146_22, ⟨ki_146_23, trivial⟩⟩⟩⟩⟩⟩⟩⟩, trivial⟩⟩)⟩
set_option maxRecDepth 20000 in
theorem mk_147 : js_mok 147 := ⟨by decide +kernel, jk_tab (fun _ => js_St.ok st_bad) (show jk_all (js_Ok 147) 0 tb_147 from ⟨⟨ki_147_0, ⟨ki_147_1, ⟨ki_147_2, ⟨kbad, ⟨kbad, ⟨ki_147_5, ⟨kbad, ⟨kbad, ⟨ki_147_8, ⟨ki_147_9, ⟨ki_147_10, ⟨kbad, ⟨kbad, ⟨ki_147_13, ⟨kbad, ⟨kbad, trivial⟩⟩⟩⟩⟩⟩⟩⟩⟩⟩⟩⟩⟩⟩⟩⟩, ⟨⟨ki_147_16, ⟨ki_147_17, ⟨kbad, ⟨kbad, ⟨ki_147_20, ⟨ki_147_21, trivial⟩⟩⟩⟩⟩⟩, trivial⟩⟩)⟩
set_option maxRecDepth 20000 in
theorem mk_148 : js_mok 148 := ⟨by decide +kernel, jk_tab (fun _ => js_St.ok st_bad) (show jk_all (js_Ok 148) 0 tb_148 from ⟨⟨ki_148_0, ⟨ki_148_1, ⟨ki_148_2, ⟨ki_148_3, ⟨ki_148_4, ⟨ki_148_5, ⟨kbad, ⟨ki_148_7, ⟨kbad, ⟨kbad, ⟨ki_148_10, ⟨ki_148_11, ⟨ki_148_12, ⟨kbad, ⟨kbad, ⟨ki_148_15, trivial⟩⟩⟩⟩⟩⟩⟩⟩⟩⟩⟩⟩⟩⟩⟩⟩, ⟨⟨ki_148_16, ⟨ki_148_17, ⟨kbad, ⟨kbad, ⟨ki_148_20, ⟨kbad, ⟨kbad, ⟨ki_148_23, ⟨ki_148_24, ⟨kbad, ⟨kbad, ⟨ki_148_27, ⟨ki_148_28, ⟨kbad, ⟨kbad, ⟨ki_148_31, trivial⟩⟩⟩⟩⟩⟩⟩⟩⟩⟩⟩⟩⟩⟩⟩⟩, ⟨⟨ki_148_32, ⟨ki_148_33, ⟨kbad, ⟨kbad, ⟨ki_148_36, ⟨kbad, ⟨kbad, ⟨ki_148_39, ⟨ki_148_40, ⟨kbad, ⟨kbad, ⟨ki_148_43, ⟨ki_148_44, ⟨ki_148_45, ⟨ki_148_46, ⟨kbad, trivial⟩⟩⟩⟩⟩⟩⟩⟩⟩⟩⟩⟩⟩⟩⟩⟩, ⟨⟨kbad, ⟨ki_148_49, ⟨kbad, ⟨kbad, ⟨ki_148_52, ⟨ki_148_53, trivial⟩⟩⟩⟩⟩⟩, trivial⟩⟩⟩⟩)⟩
set_option maxRecDepth 20000 in
theorem mk_149 : js_mok 149 := ⟨by decide +kernel, jk_tab (fun _ => js_St.ok st_bad) (show jk_all (js_Ok 149) 0 tb_149 from ⟨⟨ki_149_0, ⟨ki_149_1, ⟨ki_149_2, ⟨kbad, ⟨ki_149_4, ⟨kbad, ⟨kbad, ⟨ki_149_7, ⟨kbad, ⟨kbad, ⟨ki_149_10, ⟨ki_149_11, ⟨ki_149_12, ⟨kbad, ⟨ki_149_14, ⟨kbad, trivial⟩⟩⟩⟩⟩⟩⟩⟩⟩⟩⟩⟩⟩⟩⟩⟩, ⟨⟨kbad, ⟨ki_149_17, ⟨kbad, ⟨kbad, ⟨ki_149_20, ⟨ki_149_21, ⟨kbad, ⟨kbad, ⟨ki_149_24, ⟨ki_149_25, trivial⟩⟩⟩⟩⟩⟩⟩⟩⟩⟩, trivial⟩⟩)⟩
set_option maxRecDepth 20000 in
theorem mk_150 : js_mok 150 := ⟨by decide +kernel, jk_tab (fun _ => js_St.ok st_bad) (show jk_all (js_Ok 150) 0 tb_150 from ⟨⟨ki_150_0, ⟨ki_150_1, ⟨kbad, ⟨ki_150_3, ⟨kbad, ⟨ki_150_5, ⟨kbad, ⟨kbad, ⟨ki_150_8, trivial⟩⟩⟩⟩⟩⟩⟩⟩⟩, trivial⟩)⟩
set_option maxRecDepth 20000 in
theorem mk_151 : js_mok 151 := ⟨by decide +kernel, jk_tab (fun _ => js_St.ok st_bad) (show jk_all (js_Ok 151) 0 tb_151 from ⟨⟨ki_151_0, ⟨ki_151_1, ⟨kbad, ⟨ki_151_3, ⟨ki_151_4, ⟨ki_151_5, ⟨kbad, ⟨kbad, ⟨ki_151_8, ⟨ki_151_9, ⟨kbad, ⟨kbad, ⟨ki_151_12, ⟨ki_151_13, ⟨ki_151_14, ⟨kbad, trivial⟩⟩⟩⟩⟩⟩⟩⟩⟩⟩⟩⟩⟩⟩⟩⟩, ⟨⟨kbad, ⟨ki_151_17, ⟨ki_151_18, ⟨kbad, ⟨kbad, ⟨ki_151_21, ⟨ki_151_22, ⟨ki_151_23, ⟨ki_151_24, ⟨ki_151_25, ⟨kbad, ⟨ki_151_27, ⟨ki_151_28, ⟨ki_151_29, ⟨ki_151_30, ⟨kbad, trivial⟩⟩⟩⟩⟩⟩⟩⟩⟩⟩⟩⟩⟩⟩⟩⟩, ⟨⟨kbad, ⟨ki_151_33, ⟨ki_151_34, ⟨kbad, ⟨kbad, ⟨ki_151_37, ⟨ki_151_38, ⟨ki_151_39, ⟨kbad, ⟨kbad, ⟨ki_151_42, ⟨ki_151_43, ⟨kbad, ⟨kbad, ⟨ki_151_46, ⟨ki_151_47, trivial⟩⟩⟩⟩⟩⟩⟩⟩⟩⟩⟩⟩⟩⟩⟩⟩, ⟨⟨ki_151_48, ⟨ki_151_49, ⟨ki_151_50, ⟨ki_151_51, ⟨kbad, ⟨kbad, ⟨ki_151_54, ⟨kbad, ⟨kbad, ⟨ki_151_57, ⟨kbad, ⟨ki_151_59, ⟨ki_151_60, ⟨ki_151_61, ⟨ki_151_62, ⟨ki_151_63, trivial⟩⟩⟩⟩⟩⟩⟩⟩⟩⟩⟩⟩⟩⟩⟩⟩, ⟨⟨kbad, ⟨kbad, ⟨ki_151_66, ⟨ki_151_67, trivial⟩⟩⟩⟩, trivial⟩⟩⟩⟩⟩)⟩
set_option maxRecDepth 20000 in
theorem mk_152 : js_mok 152 := ⟨by decide +kernel, jk_tab (fun _ => js_St.ok st_bad) (show jk_all (js_Ok 152) 0 tb_152 from ⟨⟨ki_152_0, ⟨ki_152_1, ⟨ki_152_2, ⟨kbad, ⟨kbad, ⟨ki_152_5, ⟨ki_152_6, ⟨ki_152_7, ⟨kbad, ⟨kbad, ⟨ki_152_10, ⟨ki_152_11, ⟨kbad, ⟨kbad, ⟨ki_152_14, ⟨ki_152_15, trivial⟩⟩⟩⟩⟩⟩⟩⟩⟩⟩⟩⟩⟩⟩⟩⟩, ⟨⟨kbad, ⟨kbad, ⟨ki_152_18, ⟨kbad, ⟨kbad, ⟨ki_152_21, ⟨ki_152_22, ⟨ki_152_23, ⟨ki_152_24, ⟨ki_152_25, ⟨ki_152_26, trivial⟩⟩⟩⟩⟩⟩⟩⟩⟩⟩⟩, trivial⟩⟩)⟩
set_option maxRecDepth 20000 in
theorem mk_153 : js_mok 153 := ⟨by decide +kernel, jk_tab (fun _ => js_St.ok st_bad) (show jk_all (js_Ok 153) 0 tb_153 from ⟨⟨ki_153_0, ⟨ki_153_1, ⟨ki_153_2, ⟨ki_153_3, ⟨ki_153_4, ⟨ki_153_5, ⟨ki_153_6, ⟨ki_153_7, ⟨ki_153_8, ⟨ki_153_9, ⟨ki_153_10, ⟨ki_153_11, ⟨kbad, ⟨kbad, ⟨ki_153_14, trivial⟩⟩⟩⟩⟩⟩⟩⟩⟩⟩⟩⟩⟩⟩⟩, trivial⟩)⟩
set_option maxRecDepth 20000 in
theorem mk_154 : js_mok 154 := ⟨by decide +kernel, jk_tab (fun _ => js_St.ok st_bad) (show jk_all (js_Ok 154) 0 tb_154 from ⟨⟨ki_154_0, ⟨ki_154_1, ⟨ki_154_2, ⟨ki_154_3, ⟨kbad, ⟨kbad, ⟨ki_154_6, ⟨ki_154_7, ⟨ki_154_8, ⟨ki_154_9, ⟨ki_154_10, ⟨ki_154_11, ⟨ki_154_12, ⟨ki_154_13, ⟨ki_154_14, ⟨ki_154_15, trivial⟩⟩⟩⟩⟩⟩⟩⟩⟩⟩⟩⟩⟩⟩⟩⟩, ⟨⟨ki_154_16, ⟨kbad, ⟨ki_154_18, ⟨kbad, ⟨kbad, ⟨ki_154_21, ⟨kbad, ⟨kbad, ⟨ki_154_24, trivial⟩⟩⟩⟩⟩⟩⟩⟩⟩, trivial⟩⟩)⟩
set_option maxRecDepth 20000 in
theorem mk_155 : js_mok 155 := ⟨by decide +kernel, jk_tab (fun _ => js_St.ok st_bad) (show jk_all (js_Ok 155) 0 tb_155 from ⟨⟨ki_155_0, ⟨ki_155_1, ⟨kbad, ⟨kbad, ⟨ki_155_4, ⟨kbad, ⟨kbad, ⟨ki_155_7, ⟨ki_155_8, ⟨ki_155_9, ⟨ki_155_10, ⟨ki_155_11, ⟨ki_155_12, ⟨ki_155_13, ⟨ki_155_14, ⟨kbad, trivial⟩⟩⟩⟩⟩⟩⟩⟩⟩⟩⟩⟩⟩⟩⟩⟩, ⟨⟨kbad, ⟨ki_155_17, ⟨ki_155_18, ⟨ki_155_19, ⟨ki_155_20, ⟨kbad, ⟨kbad, ⟨ki_155_23, ⟨kbad, ⟨kbad, ⟨ki_155_26, ⟨ki_155_27, ⟨ki_155_28, ⟨ki_155_29, ⟨ki_155_30, ⟨ki_155_31, trivial⟩⟩⟩⟩⟩⟩⟩⟩⟩⟩⟩⟩⟩⟩⟩⟩, ⟨⟨ki_155_32, ⟨ki_155_33, ⟨kbad, ⟨ki_155_35, ⟨kbad, ⟨kbad, ⟨ki_155_38, ⟨kbad, ⟨kbad, ⟨ki_155_41, ⟨ki_155_42, ⟨ki_155_43, ⟨ki_155_44, ⟨kbad, ⟨kbad, ⟨ki_155_47, trivial⟩⟩⟩⟩⟩⟩⟩⟩⟩⟩⟩⟩⟩⟩⟩⟩, ⟨⟨ki_155_48, ⟨kbad, ⟨ki_155_50, ⟨kbad, ⟨kbad, ⟨ki_155_53, ⟨ki_155_54, ⟨kbad, ⟨kbad, ⟨ki_155_57, ⟨ki_155_58, trivial⟩⟩⟩⟩⟩⟩⟩⟩⟩⟩⟩, trivial⟩⟩⟩⟩)⟩
set_option maxRecDepth 20000 in
theorem mk_156 : js_mok 156 := ⟨by decide +kernel, jk_tab (fun _ => js_St.ok st_bad) (show jk_all (js_Ok 156) 0 tb_156 from ⟨⟨ki_156_0, ⟨ki_156_1, ⟨ki_156_2, ⟨ki_156_3, ⟨kbad, ⟨ki_156_5, ⟨kbad, ⟨ki_156_7, ⟨ki_156_8, ⟨kbad, ⟨kbad, ⟨ki_156_11, ⟨ki_156_12, ⟨ki_156_13, ⟨ki_156_14, ⟨kbad, trivial⟩⟩⟩⟩⟩⟩⟩⟩⟩⟩⟩⟩⟩⟩⟩⟩, ⟨⟨ki_156_16, ⟨kbad, ⟨kbad, ⟨ki_156_19, ⟨ki_156_20, ⟨kbad, ⟨kbad, ⟨ki_156_23, ⟨ki_156_24, ⟨kbad, ⟨kbad, ⟨ki_156_27, ⟨ki_156_28, ⟨ki_156_29, ⟨ki_156_30, ⟨kbad, trivial⟩⟩⟩⟩⟩⟩⟩⟩⟩⟩⟩⟩⟩⟩⟩⟩, ⟨⟨kbad, ⟨ki_156_33, ⟨kbad, ⟨kbad, ⟨ki_156_36, ⟨ki_156_37, trivial⟩⟩⟩⟩⟩⟩, trivial⟩⟩⟩)⟩
set_option maxRecDepth 20000 in
theorem mk_157 : js_mok 157 := ⟨by decide +kernel, jk_tab (fun _ => js_St.ok st_bad) (show jk_all (js_Ok 157) 0 tb_157 from ⟨⟨ki_157_0, ⟨ki_157_1, ⟨ki_157_2, ⟨ki_157_3, ⟨ki_157_4, ⟨ki_157_5, ⟨kbad, ⟨ki_157_7, ⟨kbad, ⟨kbad, ⟨ki_157_10, ⟨ki_157_11, ⟨ki_157_12, ⟨ki_157_13, ⟨ki_157_14, ⟨kbad, trivial⟩⟩⟩⟩⟩⟩⟩⟩⟩⟩⟩⟩⟩⟩⟩⟩, ⟨⟨kbad, ⟨ki_157_17, ⟨ki_157_18, ⟨ki_157_19, ⟨kbad, ⟨kbad, ⟨ki_157_22, ⟨kbad, ⟨kbad, ⟨ki_157_25, ⟨ki_157_26, ⟨ki_157_27, ⟨ki_157_28, trivial⟩⟩⟩⟩⟩⟩⟩⟩⟩⟩⟩⟩⟩, trivial⟩⟩)⟩
set_option maxRecDepth 20000 in
theorem mk_158 : js_mok 158 := ⟨by decide +kernel, jk_tab (fun _ => js_St.ok st_bad) (show jk_all (js_Ok 158) 0 tb_158 from ⟨⟨ki_158_0, ⟨ki_158_1, ⟨ki_158_2, ⟨ki_158_3, ⟨ki_158_4, ⟨ki_158_5, ⟨ki_158_6, ⟨kbad, ⟨kbad, ⟨ki_158_9, ⟨ki_158_10, ⟨ki_158_11, ⟨ki_158_12, ⟨ki_158_13, ⟨kbad, ⟨kbad, trivial⟩⟩⟩⟩⟩⟩⟩⟩⟩⟩⟩⟩⟩⟩⟩⟩, ⟨⟨ki_158_16, ⟨kbad, ⟨kbad, ⟨ki_158_19, ⟨ki_158_20, ⟨kbad, ⟨kbad, ⟨ki_158_23, ⟨ki_158_24, ⟨ki_158_25, ⟨ki_158_26, ⟨kbad, ⟨kbad, ⟨ki_158_29, ⟨kbad, ⟨kbad, trivial⟩⟩⟩⟩⟩⟩⟩⟩⟩⟩⟩⟩⟩⟩⟩⟩, ⟨⟨ki_158_32, ⟨ki_158_33, trivial⟩⟩, trivial⟩⟩⟩)⟩
set_option maxRecDepth 20000 in
theorem mk_159 : js_mok 159 := ⟨by decide +kernel, jk_tab (fun _ => js_St.ok st_bad) (show jk_all (js_Ok 159) 0 tb_159 from ⟨⟨ki_159_0, ⟨ki_159_1, ⟨kbad, ⟨kbad, ⟨ki_159_4, ⟨kbad, ⟨kbad, ⟨ki_159_7, ⟨ki_159_8, ⟨ki_159_9, ⟨ki_159_10, ⟨kbad, ⟨kbad, ⟨ki_159_13, ⟨ki_159_14, ⟨ki_159_15, trivial⟩⟩⟩⟩⟩⟩⟩⟩⟩⟩⟩⟩⟩⟩⟩⟩, ⟨⟨kbad, ⟨kbad, ⟨ki_159_18, ⟨kbad, ⟨kbad, ⟨ki_159_21, ⟨ki_159_22, ⟨kbad, ⟨kbad, ⟨ki_159_25, ⟨ki_159_26, trivial⟩⟩⟩⟩⟩⟩⟩⟩⟩⟩⟩, trivial⟩⟩)⟩
set_option maxRecDepth 20000 in
theorem mk_160 : js_mok 160 := ⟨by decide +kernel, jk_tab (fun _ => js_St.ok st_bad) (show jk_all (js_Ok 160) 0 tb_160 from ⟨⟨ki_160_0, ⟨ki_160_1, ⟨ki_160_2, ⟨kbad, ⟨ki_160_4, ⟨kbad, ⟨kbad, ⟨ki_160_7, ⟨kbad, ⟨kbad, ⟨ki_160_10, ⟨ki_160_11, ⟨ki_160_12, ⟨kbad, ⟨ki_160_14, ⟨kbad, trivial⟩⟩⟩⟩⟩⟩⟩⟩⟩⟩⟩⟩⟩⟩⟩⟩, ⟨⟨kbad, ⟨ki_160_17, ⟨kbad, ⟨kbad, ⟨ki_160_20, ⟨kbad, ⟨ki_160_22, ⟨ki_160_23, ⟨kbad, ⟨ki_160_25, ⟨kbad, ⟨kbad, ⟨ki_160_28, ⟨kbad, ⟨kbad, ⟨ki_160_31, trivial⟩⟩⟩⟩⟩⟩⟩⟩⟩⟩⟩⟩⟩⟩⟩⟩, ⟨⟨kbad, ⟨ki_160_33, ⟨ki_160_34, ⟨kbad, ⟨ki_160_36, ⟨kbad, ⟨kbad, ⟨ki_160_39, ⟨kbad, ⟨kbad, ⟨ki_160_42, ⟨ki_160_43, ⟨kbad, ⟨kbad, ⟨ki_160_46, ⟨ki_160_47, trivial⟩⟩⟩⟩⟩⟩⟩⟩⟩⟩⟩⟩⟩⟩⟩⟩, ⟨⟨kbad, ⟨ki_160_49, ⟨ki_160_50, ⟨kbad, ⟨kbad, ⟨ki_160_53, ⟨kbad, ⟨kbad, ⟨ki_160_56, ⟨kbad, ⟨ki_160_58, ⟨kbad, ⟨kbad, ⟨ki_160_61, ⟨ki_160_62, ⟨ki_160_63, trivial⟩⟩⟩⟩⟩⟩⟩⟩⟩⟩⟩⟩⟩⟩⟩⟩, ⟨⟨kbad, ⟨kbad, ⟨ki_160_66, ⟨ki_160_67, ⟨ki_160_68, ⟨ki_160_69, ⟨kbad, ⟨kbad, ⟨ki_160_72, ⟨kbad, ⟨ki_160_74, ⟨kbad, ⟨kbad, ⟨ki_160_77, ⟨ki_160_78, ⟨ki_160_79, trivial⟩⟩⟩⟩⟩⟩⟩⟩⟩⟩⟩⟩⟩⟩⟩⟩, ⟨⟨kbad, ⟨kbad, ⟨ki_160_82, ⟨ki_160_83, ⟨ki_160_84, ⟨kbad, ⟨ki_160_86, ⟨ki_160_87, ⟨kbad, ⟨ki_160_89, ⟨kbad, ⟨kbad, ⟨ki_160_92, ⟨kbad, ⟨kbad, ⟨ki_160_95, trivial⟩⟩⟩⟩⟩⟩⟩⟩⟩⟩⟩⟩⟩⟩⟩⟩, ⟨⟨kbad, ⟨kbad, ⟨ki_160_98, ⟨kbad, ⟨kbad, ⟨ki_160_101, ⟨ki_160_102, ⟨kbad, ⟨kbad, ⟨ki_160_105, ⟨ki_160_106, ⟨ki_160_107, ⟨kbad, ⟨ki_160_109, ⟨ki_160_110, ⟨kbad, trivial⟩⟩⟩⟩⟩⟩⟩⟩⟩⟩⟩⟩⟩⟩⟩⟩, ⟨⟨ki_160_112, ⟨ki_160_113, ⟨kbad, ⟨ki_160_115, ⟨ki_160_116, ⟨ki_160_117, ⟨kbad, ⟨kbad, ⟨ki_160_120, ⟨ki_160_121, ⟨kbad, ⟨ki_160_123, ⟨ki_160_124, ⟨ki_160_125, ⟨kbad, ⟨kbad, trivial⟩⟩⟩⟩⟩⟩⟩⟩⟩⟩⟩⟩⟩⟩⟩⟩, ⟨⟨ki_160_128, ⟨ki_160_129, ⟨kbad, ⟨ki_160_131, ⟨ki_160_132, ⟨ki_160_133, ⟨kbad, ⟨kbad, ⟨ki_160_136, ⟨ki_160_137, ⟨kbad, ⟨ki_160_139, ⟨ki_160_140, ⟨ki_160_141, ⟨kbad, ⟨kbad, trivial⟩⟩⟩⟩⟩⟩⟩⟩⟩⟩⟩⟩⟩⟩⟩⟩, ⟨⟨ki_160_144, ⟨ki_160_145, ⟨kbad, ⟨ki_160_147, ⟨ki_160_148, ⟨kbad, ⟨ki_160_150, ⟨kbad, ⟨kbad, ⟨ki_160_153, ⟨ki_160_154, ⟨kbad, ⟨ki_160_156, ⟨ki_160_157, ⟨kbad, ⟨ki_160_159, trivial⟩⟩⟩⟩⟩⟩⟩⟩⟩⟩⟩⟩⟩⟩⟩⟩, ⟨⟨kbad, ⟨kbad, ⟨ki_160_162, ⟨ki_160_163, ⟨kbad, ⟨ki_160_165, ⟨kbad, ⟨ki_160_167, ⟨ki_160_168, ⟨kbad, ⟨kbad, ⟨ki_160_171, ⟨ki_160_172, ⟨kbad, ⟨ki_160_174, ⟨kbad, trivial⟩⟩⟩⟩⟩⟩⟩⟩⟩⟩⟩⟩⟩⟩⟩⟩, ⟨⟨ki_160_176, ⟨ki_160_177, ⟨kbad, ⟨kbad, ⟨ki_160_180, ⟨ki_160_181, ⟨kbad, ⟨kbad, ⟨ki_160_184, ⟨ki_160_185, ⟨ki_160_186, ⟨ki_160_187, ⟨ki_160_188, ⟨ki_160_189, ⟨ki_160_190, ⟨kbad, trivial⟩⟩⟩⟩⟩⟩⟩⟩⟩⟩⟩⟩⟩⟩⟩⟩, ⟨⟨ki_160_192, trivial⟩, trivial⟩⟩⟩⟩⟩⟩⟩⟩⟩⟩⟩⟩⟩)⟩
set_option maxRecDepth 20000 in
theorem mk_161 : js_mok 161 := ⟨by decide +kernel, jk_tab (fun _ => js_St.ok st_bad) (show jk_all (js_Ok 161) 0 tb_161 from ⟨⟨ki_161_0, ⟨ki_161_1, ⟨kbad, ⟨kbad, ⟨ki_161_4, ⟨ki_161_5, ⟨ki_161_6, ⟨ki_161_7, ⟨ki_161_8, ⟨ki_161_9, ⟨kbad, ⟨ki_161_11, ⟨kbad, ⟨ki_161_13, ⟨kbad, ⟨kbad, trivial⟩⟩⟩⟩⟩⟩⟩⟩⟩⟩⟩⟩⟩⟩⟩⟩, ⟨⟨ki_161_16, ⟨kbad, ⟨kbad, ⟨ki_161_19, trivial⟩⟩⟩⟩, trivial⟩⟩)⟩
set_option maxRecDepth 20000 in
theorem mk_162 : js_mok 162 := ⟨by decide +kernel, jk_tab (fun _ => js_St.ok st_bad) (show jk_all (js_Ok 162) 0 tb_162 from ⟨⟨ki_162_0, ⟨ki_162_1, ⟨ki_162_2, ⟨kbad, ⟨kbad, ⟨ki_162_5, ⟨ki_162_6, ⟨ki_162_7, ⟨kbad, ⟨kbad, ⟨ki_162_10, ⟨ki_162_11, ⟨ki_162_12, ⟨kbad, ⟨kbad, ⟨ki_162_15, trivial⟩⟩⟩⟩⟩⟩⟩⟩⟩⟩⟩⟩⟩⟩⟩⟩, ⟨⟨ki_162_16, ⟨ki_162_17, ⟨ki_162_18, ⟨kbad, ⟨kbad, ⟨ki_162_21, ⟨kbad, ⟨kbad, ⟨ki_162_24, ⟨ki_162_25, ⟨ki_162_26, ⟨kbad, ⟨kbad, ⟨ki_162_29, ⟨ki_162_30, ⟨ki_162_31, trivial⟩⟩⟩⟩⟩⟩⟩⟩⟩⟩⟩⟩⟩⟩⟩⟩, ⟨⟨ki_162_32, ⟨ki_162_33, ⟨kbad, ⟨ki_162_35, ⟨kbad, ⟨kbad, ⟨ki_162_38, ⟨ki_162_39, ⟨ki_162_40, ⟨ki_162_41, ⟨ki_162_42, ⟨kbad, ⟨kbad, ⟨ki_162_45, ⟨kbad, ⟨kbad, trivial⟩⟩⟩⟩⟩⟩⟩⟩⟩⟩⟩⟩⟩⟩⟩⟩, ⟨⟨ki_162_48, ⟨kbad, ⟨kbad, ⟨ki_162_51, ⟨ki_162_52, ⟨ki_162_53, ⟨kbad, ⟨kbad, ⟨ki_162_56, trivial⟩⟩⟩⟩⟩⟩⟩⟩⟩, trivial⟩⟩⟩⟩)⟩
set_option maxRecDepth 20000 in
theorem mk_163 : js_mok 163 := ⟨by decide +kernel, jk_tab (fun _ => js_St.ok st_bad) (show jk_all (js_Ok 163) 0 tb_163 from ⟨⟨ki_163_0, ⟨ki_163_1, ⟨kbad, ⟨kbad, ⟨ki_163_4, ⟨ki_163_5, ⟨ki_163_6, ⟨ki_163_7, ⟨kbad, ⟨kbad, ⟨ki_163_10, ⟨kbad, ⟨kbad, ⟨ki_163_13, trivial⟩⟩⟩⟩⟩⟩⟩⟩⟩⟩⟩⟩⟩⟩, trivial⟩)⟩
set_option maxRecDepth 20000 in
theorem mk_164 : js_mok 164 := ⟨by decide +kernel, jk_tab (fun _ => js_St.ok st_bad) (show jk_all (js_Ok 164) 0 tb_164 from ⟨⟨ki_164_0, ⟨ki_164_1, ⟨ki_164_2, ⟨kbad, ⟨kbad, ⟨ki_164_5, ⟨ki_164_6, ⟨ki_164_7, ⟨kbad, ⟨kbad, ⟨ki_164_10, trivial⟩⟩⟩⟩⟩⟩⟩⟩⟩⟩⟩, trivial⟩)⟩
set_option maxRecDepth 20000 in
theorem mk_165 : js_mok 165 := ⟨by decide +kernel, jk_tab (fun _ => js_St.ok st_bad) (show jk_all (js_Ok 165) 0 tb_165 from ⟨⟨ki_165_0, ⟨ki_165_1, ⟨ki_165_2, ⟨kbad, ⟨kbad, ⟨ki_165_5, ⟨ki_165_6, ⟨ki_165_7, ⟨kbad, ⟨kbad, ⟨ki_165_10, trivial⟩⟩⟩⟩⟩⟩⟩⟩⟩⟩⟩, trivial⟩)⟩
set_option maxRecDepth 20000 in
theorem mk_166 : js_mok 166 := ⟨by decide +kernel, jk_tab (fun _ => js_St.ok st_bad) (show jk_all (js_Ok 166) 0 tb_166 from ⟨⟨ki_166_0, ⟨ki_166_1, ⟨ki_166_2, ⟨ki_166_3, ⟨ki_166_4, ⟨ki_166_5, ⟨ki_166_6, ⟨ki_166_7, ⟨kbad, ⟨kbad, ⟨ki_166_10, ⟨ki_166_11, ⟨ki_166_12, ⟨kbad, ⟨kbad, ⟨ki_166_15, trivial⟩⟩⟩⟩⟩⟩⟩⟩⟩⟩⟩⟩⟩⟩⟩⟩, ⟨⟨kbad, ⟨kbad, ⟨ki_166_18, ⟨ki_166_19, ⟨ki_166_20, ⟨kbad, ⟨ki_166_22, ⟨kbad, ⟨ki_166_24, ⟨kbad, ⟨ki_166_26, ⟨kbad, ⟨kbad, ⟨ki_166_29, ⟨ki_166_30, ⟨kbad, trivial⟩⟩⟩⟩⟩⟩⟩⟩⟩⟩⟩⟩⟩⟩⟩⟩, ⟨⟨kbad, ⟨ki_166_33, ⟨ki_166_34, ⟨kbad, ⟨ki_166_36, ⟨ki_166_37, ⟨kbad, ⟨ki_166_39, ⟨kbad, ⟨ki_166_41, ⟨kbad, ⟨ki_166_43, ⟨kbad, ⟨kbad, ⟨ki_166_46, ⟨kbad, trivial⟩⟩⟩⟩⟩⟩⟩⟩⟩⟩⟩⟩⟩⟩⟩⟩, ⟨⟨ki_166_48, ⟨ki_166_49, ⟨kbad, ⟨ki_166_51, ⟨kbad, ⟨kbad, ⟨ki_166_54, ⟨kbad, ⟨kbad, ⟨ki_166_57, ⟨ki_166_58, ⟨kbad, ⟨ki_166_60, ⟨kbad, ⟨kbad, ⟨ki_166_63, trivial⟩⟩⟩⟩⟩⟩⟩⟩⟩⟩⟩⟩⟩⟩⟩⟩, ⟨⟨ki_166_64, ⟨kbad, ⟨ki_166_66, ⟨kbad, ⟨kbad, ⟨ki_166_69, ⟨kbad, ⟨kbad, ⟨ki_166_72, ⟨ki_166_73, ⟨kbad, ⟨kbad, ⟨ki_166_76, ⟨ki_166_77, ⟨ki_166_78, ⟨kbad, trivial⟩⟩⟩⟩⟩⟩⟩⟩⟩⟩⟩⟩⟩⟩⟩⟩, ⟨⟨ki_166_80, ⟨kbad, ⟨kbad, ⟨ki_166_83, ⟨kbad, ⟨kbad, ⟨ki_166_86, ⟨ki_166_87, ⟨kbad, ⟨ki_166_89, ⟨kbad, ⟨kbad, ⟨ki_166_92, ⟨kbad, ⟨kbad, ⟨ki_166_95, trivial⟩⟩⟩⟩⟩⟩⟩⟩⟩⟩⟩⟩⟩⟩⟩⟩, ⟨⟨kbad, ⟨ki_166_97, ⟨ki_166_98, ⟨kbad, ⟨kbad, ⟨ki_166_101, ⟨ki_166_102, ⟨kbad, ⟨ki_166_104, ⟨kbad, ⟨kbad, ⟨ki_166_107, ⟨kbad, ⟨kbad, ⟨ki_166_110, ⟨ki_166_111, trivial⟩⟩⟩⟩⟩⟩⟩⟩⟩⟩⟩⟩⟩⟩⟩⟩, ⟨⟨ki_166_112, ⟨kbad, ⟨kbad, ⟨ki_166_115, ⟨kbad, ⟨kbad, ⟨ki_166_118, ⟨ki_166_119, trivial⟩⟩⟩⟩⟩⟩⟩⟩, trivial⟩⟩⟩⟩⟩⟩⟩⟩)⟩
set_option maxRecDepth 20000 in
theorem mk_167 : js_mok 167 := ⟨by decide +kernel, jk_tab (fun _ => js_St.ok st_bad) (show jk_all (js_Ok 167) 0 tb_167 from ⟨⟨ki_167_0, ⟨ki_167_1, ⟨ki_167_2, ⟨kbad, ⟨kbad, ⟨ki_167_5, ⟨ki_167_6, ⟨ki_167_7, ⟨kbad, ⟨kbad, ⟨ki_167_10, ⟨kbad, ⟨kbad, ⟨ki_167_13, ⟨ki_167_14, ⟨kbad, trivial⟩⟩⟩⟩⟩⟩⟩⟩⟩⟩⟩⟩⟩⟩⟩⟩, ⟨⟨kbad, ⟨ki_167_17, ⟨ki_167_18, trivial⟩⟩⟩, trivial⟩⟩)⟩
set_option maxRecDepth 20000 in
theorem mk_168 : js_mok 168 := ⟨by decide +kernel, jk_tab (fun _ => js_St.ok st_bad) (show jk_all (js_Ok 168) 0 tb_168 from ⟨⟨ki_168_0, ⟨ki_168_1, ⟨ki_168_2, ⟨kbad, ⟨kbad, ⟨ki_168_5, ⟨ki_168_6, ⟨ki_168_7, ⟨ki_168_8, ⟨kbad, ⟨kbad, ⟨ki_168_11, ⟨ki_168_12, ⟨kbad, ⟨kbad, ⟨ki_168_15, trivial⟩⟩⟩⟩⟩⟩⟩⟩⟩⟩⟩⟩⟩⟩⟩⟩, ⟨⟨ki_168_16, ⟨kbad, ⟨kbad, ⟨ki_168_19, ⟨kbad, ⟨kbad, ⟨ki_168_22, ⟨ki_168_23, ⟨ki_168_24, ⟨ki_168_25, ⟨kbad, ⟨kbad, ⟨ki_168_28, ⟨ki_168_29, ⟨kbad, ⟨kbad, trivial⟩⟩⟩⟩⟩⟩⟩⟩⟩⟩⟩⟩⟩⟩⟩⟩, ⟨⟨ki_168_32, ⟨kbad, ⟨ki_168_34, trivial⟩⟩⟩, trivial⟩⟩⟩)⟩
set_option maxRecDepth 20000 in
theorem mk_169 : js_mok 169 := ⟨by decide +kernel, jk_tab (fun _ => js_St.ok st_bad) (show jk_all (js_Ok 169) 0 tb_169 from ⟨⟨ki_169_0, ⟨ki_169_1, ⟨ki_169_2, ⟨kbad, ⟨kbad, ⟨ki_169_5, ⟨ki_169_6, ⟨ki_169_7, ⟨ki_169_8, ⟨kbad, ⟨kbad, ⟨ki_169_11, ⟨ki_169_12, ⟨kbad, ⟨kbad, ⟨ki_169_15, trivial⟩⟩⟩⟩⟩⟩⟩⟩⟩⟩⟩⟩⟩⟩⟩⟩, ⟨⟨ki_169_16, ⟨kbad, ⟨kbad, ⟨ki_169_19, ⟨kbad, ⟨kbad, ⟨ki_169_22, ⟨ki_169_23, ⟨ki_169_24, ⟨kbad, ⟨ki_169_26, ⟨kbad, ⟨kbad, ⟨ki_169_29, ⟨kbad, ⟨kbad, trivial⟩⟩⟩⟩⟩⟩⟩⟩⟩⟩⟩⟩⟩⟩⟩⟩, ⟨⟨ki_169_32, ⟨ki_169_33, trivial⟩⟩, trivial⟩⟩⟩)⟩
set_option maxRecDepth 20000 in
theorem mk_170 : js_mok 170 := ⟨by decide +kernel, jk_tab (fun _ => js_St.ok st_bad) (show jk_all (js_Ok 170) 0 tb_170 from ⟨⟨ki_170_0, ⟨ki_170_1, ⟨ki_170_2, ⟨kbad, ⟨kbad, ⟨ki_170_5, ⟨ki_170_6, ⟨ki_170_7, ⟨ki_170_8, ⟨kbad, ⟨kbad, ⟨ki_170_11, ⟨ki_170_12, ⟨kbad, ⟨kbad, ⟨ki_170_15, trivial⟩⟩⟩⟩⟩⟩⟩⟩⟩⟩⟩⟩⟩⟩⟩⟩, ⟨⟨ki_170_16, ⟨ki_170_17, ⟨ki_170_18, ⟨kbad, ⟨kbad, ⟨ki_170_21, ⟨kbad, ⟨kbad, ⟨ki_170_24, ⟨ki_170_25, ⟨kbad, ⟨kbad, ⟨ki_170_28, ⟨ki_170_29, ⟨kbad, ⟨kbad, trivial⟩⟩⟩⟩⟩⟩⟩⟩⟩⟩⟩⟩⟩⟩⟩⟩, ⟨⟨ki_170_32, ⟨ki_170_33, ⟨kbad, ⟨kbad, ⟨ki_170_36, ⟨kbad, ⟨kbad, ⟨ki_170_39, ⟨ki_170_40, ⟨kbad, ⟨kbad, ⟨ki_170_43, ⟨ki_170_44, ⟨ki_170_45, ⟨ki_170_46, ⟨ki_170_47, trivial⟩⟩⟩⟩⟩⟩⟩⟩⟩⟩⟩⟩⟩⟩⟩⟩, ⟨⟨ki_170_48, ⟨kbad, ⟨ki_170_50, ⟨kbad, ⟨kbad, ⟨ki_170_53, ⟨kbad, ⟨kbad, ⟨ki_170_56, trivial⟩⟩⟩⟩⟩⟩⟩⟩⟩, trivial⟩⟩⟩⟩)⟩
set_option maxRecDepth 20000 in
theorem mk_171 : js_mok 171 := ⟨by decide +kernel, jk_tab (fun _ => js_St.ok st_bad) (show jk_all (js_Ok 171) 0 tb_171 from ⟨⟨ki_171_0, ⟨ki_171_1, ⟨ki_171_2, ⟨kbad, ⟨kbad, ⟨ki_171_5, ⟨ki_171_6, ⟨ki_171_7, ⟨ki_171_8, ⟨kbad, ⟨kbad, ⟨ki_171_11, ⟨ki_171_12, ⟨kbad, ⟨kbad, ⟨ki_171_15, trivial⟩⟩⟩⟩⟩⟩⟩⟩⟩⟩⟩⟩⟩⟩⟩⟩, ⟨⟨ki_171_16, ⟨kbad, ⟨kbad, ⟨ki_171_19, ⟨kbad, ⟨kbad, ⟨ki_171_22, ⟨ki_171_23, ⟨ki_171_24, ⟨kbad, ⟨kbad, ⟨ki_171_27, ⟨kbad, ⟨kbad, ⟨ki_171_30, ⟨ki_171_31, trivial⟩⟩⟩⟩⟩⟩⟩⟩⟩⟩⟩⟩⟩⟩⟩⟩, ⟨⟨kbad, ⟨kbad, ⟨ki_171_34, ⟨ki_171_35, trivial⟩⟩⟩⟩, trivial⟩⟩⟩)⟩
set_option maxRecDepth 20000 in
theorem mk_172 : js_mok 172 := ⟨by decide +kernel, jk_tab (fun _ => js_St.ok st_bad) (show jk_all (js_Ok 172) 0 tb_172 from ⟨⟨ki_172_0, ⟨ki_172_1, ⟨ki_172_2, ⟨kbad, ⟨kbad, ⟨ki_172_5, ⟨ki_172_6, ⟨ki_172_7, ⟨ki_172_8, ⟨kbad, ⟨kbad, ⟨ki_172_11, ⟨ki_172_12, ⟨kbad, ⟨kbad, ⟨ki_172_15, trivial⟩⟩⟩⟩⟩⟩⟩⟩⟩⟩⟩⟩⟩⟩⟩⟩, ⟨⟨ki_172_16, ⟨kbad, ⟨kbad, ⟨ki_172_19, ⟨kbad, ⟨kbad, ⟨ki_172_22, ⟨ki_172_23, ⟨ki_172_24, ⟨kbad, ⟨ki_172_26, ⟨kbad, ⟨kbad, ⟨ki_172_29, ⟨ki_172_30, ⟨ki_172_31, trivial⟩⟩⟩⟩⟩⟩⟩⟩⟩⟩⟩⟩⟩⟩⟩⟩, ⟨⟨kbad, ⟨kbad, ⟨ki_172_34, ⟨ki_172_35, trivial⟩⟩⟩⟩, trivial⟩⟩⟩)⟩
set_option maxRecDepth 20000 in
theorem mk_173 : js_mok 173 := ⟨by decide +kernel, jk_tab (fun _ => js_St.ok st_bad) (show jk_all (js_Ok 173) 0 tb_173 from ⟨⟨ki_173_0, ⟨ki_173_1, ⟨ki_173_2, ⟨kbad, ⟨kbad, ⟨ki_173_5, ⟨ki_173_6, ⟨ki_173_7, ⟨ki_173_8, ⟨ki_173_9, ⟨ki_173_10, ⟨kbad, ⟨ki_173_12, ⟨kbad, ⟨kbad, ⟨ki_173_15, trivial⟩⟩⟩⟩⟩⟩⟩⟩⟩⟩⟩⟩⟩⟩⟩⟩, ⟨⟨ki_173_16, ⟨ki_173_17, ⟨ki_173_18, ⟨ki_173_19, ⟨kbad, ⟨kbad, ⟨ki_173_22, ⟨ki_173_23, ⟨ki_173_24, ⟨kbad, ⟨kbad, ⟨ki_173_27, ⟨kbad, ⟨kbad, ⟨ki_173_30, ⟨ki_173_31, trivial⟩⟩⟩⟩⟩⟩⟩⟩⟩⟩⟩⟩⟩⟩⟩⟩, ⟨⟨ki_173_32, ⟨ki_173_33, ⟨ki_173_34, ⟨ki_173_35, ⟨ki_173_36, ⟨ki_173_37, ⟨kbad, ⟨kbad, ⟨ki_173_40, ⟨ki_173_41, ⟨ki_173_42, ⟨ki_173_43, ⟨kbad, ⟨kbad, ⟨ki_173_46, ⟨kbad, trivial⟩⟩⟩⟩⟩⟩⟩⟩⟩⟩⟩⟩⟩⟩⟩⟩, ⟨⟨kbad, ⟨ki_173_49, ⟨kbad, ⟨kbad, ⟨ki_173_52, ⟨kbad, ⟨kbad, ⟨ki_173_55, ⟨ki_173_56, ⟨ki_173_57, ⟨ki_173_58, ⟨ki_173_59, ⟨ki_173_60, ⟨kbad, ⟨ki_173_62, ⟨kbad, trivial⟩⟩⟩⟩⟩⟩⟩⟩⟩⟩⟩⟩⟩⟩⟩⟩, ⟨⟨kbad, ⟨ki_173_65, ⟨ki_173_66, ⟨ki_173_67, ⟨ki_173_68, ⟨ki_173_69, ⟨ki_173_70, ⟨ki_173_71, ⟨ki_173_72, ⟨ki_173_73, ⟨kbad, ⟨kbad, ⟨ki_173_76, ⟨kbad, ⟨kbad, ⟨ki_173_79, trivial⟩⟩⟩⟩⟩⟩⟩⟩⟩⟩⟩⟩⟩⟩⟩⟩, ⟨⟨ki_173_80, trivial⟩, trivial⟩⟩⟩⟩⟩⟩)⟩
set_option maxRecDepth 20000 in
theorem mk_174 : js_mok 174 := ⟨by decide +kernel, jk_tab (fun _ => js_St.ok st_bad) (show jk_all (js_Ok 174) 0 tb_174 from ⟨⟨ki_174_0, ⟨ki_174_1, ⟨ki_174_2, ⟨kbad, ⟨ki_174_4, ⟨ki_174_5, ⟨ki_174_6, ⟨ki_174_7, ⟨kbad, ⟨kbad, ⟨ki_174_10, ⟨ki_174_11, ⟨kbad, ⟨kbad, ⟨ki_174_14, ⟨kbad, trivial⟩⟩⟩⟩⟩⟩⟩⟩⟩⟩⟩⟩⟩⟩⟩⟩, ⟨⟨kbad, ⟨ki_174_17, ⟨ki_174_18, ⟨ki_174_19, ⟨ki_174_20, ⟨ki_174_21, ⟨ki_174_22, ⟨ki_174_23, trivial⟩⟩⟩⟩⟩⟩⟩⟩, trivial⟩⟩)⟩
set_option maxRecDepth 20000 in
theorem mk_175 : js_mok 175 := ⟨by decide +kernel, jk_tab (fun _ => js_St.ok st_bad) (show jk_all (js_Ok 175) 0 tb_175 from ⟨⟨ki_175_0, ⟨ki_175_1, ⟨ki_175_2, ⟨kbad, ⟨kbad, ⟨ki_175_5, ⟨kbad, ⟨ki_175_7, ⟨kbad, ⟨ki_175_9, ⟨kbad, ⟨kbad, ⟨ki_175_12, ⟨ki_175_13, ⟨ki_175_14, ⟨kbad, trivial⟩⟩⟩⟩⟩⟩⟩⟩⟩⟩⟩⟩⟩⟩⟩⟩, ⟨⟨kbad, ⟨ki_175_17, ⟨ki_175_18, ⟨ki_175_19, ⟨ki_175_20, ⟨kbad, ⟨kbad, ⟨ki_175_23, ⟨kbad, ⟨kbad, ⟨ki_175_26, ⟨ki_175_27, ⟨ki_175_28, ⟨kbad, ⟨kbad, ⟨ki_175_31, trivial⟩⟩⟩⟩⟩⟩⟩⟩⟩⟩⟩⟩⟩⟩⟩⟩, ⟨⟨ki_175_32, ⟨kbad, ⟨ki_175_34, ⟨ki_175_35, ⟨ki_175_36, ⟨ki_175_37, ⟨ki_175_38, ⟨kbad, ⟨ki_175_40, ⟨ki_175_41, ⟨kbad, ⟨ki_175_43, ⟨kbad, ⟨kbad, ⟨ki_175_46, ⟨kbad, trivial⟩⟩⟩⟩⟩⟩⟩⟩⟩⟩⟩⟩⟩⟩⟩⟩, ⟨⟨kbad, ⟨ki_175_49, ⟨ki_175_50, ⟨kbad, ⟨kbad, ⟨ki_175_53, ⟨kbad, ⟨kbad, ⟨ki_175_56, ⟨kbad, ⟨ki_175_58, ⟨ki_175_59, ⟨ki_175_60, ⟨kbad, ⟨kbad, ⟨ki_175_63, trivial⟩⟩⟩⟩⟩⟩⟩⟩⟩⟩⟩⟩⟩⟩⟩⟩, ⟨⟨ki_175_64, ⟨ki_175_65, ⟨kbad, ⟨kbad, ⟨ki_175_68, ⟨ki_175_69, ⟨ki_175_70, ⟨kbad, ⟨ki_175_72, ⟨kbad, ⟨ki_175_74, ⟨kbad, ⟨kbad, ⟨ki_175_77, ⟨ki_175_78, ⟨kbad, trivial⟩⟩⟩⟩⟩⟩⟩⟩⟩⟩⟩⟩⟩⟩⟩⟩, ⟨⟨ki_175_80, ⟨ki_175_81, ⟨kbad, ⟨kbad, ⟨ki_175_84, trivial⟩⟩⟩⟩⟩, trivial⟩⟩⟩⟩⟩⟩)⟩
set_option maxRecDepth 20000 in
theorem mk_176 : js_mok 176 := ⟨by decide +kernel, jk_tab (fun _ => js_St.ok st_bad) (show jk_all (js_Ok 176) 0 tb_176 from ⟨⟨ki_176_0, ⟨ki_176_1, ⟨kbad, ⟨kbad, ⟨ki_176_4, ⟨ki_176_5, ⟨ki_176_6, ⟨ki_176_7, ⟨ki_176_8, ⟨ki_176_9, ⟨kbad, ⟨kbad, ⟨ki_176_12, ⟨kbad, ⟨kbad, ⟨ki_176_15, trivial⟩⟩⟩⟩⟩⟩⟩⟩⟩⟩⟩⟩⟩⟩⟩⟩, trivial⟩)⟩
set_option maxRecDepth 20000 in
theorem mk_177 : js_mok 177 := ⟨by decide +kernel, jk_tab (fun _ => js_St.ok st_bad) (show jk_all (js_Ok 177) 0 tb_177 from ⟨⟨ki_177_0, ⟨ki_177_1, ⟨ki_177_2, ⟨kbad, ⟨kbad, ⟨ki_177_5, ⟨ki_177_6, ⟨ki_177_7, ⟨kbad, ⟨kbad, ⟨ki_177_10, ⟨ki_177_11, ⟨ki_177_12, ⟨kbad, ⟨kbad, ⟨ki_177_15, trivial⟩⟩⟩⟩⟩⟩⟩⟩⟩⟩⟩⟩⟩⟩⟩⟩, ⟨⟨ki_177_16, ⟨ki_177_17, ⟨ki_177_18, ⟨kbad, ⟨kbad, ⟨ki_177_21, ⟨kbad, ⟨kbad, ⟨ki_177_24, ⟨ki_177_25, ⟨ki_177_26, ⟨kbad, ⟨kbad, ⟨ki_177_29, ⟨ki_177_30, ⟨ki_177_31, trivial⟩⟩⟩⟩⟩⟩⟩⟩⟩⟩⟩⟩⟩⟩⟩⟩, ⟨⟨ki_177_32, ⟨kbad, ⟨ki_177_34, ⟨kbad, ⟨kbad, ⟨ki_177_37, ⟨ki_177_38, ⟨ki_177_39, ⟨ki_177_40, ⟨ki_177_41, ⟨ki_177_42, ⟨ki_177_43, ⟨kbad, ⟨kbad, ⟨ki_177_46, ⟨kbad, trivial⟩⟩⟩⟩⟩⟩⟩⟩⟩⟩⟩⟩⟩⟩⟩⟩, ⟨⟨ki_177_48, ⟨ki_177_49, ⟨kbad, ⟨kbad, ⟨ki_177_52, ⟨kbad, ⟨kbad, ⟨ki_177_55, ⟨ki_177_56, ⟨ki_177_57, ⟨ki_177_58, ⟨ki_177_59, ⟨ki_177_60, ⟨ki_177_61, ⟨kbad, ⟨ki_177_63, trivial⟩⟩⟩⟩⟩⟩⟩⟩⟩⟩⟩⟩⟩⟩⟩⟩, ⟨⟨ki_177_64, ⟨kbad, ⟨kbad, ⟨ki_177_67, ⟨kbad, ⟨ki_177_69, trivial⟩⟩⟩⟩⟩⟩, trivial⟩⟩⟩⟩⟩)⟩
set_option maxRecDepth 20000 in
theorem mk_178 : js_mok 178 := ⟨by decide +kernel, jk_tab (fun _ => js_St.ok st_bad) (show jk_all (js_Ok 178) 0 tb_178 from ⟨⟨ki_178_0, ⟨ki_178_1, ⟨kbad, ⟨kbad, ⟨ki_178_4, ⟨ki_178_5, ⟨ki_178_6, ⟨ki_178_7, ⟨kbad, ⟨kbad, ⟨ki_178_10, ⟨kbad, ⟨kbad, ⟨ki_178_13, trivial⟩⟩⟩⟩⟩⟩⟩⟩⟩⟩⟩⟩⟩⟩, trivial⟩)⟩
set_option maxRecDepth 20000 in
theorem mk_179 : js_mok 179 := ⟨by decide +kernel, jk_tab (fun _ => js_St.ok st_bad) (show jk_all (js_Ok 179) 0 tb_179 from ⟨⟨ki_179_0, ⟨ki_179_1, ⟨ki_179_2, ⟨kbad, ⟨kbad, ⟨ki_179_5, ⟨ki_179_6, ⟨ki_179_7, ⟨kbad, ⟨kbad, ⟨ki_179_10, ⟨ki_179_11, ⟨ki_179_12, ⟨kbad, ⟨kbad, ⟨ki_179_15, trivial⟩⟩⟩⟩⟩⟩⟩⟩⟩⟩⟩⟩⟩⟩⟩⟩, ⟨⟨ki_179_16, ⟨ki_179_17, ⟨ki_179_18, ⟨ki_179_19, ⟨kbad, ⟨kbad, ⟨ki_179_22, ⟨kbad, ⟨kbad, ⟨ki_179_25, ⟨ki_179_26, ⟨ki_179_27, ⟨kbad, ⟨kbad, ⟨ki_179_30, ⟨ki_179_31, trivial⟩⟩⟩⟩⟩⟩⟩⟩⟩⟩⟩⟩⟩⟩⟩⟩, ⟨⟨ki_179_32, ⟨ki_179_33, ⟨kbad, ⟨ki_179_35, ⟨kbad, ⟨kbad, ⟨ki_179_38, ⟨kbad, ⟨ki_179_40, ⟨ki_179_41, ⟨ki_179_42, ⟨kbad, ⟨ki_179_44, ⟨ki_179_45, ⟨kbad, ⟨kbad, trivial⟩⟩⟩⟩⟩⟩⟩⟩⟩⟩⟩⟩⟩⟩⟩⟩, ⟨⟨ki_179_48, ⟨kbad, ⟨ki_179_50, trivial⟩⟩⟩, trivial⟩⟩⟩⟩)⟩
set_option maxRecDepth 20000 in
theorem mk_180 : js_mok 180 := ⟨by decide +kernel, jk_tab (fun _ => js_St.ok st_bad) (show jk_all (js_Ok 180) 0 tb_180 from ⟨⟨ki_180_0, ⟨ki_180_1, ⟨kbad, ⟨kbad, ⟨ki_180_4, ⟨ki_180_5, ⟨ki_180_6, ⟨ki_180_7, ⟨ki_180_8, ⟨kbad, ⟨kbad, ⟨ki_180_11, ⟨kbad, ⟨kbad, ⟨ki_180_14, trivial⟩⟩⟩⟩⟩⟩⟩⟩⟩⟩⟩⟩⟩⟩⟩, trivial⟩)⟩
set_option maxRecDepth 20000 in
theorem mk_181 : js_mok 181 := ⟨by decide +kernel, jk_tab (fun _ => js_St.ok st_bad) (show jk_all (js_Ok 181) 0 tb_181 from ⟨⟨ki_181_0, ⟨ki_181_1, ⟨ki_181_2, ⟨kbad, ⟨kbad, ⟨ki_181_5, ⟨ki_181_6, ⟨ki_181_7, ⟨ki_181_8, ⟨kbad, ⟨kbad, ⟨ki_181_11, ⟨kbad, ⟨ki_181_13, ⟨ki_181_14, ⟨kbad, trivial⟩⟩⟩⟩⟩⟩⟩⟩⟩⟩⟩⟩⟩⟩⟩⟩, ⟨⟨kbad, ⟨ki_181_17, ⟨kbad, ⟨ki_181_19, ⟨kbad, ⟨kbad, ⟨ki_181_22, ⟨ki_181_23, ⟨ki_181_24, ⟨kbad, ⟨kbad, ⟨ki_181_27, ⟨ki_181_28, ⟨ki_181_29, ⟨ki_181_30, ⟨kbad, trivial⟩⟩⟩⟩⟩⟩⟩⟩⟩⟩⟩⟩⟩⟩⟩⟩, ⟨⟨kbad, ⟨ki_181_33, ⟨ki_181_34, ⟨ki_181_35, ⟨kbad, ⟨kbad, ⟨ki_181_38, ⟨ki_181_39, ⟨ki_181_40, ⟨ki_181_41, ⟨kbad, ⟨kbad, ⟨ki_181_44, ⟨kbad, ⟨kbad, ⟨ki_181_47, trivial⟩⟩⟩⟩⟩⟩⟩⟩⟩⟩⟩⟩⟩⟩⟩⟩, ⟨⟨ki_181_48, ⟨kbad, ⟨ki_181_50, ⟨kbad, ⟨kbad, ⟨ki_181_53, ⟨kbad, ⟨kbad, ⟨ki_181_56, ⟨ki_181_57, ⟨ki_181_58, ⟨kbad, ⟨kbad, ⟨ki_181_61, ⟨ki_181_62, ⟨ki_181_63, trivial⟩⟩⟩⟩⟩⟩⟩⟩⟩⟩⟩⟩⟩⟩⟩⟩, ⟨⟨ki_181_64, ⟨kbad, ⟨ki_181_66, ⟨kbad, ⟨kbad, ⟨ki_181_69, ⟨ki_181_70, ⟨ki_181_71, ⟨kbad, ⟨ki_181_73, ⟨ki_181_74, ⟨ki_181_75, ⟨ki_181_76, ⟨kbad, ⟨ki_181_78, ⟨kbad, trivial⟩⟩⟩⟩⟩⟩⟩⟩⟩⟩⟩⟩⟩⟩⟩⟩, ⟨⟨ki_181_80, ⟨kbad, ⟨kbad, ⟨ki_181_83, ⟨ki_181_84, ⟨ki_181_85, ⟨kbad, ⟨kbad, ⟨ki_181_88, ⟨ki_181_89, ⟨kbad, ⟨ki_181_91, ⟨kbad, ⟨ki_181_93, ⟨kbad, ⟨kbad, trivial⟩⟩⟩⟩⟩⟩⟩⟩⟩⟩⟩⟩⟩⟩⟩⟩, ⟨⟨ki_181_96, ⟨ki_181_97, ⟨ki_181_98, ⟨kbad, ⟨kbad, ⟨ki_181_101, trivial⟩⟩⟩⟩⟩⟩, trivial⟩⟩⟩⟩⟩⟩⟩)⟩
set_option maxRecDepth 20000 in
theorem mk_182 : js_mok 182 := ⟨by decide +kernel, jk_tab (fun _ => js_St.ok st_bad) (show jk_all (js_Ok 182) 0 tb_182 from ⟨⟨ki_182_0, ⟨ki_182_1, ⟨kbad, ⟨kbad, ⟨ki_182_4, ⟨ki_182_5, ⟨ki_182_6, ⟨ki_182_7, ⟨ki_182_8, ⟨kbad, ⟨kbad, ⟨ki_182_11, ⟨kbad, ⟨kbad, ⟨ki_182_14, trivial⟩⟩⟩⟩⟩⟩⟩⟩⟩⟩⟩⟩⟩⟩⟩, trivial⟩)⟩
set_option maxRecDepth 20000 in
theorem mk_183 : js_mok 183 := ⟨by decide +kernel, jk_tab (fun _ => js_St.ok st_bad) (show jk_all (js_Ok 183) 0 tb_183 from ⟨⟨ki_183_0, ⟨ki_183_1, ⟨kbad, ⟨ki_183_3, ⟨ki_183_4, ⟨kbad, ⟨ki_183_6, ⟨kbad, ⟨ki_183_8, ⟨ki_183_9, ⟨kbad, ⟨kbad, ⟨ki_183_12, ⟨ki_183_13, ⟨ki_183_14, ⟨kbad, trivial⟩⟩⟩⟩⟩⟩⟩⟩⟩⟩⟩⟩⟩⟩⟩⟩, ⟨⟨ki_183_16, ⟨kbad, ⟨kbad, ⟨ki_183_19, ⟨kbad, ⟨ki_183_21, ⟨kbad, ⟨ki_183_23, ⟨kbad, ⟨kbad, ⟨ki_183_26, ⟨kbad, ⟨ki_183_28, ⟨ki_183_29, ⟨ki_183_30, ⟨kbad, trivial⟩⟩⟩⟩⟩⟩⟩⟩⟩⟩⟩⟩⟩⟩⟩⟩, ⟨⟨ki_183_32, ⟨ki_183_33, ⟨kbad, ⟨kbad, ⟨ki_183_36, ⟨ki_183_37, ⟨ki_183_38, ⟨kbad, ⟨ki_183_40, ⟨kbad, ⟨kbad, ⟨ki_183_43, ⟨ki_183_44, ⟨kbad, ⟨ki_183_46, ⟨kbad, trivial⟩⟩⟩⟩⟩⟩⟩⟩⟩⟩⟩⟩⟩⟩⟩⟩, ⟨⟨kbad, ⟨ki_183_49, ⟨ki_183_50, ⟨kbad, ⟨kbad, ⟨ki_183_53, ⟨kbad, ⟨ki_183_55, ⟨ki_183_56, ⟨kbad, ⟨ki_183_58, ⟨kbad, ⟨ki_183_60, ⟨ki_183_61, ⟨ki_183_62, ⟨ki_183_63, trivial⟩⟩⟩⟩⟩⟩⟩⟩⟩⟩⟩⟩⟩⟩⟩⟩, ⟨⟨kbad, ⟨kbad, ⟨ki_183_66, ⟨ki_183_67, ⟨kbad, ⟨ki_183_69, ⟨ki_183_70, ⟨kbad, ⟨kbad, ⟨ki_183_73, ⟨kbad, ⟨kbad, ⟨ki_183_76, ⟨ki_183_77, ⟨kbad, ⟨kbad, trivial⟩⟩⟩⟩⟩⟩⟩⟩⟩⟩⟩⟩⟩⟩⟩⟩, ⟨⟨ki_183_80, ⟨ki_183_81, ⟨ki_183_82, ⟨kbad, ⟨ki_183_84, ⟨kbad, ⟨kbad, ⟨ki_183_87, ⟨kbad, ⟨kbad, ⟨ki_183_90, ⟨kbad, ⟨ki_183_92, trivial⟩⟩⟩⟩⟩⟩⟩⟩⟩⟩⟩⟩⟩, trivial⟩⟩⟩⟩⟩⟩)⟩
set_option maxRecDepth 20000 in
theorem mk_184 : js_mok 184 := ⟨by decide +kernel, jk_tab (fun _ => js_St.ok st_bad) (show jk_all (js_Ok 184) 0 tb_184 from ⟨⟨ki_184_0, ⟨ki_184_1, ⟨ki_184_2, ⟨ki_184_3, ⟨kbad, ⟨ki_184_5, ⟨kbad, ⟨ki_184_7, ⟨ki_184_8, ⟨kbad, ⟨kbad, ⟨ki_184_11, ⟨ki_184_12, ⟨ki_184_13, ⟨ki_184_14, ⟨kbad, trivial⟩⟩⟩⟩⟩⟩⟩⟩⟩⟩⟩⟩⟩⟩⟩⟩, ⟨⟨ki_184_16, ⟨kbad, ⟨kbad, ⟨ki_184_19, ⟨ki_184_20, ⟨ki_184_21, ⟨ki_184_22, ⟨ki_184_23, ⟨kbad, ⟨kbad, ⟨ki_184_26, ⟨kbad, ⟨kbad, ⟨ki_184_29, ⟨kbad, ⟨ki_184_31, trivial⟩⟩⟩⟩⟩⟩⟩⟩⟩⟩⟩⟩⟩⟩⟩⟩, ⟨⟨kbad, ⟨kbad, ⟨ki_184_34, ⟨ki_184_35, ⟨ki_184_36, ⟨kbad, ⟨kbad, ⟨ki_184_39, ⟨kbad, ⟨kbad, ⟨ki_184_42, ⟨ki_184_43, trivial⟩⟩⟩⟩⟩⟩⟩⟩⟩⟩⟩⟩, trivial⟩⟩⟩)⟩
set_option maxRecDepth 20000 in
theorem mk_185 : js_mok 185 := ⟨by decide +kernel, jk_tab (fun _ => js_St.ok st_bad) (show jk_all (js_Ok 185) 0 tb_185 from ⟨⟨ki_185_0, ⟨ki_185_1, ⟨ki_185_2, ⟨ki_185_3, ⟨ki_185_4, ⟨ki_185_5, ⟨ki_185_6, ⟨kbad, ⟨kbad, ⟨ki_185_9, ⟨kbad, ⟨kbad, ⟨ki_185_12, trivial⟩⟩⟩⟩⟩⟩⟩⟩⟩⟩⟩⟩⟩, trivial⟩)⟩
set_option maxRecDepth 20000 in
theorem mk_186 : js_mok 186 := ⟨by decide +kernel, jk_tab (fun _ => js_St.ok st_bad) (show jk_all (js_Ok 186) 0 tb_186 from ⟨⟨ki_186_0, ⟨ki_186_1, ⟨ki_186_2, ⟨ki_186_3, ⟨kbad, ⟨kbad, ⟨ki_186_6, ⟨ki_186_7, ⟨ki_186_8, ⟨ki_186_9, ⟨kbad, ⟨kbad, ⟨ki_186_12, ⟨ki_186_13, ⟨kbad, ⟨ki_186_15, trivial⟩⟩⟩⟩⟩⟩⟩⟩⟩⟩⟩⟩⟩⟩⟩⟩, ⟨⟨kbad, ⟨ki_186_17, ⟨kbad, ⟨kbad, ⟨ki_186_20, ⟨kbad, ⟨ki_186_22, ⟨kbad, ⟨kbad, ⟨ki_186_25, ⟨ki_186_26, ⟨ki_186_27, ⟨kbad, ⟨kbad, ⟨ki_186_30, ⟨ki_186_31, trivial⟩⟩⟩⟩⟩⟩⟩⟩⟩⟩⟩⟩⟩⟩⟩⟩, ⟨⟨ki_186_32, ⟨kbad, ⟨kbad, ⟨ki_186_35, ⟨kbad, ⟨kbad, ⟨ki_186_38, ⟨ki_186_39, ⟨kbad, ⟨kbad, ⟨ki_186_42, ⟨ki_186_43, trivial⟩⟩⟩⟩⟩⟩⟩⟩⟩⟩⟩⟩, trivial⟩⟩⟩)⟩
set_option maxRecDepth 20000 in
theorem mk_187 : js_mok 187 := ⟨by decide +kernel, jk_tab (fun _ => js_St.ok st_bad) (show jk_all (js_Ok 187) 0 tb_187 from ⟨⟨ki_187_0, ⟨ki_187_1, ⟨ki_187_2, ⟨ki_187_3, ⟨ki_187_4, ⟨ki_187_5, ⟨kbad, ⟨ki_187_7, ⟨kbad, ⟨kbad, ⟨ki_187_10, ⟨ki_187_11, ⟨ki_187_12, ⟨kbad, ⟨kbad, ⟨ki_187_15, trivial⟩⟩⟩⟩⟩⟩⟩⟩⟩⟩⟩⟩⟩⟩⟩⟩, ⟨⟨kbad, ⟨kbad, ⟨ki_187_18, ⟨ki_187_19, ⟨kbad, ⟨kbad, ⟨ki_187_22, ⟨ki_187_23, ⟨ki_187_24, ⟨ki_187_25, ⟨ki_187_26, ⟨kbad, ⟨kbad, ⟨ki_187_29, ⟨kbad, ⟨kbad, trivial⟩⟩⟩⟩⟩⟩⟩⟩⟩⟩⟩⟩⟩⟩⟩⟩, ⟨⟨ki_187_32, ⟨ki_187_33, ⟨kbad, ⟨kbad, ⟨ki_187_36, ⟨ki_187_37, ⟨ki_187_38, ⟨kbad, ⟨kbad, ⟨ki_187_41, ⟨kbad, ⟨kbad, ⟨ki_187_44, ⟨ki_187_45, trivial⟩⟩⟩⟩⟩⟩⟩⟩⟩⟩⟩⟩⟩⟩, trivial⟩⟩⟩)⟩
set_option maxRecDepth 20000 in
theorem mk_188 : js_mok 188 := ⟨by decide +kernel, jk_tab (fun _ => js_St.ok st_bad) (show jk_all (js_Ok 188) 0 tb_188 from ⟨⟨ki_188_0, ⟨ki_188_1, ⟨ki_188_2, ⟨kbad, ⟨ki_188_4, ⟨ki_188_5, ⟨ki_188_6, ⟨ki_188_7, ⟨kbad, ⟨kbad, ⟨ki_188_10, ⟨kbad, ⟨kbad, ⟨ki_188_13, ⟨ki_188_14, ⟨ki_188_15, trivial⟩⟩⟩⟩⟩⟩⟩⟩⟩⟩⟩⟩⟩⟩⟩⟩, ⟨⟨ki_188_16, ⟨kbad, ⟨kbad, ⟨ki_188_19, trivial⟩⟩⟩⟩, trivial⟩⟩)⟩
set_option maxRecDepth 20000 in
theorem mk_189 : js_mok 189 := ⟨by decide +kernel, jk_tab (fun _ => js_St.ok st_bad) (show jk_all (js_Ok 189) 0 tb_189 from ⟨⟨ki_189_0, ⟨ki_189_1, ⟨ki_189_2, ⟨kbad, ⟨kbad, ⟨ki_189_5, ⟨kbad, ⟨kbad, ⟨ki_189_8, ⟨ki_189_9, ⟨kbad, ⟨kbad, ⟨ki_189_12, ⟨ki_189_13, ⟨kbad, ⟨ki_189_15, trivial⟩⟩⟩⟩⟩⟩⟩⟩⟩⟩⟩⟩⟩⟩⟩⟩, ⟨⟨ki_189_16, ⟨ki_189_17, ⟨ki_189_18, ⟨ki_189_19, ⟨kbad, ⟨kbad, ⟨ki_189_22, ⟨kbad, ⟨kbad, ⟨ki_189_25, ⟨ki_189_26, ⟨kbad, ⟨kbad, ⟨ki_189_29, ⟨ki_189_30, trivial⟩⟩⟩⟩⟩⟩⟩⟩⟩⟩⟩⟩⟩⟩⟩, trivial⟩⟩)⟩
set_option maxRecDepth 20000 in
theorem mk_190 : js_mok 190 := ⟨by decide +kernel, jk_tab (fun _ => js_St.ok st_bad) (show jk_all (js_Ok 190) 0 tb_190 from ⟨⟨ki_190_0, ⟨ki_190_1, ⟨ki_190_2, ⟨ki_190_3, ⟨ki_190_4, ⟨kbad, ⟨kbad, ⟨ki_190_7, ⟨kbad, ⟨kbad, ⟨ki_190_10, ⟨ki_190_11, ⟨kbad, ⟨kbad, ⟨ki_190_14, ⟨kbad, trivial⟩⟩⟩⟩⟩⟩⟩⟩⟩⟩⟩⟩⟩⟩⟩⟩, ⟨⟨kbad, ⟨ki_190_17, ⟨ki_190_18, ⟨kbad, ⟨kbad, ⟨ki_190_21, ⟨ki_190_22, ⟨kbad, ⟨ki_190_24, ⟨ki_190_25, ⟨ki_190_26, ⟨ki_190_27, ⟨ki_190_28, ⟨kbad, ⟨kbad, ⟨ki_190_31, trivial⟩⟩⟩⟩⟩⟩⟩⟩⟩⟩⟩⟩⟩⟩⟩⟩, ⟨⟨ki_190_32, ⟨ki_190_33, ⟨kbad, ⟨kbad, ⟨ki_190_36, ⟨ki_190_37, ⟨ki_190_38, ⟨kbad, ⟨kbad, ⟨ki_190_41, ⟨kbad, ⟨kbad, ⟨ki_190_44, ⟨ki_190_45, ⟨kbad, ⟨kbad, trivial⟩⟩⟩⟩⟩⟩⟩⟩⟩⟩⟩⟩⟩⟩⟩⟩, ⟨⟨ki_190_48, ⟨kbad, ⟨kbad, ⟨ki_190_51, ⟨ki_190_52, ⟨kbad, ⟨kbad, ⟨ki_190_55, ⟨ki_190_56, ⟨ki_190_57, ⟨ki_190_58, ⟨kbad, ⟨ki_190_60, ⟨ki_190_61, ⟨ki_190_62, ⟨ki_190_63, trivial⟩⟩⟩⟩⟩⟩⟩⟩⟩⟩⟩⟩⟩⟩⟩⟩, ⟨⟨ki_190_64, ⟨kbad, ⟨kbad, ⟨ki_190_67, ⟨ki_190_68, ⟨ki_190_69, ⟨kbad, ⟨kbad, ⟨ki_190_72, trivial⟩⟩⟩⟩⟩⟩⟩⟩⟩, trivial⟩⟩⟩⟩⟩)⟩
set_option maxRecDepth 20000 in
theorem mk_191 : js_mok 191 := ⟨by decide +kernel, jk_tab (fun _ => js_St.ok st_bad) (show jk_all (js_Ok 191) 0 tb_191 from ⟨⟨ki_191_0, ⟨ki_191_1, ⟨kbad, ⟨kbad, ⟨ki_191_4, ⟨ki_191_5, ⟨ki_191_6, ⟨ki_191_7, ⟨ki_191_8, ⟨kbad, ⟨kbad, ⟨ki_191_11, ⟨kbad, ⟨kbad, ⟨ki_191_14, trivial⟩⟩⟩⟩⟩⟩⟩⟩⟩⟩⟩⟩⟩⟩⟩, trivial⟩)⟩
set_option maxRecDepth 20000 in
theorem mk_192 : js_mok 192 := ⟨by decide +kernel, jk_tab (fun _ => js_St.ok st_bad) (show jk_all (js_Ok 192) 0 tb_192 from ⟨⟨ki_192_0, ⟨ki_192_1, ⟨ki_192_2, ⟨ki_192_3, ⟨kbad, ⟨kbad, ⟨ki_192_6, ⟨ki_192_7, ⟨ki_192_8, ⟨kbad, ⟨kbad, ⟨ki_192_11, ⟨ki_192_12, ⟨ki_192_13, ⟨ki_192_14, ⟨kbad, trivial⟩⟩⟩⟩⟩⟩⟩⟩⟩⟩⟩⟩⟩⟩⟩⟩, ⟨⟨kbad, ⟨ki_192_17, ⟨ki_192_18, ⟨kbad, ⟨kbad, ⟨ki_192_21, ⟨kbad, ⟨kbad, ⟨ki_192_24, ⟨ki_192_25, ⟨kbad, ⟨kbad, ⟨ki_192_28, ⟨ki_192_29, ⟨kbad, ⟨kbad, trivial⟩⟩⟩⟩⟩⟩⟩⟩⟩⟩⟩⟩⟩⟩⟩⟩, ⟨⟨ki_192_32, ⟨ki_192_33, trivial⟩⟩, trivial⟩⟩⟩)⟩
set_option maxRecDepth 20000 in
theorem mk_193 : js_mok 193 := ⟨by decide +kernel, jk_tab (fun _ => js_St.ok st_bad) (show jk_all (js_Ok 193) 0 tb_193 from ⟨⟨ki_193_0, ⟨ki_193_1, ⟨ki_193_2, ⟨ki_193_3, ⟨ki_193_4, ⟨ki_193_5, ⟨ki_193_6, ⟨ki_193_7, ⟨kbad, ⟨ki_193_9, ⟨kbad, ⟨kbad, ⟨ki_193_12, ⟨ki_193_13, ⟨ki_193_14, ⟨kbad, trivial⟩⟩⟩⟩⟩⟩⟩⟩⟩⟩⟩⟩⟩⟩⟩⟩, ⟨⟨kbad, ⟨ki_193_17, ⟨kbad, ⟨kbad, ⟨ki_193_20, ⟨ki_193_21, ⟨ki_193_22, ⟨kbad, ⟨kbad, ⟨ki_193_25, ⟨kbad, ⟨kbad, ⟨ki_193_28, ⟨ki_193_29, ⟨ki_193_30, ⟨ki_193_31, trivial⟩⟩⟩⟩⟩⟩⟩⟩⟩⟩⟩⟩⟩⟩⟩⟩, ⟨⟨kbad, ⟨kbad, ⟨ki_193_34, ⟨ki_193_35, ⟨kbad, ⟨kbad, ⟨ki_193_38, ⟨kbad, ⟨kbad, ⟨ki_193_41, ⟨ki_193_42, ⟨kbad, ⟨ki_193_44, ⟨kbad, ⟨ki_193_46, ⟨ki_193_47, trivial⟩⟩⟩⟩⟩⟩⟩⟩⟩⟩⟩⟩⟩⟩⟩⟩, ⟨⟨kbad, ⟨kbad, ⟨ki_193_50, ⟨ki_193_51, ⟨kbad, ⟨kbad, ⟨ki_193_54, ⟨ki_193_55, ⟨ki_193_56, ⟨ki_193_57, ⟨kbad, ⟨ki_193_59, ⟨kbad, ⟨kbad, ⟨ki_193_62, ⟨ki_193_63, trivial⟩⟩⟩⟩⟩⟩⟩⟩⟩⟩⟩⟩⟩⟩⟩⟩, ⟨⟨kbad, ⟨kbad, ⟨ki_193_66, ⟨kbad, ⟨kbad, ⟨ki_193_69, ⟨ki_193_70, trivial⟩⟩⟩⟩⟩⟩⟩, trivial⟩⟩⟩⟩⟩)⟩
set_option maxRecDepth 20000 in
theorem mk_194 : js_mok 194 := ⟨by decide +kernel, jk_tab (fun _ => js_St.ok st_bad) (show jk_all (js_Ok 194) 0 tb_194 from ⟨⟨ki_194_0, ⟨ki_194_1, ⟨kbad, ⟨kbad, ⟨ki_194_4, ⟨ki_194_5, ⟨ki_194_6, ⟨kbad, ⟨kbad, ⟨ki_194_9, ⟨kbad, ⟨kbad, ⟨ki_194_12, trivial⟩⟩⟩⟩⟩⟩⟩⟩⟩⟩⟩⟩⟩, trivial⟩)⟩
set_option maxRecDepth 20000 in
theorem mk_195 : js_mok 195 := ⟨by decide +kernel, jk_tab (fun _ => js_St.ok st_bad) (show jk_all (js_Ok 195) 0 tb_195 from ⟨⟨ki_195_0, ⟨ki_195_1, ⟨ki_195_2, ⟨kbad, ⟨kbad, ⟨ki_195_5, ⟨kbad, ⟨ki_195_7, ⟨ki_195_8, ⟨kbad, ⟨ki_195_10, ⟨kbad, ⟨kbad, ⟨ki_195_13, ⟨ki_195_14, ⟨kbad, trivial⟩⟩⟩⟩⟩⟩⟩⟩⟩⟩⟩⟩⟩⟩⟩⟩, ⟨⟨kbad, ⟨ki_195_17, ⟨ki_195_18, ⟨ki_195_19, ⟨kbad, ⟨kbad, ⟨ki_195_22, ⟨kbad, ⟨kbad, ⟨ki_195_25, ⟨ki_195_26, ⟨kbad, ⟨kbad, ⟨ki_195_29, ⟨kbad, ⟨ki_195_31, trivial⟩⟩⟩⟩⟩⟩⟩⟩⟩⟩⟩⟩⟩⟩⟩⟩, ⟨⟨ki_195_32, ⟨ki_195_33, ⟨kbad, ⟨kbad, ⟨ki_195_36, ⟨kbad, ⟨kbad, ⟨ki_195_39, ⟨ki_195_40, ⟨kbad, ⟨kbad, ⟨ki_195_43, ⟨ki_195_44, ⟨kbad, ⟨ki_195_46, ⟨kbad, trivial⟩⟩⟩⟩⟩⟩⟩⟩⟩⟩⟩⟩⟩⟩⟩⟩, ⟨⟨kbad, ⟨ki_195_49, ⟨kbad, ⟨kbad, ⟨ki_195_52, ⟨ki_195_53, ⟨kbad, ⟨kbad, ⟨ki_195_56, ⟨ki_195_57, ⟨ki_195_58, ⟨ki_195_59, ⟨kbad, ⟨kbad, ⟨ki_195_62, ⟨kbad, trivial⟩⟩⟩⟩⟩⟩⟩⟩⟩⟩⟩⟩⟩⟩⟩⟩, ⟨⟨kbad, ⟨ki_195_65, ⟨ki_195_66, ⟨kbad, ⟨kbad, ⟨ki_195_69, ⟨ki_195_70, ⟨kbad, ⟨kbad, ⟨ki_195_73, ⟨ki_195_74, ⟨kbad, ⟨kbad, ⟨ki_195_77, ⟨kbad, ⟨kbad, trivial⟩⟩⟩⟩⟩⟩⟩⟩⟩⟩⟩⟩⟩⟩⟩⟩, ⟨⟨ki_195_80, ⟨ki_195_81, ⟨kbad, ⟨kbad, ⟨ki_195_84, ⟨ki_195_85, ⟨kbad, ⟨ki_195_87, ⟨kbad, ⟨ki_195_89, ⟨ki_195_90, ⟨ki_195_91, ⟨ki_195_92, ⟨ki_195_93, ⟨kbad, ⟨ki_195_95, trivial⟩⟩⟩⟩⟩⟩⟩⟩⟩⟩⟩⟩⟩⟩⟩⟩, ⟨⟨kbad, ⟨kbad, ⟨ki_195_98, trivial⟩⟩⟩, trivial⟩⟩⟩⟩⟩⟩⟩)⟩
set_option maxRecDepth 20000 in
theorem mk_196 : js_mok 196 := ⟨by decide +kernel, jk_tab (fun _ => js_St.ok st_bad) (show jk_all (js_Ok 196) 0 tb_196 from ⟨⟨ki_196_0, ⟨ki_196_1, ⟨ki_196_2, ⟨kbad, ⟨kbad, ⟨ki_196_5, ⟨kbad, ⟨ki_196_7, ⟨ki_196_8, ⟨kbad, ⟨ki_196_10, ⟨kbad, ⟨kbad, ⟨ki_196_13, ⟨ki_196_14, ⟨kbad, trivial⟩⟩⟩⟩⟩⟩⟩⟩⟩⟩⟩⟩⟩⟩⟩⟩, ⟨⟨kbad, ⟨ki_196_17, ⟨ki_196_18, ⟨ki_196_19, ⟨kbad, ⟨kbad, ⟨ki_196_22, ⟨kbad, ⟨kbad, ⟨ki_196_25, ⟨ki_196_26, ⟨kbad, ⟨kbad, ⟨ki_196_29, ⟨ki_196_30, ⟨kbad, trivial⟩⟩⟩⟩⟩⟩⟩⟩⟩⟩⟩⟩⟩⟩⟩⟩, ⟨⟨ki_196_32, ⟨kbad, ⟨kbad, ⟨ki_196_35, ⟨kbad, ⟨kbad, ⟨ki_196_38, ⟨ki_196_39, ⟨kbad, ⟨kbad, ⟨ki_196_42, ⟨ki_196_43, ⟨ki_196_44, ⟨ki_196_45, ⟨kbad, ⟨kbad, trivial⟩⟩⟩⟩⟩⟩⟩⟩⟩⟩⟩⟩⟩⟩⟩⟩, ⟨⟨ki_196_48, ⟨kbad, ⟨kbad, ⟨ki_196_51, ⟨ki_196_52, ⟨kbad, ⟨kbad, ⟨ki_196_55, ⟨ki_196_56, ⟨kbad, ⟨kbad, ⟨ki_196_59, ⟨ki_196_60, ⟨kbad, ⟨kbad, ⟨ki_196_63, trivial⟩⟩⟩⟩⟩⟩⟩⟩⟩⟩⟩⟩⟩⟩⟩⟩, ⟨⟨kbad, ⟨kbad, ⟨ki_196_66, ⟨ki_196_67, ⟨kbad, ⟨kbad, ⟨ki_196_70, ⟨ki_196_71, ⟨kbad, ⟨ki_196_73, ⟨kbad, ⟨ki_196_75, ⟨ki_196_76, ⟨ki_196_77, ⟨ki_196_78, ⟨ki_196_79, trivial⟩⟩⟩⟩⟩⟩⟩⟩⟩⟩⟩⟩⟩⟩⟩⟩, ⟨⟨kbad, ⟨kbad, ⟨ki_196_82, trivial⟩⟩⟩, trivial⟩⟩⟩⟩⟩⟩)⟩
set_option maxRecDepth 20000 in
theorem mk_197 : js_mok 197 := ⟨by decide +kernel, jk_tab (fun _ => js_St.ok st_bad) (show jk_all (js_Ok 197) 0 tb_197 from ⟨⟨ki_197_0, ⟨ki_197_1, ⟨ki_197_2, ⟨ki_197_3, ⟨ki_197_4, ⟨kbad, ⟨kbad, ⟨ki_197_7, ⟨kbad, ⟨kbad, ⟨ki_197_10, ⟨ki_197_11, ⟨ki_197_12, ⟨kbad, ⟨kbad, ⟨ki_197_15, trivial⟩⟩⟩⟩⟩⟩⟩⟩⟩⟩⟩⟩⟩⟩⟩⟩, ⟨⟨kbad, ⟨kbad, ⟨ki_197_18, ⟨ki_197_19, ⟨ki_197_20, ⟨kbad, ⟨kbad, ⟨ki_197_23, ⟨kbad, ⟨kbad, ⟨ki_197_26, ⟨ki_197_27, ⟨kbad, ⟨kbad, ⟨ki_197_30, ⟨ki_197_31, trivial⟩⟩⟩⟩⟩⟩⟩⟩⟩⟩⟩⟩⟩⟩⟩⟩, ⟨⟨kbad, ⟨kbad, ⟨ki_197_34, ⟨kbad, ⟨kbad, ⟨ki_197_37, ⟨ki_197_38, ⟨kbad, ⟨kbad, ⟨ki_197_41, ⟨kbad, ⟨kbad, ⟨ki_197_44, ⟨ki_197_45, ⟨kbad, ⟨kbad, trivial⟩⟩⟩⟩⟩⟩⟩⟩⟩⟩⟩⟩⟩⟩⟩⟩, ⟨⟨ki_197_48, ⟨ki_197_49, ⟨ki_197_50, ⟨kbad, ⟨ki_197_52, ⟨ki_197_53, ⟨ki_197_54, ⟨ki_197_55, ⟨ki_197_56, ⟨kbad, ⟨kbad, ⟨ki_197_59, ⟨kbad, ⟨kbad, ⟨ki_197_62, trivial⟩⟩⟩⟩⟩⟩⟩⟩⟩⟩⟩⟩⟩⟩⟩, trivial⟩⟩⟩⟩)⟩
set_option maxRecDepth 20000 in
theorem mk_198 : js_mok 198 := ⟨by decide +kernel, jk_tab (fun _ => js_St.ok st_bad) (show jk_all (js_Ok 198) 0 tb_198 from ⟨⟨ki_198_0, ⟨ki_198_1, ⟨ki_198_2, ⟨ki_198_3, ⟨ki_198_4, ⟨kbad, ⟨kbad, ⟨ki_198_7, ⟨kbad, ⟨kbad, ⟨ki_198_10, ⟨ki_198_11, ⟨ki_198_12, ⟨kbad, ⟨kbad, ⟨ki_198_15, trivial⟩⟩⟩⟩⟩⟩⟩⟩⟩⟩⟩⟩⟩⟩⟩⟩, ⟨⟨kbad, ⟨kbad, ⟨ki_198_18, ⟨ki_198_19, ⟨ki_198_20, ⟨ki_198_21, ⟨ki_198_22, ⟨kbad, ⟨kbad, ⟨ki_198_25, ⟨ki_198_26, ⟨ki_198_27, ⟨kbad, ⟨kbad, ⟨ki_198_30, ⟨kbad, trivial⟩⟩⟩⟩⟩⟩⟩⟩⟩⟩⟩⟩⟩⟩⟩⟩, ⟨⟨kbad, ⟨ki_198_33, ⟨ki_198_34, ⟨kbad, ⟨kbad, ⟨ki_198_37, ⟨ki_198_38, ⟨kbad, ⟨kbad, ⟨ki_198_41, ⟨kbad, ⟨kbad, ⟨ki_198_44, ⟨ki_198_45, ⟨kbad, ⟨ki_198_47, trivial⟩⟩⟩⟩⟩⟩⟩⟩⟩⟩⟩⟩⟩⟩⟩⟩, ⟨⟨ki_198_48, ⟨kbad, ⟨ki_198_50, ⟨kbad, ⟨ki_198_52, ⟨kbad, ⟨ki_198_54, ⟨kbad, ⟨kbad, ⟨ki_198_57, ⟨ki_198_58, ⟨kbad, ⟨kbad, ⟨ki_198_61, ⟨kbad, ⟨kbad, trivial⟩⟩⟩⟩⟩⟩⟩⟩⟩⟩⟩⟩⟩⟩⟩⟩, ⟨⟨ki_198_64, ⟨ki_198_65, ⟨kbad, ⟨ki_198_67, ⟨ki_198_68, ⟨kbad, ⟨ki_198_70, ⟨kbad, ⟨ki_198_72, ⟨kbad, ⟨ki_198_74, ⟨kbad, ⟨kbad, ⟨ki_198_77, ⟨kbad, ⟨ki_198_79, trivial⟩⟩⟩⟩⟩⟩⟩⟩⟩⟩⟩⟩⟩⟩⟩⟩, ⟨⟨ki_198_80, ⟨kbad, ⟨ki_198_82, ⟨kbad, ⟨kbad, ⟨ki_198_85, ⟨kbad, ⟨kbad, ⟨ki_198_88, ⟨ki_198_89, ⟨kbad, ⟨ki_198_91, ⟨kbad, ⟨kbad, ⟨ki_198_94, ⟨kbad, trivial⟩⟩⟩⟩⟩⟩⟩⟩⟩⟩⟩⟩⟩⟩⟩⟩, ⟨⟨kbad, ⟨ki_198_97, ⟨kbad, ⟨ki_198_99, ⟨kbad, ⟨ki_198_101, ⟨kbad, ⟨kbad, ⟨ki_198_104, ⟨ki_198_105, ⟨kbad, ⟨ki_198_107, ⟨kbad, ⟨ki_198_109, ⟨kbad, ⟨ki_198_111, trivial⟩⟩⟩⟩⟩⟩⟩⟩⟩⟩⟩⟩⟩⟩⟩⟩, ⟨⟨ki_198_112, ⟨ki_198_113, ⟨ki_198_114, ⟨ki_198_115, ⟨kbad, ⟨kbad, ⟨ki_198_118, ⟨kbad, ⟨kbad, ⟨ki_198_121, ⟨ki_198_122, ⟨kbad, ⟨kbad, ⟨ki_198_125, ⟨ki_198_126, ⟨ki_198_127, trivial⟩⟩⟩⟩⟩⟩⟩⟩⟩⟩⟩⟩⟩⟩⟩⟩, ⟨⟨kbad, ⟨ki_198_129, ⟨kbad, ⟨kbad, ⟨ki_198_132, ⟨kbad, ⟨kbad, ⟨ki_198_135, ⟨ki_198_136, ⟨kbad, ⟨ki_198_138, ⟨kbad, ⟨kbad, ⟨ki_198_141, ⟨kbad, ⟨kbad, trivial⟩⟩⟩⟩⟩⟩⟩⟩⟩⟩⟩⟩⟩⟩⟩⟩, ⟨⟨ki_198_144, ⟨kbad, ⟨ki_198_146, ⟨ki_198_147, ⟨kbad, ⟨kbad, ⟨ki_198_150, ⟨ki_198_151, ⟨kbad, ⟨ki_198_153, ⟨kbad, ⟨kbad, ⟨ki_198_156, ⟨kbad, ⟨kbad, ⟨ki_198_159, trivial⟩⟩⟩⟩⟩⟩⟩⟩⟩⟩⟩⟩⟩⟩⟩⟩, ⟨⟨kbad, ⟨ki_198_161, ⟨kbad, ⟨ki_198_163, ⟨kbad, ⟨kbad, ⟨ki_198_166, ⟨kbad, ⟨kbad, ⟨ki_198_169, ⟨kbad, ⟨ki_198_171, trivial⟩⟩⟩⟩⟩⟩⟩⟩⟩⟩⟩⟩, trivial⟩⟩⟩⟩⟩⟩⟩⟩⟩⟩⟩)⟩
set_option maxRecDepth 20000 in
theorem mk_199 : js_mok 199 := ⟨by decide +kernel, jk_tab (fun _ => js_St.ok st_bad) (show jk_all (js_Ok 199) 0 tb_199 from ⟨⟨ki_199_0, ⟨ki_199_1, ⟨ki_199_2, ⟨ki_199_3, ⟨kbad, ⟨kbad, ⟨ki_199_6, ⟨kbad, ⟨kbad, ⟨ki_199_9, ⟨kbad, ⟨kbad, ⟨ki_199_12, ⟨ki_199_13, ⟨kbad, ⟨kbad, trivial⟩⟩⟩⟩⟩⟩⟩⟩⟩⟩⟩⟩⟩⟩⟩⟩, ⟨⟨ki_199_16, ⟨kbad, ⟨kbad, ⟨ki_199_19, ⟨kbad, ⟨ki_199_21, ⟨ki_199_22, ⟨ki_199_23, ⟨ki_199_24, ⟨ki_199_25, ⟨ki_199_26, ⟨ki_199_27, ⟨kbad, ⟨kbad, ⟨ki_199_30, ⟨ki_199_31, trivial⟩⟩⟩⟩⟩⟩⟩⟩⟩⟩⟩⟩⟩⟩⟩⟩, ⟨⟨kbad, ⟨kbad, ⟨ki_199_34, ⟨ki_199_35, trivial⟩⟩⟩⟩, trivial⟩⟩⟩)⟩
set_option maxRecDepth 20000 in
theorem mk_200 : js_mok 200 := ⟨by decide +kernel, jk_tab (fun _ => js_St.ok st_bad) (show jk_all (js_Ok 200) 0 tb_200 from ⟨⟨ki_200_0, ⟨ki_200_1, ⟨ki_200_2, ⟨ki_200_3, ⟨kbad, ⟨kbad, ⟨ki_200_6, ⟨kbad, ⟨kbad, ⟨ki_200_9, ⟨ki_200_10, ⟨kbad, ⟨kbad, ⟨ki_200_13, ⟨ki_200_14, ⟨kbad, trivial⟩⟩⟩⟩⟩⟩⟩⟩⟩⟩⟩⟩⟩⟩⟩⟩, ⟨⟨kbad, ⟨ki_200_17, ⟨kbad, ⟨kbad, ⟨ki_200_20, ⟨kbad, ⟨ki_200_22, ⟨ki_200_23, ⟨ki_200_24, ⟨ki_200_25, ⟨ki_200_26, ⟨ki_200_27, ⟨ki_200_28, ⟨kbad, ⟨kbad, ⟨ki_200_31, trivial⟩⟩⟩⟩⟩⟩⟩⟩⟩⟩⟩⟩⟩⟩⟩⟩, ⟨⟨ki_200_32, ⟨kbad, ⟨kbad, ⟨ki_200_35, ⟨ki_200_36, ⟨kbad, ⟨kbad, ⟨ki_200_39, ⟨ki_200_40, ⟨kbad, ⟨kbad, ⟨ki_200_43, ⟨kbad, ⟨kbad, ⟨ki_200_46, ⟨ki_200_47, trivial⟩⟩⟩⟩⟩⟩⟩⟩⟩⟩⟩⟩⟩⟩⟩⟩, ⟨⟨kbad, ⟨kbad, ⟨ki_200_50, ⟨ki_200_51, ⟨ki_200_52, ⟨kbad, ⟨kbad, ⟨ki_200_55, ⟨kbad, ⟨kbad, ⟨ki_200_58, ⟨kbad, ⟨ki_200_60, ⟨ki_200_61, ⟨ki_200_62, ⟨ki_200_63, trivial⟩⟩⟩⟩⟩⟩⟩⟩⟩⟩⟩⟩⟩⟩⟩⟩, ⟨⟨ki_200_64, ⟨ki_200_65, ⟨ki_200_66, ⟨ki_200_67, ⟨ki_200_68, ⟨kbad, ⟨kbad, ⟨ki_200_71, trivial⟩⟩⟩⟩⟩⟩⟩⟩, trivial⟩⟩⟩⟩⟩)⟩
end JS
