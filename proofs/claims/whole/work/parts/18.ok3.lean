section JS
theorem d_201_0 : decode (js_b 201) 0 = .ok (.aload_n 0, 1) := by decide +kernel
theorem d_201_1 : decode (js_b 201) 1 = .ok (.iconst 0, 1) := by decide +kernel
theorem d_201_2 : decode (js_b 201) 2 = .ok (.putfield 39, 3) := by decide +kernel
theorem d_201_5 : decode (js_b 201) 5 = .ok (.lconst 0, 1) := by decide +kernel
theorem d_201_6 : decode (js_b 201) 6 = .ok (.lstore_n 1, 1) := by decide +kernel
theorem d_201_7 : decode (js_b 201) 7 = .ok (.iconst 0, 1) := by decide +kernel
theorem d_201_8 : decode (js_b 201) 8 = .ok (.istore_n 3, 1) := by decide +kernel
theorem d_201_9 : decode (js_b 201) 9 = .ok (.iload_n 3, 1) := by decide +kernel
theorem d_201_10 : decode (js_b 201) 10 = .ok (.bipush 64, 2) := by decide +kernel
theorem d_201_12 : decode (js_b 201) 12 = .ok (.if_icmp .ge 32, 3) := by decide +kernel
theorem d_201_15 : decode (js_b 201) 15 = .ok (.lload_n 1, 1) := by decide +kernel
theorem d_201_16 : decode (js_b 201) 16 = .ok (.aload_n 0, 1) := by decide +kernel
theorem d_201_17 : decode (js_b 201) 17 = .ok (.getfield 9, 3) := by decide +kernel
theorem d_201_20 : decode (js_b 201) 20 = .ok (.sipush 161, 3) := by decide +kernel
theorem d_201_23 : decode (js_b 201) 23 = .ok (.iload_n 3, 1) := by decide +kernel
theorem d_201_24 : decode (js_b 201) 24 = .ok (.iadd, 1) := by decide +kernel
theorem d_201_25 : decode (js_b 201) 25 = .ok (.iaload, 1) := by decide +kernel
theorem d_201_26 : decode (js_b 201) 26 = .ok (.ifCond .le 9, 3) := by decide +kernel
theorem d_201_29 : decode (js_b 201) 29 = .ok (.lconst 1, 1) := by decide +kernel
theorem d_201_30 : decode (js_b 201) 30 = .ok (.iload_n 3, 1) := by decide +kernel
theorem d_201_31 : decode (js_b 201) 31 = .ok (.lshl, 1) := by decide +kernel
theorem d_201_32 : decode (js_b 201) 32 = .ok (.goto 4, 3) := by decide +kernel
theorem d_201_35 : decode (js_b 201) 35 = .ok (.lconst 0, 1) := by decide +kernel
theorem d_201_36 : decode (js_b 201) 36 = .ok (.lor, 1) := by decide +kernel
theorem d_201_37 : decode (js_b 201) 37 = .ok (.lstore_n 1, 1) := by decide +kernel
theorem d_201_38 : decode (js_b 201) 38 = .ok (.iinc 3 1, 3) := by decide +kernel
theorem d_201_41 : decode (js_b 201) 41 = .ok (.goto (-32), 3) := by decide +kernel
theorem d_201_44 : decode (js_b 201) 44 = .ok (.lload_n 1, 1) := by decide +kernel
theorem d_201_45 : decode (js_b 201) 45 = .ok (.lreturn, 1) := by decide +kernel
theorem ki_201_15 : js_Ok 201 15 (o_ll 1 16) := js_St.ok (st_lloadn rfl d_201_15)
theorem ki_201_12 : js_Ok 201 12 (o_cge 44 15) := js_St.ok (st_icge (by decide) d_201_12)
theorem ki_201_10 : js_Ok 201 10 (o_ic 64 12) := js_St.ok (st_bipush rfl d_201_10)
theorem ki_201_9 : js_Ok 201 9 (o_il 3 10) := js_St.ok (st_iloadn rfl d_201_9)
theorem ki_201_8 : js_Ok 201 8 (o_is 3 9) := js_St.ok (st_istoren rfl (Nat.le_of_ble_eq_true rfl) d_201_8)
theorem ki_201_7 : js_Ok 201 7 (o_ic 0 8) := js_St.ok (st_iconst rfl d_201_7)
theorem ki_201_6 : js_Ok 201 6 (o_ls 1 7) := js_St.ok (st_lstoren rfl (Nat.le_of_ble_eq_true rfl) d_201_6)
theorem ki_201_5 : js_Ok 201 5 (o_lc 0 6) := js_St.ok (st_lconst rfl d_201_5)
theorem ki_201_2 : js_Ok 201 2 (o_pI 8 6 5) := js_St.ok (st_pIown js_c8 (by decide) rfl kw_1239 (js_c8.2.2.1 6 (by decide)) d_201_2)
theorem ki_201_1 : js_Ok 201 1 (o_ic 0 2) := js_St.ok (st_iconst rfl d_201_1)
theorem ki_201_0 : js_Ok 201 0 (o_al 0 1) := js_St.ok (st_aloadn rfl d_201_0)
theorem ki_201_31 : js_Ok 201 31 (o_Sh (fun x y => x <<< (y.toInt64 &&& 63)) 32) := js_St.ok (st_lshl d_201_31)
theorem ki_201_30 : js_Ok 201 30 (o_il 3 31) := js_St.ok (st_iloadn rfl d_201_30)
theorem ki_201_29 : js_Ok 201 29 (o_lc 1 30) := js_St.ok (st_lconst rfl d_201_29)
theorem ki_201_26 : js_Ok 201 26 (o_le 35 29) := js_St.ok (st_ifle (by decide) d_201_26)
theorem ki_201_25 : js_Ok 201 25 (o_lI 100 26) := js_St.ok (st_lI d_201_25)
theorem ki_201_24 : js_Ok 201 24 (o_b2 (fun x y => x + y) 25) := js_St.ok (st_iadd d_201_24)
theorem ki_201_23 : js_Ok 201 23 (o_il 3 24) := js_St.ok (st_iloadn rfl d_201_23)
theorem ki_201_20 : js_Ok 201 20 (o_ic 161 23) := js_St.ok (st_sipush rfl d_201_20)
theorem ki_201_17 : js_Ok 201 17 (o_gA 8 0 20) := js_St.ok (st_gA js_c8 (by decide) kw_1233 d_201_17)
theorem ki_201_16 : js_Ok 201 16 (o_al 0 17) := js_St.ok (st_aloadn rfl d_201_16)
theorem ki_201_45 : js_Ok 201 45 (o_rL) := ok_rL rfl d_201_45
theorem ki_201_44 : js_Ok 201 44 (o_ll 1 45) := js_St.ok (st_lloadn rfl d_201_44)
theorem ki_201_41 : js_Ok 201 41 (o_go 9) := js_St.ok (st_goto (by decide) d_201_41)
theorem ki_201_38 : js_Ok 201 38 (o_inc 3 1 41) := js_St.ok (st_iinc rfl (Nat.le_of_ble_eq_true rfl) d_201_38)
theorem ki_201_37 : js_Ok 201 37 (o_ls 1 38) := js_St.ok (st_lstoren rfl (Nat.le_of_ble_eq_true rfl) d_201_37)
theorem ki_201_36 : js_Ok 201 36 (o_B2 (fun x y => x ||| y) 37) := js_St.ok (st_lor d_201_36)
theorem ki_201_35 : js_Ok 201 35 (o_lc 0 36) := js_St.ok (st_lconst rfl d_201_35)
theorem ki_201_32 : js_Ok 201 32 (o_go 36) := js_St.ok (st_goto (by decide) d_201_32)
theorem d_202_0 : decode (js_b 202) 0 = .ok (.lconst 0, 1) := by decide +kernel
theorem d_202_1 : decode (js_b 202) 1 = .ok (.lstore_n 2, 1) := by decide +kernel
theorem d_202_2 : decode (js_b 202) 2 = .ok (.aload_n 0, 1) := by decide +kernel
theorem d_202_3 : decode (js_b 202) 3 = .ok (.iload_n 1, 1) := by decide +kernel
theorem d_202_4 : decode (js_b 202) 4 = .ok (.invokestatic 99, 3) := by decide +kernel
theorem d_202_7 : decode (js_b 202) 7 = .ok (.invokevirtual 126, 3) := by decide +kernel
theorem d_202_10 : decode (js_b 202) 10 = .ok (.istore 4, 2) := by decide +kernel
theorem d_202_12 : decode (js_b 202) 12 = .ok (.iconst 0, 1) := by decide +kernel
theorem d_202_13 : decode (js_b 202) 13 = .ok (.istore 5, 2) := by decide +kernel
theorem d_202_15 : decode (js_b 202) 15 = .ok (.iload 5, 2) := by decide +kernel
theorem d_202_17 : decode (js_b 202) 17 = .ok (.bipush 64, 2) := by decide +kernel
theorem d_202_19 : decode (js_b 202) 19 = .ok (.if_icmp .ge 56, 3) := by decide +kernel
theorem d_202_22 : decode (js_b 202) 22 = .ok (.iload 4, 2) := by decide +kernel
theorem d_202_24 : decode (js_b 202) 24 = .ok (.ifCond .eq 51, 3) := by decide +kernel
theorem d_202_27 : decode (js_b 202) 27 = .ok (.aload_n 0, 1) := by decide +kernel
theorem d_202_28 : decode (js_b 202) 28 = .ok (.getfield 9, 3) := by decide +kernel
theorem d_202_31 : decode (js_b 202) 31 = .ok (.sipush 161, 3) := by decide +kernel
theorem d_202_34 : decode (js_b 202) 34 = .ok (.iload 5, 2) := by decide +kernel
theorem d_202_36 : decode (js_b 202) 36 = .ok (.iadd, 1) := by decide +kernel
theorem d_202_37 : decode (js_b 202) 37 = .ok (.iaload, 1) := by decide +kernel
theorem d_202_38 : decode (js_b 202) 38 = .ok (.iconst 1, 1) := by decide +kernel
theorem d_202_39 : decode (js_b 202) 39 = .ok (.isub, 1) := by decide +kernel
theorem d_202_40 : decode (js_b 202) 40 = .ok (.istore 6, 2) := by decide +kernel
theorem d_202_42 : decode (js_b 202) 42 = .ok (.lload_n 2, 1) := by decide +kernel
theorem d_202_43 : decode (js_b 202) 43 = .ok (.iload 6, 2) := by decide +kernel
theorem d_202_45 : decode (js_b 202) 45 = .ok (.ifCond .lt 21, 3) := by decide +kernel
theorem d_202_48 : decode (js_b 202) 48 = .ok (.aload_n 0, 1) := by decide +kernel
theorem d_202_49 : decode (js_b 202) 49 = .ok (.iload 6, 2) := by decide +kernel
theorem d_202_51 : decode (js_b 202) 51 = .ok (.iconst 1, 1) := by decide +kernel
theorem d_202_52 : decode (js_b 202) 52 = .ok (.invokevirtual 51, 3) := by decide +kernel
theorem d_202_55 : decode (js_b 202) 55 = .ok (.iload_n 1, 1) := by decide +kernel
theorem d_202_56 : decode (js_b 202) 56 = .ok (.if_icmp .ne 10, 3) := by decide +kernel
theorem d_202_59 : decode (js_b 202) 59 = .ok (.lconst 1, 1) := by decide +kernel
theorem d_202_60 : decode (js_b 202) 60 = .ok (.iload 5, 2) := by decide +kernel
theorem d_202_62 : decode (js_b 202) 62 = .ok (.lshl, 1) := by decide +kernel
theorem d_202_63 : decode (js_b 202) 63 = .ok (.goto 4, 3) := by decide +kernel
theorem d_202_66 : decode (js_b 202) 66 = .ok (.lconst 0, 1) := by decide +kernel
theorem d_202_67 : decode (js_b 202) 67 = .ok (.lor, 1) := by decide +kernel
theorem d_202_68 : decode (js_b 202) 68 = .ok (.lstore_n 2, 1) := by decide +kernel
theorem d_202_69 : decode (js_b 202) 69 = .ok (.iinc 5 1, 3) := by decide +kernel
theorem d_202_72 : decode (js_b 202) 72 = .ok (.goto (-57), 3) := by decide +kernel
theorem d_202_75 : decode (js_b 202) 75 = .ok (.lload_n 2, 1) := by decide +kernel
theorem d_202_76 : decode (js_b 202) 76 = .ok (.lreturn, 1) := by decide +kernel
theorem ki_202_15 : js_Ok 202 15 (o_il 5 17) := js_St.ok (st_iload d_202_15)
theorem ki_202_13 : js_Ok 202 13 (o_is 5 15) := js_St.ok (st_istore (Nat.le_of_ble_eq_true rfl) d_202_13)
theorem ki_202_12 : js_Ok 202 12 (o_ic 0 13) := js_St.ok (st_iconst rfl d_202_12)
theorem ki_202_10 : js_Ok 202 10 (o_is 4 12) := js_St.ok (st_istore (Nat.le_of_ble_eq_true rfl) d_202_10)
theorem ki_202_7 : js_Ok 202 7 (o_cI 139 2 9 10) := ok_cI (site_V kk_202_139 (by decide) kw_1364 kw_1366 ks_33 (fun t ht => by cases ht; exact Or.inl ⟨_, rfl, rfl⟩) d_202_7) rfl
theorem ki_202_4 : js_Ok 202 4 (o_cI 150 1 0 7) := ok_cI (site_S kk_202_150 kw_1305 kw_1306 d_202_4) rfl
theorem ki_202_3 : js_Ok 202 3 (o_il 1 4) := js_St.ok (st_iloadn rfl d_202_3)
theorem ki_202_2 : js_Ok 202 2 (o_al 0 3) := js_St.ok (st_aloadn rfl d_202_2)
theorem ki_202_1 : js_Ok 202 1 (o_ls 2 2) := js_St.ok (st_lstoren rfl (Nat.le_of_ble_eq_true rfl) d_202_1)
theorem ki_202_0 : js_Ok 202 0 (o_lc 0 1) := js_St.ok (st_lconst rfl d_202_0)
theorem ki_202_31 : js_Ok 202 31 (o_ic 161 34) := js_St.ok (st_sipush rfl d_202_31)
theorem ki_202_28 : js_Ok 202 28 (o_gA 8 0 31) := js_St.ok (st_gA js_c8 (by decide) kw_1233 d_202_28)
theorem ki_202_27 : js_Ok 202 27 (o_al 0 28) := js_St.ok (st_aloadn rfl d_202_27)
theorem ki_202_24 : js_Ok 202 24 (o_eq 75 27) := js_St.ok (st_ifeq (by decide) d_202_24)
theorem ki_202_22 : js_Ok 202 22 (o_il 4 24) := js_St.ok (st_iload d_202_22)
theorem ki_202_19 : js_Ok 202 19 (o_cge 75 22) := js_St.ok (st_icge (by decide) d_202_19)
theorem ki_202_17 : js_Ok 202 17 (o_ic 64 19) := js_St.ok (st_bipush rfl d_202_17)
theorem ki_202_45 : js_Ok 202 45 (o_lt 66 48) := js_St.ok (st_iflt (by decide) d_202_45)
theorem ki_202_43 : js_Ok 202 43 (o_il 6 45) := js_St.ok (st_iload d_202_43)
theorem ki_202_42 : js_Ok 202 42 (o_ll 2 43) := js_St.ok (st_lloadn rfl d_202_42)
theorem ki_202_40 : js_Ok 202 40 (o_is 6 42) := js_St.ok (st_istore (Nat.le_of_ble_eq_true rfl) d_202_40)
theorem ki_202_39 : js_Ok 202 39 (o_b2 (fun x y => x - y) 40) := js_St.ok (st_isub d_202_39)
theorem ki_202_38 : js_Ok 202 38 (o_ic 1 39) := js_St.ok (st_iconst rfl d_202_38)
theorem ki_202_37 : js_Ok 202 37 (o_lI 100 38) := js_St.ok (st_lI d_202_37)
theorem ki_202_36 : js_Ok 202 36 (o_b2 (fun x y => x + y) 37) := js_St.ok (st_iadd d_202_36)
theorem ki_202_34 : js_Ok 202 34 (o_il 5 36) := js_St.ok (st_iload d_202_34)
theorem ki_202_63 : js_Ok 202 63 (o_go 67) := js_St.ok (st_goto (by decide) d_202_63)
theorem ki_202_62 : js_Ok 202 62 (o_Sh (fun x y => x <<< (y.toInt64 &&& 63)) 63) := js_St.ok (st_lshl d_202_62)
theorem ki_202_60 : js_Ok 202 60 (o_il 5 62) := js_St.ok (st_iload d_202_60)
theorem ki_202_59 : js_Ok 202 59 (o_lc 1 60) := js_St.ok (st_lconst rfl d_202_59)
theorem ki_202_56 : js_Ok 202 56 (o_cne 66 59) := js_St.ok (st_icne (by decide) d_202_56)
theorem ki_202_55 : js_Ok 202 55 (o_il 1 56) := js_St.ok (st_iloadn rfl d_202_55)
theorem ki_202_52 : js_Ok 202 52 (o_cI 140 3 9 55) := ok_cI (site_V kk_202_140 (by decide) kw_1324 kw_1326 ks_27 (fun t ht => by cases ht; exact Or.inl ⟨_, rfl, rfl⟩) d_202_52) rfl
theorem ki_202_51 : js_Ok 202 51 (o_ic 1 52) := js_St.ok (st_iconst rfl d_202_51)
theorem ki_202_49 : js_Ok 202 49 (o_il 6 51) := js_St.ok (st_iload d_202_49)
theorem ki_202_48 : js_Ok 202 48 (o_al 0 49) := js_St.ok (st_aloadn rfl d_202_48)
theorem ki_202_76 : js_Ok 202 76 (o_rL) := ok_rL rfl d_202_76
theorem ki_202_75 : js_Ok 202 75 (o_ll 2 76) := js_St.ok (st_lloadn rfl d_202_75)
theorem ki_202_72 : js_Ok 202 72 (o_go 15) := js_St.ok (st_goto (by decide) d_202_72)
theorem ki_202_69 : js_Ok 202 69 (o_inc 5 1 72) := js_St.ok (st_iinc rfl (Nat.le_of_ble_eq_true rfl) d_202_69)
theorem ki_202_68 : js_Ok 202 68 (o_ls 2 69) := js_St.ok (st_lstoren rfl (Nat.le_of_ble_eq_true rfl) d_202_68)
theorem ki_202_67 : js_Ok 202 67 (o_B2 (fun x y => x ||| y) 68) := js_St.ok (st_lor d_202_67)
theorem ki_202_66 : js_Ok 202 66 (o_lc 0 67) := js_St.ok (st_lconst rfl d_202_66)
theorem d_203_0 : decode (js_b 203) 0 = .ok (.aload_n 0, 1) := by decide +kernel
theorem d_203_1 : decode (js_b 203) 1 = .ok (.iconst 0, 1) := by decide +kernel
theorem d_203_2 : decode (js_b 203) 2 = .ok (.putfield 39, 3) := by decide +kernel
theorem d_203_5 : decode (js_b 203) 5 = .ok (.lconst 0, 1) := by decide +kernel
theorem d_203_6 : decode (js_b 203) 6 = .ok (.lstore_n 1, 1) := by decide +kernel
theorem d_203_7 : decode (js_b 203) 7 = .ok (.iconst 0, 1) := by decide +kernel
theorem d_203_8 : decode (js_b 203) 8 = .ok (.istore_n 3, 1) := by decide +kernel
theorem d_203_9 : decode (js_b 203) 9 = .ok (.iload_n 3, 1) := by decide +kernel
theorem d_203_10 : decode (js_b 203) 10 = .ok (.bipush 64, 2) := by decide +kernel
theorem d_203_12 : decode (js_b 203) 12 = .ok (.if_icmp .ge 27, 3) := by decide +kernel
theorem d_203_15 : decode (js_b 203) 15 = .ok (.lload_n 1, 1) := by decide +kernel
theorem d_203_16 : decode (js_b 203) 16 = .ok (.aload_n 0, 1) := by decide +kernel
theorem d_203_17 : decode (js_b 203) 17 = .ok (.iload_n 3, 1) := by decide +kernel
theorem d_203_18 : decode (js_b 203) 18 = .ok (.invokevirtual 167, 3) := by decide +kernel
theorem d_203_21 : decode (js_b 203) 21 = .ok (.ifCond .eq 9, 3) := by decide +kernel
theorem d_203_24 : decode (js_b 203) 24 = .ok (.lconst 1, 1) := by decide +kernel
theorem d_203_25 : decode (js_b 203) 25 = .ok (.iload_n 3, 1) := by decide +kernel
theorem d_203_26 : decode (js_b 203) 26 = .ok (.lshl, 1) := by decide +kernel
theorem d_203_27 : decode (js_b 203) 27 = .ok (.goto 4, 3) := by decide +kernel
theorem d_203_30 : decode (js_b 203) 30 = .ok (.lconst 0, 1) := by decide +kernel
theorem d_203_31 : decode (js_b 203) 31 = .ok (.lor, 1) := by decide +kernel
theorem d_203_32 : decode (js_b 203) 32 = .ok (.lstore_n 1, 1) := by decide +kernel
theorem d_203_33 : decode (js_b 203) 33 = .ok (.iinc 3 1, 3) := by decide +kernel
theorem d_203_36 : decode (js_b 203) 36 = .ok (.goto (-27), 3) := by decide +kernel
theorem d_203_39 : decode (js_b 203) 39 = .ok (.lload_n 1, 1) := by decide +kernel
theorem d_203_40 : decode (js_b 203) 40 = .ok (.lreturn, 1) := by decide +kernel
theorem ki_203_15 : js_Ok 203 15 (o_ll 1 16) := js_St.ok (st_lloadn rfl d_203_15)
theorem ki_203_12 : js_Ok 203 12 (o_cge 39 15) := js_St.ok (st_icge (by decide) d_203_12)
theorem ki_203_10 : js_Ok 203 10 (o_ic 64 12) := js_St.ok (st_bipush rfl d_203_10)
theorem ki_203_9 : js_Ok 203 9 (o_il 3 10) := js_St.ok (st_iloadn rfl d_203_9)
theorem ki_203_8 : js_Ok 203 8 (o_is 3 9) := js_St.ok (st_istoren rfl (Nat.le_of_ble_eq_true rfl) d_203_8)
theorem ki_203_7 : js_Ok 203 7 (o_ic 0 8) := js_St.ok (st_iconst rfl d_203_7)
theorem ki_203_6 : js_Ok 203 6 (o_ls 1 7) := js_St.ok (st_lstoren rfl (Nat.le_of_ble_eq_true rfl) d_203_6)
theorem ki_203_5 : js_Ok 203 5 (o_lc 0 6) := js_St.ok (st_lconst rfl d_203_5)
theorem ki_203_2 : js_Ok 203 2 (o_pI 8 6 5) := js_St.ok (st_pIown js_c8 (by decide) rfl kw_1239 (js_c8.2.2.1 6 (by decide)) d_203_2)
theorem ki_203_1 : js_Ok 203 1 (o_ic 0 2) := js_St.ok (st_iconst rfl d_203_1)
theorem ki_203_0 : js_Ok 203 0 (o_al 0 1) := js_St.ok (st_aloadn rfl d_203_0)
theorem ki_203_31 : js_Ok 203 31 (o_B2 (fun x y => x ||| y) 32) := js_St.ok (st_lor d_203_31)
theorem ki_203_30 : js_Ok 203 30 (o_lc 0 31) := js_St.ok (st_lconst rfl d_203_30)
theorem ki_203_27 : js_Ok 203 27 (o_go 31) := js_St.ok (st_goto (by decide) d_203_27)
theorem ki_203_26 : js_Ok 203 26 (o_Sh (fun x y => x <<< (y.toInt64 &&& 63)) 27) := js_St.ok (st_lshl d_203_26)
theorem ki_203_25 : js_Ok 203 25 (o_il 3 26) := js_St.ok (st_iloadn rfl d_203_25)
theorem ki_203_24 : js_Ok 203 24 (o_lc 1 25) := js_St.ok (st_lconst rfl d_203_24)
theorem ki_203_21 : js_Ok 203 21 (o_eq 30 24) := js_St.ok (st_ifeq (by decide) d_203_21)
theorem ki_203_18 : js_Ok 203 18 (o_cI 159 2 9 21) := ok_cI (site_V kk_203_159 (by decide) kw_1482 kw_1484 ks_49 (fun t ht => by cases ht; exact Or.inl ⟨_, rfl, rfl⟩) d_203_18) rfl
theorem ki_203_17 : js_Ok 203 17 (o_il 3 18) := js_St.ok (st_iloadn rfl d_203_17)
theorem ki_203_16 : js_Ok 203 16 (o_al 0 17) := js_St.ok (st_aloadn rfl d_203_16)
theorem ki_203_40 : js_Ok 203 40 (o_rL) := ok_rL rfl d_203_40
theorem ki_203_39 : js_Ok 203 39 (o_ll 1 40) := js_St.ok (st_lloadn rfl d_203_39)
theorem ki_203_36 : js_Ok 203 36 (o_go 9) := js_St.ok (st_goto (by decide) d_203_36)
theorem ki_203_33 : js_Ok 203 33 (o_inc 3 1 36) := js_St.ok (st_iinc rfl (Nat.le_of_ble_eq_true rfl) d_203_33)
theorem ki_203_32 : js_Ok 203 32 (o_ls 1 33) := js_St.ok (st_lstoren rfl (Nat.le_of_ble_eq_true rfl) d_203_32)
theorem d_204_0 : decode (js_b 204) 0 = .ok (.aload_n 0, 1) := by decide +kernel
theorem d_204_1 : decode (js_b 204) 1 = .ok (.invokevirtual 194, 3) := by decide +kernel
theorem d_204_4 : decode (js_b 204) 4 = .ok (.lreturn, 1) := by decide +kernel
theorem ki_204_4 : js_Ok 204 4 (o_rL) := ok_rL rfl d_204_4
theorem ki_204_1 : js_Ok 204 1 (o_cL 203 1 9 4) := ok_cL (site_V kk_204_203 (by decide) kw_1567 kw_1560 kw_1561 (fun t ht => by cases ht; exact Or.inl ⟨_, rfl, rfl⟩) d_204_1) rfl
theorem ki_204_0 : js_Ok 204 0 (o_al 0 1) := js_St.ok (st_aloadn rfl d_204_0)
theorem d_205_0 : decode (js_b 205) 0 = .ok (.aload_n 0, 1) := by decide +kernel
theorem d_205_1 : decode (js_b 205) 1 = .ok (.iconst 0, 1) := by decide +kernel
theorem d_205_2 : decode (js_b 205) 2 = .ok (.putfield 39, 3) := by decide +kernel
theorem d_205_5 : decode (js_b 205) 5 = .ok (.iconst 0, 1) := by decide +kernel
theorem d_205_6 : decode (js_b 205) 6 = .ok (.istore_n 1, 1) := by decide +kernel
theorem d_205_7 : decode (js_b 205) 7 = .ok (.iconst 0, 1) := by decide +kernel
theorem d_205_8 : decode (js_b 205) 8 = .ok (.istore_n 2, 1) := by decide +kernel
theorem d_205_9 : decode (js_b 205) 9 = .ok (.iload_n 2, 1) := by decide +kernel
theorem d_205_10 : decode (js_b 205) 10 = .ok (.bipush 64, 2) := by decide +kernel
theorem d_205_12 : decode (js_b 205) 12 = .ok (.if_icmp .ge 25, 3) := by decide +kernel
theorem d_205_15 : decode (js_b 205) 15 = .ok (.iload_n 1, 1) := by decide +kernel
theorem d_205_16 : decode (js_b 205) 16 = .ok (.aload_n 0, 1) := by decide +kernel
theorem d_205_17 : decode (js_b 205) 17 = .ok (.iload_n 2, 1) := by decide +kernel
theorem d_205_18 : decode (js_b 205) 18 = .ok (.invokevirtual 167, 3) := by decide +kernel
theorem d_205_21 : decode (js_b 205) 21 = .ok (.ifCond .eq 7, 3) := by decide +kernel
theorem d_205_24 : decode (js_b 205) 24 = .ok (.iconst 1, 1) := by decide +kernel
theorem d_205_25 : decode (js_b 205) 25 = .ok (.goto 4, 3) := by decide +kernel
theorem d_205_28 : decode (js_b 205) 28 = .ok (.iconst 0, 1) := by decide +kernel
theorem d_205_29 : decode (js_b 205) 29 = .ok (.iadd, 1) := by decide +kernel
theorem d_205_30 : decode (js_b 205) 30 = .ok (.istore_n 1, 1) := by decide +kernel
theorem d_205_31 : decode (js_b 205) 31 = .ok (.iinc 2 1, 3) := by decide +kernel
theorem d_205_34 : decode (js_b 205) 34 = .ok (.goto (-25), 3) := by decide +kernel
theorem d_205_37 : decode (js_b 205) 37 = .ok (.iload_n 1, 1) := by decide +kernel
theorem d_205_38 : decode (js_b 205) 38 = .ok (.ireturn, 1) := by decide +kernel
theorem ki_205_15 : js_Ok 205 15 (o_il 1 16) := js_St.ok (st_iloadn rfl d_205_15)
theorem ki_205_12 : js_Ok 205 12 (o_cge 37 15) := js_St.ok (st_icge (by decide) d_205_12)
theorem ki_205_10 : js_Ok 205 10 (o_ic 64 12) := js_St.ok (st_bipush rfl d_205_10)
theorem ki_205_9 : js_Ok 205 9 (o_il 2 10) := js_St.ok (st_iloadn rfl d_205_9)
theorem ki_205_8 : js_Ok 205 8 (o_is 2 9) := js_St.ok (st_istoren rfl (Nat.le_of_ble_eq_true rfl) d_205_8)
theorem ki_205_7 : js_Ok 205 7 (o_ic 0 8) := js_St.ok (st_iconst rfl d_205_7)
theorem ki_205_6 : js_Ok 205 6 (o_is 1 7) := js_St.ok (st_istoren rfl (Nat.le_of_ble_eq_true rfl) d_205_6)
theorem ki_205_5 : js_Ok 205 5 (o_ic 0 6) := js_St.ok (st_iconst rfl d_205_5)
theorem ki_205_2 : js_Ok 205 2 (o_pI 8 6 5) := js_St.ok (st_pIown js_c8 (by decide) rfl kw_1239 (js_c8.2.2.1 6 (by decide)) d_205_2)
theorem ki_205_1 : js_Ok 205 1 (o_ic 0 2) := js_St.ok (st_iconst rfl d_205_1)
theorem ki_205_0 : js_Ok 205 0 (o_al 0 1) := js_St.ok (st_aloadn rfl d_205_0)
theorem ki_205_31 : js_Ok 205 31 (o_inc 2 1 34) := js_St.ok (st_iinc rfl (Nat.le_of_ble_eq_true rfl) d_205_31)
theorem ki_205_30 : js_Ok 205 30 (o_is 1 31) := js_St.ok (st_istoren rfl (Nat.le_of_ble_eq_true rfl) d_205_30)
theorem ki_205_29 : js_Ok 205 29 (o_b2 (fun x y => x + y) 30) := js_St.ok (st_iadd d_205_29)
theorem ki_205_28 : js_Ok 205 28 (o_ic 0 29) := js_St.ok (st_iconst rfl d_205_28)
theorem ki_205_25 : js_Ok 205 25 (o_go 29) := js_St.ok (st_goto (by decide) d_205_25)
theorem ki_205_24 : js_Ok 205 24 (o_ic 1 25) := js_St.ok (st_iconst rfl d_205_24)
theorem ki_205_21 : js_Ok 205 21 (o_eq 28 24) := js_St.ok (st_ifeq (by decide) d_205_21)
theorem ki_205_18 : js_Ok 205 18 (o_cI 159 2 9 21) := ok_cI (site_V kk_205_159 (by decide) kw_1482 kw_1484 ks_49 (fun t ht => by cases ht; exact Or.inl ⟨_, rfl, rfl⟩) d_205_18) rfl
theorem ki_205_17 : js_Ok 205 17 (o_il 2 18) := js_St.ok (st_iloadn rfl d_205_17)
theorem ki_205_16 : js_Ok 205 16 (o_al 0 17) := js_St.ok (st_aloadn rfl d_205_16)
theorem ki_205_38 : js_Ok 205 38 (o_rI) := ok_rI rfl d_205_38
theorem ki_205_37 : js_Ok 205 37 (o_il 1 38) := js_St.ok (st_iloadn rfl d_205_37)
theorem ki_205_34 : js_Ok 205 34 (o_go 9) := js_St.ok (st_goto (by decide) d_205_34)
theorem d_206_0 : decode (js_b 206) 0 = .ok (.aload_n 0, 1) := by decide +kernel
theorem d_206_1 : decode (js_b 206) 1 = .ok (.iconst 0, 1) := by decide +kernel
theorem d_206_2 : decode (js_b 206) 2 = .ok (.putfield 39, 3) := by decide +kernel
theorem d_206_5 : decode (js_b 206) 5 = .ok (.aload_n 0, 1) := by decide +kernel
theorem d_206_6 : decode (js_b 206) 6 = .ok (.iconst 1, 1) := by decide +kernel
theorem d_206_7 : decode (js_b 206) 7 = .ok (.invokevirtual 149, 3) := by decide +kernel
theorem d_206_10 : decode (js_b 206) 10 = .ok (.ireturn, 1) := by decide +kernel
theorem ki_206_10 : js_Ok 206 10 (o_rI) := ok_rI rfl d_206_10
theorem ki_206_7 : js_Ok 206 7 (o_cI 157 2 9 10) := ok_cI (site_V kk_206_157 (by decide) kw_1466 kw_1468 ks_46 (fun t ht => by cases ht; exact Or.inl ⟨_, rfl, rfl⟩) d_206_7) rfl
theorem ki_206_6 : js_Ok 206 6 (o_ic 1 7) := js_St.ok (st_iconst rfl d_206_6)
theorem ki_206_5 : js_Ok 206 5 (o_al 0 6) := js_St.ok (st_aloadn rfl d_206_5)
theorem ki_206_2 : js_Ok 206 2 (o_pI 8 6 5) := js_St.ok (st_pIown js_c8 (by decide) rfl kw_1239 (js_c8.2.2.1 6 (by decide)) d_206_2)
theorem ki_206_1 : js_Ok 206 1 (o_ic 0 2) := js_St.ok (st_iconst rfl d_206_1)
theorem ki_206_0 : js_Ok 206 0 (o_al 0 1) := js_St.ok (st_aloadn rfl d_206_0)
theorem d_207_0 : decode (js_b 207) 0 = .ok (.aload_n 0, 1) := by decide +kernel
theorem d_207_1 : decode (js_b 207) 1 = .ok (.iconst 0, 1) := by decide +kernel
theorem d_207_2 : decode (js_b 207) 2 = .ok (.putfield 39, 3) := by decide +kernel
theorem d_207_5 : decode (js_b 207) 5 = .ok (.aload_n 0, 1) := by decide +kernel
theorem d_207_6 : decode (js_b 207) 6 = .ok (.iconst (-1), 1) := by decide +kernel
theorem d_207_7 : decode (js_b 207) 7 = .ok (.invokevirtual 149, 3) := by decide +kernel
theorem d_207_10 : decode (js_b 207) 10 = .ok (.ireturn, 1) := by decide +kernel
theorem ki_207_10 : js_Ok 207 10 (o_rI) := ok_rI rfl d_207_10
theorem ki_207_7 : js_Ok 207 7 (o_cI 157 2 9 10) := ok_cI (site_V kk_207_157 (by decide) kw_1466 kw_1468 ks_46 (fun t ht => by cases ht; exact Or.inl ⟨_, rfl, rfl⟩) d_207_7) rfl
theorem ki_207_6 : js_Ok 207 6 (o_ic (-1) 7) := js_St.ok (st_iconst rfl d_207_6)
theorem ki_207_5 : js_Ok 207 5 (o_al 0 6) := js_St.ok (st_aloadn rfl d_207_5)
theorem ki_207_2 : js_Ok 207 2 (o_pI 8 6 5) := js_St.ok (st_pIown js_c8 (by decide) rfl kw_1239 (js_c8.2.2.1 6 (by decide)) d_207_2)
theorem ki_207_1 : js_Ok 207 1 (o_ic 0 2) := js_St.ok (st_iconst rfl d_207_1)
theorem ki_207_0 : js_Ok 207 0 (o_al 0 1) := js_St.ok (st_aloadn rfl d_207_0)
theorem d_208_0 : decode (js_b 208) 0 = .ok (.aload_n 0, 1) := by decide +kernel
theorem d_208_1 : decode (js_b 208) 1 = .ok (.iload_n 1, 1) := by decide +kernel
theorem d_208_2 : decode (js_b 208) 2 = .ok (.invokevirtual 133, 3) := by decide +kernel
theorem d_208_5 : decode (js_b 208) 5 = .ok (.istore_n 3, 1) := by decide +kernel
theorem d_208_6 : decode (js_b 208) 6 = .ok (.aload_n 0, 1) := by decide +kernel
theorem d_208_7 : decode (js_b 208) 7 = .ok (.iload_n 3, 1) := by decide +kernel
theorem d_208_8 : decode (js_b 208) 8 = .ok (.ifCond .ge 7, 3) := by decide +kernel
theorem d_208_11 : decode (js_b 208) 11 = .ok (.iconst 1, 1) := by decide +kernel
theorem d_208_12 : decode (js_b 208) 12 = .ok (.goto 17, 3) := by decide +kernel
theorem d_208_15 : decode (js_b 208) 15 = .ok (.iload_n 2, 1) := by decide +kernel
theorem d_208_16 : decode (js_b 208) 16 = .ok (.iconst 0, 1) := by decide +kernel
theorem d_208_17 : decode (js_b 208) 17 = .ok (.iconst 3, 1) := by decide +kernel
theorem d_208_18 : decode (js_b 208) 18 = .ok (.invokestatic 69, 3) := by decide +kernel
theorem d_208_21 : decode (js_b 208) 21 = .ok (.ifCond .ne 7, 3) := by decide +kernel
theorem d_208_24 : decode (js_b 208) 24 = .ok (.iconst 2, 1) := by decide +kernel
theorem d_208_25 : decode (js_b 208) 25 = .ok (.goto 4, 3) := by decide +kernel
theorem d_208_28 : decode (js_b 208) 28 = .ok (.iconst 0, 1) := by decide +kernel
theorem d_208_29 : decode (js_b 208) 29 = .ok (.putfield 39, 3) := by decide +kernel
theorem d_208_32 : decode (js_b 208) 32 = .ok (.aload_n 0, 1) := by decide +kernel
theorem d_208_33 : decode (js_b 208) 33 = .ok (.getfield 39, 3) := by decide +kernel
theorem d_208_36 : decode (js_b 208) 36 = .ok (.ifCond .ne 25, 3) := by decide +kernel
theorem d_208_39 : decode (js_b 208) 39 = .ok (.aload_n 0, 1) := by decide +kernel
theorem d_208_40 : decode (js_b 208) 40 = .ok (.aload_n 0, 1) := by decide +kernel
theorem d_208_41 : decode (js_b 208) 41 = .ok (.iload_n 3, 1) := by decide +kernel
theorem d_208_42 : decode (js_b 208) 42 = .ok (.bipush 7, 2) := by decide +kernel
theorem d_208_44 : decode (js_b 208) 44 = .ok (.invokevirtual 51, 3) := by decide +kernel
theorem d_208_47 : decode (js_b 208) 47 = .ok (.iconst 1, 1) := by decide +kernel
theorem d_208_48 : decode (js_b 208) 48 = .ok (.isub, 1) := by decide +kernel
theorem d_208_49 : decode (js_b 208) 49 = .ok (.iload_n 2, 1) := by decide +kernel
theorem d_208_50 : decode (js_b 208) 50 = .ok (.invokevirtual 90, 3) := by decide +kernel
theorem d_208_53 : decode (js_b 208) 53 = .ok (.iconst 1, 1) := by decide +kernel
theorem d_208_54 : decode (js_b 208) 54 = .ok (.if_icmp .ne 7, 3) := by decide +kernel
theorem d_208_57 : decode (js_b 208) 57 = .ok (.iconst 1, 1) := by decide +kernel
theorem d_208_58 : decode (js_b 208) 58 = .ok (.goto 4, 3) := by decide +kernel
theorem d_208_61 : decode (js_b 208) 61 = .ok (.iconst 0, 1) := by decide +kernel
theorem d_208_62 : decode (js_b 208) 62 = .ok (.ireturn, 1) := by decide +kernel
theorem ki_208_15 : js_Ok 208 15 (o_il 2 16) := js_St.ok (st_iloadn rfl d_208_15)
theorem ki_208_12 : js_Ok 208 12 (o_go 29) := js_St.ok (st_goto (by decide) d_208_12)
theorem ki_208_11 : js_Ok 208 11 (o_ic 1 12) := js_St.ok (st_iconst rfl d_208_11)
theorem ki_208_8 : js_Ok 208 8 (o_ge 15 11) := js_St.ok (st_ifge (by decide) d_208_8)
theorem ki_208_7 : js_Ok 208 7 (o_il 3 8) := js_St.ok (st_iloadn rfl d_208_7)
theorem ki_208_6 : js_Ok 208 6 (o_al 0 7) := js_St.ok (st_aloadn rfl d_208_6)
theorem ki_208_5 : js_Ok 208 5 (o_is 3 6) := js_St.ok (st_istoren rfl (Nat.le_of_ble_eq_true rfl) d_208_5)
theorem ki_208_2 : js_Ok 208 2 (o_cI 146 2 9 5) := ok_cI (site_V kk_208_146 (by decide) kw_1400 kw_1402 ks_36 (fun t ht => by cases ht; exact Or.inl ⟨_, rfl, rfl⟩) d_208_2) rfl
theorem ki_208_1 : js_Ok 208 1 (o_il 1 2) := js_St.ok (st_iloadn rfl d_208_1)
theorem ki_208_0 : js_Ok 208 0 (o_al 0 1) := js_St.ok (st_aloadn rfl d_208_0)
theorem ki_208_29 : js_Ok 208 29 (o_pI 8 6 32) := js_St.ok (st_pIown js_c8 (by decide) rfl kw_1239 (js_c8.2.2.1 6 (by decide)) d_208_29)
theorem ki_208_28 : js_Ok 208 28 (o_ic 0 29) := js_St.ok (st_iconst rfl d_208_28)
theorem ki_208_25 : js_Ok 208 25 (o_go 29) := js_St.ok (st_goto (by decide) d_208_25)
theorem ki_208_24 : js_Ok 208 24 (o_ic 2 25) := js_St.ok (st_iconst rfl d_208_24)
theorem ki_208_21 : js_Ok 208 21 (o_ne 28 24) := js_St.ok (st_ifne (by decide) d_208_21)
theorem ki_208_18 : js_Ok 208 18 (o_cI 135 3 0 21) := ok_cI (site_S kk_208_135 kw_1302 kw_1303 d_208_18) rfl
theorem ki_208_17 : js_Ok 208 17 (o_ic 3 18) := js_St.ok (st_iconst rfl d_208_17)
theorem ki_208_16 : js_Ok 208 16 (o_ic 0 17) := js_St.ok (st_iconst rfl d_208_16)
theorem ki_208_47 : js_Ok 208 47 (o_ic 1 48) := js_St.ok (st_iconst rfl d_208_47)
theorem ki_208_44 : js_Ok 208 44 (o_cI 140 3 9 47) := ok_cI (site_V kk_208_140 (by decide) kw_1324 kw_1326 ks_27 (fun t ht => by cases ht; exact Or.inl ⟨_, rfl, rfl⟩) d_208_44) rfl
theorem ki_208_42 : js_Ok 208 42 (o_ic 7 44) := js_St.ok (st_bipush rfl d_208_42)
theorem ki_208_41 : js_Ok 208 41 (o_il 3 42) := js_St.ok (st_iloadn rfl d_208_41)
theorem ki_208_40 : js_Ok 208 40 (o_al 0 41) := js_St.ok (st_aloadn rfl d_208_40)
theorem ki_208_39 : js_Ok 208 39 (o_al 0 40) := js_St.ok (st_aloadn rfl d_208_39)
theorem ki_208_36 : js_Ok 208 36 (o_ne 61 39) := js_St.ok (st_ifne (by decide) d_208_36)
theorem ki_208_33 : js_Ok 208 33 (o_gI 8 6 36) := js_St.ok (st_gI js_c8 (by decide) kw_1239 d_208_33)
theorem ki_208_32 : js_Ok 208 32 (o_al 0 33) := js_St.ok (st_aloadn rfl d_208_32)
theorem ki_208_62 : js_Ok 208 62 (o_rZ) := ok_rZ rfl d_208_62
theorem ki_208_61 : js_Ok 208 61 (o_ic 0 62) := js_St.ok (st_iconst rfl d_208_61)
theorem ki_208_58 : js_Ok 208 58 (o_go 62) := js_St.ok (st_goto (by decide) d_208_58)
theorem ki_208_57 : js_Ok 208 57 (o_ic 1 58) := js_St.ok (st_iconst rfl d_208_57)
theorem ki_208_54 : js_Ok 208 54 (o_cne 61 57) := js_St.ok (st_icne (by decide) d_208_54)
theorem ki_208_53 : js_Ok 208 53 (o_ic 1 54) := js_St.ok (st_iconst rfl d_208_53)
theorem ki_208_50 : js_Ok 208 50 (o_cI 155 3 9 53) := ok_cI (site_V kk_208_155 (by decide) kw_1427 kw_1429 ks_40 (fun t ht => by cases ht; exact Or.inl ⟨_, rfl, rfl⟩) d_208_50) rfl
theorem ki_208_49 : js_Ok 208 49 (o_il 2 50) := js_St.ok (st_iloadn rfl d_208_49)
theorem ki_208_48 : js_Ok 208 48 (o_b2 (fun x y => x - y) 49) := js_St.ok (st_isub d_208_48)
theorem d_209_0 : decode (js_b 209) 0 = .ok (.aload_n 0, 1) := by decide +kernel
theorem d_209_1 : decode (js_b 209) 1 = .ok (.iload_n 1, 1) := by decide +kernel
theorem d_209_2 : decode (js_b 209) 2 = .ok (.invokevirtual 133, 3) := by decide +kernel
theorem d_209_5 : decode (js_b 209) 5 = .ok (.istore_n 2, 1) := by decide +kernel
theorem d_209_6 : decode (js_b 209) 6 = .ok (.aload_n 0, 1) := by decide +kernel
theorem d_209_7 : decode (js_b 209) 7 = .ok (.iload_n 2, 1) := by decide +kernel
theorem d_209_8 : decode (js_b 209) 8 = .ok (.ifCond .lt 7, 3) := by decide +kernel
theorem d_209_11 : decode (js_b 209) 11 = .ok (.iconst 1, 1) := by decide +kernel
theorem d_209_12 : decode (js_b 209) 12 = .ok (.goto 4, 3) := by decide +kernel
theorem d_209_15 : decode (js_b 209) 15 = .ok (.iconst 0, 1) := by decide +kernel
theorem d_209_16 : decode (js_b 209) 16 = .ok (.invokevirtual 126, 3) := by decide +kernel
theorem d_209_19 : decode (js_b 209) 19 = .ok (.ifCond .eq 20, 3) := by decide +kernel
theorem d_209_22 : decode (js_b 209) 22 = .ok (.aload_n 0, 1) := by decide +kernel
theorem d_209_23 : decode (js_b 209) 23 = .ok (.aload_n 0, 1) := by decide +kernel
theorem d_209_24 : decode (js_b 209) 24 = .ok (.iload_n 2, 1) := by decide +kernel
theorem d_209_25 : decode (js_b 209) 25 = .ok (.bipush 7, 2) := by decide +kernel
theorem d_209_27 : decode (js_b 209) 27 = .ok (.invokevirtual 51, 3) := by decide +kernel
theorem d_209_30 : decode (js_b 209) 30 = .ok (.iconst 1, 1) := by decide +kernel
theorem d_209_31 : decode (js_b 209) 31 = .ok (.isub, 1) := by decide +kernel
theorem d_209_32 : decode (js_b 209) 32 = .ok (.iconst (-1), 1) := by decide +kernel
theorem d_209_33 : decode (js_b 209) 33 = .ok (.invokevirtual 93, 3) := by decide +kernel
theorem d_209_36 : decode (js_b 209) 36 = .ok (.goto 4, 3) := by decide +kernel
theorem d_209_39 : decode (js_b 209) 39 = .ok (.iconst 0, 1) := by decide +kernel
theorem d_209_40 : decode (js_b 209) 40 = .ok (.ireturn, 1) := by decide +kernel
theorem ki_209_15 : js_Ok 209 15 (o_ic 0 16) := js_St.ok (st_iconst rfl d_209_15)
theorem ki_209_12 : js_Ok 209 12 (o_go 16) := js_St.ok (st_goto (by decide) d_209_12)
theorem ki_209_11 : js_Ok 209 11 (o_ic 1 12) := js_St.ok (st_iconst rfl d_209_11)
theorem ki_209_8 : js_Ok 209 8 (o_lt 15 11) := js_St.ok (st_iflt (by decide) d_209_8)
theorem ki_209_7 : js_Ok 209 7 (o_il 2 8) := js_St.ok (st_iloadn rfl d_209_7)
theorem ki_209_6 : js_Ok 209 6 (o_al 0 7) := js_St.ok (st_aloadn rfl d_209_6)
theorem ki_209_5 : js_Ok 209 5 (o_is 2 6) := js_St.ok (st_istoren rfl (Nat.le_of_ble_eq_true rfl) d_209_5)
theorem ki_209_2 : js_Ok 209 2 (o_cI 146 2 9 5) := ok_cI (site_V kk_209_146 (by decide) kw_1400 kw_1402 ks_36 (fun t ht => by cases ht; exact Or.inl ⟨_, rfl, rfl⟩) d_209_2) rfl
theorem ki_209_1 : js_Ok 209 1 (o_il 1 2) := js_St.ok (st_iloadn rfl d_209_1)
theorem ki_209_0 : js_Ok 209 0 (o_al 0 1) := js_St.ok (st_aloadn rfl d_209_0)
theorem ki_209_31 : js_Ok 209 31 (o_b2 (fun x y => x - y) 32) := js_St.ok (st_isub d_209_31)
theorem ki_209_30 : js_Ok 209 30 (o_ic 1 31) := js_St.ok (st_iconst rfl d_209_30)
theorem ki_209_27 : js_Ok 209 27 (o_cI 140 3 9 30) := ok_cI (site_V kk_209_140 (by decide) kw_1324 kw_1326 ks_27 (fun t ht => by cases ht; exact Or.inl ⟨_, rfl, rfl⟩) d_209_27) rfl
theorem ki_209_25 : js_Ok 209 25 (o_ic 7 27) := js_St.ok (st_bipush rfl d_209_25)
theorem ki_209_24 : js_Ok 209 24 (o_il 2 25) := js_St.ok (st_iloadn rfl d_209_24)
theorem ki_209_23 : js_Ok 209 23 (o_al 0 24) := js_St.ok (st_aloadn rfl d_209_23)
theorem ki_209_22 : js_Ok 209 22 (o_al 0 23) := js_St.ok (st_aloadn rfl d_209_22)
theorem ki_209_19 : js_Ok 209 19 (o_eq 39 22) := js_St.ok (st_ifeq (by decide) d_209_19)
theorem ki_209_16 : js_Ok 209 16 (o_cI 139 2 9 19) := ok_cI (site_V kk_209_139 (by decide) kw_1364 kw_1366 ks_33 (fun t ht => by cases ht; exact Or.inl ⟨_, rfl, rfl⟩) d_209_16) rfl
theorem ki_209_40 : js_Ok 209 40 (o_rI) := ok_rI rfl d_209_40
theorem ki_209_39 : js_Ok 209 39 (o_ic 0 40) := js_St.ok (st_iconst rfl d_209_39)
theorem ki_209_36 : js_Ok 209 36 (o_go 40) := js_St.ok (st_goto (by decide) d_209_36)
theorem ki_209_33 : js_Ok 209 33 (o_cI 156 3 9 36) := ok_cI (site_V kk_209_156 (by decide) kw_1423 kw_1425 ks_39 (fun t ht => by cases ht; exact Or.inl ⟨_, rfl, rfl⟩) d_209_33) rfl
theorem ki_209_32 : js_Ok 209 32 (o_ic (-1) 33) := js_St.ok (st_iconst rfl d_209_32)
theorem d_210_0 : decode (js_b 210) 0 = .ok (.aload_n 0, 1) := by decide +kernel
theorem d_210_1 : decode (js_b 210) 1 = .ok (.aload_n 0, 1) := by decide +kernel
theorem d_210_2 : decode (js_b 210) 2 = .ok (.iload_n 1, 1) := by decide +kernel
theorem d_210_3 : decode (js_b 210) 3 = .ok (.iload_n 2, 1) := by decide +kernel
theorem d_210_4 : decode (js_b 210) 4 = .ok (.invokevirtual 170, 3) := by decide +kernel
theorem d_210_7 : decode (js_b 210) 7 = .ok (.putfield 39, 3) := by decide +kernel
theorem d_210_10 : decode (js_b 210) 10 = .ok (.aload_n 0, 1) := by decide +kernel
theorem d_210_11 : decode (js_b 210) 11 = .ok (.getfield 39, 3) := by decide +kernel
theorem d_210_14 : decode (js_b 210) 14 = .ok (.ifCond .le 7, 3) := by decide +kernel
theorem d_210_17 : decode (js_b 210) 17 = .ok (.iconst 0, 1) := by decide +kernel
theorem d_210_18 : decode (js_b 210) 18 = .ok (.goto 13, 3) := by decide +kernel
theorem d_210_21 : decode (js_b 210) 21 = .ok (.aload_n 0, 1) := by decide +kernel
theorem d_210_22 : decode (js_b 210) 22 = .ok (.bipush 8, 2) := by decide +kernel
theorem d_210_24 : decode (js_b 210) 24 = .ok (.iload_n 1, 1) := by decide +kernel
theorem d_210_25 : decode (js_b 210) 25 = .ok (.imul, 1) := by decide +kernel
theorem d_210_26 : decode (js_b 210) 26 = .ok (.iload_n 2, 1) := by decide +kernel
theorem d_210_27 : decode (js_b 210) 27 = .ok (.iadd, 1) := by decide +kernel
theorem d_210_28 : decode (js_b 210) 28 = .ok (.invokevirtual 96, 3) := by decide +kernel
theorem d_210_31 : decode (js_b 210) 31 = .ok (.ireturn, 1) := by decide +kernel
theorem ki_210_14 : js_Ok 210 14 (o_le 21 17) := js_St.ok (st_ifle (by decide) d_210_14)
theorem ki_210_11 : js_Ok 210 11 (o_gI 8 6 14) := js_St.ok (st_gI js_c8 (by decide) kw_1239 d_210_11)
theorem ki_210_10 : js_Ok 210 10 (o_al 0 11) := js_St.ok (st_aloadn rfl d_210_10)
theorem ki_210_7 : js_Ok 210 7 (o_pI 8 6 10) := js_St.ok (st_pIown js_c8 (by decide) rfl kw_1239 (js_c8.2.2.1 6 (by decide)) d_210_7)
theorem ki_210_4 : js_Ok 210 4 (o_cI 189 3 9 7) := ok_cI (site_V kk_210_189 (by decide) kw_1478 kw_1480 ks_48 (fun t ht => by cases ht; exact Or.inl ⟨_, rfl, rfl⟩) d_210_4) rfl
theorem ki_210_3 : js_Ok 210 3 (o_il 2 4) := js_St.ok (st_iloadn rfl d_210_3)
theorem ki_210_2 : js_Ok 210 2 (o_il 1 3) := js_St.ok (st_iloadn rfl d_210_2)
theorem ki_210_1 : js_Ok 210 1 (o_al 0 2) := js_St.ok (st_aloadn rfl d_210_1)
theorem ki_210_0 : js_Ok 210 0 (o_al 0 1) := js_St.ok (st_aloadn rfl d_210_0)
theorem ki_210_31 : js_Ok 210 31 (o_rI) := ok_rI rfl d_210_31
theorem ki_210_28 : js_Ok 210 28 (o_cI 158 2 9 31) := ok_cI (site_V kk_210_158 (by decide) kw_1486 kw_1488 ks_50 (fun t ht => by cases ht; exact Or.inl ⟨_, rfl, rfl⟩) d_210_28) rfl
theorem ki_210_27 : js_Ok 210 27 (o_b2 (fun x y => x + y) 28) := js_St.ok (st_iadd d_210_27)
theorem ki_210_26 : js_Ok 210 26 (o_il 2 27) := js_St.ok (st_iloadn rfl d_210_26)
theorem ki_210_25 : js_Ok 210 25 (o_b2 (fun x y => x * y) 26) := js_St.ok (st_imul d_210_25)
theorem ki_210_24 : js_Ok 210 24 (o_il 1 25) := js_St.ok (st_iloadn rfl d_210_24)
theorem ki_210_22 : js_Ok 210 22 (o_ic 8 24) := js_St.ok (st_bipush rfl d_210_22)
theorem ki_210_21 : js_Ok 210 21 (o_al 0 22) := js_St.ok (st_aloadn rfl d_210_21)
theorem ki_210_18 : js_Ok 210 18 (o_go 31) := js_St.ok (st_goto (by decide) d_210_18)
theorem ki_210_17 : js_Ok 210 17 (o_ic 0 18) := js_St.ok (st_iconst rfl d_210_17)
theorem d_211_0 : decode (js_b 211) 0 = .ok (.lconst 1, 1) := by decide +kernel
theorem d_211_1 : decode (js_b 211) 1 = .ok (.iload_n 1, 1) := by decide +kernel
theorem d_211_2 : decode (js_b 211) 2 = .ok (.lshl, 1) := by decide +kernel
theorem d_211_3 : decode (js_b 211) 3 = .ok (.lstore_n 2, 1) := by decide +kernel
theorem d_211_4 : decode (js_b 211) 4 = .ok (.lconst 0, 1) := by decide +kernel
theorem d_211_5 : decode (js_b 211) 5 = .ok (.lstore 4, 2) := by decide +kernel
theorem d_211_7 : decode (js_b 211) 7 = .ok (.lload 4, 2) := by decide +kernel
theorem d_211_9 : decode (js_b 211) 9 = .ok (.lload_n 2, 1) := by decide +kernel
theorem d_211_10 : decode (js_b 211) 10 = .ok (.lcmp, 1) := by decide +kernel
theorem d_211_11 : decode (js_b 211) 11 = .ok (.ifCond .eq 79, 3) := by decide +kernel
theorem d_211_14 : decode (js_b 211) 14 = .ok (.lload_n 2, 1) := by decide +kernel
theorem d_211_15 : decode (js_b 211) 15 = .ok (.lstore 4, 2) := by decide +kernel
theorem d_211_17 : decode (js_b 211) 17 = .ok (.iconst 0, 1) := by decide +kernel
theorem d_211_18 : decode (js_b 211) 18 = .ok (.istore 6, 2) := by decide +kernel
theorem d_211_20 : decode (js_b 211) 20 = .ok (.iload 6, 2) := by decide +kernel
theorem d_211_22 : decode (js_b 211) 22 = .ok (.bipush 64, 2) := by decide +kernel
theorem d_211_24 : decode (js_b 211) 24 = .ok (.if_icmp .ge 63, 3) := by decide +kernel
theorem d_211_27 : decode (js_b 211) 27 = .ok (.iconst 0, 1) := by decide +kernel
theorem d_211_28 : decode (js_b 211) 28 = .ok (.istore 7, 2) := by decide +kernel
theorem d_211_30 : decode (js_b 211) 30 = .ok (.iload 7, 2) := by decide +kernel
theorem d_211_32 : decode (js_b 211) 32 = .ok (.iconst 4, 1) := by decide +kernel
theorem d_211_33 : decode (js_b 211) 33 = .ok (.if_icmp .ge 48, 3) := by decide +kernel
theorem d_211_36 : decode (js_b 211) 36 = .ok (.lload_n 2, 1) := by decide +kernel
theorem d_211_37 : decode (js_b 211) 37 = .ok (.iload 6, 2) := by decide +kernel
theorem d_211_39 : decode (js_b 211) 39 = .ok (.lshr, 1) := by decide +kernel
theorem d_211_40 : decode (js_b 211) 40 = .ok (.lconst 1, 1) := by decide +kernel
theorem d_211_41 : decode (js_b 211) 41 = .ok (.land, 1) := by decide +kernel
theorem d_211_42 : decode (js_b 211) 42 = .ok (.lconst 1, 1) := by decide +kernel
theorem d_211_43 : decode (js_b 211) 43 = .ok (.lcmp, 1) := by decide +kernel
theorem d_211_44 : decode (js_b 211) 44 = .ok (.ifCond .ne 37, 3) := by decide +kernel
theorem d_211_47 : decode (js_b 211) 47 = .ok (.lload_n 2, 1) := by decide +kernel
theorem d_211_48 : decode (js_b 211) 48 = .ok (.aload_n 0, 1) := by decide +kernel
theorem d_211_49 : decode (js_b 211) 49 = .ok (.iload 6, 2) := by decide +kernel
theorem d_211_51 : decode (js_b 211) 51 = .ok (.iload 7, 2) := by decide +kernel
theorem d_211_53 : decode (js_b 211) 53 = .ok (.invokevirtual 90, 3) := by decide +kernel
theorem d_211_56 : decode (js_b 211) 56 = .ok (.iconst 1, 1) := by decide +kernel
theorem d_211_57 : decode (js_b 211) 57 = .ok (.if_icmp .ne 15, 3) := by decide +kernel
theorem d_211_60 : decode (js_b 211) 60 = .ok (.lconst 1, 1) := by decide +kernel
theorem d_211_61 : decode (js_b 211) 61 = .ok (.iload 6, 2) := by decide +kernel
theorem d_211_63 : decode (js_b 211) 63 = .ok (.iload 7, 2) := by decide +kernel
theorem d_211_65 : decode (js_b 211) 65 = .ok (.invokestatic 77, 3) := by decide +kernel
theorem d_211_68 : decode (js_b 211) 68 = .ok (.lshl, 1) := by decide +kernel
theorem d_211_69 : decode (js_b 211) 69 = .ok (.goto 4, 3) := by decide +kernel
theorem d_211_72 : decode (js_b 211) 72 = .ok (.lconst 0, 1) := by decide +kernel
theorem d_211_73 : decode (js_b 211) 73 = .ok (.lor, 1) := by decide +kernel
theorem d_211_74 : decode (js_b 211) 74 = .ok (.lstore_n 2, 1) := by decide +kernel
theorem d_211_75 : decode (js_b 211) 75 = .ok (.iinc 7 1, 3) := by decide +kernel
theorem d_211_78 : decode (js_b 211) 78 = .ok (.goto (-48), 3) := by decide +kernel
theorem d_211_81 : decode (js_b 211) 81 = .ok (.iinc 6 1, 3) := by decide +kernel
theorem d_211_84 : decode (js_b 211) 84 = .ok (.goto (-64), 3) := by decide +kernel
theorem d_211_87 : decode (js_b 211) 87 = .ok (.goto (-80), 3) := by decide +kernel
theorem d_211_90 : decode (js_b 211) 90 = .ok (.lload_n 2, 1) := by decide +kernel
theorem d_211_91 : decode (js_b 211) 91 = .ok (.lreturn, 1) := by decide +kernel
theorem ki_211_15 : js_Ok 211 15 (o_ls 4 17) := js_St.ok (st_lstore (Nat.le_of_ble_eq_true rfl) d_211_15)
theorem ki_211_14 : js_Ok 211 14 (o_ll 2 15) := js_St.ok (st_lloadn rfl d_211_14)
theorem ki_211_11 : js_Ok 211 11 (o_eq 90 14) := js_St.ok (st_ifeq (by decide) d_211_11)
theorem ki_211_10 : js_Ok 211 10 (o_lcmp 11) := js_St.ok (st_lcmp d_211_10)
theorem ki_211_9 : js_Ok 211 9 (o_ll 2 10) := js_St.ok (st_lloadn rfl d_211_9)
theorem ki_211_7 : js_Ok 211 7 (o_ll 4 9) := js_St.ok (st_lload d_211_7)
theorem ki_211_5 : js_Ok 211 5 (o_ls 4 7) := js_St.ok (st_lstore (Nat.le_of_ble_eq_true rfl) d_211_5)
theorem ki_211_4 : js_Ok 211 4 (o_lc 0 5) := js_St.ok (st_lconst rfl d_211_4)
theorem ki_211_3 : js_Ok 211 3 (o_ls 2 4) := js_St.ok (st_lstoren rfl (Nat.le_of_ble_eq_true rfl) d_211_3)
theorem ki_211_2 : js_Ok 211 2 (o_Sh (fun x y => x <<< (y.toInt64 &&& 63)) 3) := js_St.ok (st_lshl d_211_2)
theorem ki_211_1 : js_Ok 211 1 (o_il 1 2) := js_St.ok (st_iloadn rfl d_211_1)
theorem ki_211_0 : js_Ok 211 0 (o_lc 1 1) := js_St.ok (st_lconst rfl d_211_0)
theorem ki_211_30 : js_Ok 211 30 (o_il 7 32) := js_St.ok (st_iload d_211_30)
theorem ki_211_28 : js_Ok 211 28 (o_is 7 30) := js_St.ok (st_istore (Nat.le_of_ble_eq_true rfl) d_211_28)
theorem ki_211_27 : js_Ok 211 27 (o_ic 0 28) := js_St.ok (st_iconst rfl d_211_27)
theorem ki_211_24 : js_Ok 211 24 (o_cge 87 27) := js_St.ok (st_icge (by decide) d_211_24)
theorem ki_211_22 : js_Ok 211 22 (o_ic 64 24) := js_St.ok (st_bipush rfl d_211_22)
theorem ki_211_20 : js_Ok 211 20 (o_il 6 22) := js_St.ok (st_iload d_211_20)
theorem ki_211_18 : js_Ok 211 18 (o_is 6 20) := js_St.ok (st_istore (Nat.le_of_ble_eq_true rfl) d_211_18)
theorem ki_211_17 : js_Ok 211 17 (o_ic 0 18) := js_St.ok (st_iconst rfl d_211_17)
theorem ki_211_47 : js_Ok 211 47 (o_ll 2 48) := js_St.ok (st_lloadn rfl d_211_47)
theorem ki_211_44 : js_Ok 211 44 (o_ne 81 47) := js_St.ok (st_ifne (by decide) d_211_44)
theorem ki_211_43 : js_Ok 211 43 (o_lcmp 44) := js_St.ok (st_lcmp d_211_43)
theorem ki_211_42 : js_Ok 211 42 (o_lc 1 43) := js_St.ok (st_lconst rfl d_211_42)
theorem ki_211_41 : js_Ok 211 41 (o_B2 (fun x y => x &&& y) 42) := js_St.ok (st_land d_211_41)
theorem ki_211_40 : js_Ok 211 40 (o_lc 1 41) := js_St.ok (st_lconst rfl d_211_40)
theorem ki_211_39 : js_Ok 211 39 (o_Sh (fun x y => x >>> (y.toInt64 &&& 63)) 40) := js_St.ok (st_lshr d_211_39)
theorem ki_211_37 : js_Ok 211 37 (o_il 6 39) := js_St.ok (st_iload d_211_37)
theorem ki_211_36 : js_Ok 211 36 (o_ll 2 37) := js_St.ok (st_lloadn rfl d_211_36)
theorem ki_211_33 : js_Ok 211 33 (o_cge 81 36) := js_St.ok (st_icge (by decide) d_211_33)
theorem ki_211_32 : js_Ok 211 32 (o_ic 4 33) := js_St.ok (st_iconst rfl d_211_32)
theorem ki_211_63 : js_Ok 211 63 (o_il 7 65) := js_St.ok (st_iload d_211_63)
theorem ki_211_61 : js_Ok 211 61 (o_il 6 63) := js_St.ok (st_iload d_211_61)
theorem ki_211_60 : js_Ok 211 60 (o_lc 1 61) := js_St.ok (st_lconst rfl d_211_60)
theorem ki_211_57 : js_Ok 211 57 (o_cne 72 60) := js_St.ok (st_icne (by decide) d_211_57)
theorem ki_211_56 : js_Ok 211 56 (o_ic 1 57) := js_St.ok (st_iconst rfl d_211_56)
theorem ki_211_53 : js_Ok 211 53 (o_cI 155 3 9 56) := ok_cI (site_V kk_211_155 (by decide) kw_1427 kw_1429 ks_40 (fun t ht => by cases ht; exact Or.inl ⟨_, rfl, rfl⟩) d_211_53) rfl
theorem ki_211_51 : js_Ok 211 51 (o_il 7 53) := js_St.ok (st_iload d_211_51)
theorem ki_211_49 : js_Ok 211 49 (o_il 6 51) := js_St.ok (st_iload d_211_49)
theorem ki_211_48 : js_Ok 211 48 (o_al 0 49) := js_St.ok (st_aloadn rfl d_211_48)
theorem ki_211_78 : js_Ok 211 78 (o_go 30) := js_St.ok (st_goto (by decide) d_211_78)
theorem ki_211_75 : js_Ok 211 75 (o_inc 7 1 78) := js_St.ok (st_iinc rfl (Nat.le_of_ble_eq_true rfl) d_211_75)
theorem ki_211_74 : js_Ok 211 74 (o_ls 2 75) := js_St.ok (st_lstoren rfl (Nat.le_of_ble_eq_true rfl) d_211_74)
theorem ki_211_73 : js_Ok 211 73 (o_B2 (fun x y => x ||| y) 74) := js_St.ok (st_lor d_211_73)
theorem ki_211_72 : js_Ok 211 72 (o_lc 0 73) := js_St.ok (st_lconst rfl d_211_72)
theorem ki_211_69 : js_Ok 211 69 (o_go 73) := js_St.ok (st_goto (by decide) d_211_69)
theorem ki_211_68 : js_Ok 211 68 (o_Sh (fun x y => x <<< (y.toInt64 &&& 63)) 69) := js_St.ok (st_lshl d_211_68)
theorem ki_211_65 : js_Ok 211 65 (o_cI 151 2 0 68) := ok_cI (site_S kk_211_151 kw_1435 kw_1436 d_211_65) rfl
theorem ki_211_91 : js_Ok 211 91 (o_rL) := ok_rL rfl d_211_91
theorem ki_211_90 : js_Ok 211 90 (o_ll 2 91) := js_St.ok (st_lloadn rfl d_211_90)
theorem ki_211_87 : js_Ok 211 87 (o_go 7) := js_St.ok (st_goto (by decide) d_211_87)
theorem ki_211_84 : js_Ok 211 84 (o_go 20) := js_St.ok (st_goto (by decide) d_211_84)
theorem ki_211_81 : js_Ok 211 81 (o_inc 6 1 84) := js_St.ok (st_iinc rfl (Nat.le_of_ble_eq_true rfl) d_211_81)
theorem d_212_0 : decode (js_b 212) 0 = .ok (.iconst 0, 1) := by decide +kernel
theorem d_212_1 : decode (js_b 212) 1 = .ok (.istore_n 2, 1) := by decide +kernel
theorem d_212_2 : decode (js_b 212) 2 = .ok (.iconst 0, 1) := by decide +kernel
theorem d_212_3 : decode (js_b 212) 3 = .ok (.istore_n 3, 1) := by decide +kernel
theorem d_212_4 : decode (js_b 212) 4 = .ok (.iload_n 3, 1) := by decide +kernel
theorem d_212_5 : decode (js_b 212) 5 = .ok (.bipush 64, 2) := by decide +kernel
theorem d_212_7 : decode (js_b 212) 7 = .ok (.if_icmp .ge 18, 3) := by decide +kernel
theorem d_212_10 : decode (js_b 212) 10 = .ok (.iload_n 2, 1) := by decide +kernel
theorem d_212_11 : decode (js_b 212) 11 = .ok (.lload_n 0, 1) := by decide +kernel
theorem d_212_12 : decode (js_b 212) 12 = .ok (.iload_n 3, 1) := by decide +kernel
theorem d_212_13 : decode (js_b 212) 13 = .ok (.lshr, 1) := by decide +kernel
theorem d_212_14 : decode (js_b 212) 14 = .ok (.lconst 1, 1) := by decide +kernel
theorem d_212_15 : decode (js_b 212) 15 = .ok (.land, 1) := by decide +kernel
theorem d_212_16 : decode (js_b 212) 16 = .ok (.l2i, 1) := by decide +kernel
theorem d_212_17 : decode (js_b 212) 17 = .ok (.iadd, 1) := by decide +kernel
theorem d_212_18 : decode (js_b 212) 18 = .ok (.istore_n 2, 1) := by decide +kernel
theorem d_212_19 : decode (js_b 212) 19 = .ok (.iinc 3 1, 3) := by decide +kernel
theorem d_212_22 : decode (js_b 212) 22 = .ok (.goto (-18), 3) := by decide +kernel
theorem d_212_25 : decode (js_b 212) 25 = .ok (.iload_n 2, 1) := by decide +kernel
theorem d_212_26 : decode (js_b 212) 26 = .ok (.ireturn, 1) := by decide +kernel
theorem ki_212_15 : js_Ok 212 15 (o_B2 (fun x y => x &&& y) 16) := js_St.ok (st_land d_212_15)
theorem ki_212_14 : js_Ok 212 14 (o_lc 1 15) := js_St.ok (st_lconst rfl d_212_14)
theorem ki_212_13 : js_Ok 212 13 (o_Sh (fun x y => x >>> (y.toInt64 &&& 63)) 14) := js_St.ok (st_lshr d_212_13)
theorem ki_212_12 : js_Ok 212 12 (o_il 3 13) := js_St.ok (st_iloadn rfl d_212_12)
theorem ki_212_11 : js_Ok 212 11 (o_ll 0 12) := js_St.ok (st_lloadn rfl d_212_11)
theorem ki_212_10 : js_Ok 212 10 (o_il 2 11) := js_St.ok (st_iloadn rfl d_212_10)
theorem ki_212_7 : js_Ok 212 7 (o_cge 25 10) := js_St.ok (st_icge (by decide) d_212_7)
theorem ki_212_5 : js_Ok 212 5 (o_ic 64 7) := js_St.ok (st_bipush rfl d_212_5)
theorem ki_212_4 : js_Ok 212 4 (o_il 3 5) := js_St.ok (st_iloadn rfl d_212_4)
theorem ki_212_3 : js_Ok 212 3 (o_is 3 4) := js_St.ok (st_istoren rfl (Nat.le_of_ble_eq_true rfl) d_212_3)
theorem ki_212_2 : js_Ok 212 2 (o_ic 0 3) := js_St.ok (st_iconst rfl d_212_2)
theorem ki_212_1 : js_Ok 212 1 (o_is 2 2) := js_St.ok (st_istoren rfl (Nat.le_of_ble_eq_true rfl) d_212_1)
theorem ki_212_0 : js_Ok 212 0 (o_ic 0 1) := js_St.ok (st_iconst rfl d_212_0)
theorem ki_212_26 : js_Ok 212 26 (o_rI) := ok_rI rfl d_212_26
theorem ki_212_25 : js_Ok 212 25 (o_il 2 26) := js_St.ok (st_iloadn rfl d_212_25)
theorem ki_212_22 : js_Ok 212 22 (o_go 4) := js_St.ok (st_goto (by decide) d_212_22)
theorem ki_212_19 : js_Ok 212 19 (o_inc 3 1 22) := js_St.ok (st_iinc rfl (Nat.le_of_ble_eq_true rfl) d_212_19)
theorem ki_212_18 : js_Ok 212 18 (o_is 2 19) := js_St.ok (st_istoren rfl (Nat.le_of_ble_eq_true rfl) d_212_18)
theorem ki_212_17 : js_Ok 212 17 (o_b2 (fun x y => x + y) 18) := js_St.ok (st_iadd d_212_17)
theorem ki_212_16 : js_Ok 212 16 (o_l2i 17) := js_St.ok (st_l2i d_212_16)
theorem d_213_0 : decode (js_b 213) 0 = .ok (.lconst 0, 1) := by decide +kernel
theorem d_213_1 : decode (js_b 213) 1 = .ok (.lstore_n 1, 1) := by decide +kernel
theorem d_213_2 : decode (js_b 213) 2 = .ok (.iconst 0, 1) := by decide +kernel
theorem d_213_3 : decode (js_b 213) 3 = .ok (.istore_n 3, 1) := by decide +kernel
theorem d_213_4 : decode (js_b 213) 4 = .ok (.aload_n 0, 1) := by decide +kernel
theorem d_213_5 : decode (js_b 213) 5 = .ok (.iconst 0, 1) := by decide +kernel
theorem d_213_6 : decode (js_b 213) 6 = .ok (.putfield 39, 3) := by decide +kernel
theorem d_213_9 : decode (js_b 213) 9 = .ok (.iconst 0, 1) := by decide +kernel
theorem d_213_10 : decode (js_b 213) 10 = .ok (.istore 4, 2) := by decide +kernel
theorem d_213_12 : decode (js_b 213) 12 = .ok (.iload 4, 2) := by decide +kernel
theorem d_213_14 : decode (js_b 213) 14 = .ok (.bipush 64, 2) := by decide +kernel
theorem d_213_16 : decode (js_b 213) 16 = .ok (.if_icmp .ge 46, 3) := by decide +kernel
theorem d_213_19 : decode (js_b 213) 19 = .ok (.aload_n 0, 1) := by decide +kernel
theorem d_213_20 : decode (js_b 213) 20 = .ok (.getfield 9, 3) := by decide +kernel
theorem d_213_23 : decode (js_b 213) 23 = .ok (.sipush 161, 3) := by decide +kernel
theorem d_213_26 : decode (js_b 213) 26 = .ok (.iload 4, 2) := by decide +kernel
theorem d_213_28 : decode (js_b 213) 28 = .ok (.iadd, 1) := by decide +kernel
theorem d_213_29 : decode (js_b 213) 29 = .ok (.iaload, 1) := by decide +kernel
theorem d_213_30 : decode (js_b 213) 30 = .ok (.ifCond .le 26, 3) := by decide +kernel
theorem d_213_33 : decode (js_b 213) 33 = .ok (.lload_n 1, 1) := by decide +kernel
theorem d_213_34 : decode (js_b 213) 34 = .ok (.iload 4, 2) := by decide +kernel
theorem d_213_36 : decode (js_b 213) 36 = .ok (.lshr, 1) := by decide +kernel
theorem d_213_37 : decode (js_b 213) 37 = .ok (.lconst 1, 1) := by decide +kernel
theorem d_213_38 : decode (js_b 213) 38 = .ok (.land, 1) := by decide +kernel
theorem d_213_39 : decode (js_b 213) 39 = .ok (.lconst 0, 1) := by decide +kernel
theorem d_213_40 : decode (js_b 213) 40 = .ok (.lcmp, 1) := by decide +kernel
theorem d_213_41 : decode (js_b 213) 41 = .ok (.ifCond .ne 15, 3) := by decide +kernel
theorem d_213_44 : decode (js_b 213) 44 = .ok (.lload_n 1, 1) := by decide +kernel
theorem d_213_45 : decode (js_b 213) 45 = .ok (.aload_n 0, 1) := by decide +kernel
theorem d_213_46 : decode (js_b 213) 46 = .ok (.iload 4, 2) := by decide +kernel
theorem d_213_48 : decode (js_b 213) 48 = .ok (.invokevirtual 198, 3) := by decide +kernel
theorem d_213_51 : decode (js_b 213) 51 = .ok (.lor, 1) := by decide +kernel
theorem d_213_52 : decode (js_b 213) 52 = .ok (.lstore_n 1, 1) := by decide +kernel
theorem d_213_53 : decode (js_b 213) 53 = .ok (.iinc 3 1, 3) := by decide +kernel
theorem d_213_56 : decode (js_b 213) 56 = .ok (.iinc 4 1, 3) := by decide +kernel
theorem d_213_59 : decode (js_b 213) 59 = .ok (.goto (-47), 3) := by decide +kernel
theorem d_213_62 : decode (js_b 213) 62 = .ok (.iload_n 3, 1) := by decide +kernel
theorem d_213_63 : decode (js_b 213) 63 = .ok (.ireturn, 1) := by decide +kernel
theorem ki_213_14 : js_Ok 213 14 (o_ic 64 16) := js_St.ok (st_bipush rfl d_213_14)
theorem ki_213_12 : js_Ok 213 12 (o_il 4 14) := js_St.ok (st_iload d_213_12)
theorem ki_213_10 : js_Ok 213 10 (o_is 4 12) := js_St.ok (st_istore (Nat.le_of_ble_eq_true rfl) d_213_10)
theorem ki_213_9 : js_Ok 213 9 (o_ic 0 10) := js_St.ok (st_iconst rfl d_213_9)
theorem ki_213_6 : js_Ok 213 6 (o_pI 8 6 9) := js_St.ok (st_pIown js_c8 (by decide) rfl kw_1239 (js_c8.2.2.1 6 (by decide)) d_213_6)
theorem ki_213_5 : js_Ok 213 5 (o_ic 0 6) := js_St.ok (st_iconst rfl d_213_5)
theorem ki_213_4 : js_Ok 213 4 (o_al 0 5) := js_St.ok (st_aloadn rfl d_213_4)
theorem ki_213_3 : js_Ok 213 3 (o_is 3 4) := js_St.ok (st_istoren rfl (Nat.le_of_ble_eq_true rfl) d_213_3)
theorem ki_213_2 : js_Ok 213 2 (o_ic 0 3) := js_St.ok (st_iconst rfl d_213_2)
theorem ki_213_1 : js_Ok 213 1 (o_ls 1 2) := js_St.ok (st_lstoren rfl (Nat.le_of_ble_eq_true rfl) d_213_1)
theorem ki_213_0 : js_Ok 213 0 (o_lc 0 1) := js_St.ok (st_lconst rfl d_213_0)
theorem ki_213_30 : js_Ok 213 30 (o_le 56 33) := js_St.ok (st_ifle (by decide) d_213_30)
theorem ki_213_29 : js_Ok 213 29 (o_lI 100 30) := js_St.ok (st_lI d_213_29)
theorem ki_213_28 : js_Ok 213 28 (o_b2 (fun x y => x + y) 29) := js_St.ok (st_iadd d_213_28)
theorem ki_213_26 : js_Ok 213 26 (o_il 4 28) := js_St.ok (st_iload d_213_26)
theorem ki_213_23 : js_Ok 213 23 (o_ic 161 26) := js_St.ok (st_sipush rfl d_213_23)
theorem ki_213_20 : js_Ok 213 20 (o_gA 8 0 23) := js_St.ok (st_gA js_c8 (by decide) kw_1233 d_213_20)
theorem ki_213_19 : js_Ok 213 19 (o_al 0 20) := js_St.ok (st_aloadn rfl d_213_19)
theorem ki_213_16 : js_Ok 213 16 (o_cge 62 19) := js_St.ok (st_icge (by decide) d_213_16)
theorem ki_213_46 : js_Ok 213 46 (o_il 4 48) := js_St.ok (st_iload d_213_46)
theorem ki_213_45 : js_Ok 213 45 (o_al 0 46) := js_St.ok (st_aloadn rfl d_213_45)
theorem ki_213_44 : js_Ok 213 44 (o_ll 1 45) := js_St.ok (st_lloadn rfl d_213_44)
theorem ki_213_41 : js_Ok 213 41 (o_ne 56 44) := js_St.ok (st_ifne (by decide) d_213_41)
theorem ki_213_40 : js_Ok 213 40 (o_lcmp 41) := js_St.ok (st_lcmp d_213_40)
theorem ki_213_39 : js_Ok 213 39 (o_lc 0 40) := js_St.ok (st_lconst rfl d_213_39)
theorem ki_213_38 : js_Ok 213 38 (o_B2 (fun x y => x &&& y) 39) := js_St.ok (st_land d_213_38)
theorem ki_213_37 : js_Ok 213 37 (o_lc 1 38) := js_St.ok (st_lconst rfl d_213_37)
theorem ki_213_36 : js_Ok 213 36 (o_Sh (fun x y => x >>> (y.toInt64 &&& 63)) 37) := js_St.ok (st_lshr d_213_36)
theorem ki_213_34 : js_Ok 213 34 (o_il 4 36) := js_St.ok (st_iload d_213_34)
theorem ki_213_33 : js_Ok 213 33 (o_ll 1 34) := js_St.ok (st_lloadn rfl d_213_33)
theorem ki_213_63 : js_Ok 213 63 (o_rI) := ok_rI rfl d_213_63
theorem ki_213_62 : js_Ok 213 62 (o_il 3 63) := js_St.ok (st_iloadn rfl d_213_62)
theorem ki_213_59 : js_Ok 213 59 (o_go 12) := js_St.ok (st_goto (by decide) d_213_59)
theorem ki_213_56 : js_Ok 213 56 (o_inc 4 1 59) := js_St.ok (st_iinc rfl (Nat.le_of_ble_eq_true rfl) d_213_56)
theorem ki_213_53 : js_Ok 213 53 (o_inc 3 1 56) := js_St.ok (st_iinc rfl (Nat.le_of_ble_eq_true rfl) d_213_53)
theorem ki_213_52 : js_Ok 213 52 (o_ls 1 53) := js_St.ok (st_lstoren rfl (Nat.le_of_ble_eq_true rfl) d_213_52)
theorem ki_213_51 : js_Ok 213 51 (o_B2 (fun x y => x ||| y) 52) := js_St.ok (st_lor d_213_51)
theorem ki_213_48 : js_Ok 213 48 (o_cL 211 2 9 51) := ok_cL (site_V kk_213_211 (by decide) kw_1596 kw_1598 ks_59 (fun t ht => by cases ht; exact Or.inl ⟨_, rfl, rfl⟩) d_213_48) rfl
theorem d_214_0 : decode (js_b 214) 0 = .ok (.aload_n 0, 1) := by decide +kernel
theorem d_214_1 : decode (js_b 214) 1 = .ok (.invokevirtual 202, 3) := by decide +kernel
theorem d_214_4 : decode (js_b 214) 4 = .ok (.ireturn, 1) := by decide +kernel
theorem ki_214_4 : js_Ok 214 4 (o_rI) := ok_rI rfl d_214_4
theorem ki_214_1 : js_Ok 214 1 (o_cI 213 1 9 4) := ok_cI (site_V kk_214_213 (by decide) kw_1604 kw_1593 kw_1594 (fun t ht => by cases ht; exact Or.inl ⟨_, rfl, rfl⟩) d_214_1) rfl
theorem ki_214_0 : js_Ok 214 0 (o_al 0 1) := js_St.ok (st_aloadn rfl d_214_0)
theorem d_215_0 : decode (js_b 215) 0 = .ok (.aload_n 0, 1) := by decide +kernel
theorem d_215_1 : decode (js_b 215) 1 = .ok (.iload_n 1, 1) := by decide +kernel
theorem d_215_2 : decode (js_b 215) 2 = .ok (.invokevirtual 133, 3) := by decide +kernel
theorem d_215_5 : decode (js_b 215) 5 = .ok (.istore_n 2, 1) := by decide +kernel
theorem d_215_6 : decode (js_b 215) 6 = .ok (.aload_n 0, 1) := by decide +kernel
theorem d_215_7 : decode (js_b 215) 7 = .ok (.iload_n 2, 1) := by decide +kernel
theorem d_215_8 : decode (js_b 215) 8 = .ok (.ifCond .lt 7, 3) := by decide +kernel
theorem d_215_11 : decode (js_b 215) 11 = .ok (.iconst 1, 1) := by decide +kernel
theorem d_215_12 : decode (js_b 215) 12 = .ok (.goto 4, 3) := by decide +kernel
theorem d_215_15 : decode (js_b 215) 15 = .ok (.iconst 0, 1) := by decide +kernel
theorem d_215_16 : decode (js_b 215) 16 = .ok (.invokevirtual 126, 3) := by decide +kernel
theorem d_215_19 : decode (js_b 215) 19 = .ok (.ifCond .eq 22, 3) := by decide +kernel
theorem d_215_22 : decode (js_b 215) 22 = .ok (.aload_n 0, 1) := by decide +kernel
theorem d_215_23 : decode (js_b 215) 23 = .ok (.aload_n 0, 1) := by decide +kernel
theorem d_215_24 : decode (js_b 215) 24 = .ok (.iload_n 2, 1) := by decide +kernel
theorem d_215_25 : decode (js_b 215) 25 = .ok (.bipush 7, 2) := by decide +kernel
theorem d_215_27 : decode (js_b 215) 27 = .ok (.invokevirtual 51, 3) := by decide +kernel
theorem d_215_30 : decode (js_b 215) 30 = .ok (.iconst 1, 1) := by decide +kernel
theorem d_215_31 : decode (js_b 215) 31 = .ok (.isub, 1) := by decide +kernel
theorem d_215_32 : decode (js_b 215) 32 = .ok (.invokevirtual 198, 3) := by decide +kernel
theorem d_215_35 : decode (js_b 215) 35 = .ok (.invokestatic 205, 3) := by decide +kernel
theorem d_215_38 : decode (js_b 215) 38 = .ok (.goto 4, 3) := by decide +kernel
theorem d_215_41 : decode (js_b 215) 41 = .ok (.iconst 0, 1) := by decide +kernel
theorem d_215_42 : decode (js_b 215) 42 = .ok (.ireturn, 1) := by decide +kernel
theorem ki_215_15 : js_Ok 215 15 (o_ic 0 16) := js_St.ok (st_iconst rfl d_215_15)
theorem ki_215_12 : js_Ok 215 12 (o_go 16) := js_St.ok (st_goto (by decide) d_215_12)
theorem ki_215_11 : js_Ok 215 11 (o_ic 1 12) := js_St.ok (st_iconst rfl d_215_11)
theorem ki_215_8 : js_Ok 215 8 (o_lt 15 11) := js_St.ok (st_iflt (by decide) d_215_8)
theorem ki_215_7 : js_Ok 215 7 (o_il 2 8) := js_St.ok (st_iloadn rfl d_215_7)
theorem ki_215_6 : js_Ok 215 6 (o_al 0 7) := js_St.ok (st_aloadn rfl d_215_6)
theorem ki_215_5 : js_Ok 215 5 (o_is 2 6) := js_St.ok (st_istoren rfl (Nat.le_of_ble_eq_true rfl) d_215_5)
theorem ki_215_2 : js_Ok 215 2 (o_cI 146 2 9 5) := ok_cI (site_V kk_215_146 (by decide) kw_1400 kw_1402 ks_36 (fun t ht => by cases ht; exact Or.inl ⟨_, rfl, rfl⟩) d_215_2) rfl
theorem ki_215_1 : js_Ok 215 1 (o_il 1 2) := js_St.ok (st_iloadn rfl d_215_1)
theorem ki_215_0 : js_Ok 215 0 (o_al 0 1) := js_St.ok (st_aloadn rfl d_215_0)
theorem ki_215_31 : js_Ok 215 31 (o_b2 (fun x y => x - y) 32) := js_St.ok (st_isub d_215_31)
theorem ki_215_30 : js_Ok 215 30 (o_ic 1 31) := js_St.ok (st_iconst rfl d_215_30)
theorem ki_215_27 : js_Ok 215 27 (o_cI 140 3 9 30) := ok_cI (site_V kk_215_140 (by decide) kw_1324 kw_1326 ks_27 (fun t ht => by cases ht; exact Or.inl ⟨_, rfl, rfl⟩) d_215_27) rfl
theorem ki_215_25 : js_Ok 215 25 (o_ic 7 27) := js_St.ok (st_bipush rfl d_215_25)
theorem ki_215_24 : js_Ok 215 24 (o_il 2 25) := js_St.ok (st_iloadn rfl d_215_24)
theorem ki_215_23 : js_Ok 215 23 (o_al 0 24) := js_St.ok (st_aloadn rfl d_215_23)
theorem ki_215_22 : js_Ok 215 22 (o_al 0 23) := js_St.ok (st_aloadn rfl d_215_22)
theorem ki_215_19 : js_Ok 215 19 (o_eq 41 22) := js_St.ok (st_ifeq (by decide) d_215_19)
theorem ki_215_16 : js_Ok 215 16 (o_cI 139 2 9 19) := ok_cI (site_V kk_215_139 (by decide) kw_1364 kw_1366 ks_33 (fun t ht => by cases ht; exact Or.inl ⟨_, rfl, rfl⟩) d_215_16) rfl
theorem ki_215_42 : js_Ok 215 42 (o_rI) := ok_rI rfl d_215_42
theorem ki_215_41 : js_Ok 215 41 (o_ic 0 42) := js_St.ok (st_iconst rfl d_215_41)
theorem ki_215_38 : js_Ok 215 38 (o_go 42) := js_St.ok (st_goto (by decide) d_215_38)
theorem ki_215_35 : js_Ok 215 35 (o_cI 212 1 0 38) := ok_cI (site_S kk_215_212 kw_1609 kw_1610 d_215_35) rfl
theorem ki_215_32 : js_Ok 215 32 (o_cL 211 2 9 35) := ok_cL (site_V kk_215_211 (by decide) kw_1596 kw_1598 ks_59 (fun t ht => by cases ht; exact Or.inl ⟨_, rfl, rfl⟩) d_215_32) rfl
theorem d_216_0 : decode (js_b 216) 0 = .ok (.aload_n 0, 1) := by decide +kernel
theorem d_216_1 : decode (js_b 216) 1 = .ok (.iload_n 1, 1) := by decide +kernel
theorem d_216_2 : decode (js_b 216) 2 = .ok (.invokevirtual 133, 3) := by decide +kernel
theorem d_216_5 : decode (js_b 216) 5 = .ok (.istore_n 2, 1) := by decide +kernel
theorem d_216_6 : decode (js_b 216) 6 = .ok (.aload_n 0, 1) := by decide +kernel
theorem d_216_7 : decode (js_b 216) 7 = .ok (.iload_n 2, 1) := by decide +kernel
theorem d_216_8 : decode (js_b 216) 8 = .ok (.ifCond .lt 7, 3) := by decide +kernel
theorem d_216_11 : decode (js_b 216) 11 = .ok (.iconst 1, 1) := by decide +kernel
theorem d_216_12 : decode (js_b 216) 12 = .ok (.goto 4, 3) := by decide +kernel
theorem d_216_15 : decode (js_b 216) 15 = .ok (.iconst 0, 1) := by decide +kernel
theorem d_216_16 : decode (js_b 216) 16 = .ok (.invokevirtual 126, 3) := by decide +kernel
theorem d_216_19 : decode (js_b 216) 19 = .ok (.ifCond .eq 19, 3) := by decide +kernel
theorem d_216_22 : decode (js_b 216) 22 = .ok (.aload_n 0, 1) := by decide +kernel
theorem d_216_23 : decode (js_b 216) 23 = .ok (.aload_n 0, 1) := by decide +kernel
theorem d_216_24 : decode (js_b 216) 24 = .ok (.iload_n 2, 1) := by decide +kernel
theorem d_216_25 : decode (js_b 216) 25 = .ok (.bipush 7, 2) := by decide +kernel
theorem d_216_27 : decode (js_b 216) 27 = .ok (.invokevirtual 51, 3) := by decide +kernel
theorem d_216_30 : decode (js_b 216) 30 = .ok (.iconst 1, 1) := by decide +kernel
theorem d_216_31 : decode (js_b 216) 31 = .ok (.isub, 1) := by decide +kernel
theorem d_216_32 : decode (js_b 216) 32 = .ok (.invokevirtual 198, 3) := by decide +kernel
theorem d_216_35 : decode (js_b 216) 35 = .ok (.goto 4, 3) := by decide +kernel
theorem d_216_38 : decode (js_b 216) 38 = .ok (.lconst 0, 1) := by decide +kernel
theorem d_216_39 : decode (js_b 216) 39 = .ok (.lreturn, 1) := by decide +kernel
theorem ki_216_15 : js_Ok 216 15 (o_ic 0 16) := js_St.ok (st_iconst rfl d_216_15)
theorem ki_216_12 : js_Ok 216 12 (o_go 16) := js_St.ok (st_goto (by decide) d_216_12)
theorem ki_216_11 : js_Ok 216 11 (o_ic 1 12) := js_St.ok (st_iconst rfl d_216_11)
theorem ki_216_8 : js_Ok 216 8 (o_lt 15 11) := js_St.ok (st_iflt (by decide) d_216_8)
theorem ki_216_7 : js_Ok 216 7 (o_il 2 8) := js_St.ok (st_iloadn rfl d_216_7)
theorem ki_216_6 : js_Ok 216 6 (o_al 0 7) := js_St.ok (st_aloadn rfl d_216_6)
theorem ki_216_5 : js_Ok 216 5 (o_is 2 6) := js_St.ok (st_istoren rfl (Nat.le_of_ble_eq_true rfl) d_216_5)
theorem ki_216_2 : js_Ok 216 2 (o_cI 146 2 9 5) := ok_cI (site_V kk_216_146 (by decide) kw_1400 kw_1402 ks_36 (fun t ht => by cases ht; exact Or.inl ⟨_, rfl, rfl⟩) d_216_2) rfl
theorem ki_216_1 : js_Ok 216 1 (o_il 1 2) := js_St.ok (st_iloadn rfl d_216_1)
theorem ki_216_0 : js_Ok 216 0 (o_al 0 1) := js_St.ok (st_aloadn rfl d_216_0)
theorem ki_216_31 : js_Ok 216 31 (o_b2 (fun x y => x - y) 32) := js_St.ok (st_isub d_216_31)
theorem ki_216_30 : js_Ok 216 30 (o_ic 1 31) := js_St.ok (st_iconst rfl d_216_30)
theorem ki_216_27 : js_Ok 216 27 (o_cI 140 3 9 30) := ok_cI (site_V kk_216_140 (by decide) kw_1324 kw_1326 ks_27 (fun t ht => by cases ht; exact Or.inl ⟨_, rfl, rfl⟩) d_216_27) rfl
theorem ki_216_25 : js_Ok 216 25 (o_ic 7 27) := js_St.ok (st_bipush rfl d_216_25)
theorem ki_216_24 : js_Ok 216 24 (o_il 2 25) := js_St.ok (st_iloadn rfl d_216_24)
theorem ki_216_23 : js_Ok 216 23 (o_al 0 24) := js_St.ok (st_aloadn rfl d_216_23)
theorem ki_216_22 : js_Ok 216 22 (o_al 0 23) := js_St.ok (st_aloadn rfl d_216_22)
theorem ki_216_19 : js_Ok 216 19 (o_eq 38 22) := js_St.ok (st_ifeq (by decide) d_216_19)
theorem ki_216_16 : js_Ok 216 16 (o_cI 139 2 9 19) := ok_cI (site_V kk_216_139 (by decide) kw_1364 kw_1366 ks_33 (fun t ht => by cases ht; exact Or.inl ⟨_, rfl, rfl⟩) d_216_16) rfl
theorem ki_216_39 : js_Ok 216 39 (o_rL) := ok_rL rfl d_216_39
theorem ki_216_38 : js_Ok 216 38 (o_lc 0 39) := js_St.ok (st_lconst rfl d_216_38)
theorem ki_216_35 : js_Ok 216 35 (o_go 39) := js_St.ok (st_goto (by decide) d_216_35)
theorem ki_216_32 : js_Ok 216 32 (o_cL 211 2 9 35) := ok_cL (site_V kk_216_211 (by decide) kw_1596 kw_1598 ks_59 (fun t ht => by cases ht; exact Or.inl ⟨_, rfl, rfl⟩) d_216_32) rfl
theorem d_217_0 : decode (js_b 217) 0 = .ok (.iconst 0, 1) := by decide +kernel
theorem d_217_1 : decode (js_b 217) 1 = .ok (.istore_n 1, 1) := by decide +kernel
theorem d_217_2 : decode (js_b 217) 2 = .ok (.iconst 0, 1) := by decide +kernel
theorem d_217_3 : decode (js_b 217) 3 = .ok (.istore_n 2, 1) := by decide +kernel
theorem d_217_4 : decode (js_b 217) 4 = .ok (.iload_n 2, 1) := by decide +kernel
theorem d_217_5 : decode (js_b 217) 5 = .ok (.bipush 64, 2) := by decide +kernel
theorem d_217_7 : decode (js_b 217) 7 = .ok (.if_icmp .ge 39, 3) := by decide +kernel
theorem d_217_10 : decode (js_b 217) 10 = .ok (.aload_n 0, 1) := by decide +kernel
theorem d_217_11 : decode (js_b 217) 11 = .ok (.getfield 9, 3) := by decide +kernel
theorem d_217_14 : decode (js_b 217) 14 = .ok (.sipush 161, 3) := by decide +kernel
theorem d_217_17 : decode (js_b 217) 17 = .ok (.iload_n 2, 1) := by decide +kernel
theorem d_217_18 : decode (js_b 217) 18 = .ok (.iadd, 1) := by decide +kernel
theorem d_217_19 : decode (js_b 217) 19 = .ok (.iaload, 1) := by decide +kernel
theorem d_217_20 : decode (js_b 217) 20 = .ok (.ifCond .le 18, 3) := by decide +kernel
theorem d_217_23 : decode (js_b 217) 23 = .ok (.iload_n 1, 1) := by decide +kernel
theorem d_217_24 : decode (js_b 217) 24 = .ok (.aload_n 0, 1) := by decide +kernel
theorem d_217_25 : decode (js_b 217) 25 = .ok (.iload_n 2, 1) := by decide +kernel
theorem d_217_26 : decode (js_b 217) 26 = .ok (.invokevirtual 198, 3) := by decide +kernel
theorem d_217_29 : decode (js_b 217) 29 = .ok (.invokestatic 205, 3) := by decide +kernel
theorem d_217_32 : decode (js_b 217) 32 = .ok (.invokestatic 186, 3) := by decide +kernel
theorem d_217_35 : decode (js_b 217) 35 = .ok (.goto 4, 3) := by decide +kernel
theorem d_217_38 : decode (js_b 217) 38 = .ok (.iload_n 1, 1) := by decide +kernel
theorem d_217_39 : decode (js_b 217) 39 = .ok (.istore_n 1, 1) := by decide +kernel
theorem d_217_40 : decode (js_b 217) 40 = .ok (.iinc 2 1, 3) := by decide +kernel
theorem d_217_43 : decode (js_b 217) 43 = .ok (.goto (-39), 3) := by decide +kernel
theorem d_217_46 : decode (js_b 217) 46 = .ok (.aload_n 0, 1) := by decide +kernel
theorem d_217_47 : decode (js_b 217) 47 = .ok (.iload_n 1, 1) := by decide +kernel
theorem d_217_48 : decode (js_b 217) 48 = .ok (.ifCond .le 7, 3) := by decide +kernel
theorem d_217_51 : decode (js_b 217) 51 = .ok (.iconst 0, 1) := by decide +kernel
theorem d_217_52 : decode (js_b 217) 52 = .ok (.goto 4, 3) := by decide +kernel
theorem d_217_55 : decode (js_b 217) 55 = .ok (.iconst 1, 1) := by decide +kernel
theorem d_217_56 : decode (js_b 217) 56 = .ok (.putfield 39, 3) := by decide +kernel
theorem d_217_59 : decode (js_b 217) 59 = .ok (.iload_n 1, 1) := by decide +kernel
theorem d_217_60 : decode (js_b 217) 60 = .ok (.ireturn, 1) := by decide +kernel
theorem ki_217_14 : js_Ok 217 14 (o_ic 161 17) := js_St.ok (st_sipush rfl d_217_14)
theorem ki_217_11 : js_Ok 217 11 (o_gA 8 0 14) := js_St.ok (st_gA js_c8 (by decide) kw_1233 d_217_11)
theorem ki_217_10 : js_Ok 217 10 (o_al 0 11) := js_St.ok (st_aloadn rfl d_217_10)
theorem ki_217_7 : js_Ok 217 7 (o_cge 46 10) := js_St.ok (st_icge (by decide) d_217_7)
theorem ki_217_5 : js_Ok 217 5 (o_ic 64 7) := js_St.ok (st_bipush rfl d_217_5)
theorem ki_217_4 : js_Ok 217 4 (o_il 2 5) := js_St.ok (st_iloadn rfl d_217_4)
theorem ki_217_3 : js_Ok 217 3 (o_is 2 4) := js_St.ok (st_istoren rfl (Nat.le_of_ble_eq_true rfl) d_217_3)
theorem ki_217_2 : js_Ok 217 2 (o_ic 0 3) := js_St.ok (st_iconst rfl d_217_2)
theorem ki_217_1 : js_Ok 217 1 (o_is 1 2) := js_St.ok (st_istoren rfl (Nat.le_of_ble_eq_true rfl) d_217_1)
theorem ki_217_0 : js_Ok 217 0 (o_ic 0 1) := js_St.ok (st_iconst rfl d_217_0)
theorem ki_217_29 : js_Ok 217 29 (o_cI 212 1 0 32) := ok_cI (site_S kk_217_212 kw_1609 kw_1610 d_217_29) rfl
theorem ki_217_26 : js_Ok 217 26 (o_cL 211 2 9 29) := ok_cL (site_V kk_217_211 (by decide) kw_1596 kw_1598 ks_59 (fun t ht => by cases ht; exact Or.inl ⟨_, rfl, rfl⟩) d_217_26) rfl
theorem ki_217_25 : js_Ok 217 25 (o_il 2 26) := js_St.ok (st_iloadn rfl d_217_25)
theorem ki_217_24 : js_Ok 217 24 (o_al 0 25) := js_St.ok (st_aloadn rfl d_217_24)
theorem ki_217_23 : js_Ok 217 23 (o_il 1 24) := js_St.ok (st_iloadn rfl d_217_23)
theorem ki_217_20 : js_Ok 217 20 (o_le 38 23) := js_St.ok (st_ifle (by decide) d_217_20)
theorem ki_217_19 : js_Ok 217 19 (o_lI 100 20) := js_St.ok (st_lI d_217_19)
theorem ki_217_18 : js_Ok 217 18 (o_b2 (fun x y => x + y) 19) := js_St.ok (st_iadd d_217_18)
theorem ki_217_17 : js_Ok 217 17 (o_il 2 18) := js_St.ok (st_iloadn rfl d_217_17)
theorem ki_217_47 : js_Ok 217 47 (o_il 1 48) := js_St.ok (st_iloadn rfl d_217_47)
theorem ki_217_46 : js_Ok 217 46 (o_al 0 47) := js_St.ok (st_aloadn rfl d_217_46)
theorem ki_217_43 : js_Ok 217 43 (o_go 4) := js_St.ok (st_goto (by decide) d_217_43)
theorem ki_217_40 : js_Ok 217 40 (o_inc 2 1 43) := js_St.ok (st_iinc rfl (Nat.le_of_ble_eq_true rfl) d_217_40)
theorem ki_217_39 : js_Ok 217 39 (o_is 1 40) := js_St.ok (st_istoren rfl (Nat.le_of_ble_eq_true rfl) d_217_39)
theorem ki_217_38 : js_Ok 217 38 (o_il 1 39) := js_St.ok (st_iloadn rfl d_217_38)
theorem ki_217_35 : js_Ok 217 35 (o_go 39) := js_St.ok (st_goto (by decide) d_217_35)
theorem ki_217_32 : js_Ok 217 32 (o_cI 246 2 0 35) := ok_cI (site_S kk_217_246 kw_1526 kw_416 d_217_32) rfl
theorem ki_217_60 : js_Ok 217 60 (o_rI) := ok_rI rfl d_217_60
theorem ki_217_59 : js_Ok 217 59 (o_il 1 60) := js_St.ok (st_iloadn rfl d_217_59)
theorem ki_217_56 : js_Ok 217 56 (o_pI 8 6 59) := js_St.ok (st_pIown js_c8 (by decide) rfl kw_1239 (js_c8.2.2.1 6 (by decide)) d_217_56)
theorem ki_217_55 : js_Ok 217 55 (o_ic 1 56) := js_St.ok (st_iconst rfl d_217_55)
theorem ki_217_52 : js_Ok 217 52 (o_go 56) := js_St.ok (st_goto (by decide) d_217_52)
theorem ki_217_51 : js_Ok 217 51 (o_ic 0 52) := js_St.ok (st_iconst rfl d_217_51)
theorem ki_217_48 : js_Ok 217 48 (o_le 55 51) := js_St.ok (st_ifle (by decide) d_217_48)
theorem d_218_0 : decode (js_b 218) 0 = .ok (.aload_n 0, 1) := by decide +kernel
theorem d_218_1 : decode (js_b 218) 1 = .ok (.iconst 1, 1) := by decide +kernel
theorem d_218_2 : decode (js_b 218) 2 = .ok (.invokevirtual 149, 3) := by decide +kernel
theorem d_218_5 : decode (js_b 218) 5 = .ok (.istore_n 1, 1) := by decide +kernel
theorem d_218_6 : decode (js_b 218) 6 = .ok (.iload_n 1, 1) := by decide +kernel
theorem d_218_7 : decode (js_b 218) 7 = .ok (.aload_n 0, 1) := by decide +kernel
theorem d_218_8 : decode (js_b 218) 8 = .ok (.iconst (-1), 1) := by decide +kernel
theorem d_218_9 : decode (js_b 218) 9 = .ok (.invokevirtual 149, 3) := by decide +kernel
theorem d_218_12 : decode (js_b 218) 12 = .ok (.iadd, 1) := by decide +kernel
theorem d_218_13 : decode (js_b 218) 13 = .ok (.istore_n 2, 1) := by decide +kernel
theorem d_218_14 : decode (js_b 218) 14 = .ok (.aload_n 0, 1) := by decide +kernel
theorem d_218_15 : decode (js_b 218) 15 = .ok (.iload_n 2, 1) := by decide +kernel
theorem d_218_16 : decode (js_b 218) 16 = .ok (.ifCond .le 7, 3) := by decide +kernel
theorem d_218_19 : decode (js_b 218) 19 = .ok (.iconst 1, 1) := by decide +kernel
theorem d_218_20 : decode (js_b 218) 20 = .ok (.goto 4, 3) := by decide +kernel
theorem d_218_23 : decode (js_b 218) 23 = .ok (.iconst 0, 1) := by decide +kernel
theorem d_218_24 : decode (js_b 218) 24 = .ok (.invokevirtual 126, 3) := by decide +kernel
theorem d_218_27 : decode (js_b 218) 27 = .ok (.ifCond .eq 11, 3) := by decide +kernel
theorem d_218_30 : decode (js_b 218) 30 = .ok (.iload_n 1, 1) := by decide +kernel
theorem d_218_31 : decode (js_b 218) 31 = .ok (.i2f, 1) := by decide +kernel
theorem d_218_32 : decode (js_b 218) 32 = .ok (.iload_n 2, 1) := by decide +kernel
theorem d_218_33 : decode (js_b 218) 33 = .ok (.i2f, 1) := by decide +kernel
theorem d_218_34 : decode (js_b 218) 34 = .ok (.fdiv, 1) := by decide +kernel
theorem d_218_35 : decode (js_b 218) 35 = .ok (.goto 4, 3) := by decide +kernel
theorem d_218_38 : decode (js_b 218) 38 = .ok (.fconst 0, 1) := by decide +kernel
theorem d_218_39 : decode (js_b 218) 39 = .ok (.freturn, 1) := by decide +kernel
theorem ki_218_15 : js_Ok 218 15 (o_il 2 16) := js_St.ok (st_iloadn rfl d_218_15)
theorem ki_218_14 : js_Ok 218 14 (o_al 0 15) := js_St.ok (st_aloadn rfl d_218_14)
theorem ki_218_13 : js_Ok 218 13 (o_is 2 14) := js_St.ok (st_istoren rfl (Nat.le_of_ble_eq_true rfl) d_218_13)
theorem ki_218_12 : js_Ok 218 12 (o_b2 (fun x y => x + y) 13) := js_St.ok (st_iadd d_218_12)
theorem ki_218_9 : js_Ok 218 9 (o_cI 157 2 9 12) := ok_cI (site_V kk_218_157 (by decide) kw_1466 kw_1468 ks_46 (fun t ht => by cases ht; exact Or.inl ⟨_, rfl, rfl⟩) d_218_9) rfl
theorem ki_218_8 : js_Ok 218 8 (o_ic (-1) 9) := js_St.ok (st_iconst rfl d_218_8)
theorem ki_218_7 : js_Ok 218 7 (o_al 0 8) := js_St.ok (st_aloadn rfl d_218_7)
theorem ki_218_6 : js_Ok 218 6 (o_il 1 7) := js_St.ok (st_iloadn rfl d_218_6)
theorem ki_218_5 : js_Ok 218 5 (o_is 1 6) := js_St.ok (st_istoren rfl (Nat.le_of_ble_eq_true rfl) d_218_5)
theorem ki_218_2 : js_Ok 218 2 (o_cI 157 2 9 5) := ok_cI (site_V kk_218_157 (by decide) kw_1466 kw_1468 ks_46 (fun t ht => by cases ht; exact Or.inl ⟨_, rfl, rfl⟩) d_218_2) rfl
theorem ki_218_1 : js_Ok 218 1 (o_ic 1 2) := js_St.ok (st_iconst rfl d_218_1)
theorem ki_218_0 : js_Ok 218 0 (o_al 0 1) := js_St.ok (st_aloadn rfl d_218_0)
theorem ki_218_31 : js_Ok 218 31 (o_i2f 32) := js_St.ok (st_i2f d_218_31)
theorem ki_218_30 : js_Ok 218 30 (o_il 1 31) := js_St.ok (st_iloadn rfl d_218_30)
theorem ki_218_27 : js_Ok 218 27 (o_eq 38 30) := js_St.ok (st_ifeq (by decide) d_218_27)
theorem ki_218_24 : js_Ok 218 24 (o_cI 139 2 9 27) := ok_cI (site_V kk_218_139 (by decide) kw_1364 kw_1366 ks_33 (fun t ht => by cases ht; exact Or.inl ⟨_, rfl, rfl⟩) d_218_24) rfl
theorem ki_218_23 : js_Ok 218 23 (o_ic 0 24) := js_St.ok (st_iconst rfl d_218_23)
theorem ki_218_20 : js_Ok 218 20 (o_go 24) := js_St.ok (st_goto (by decide) d_218_20)
theorem ki_218_19 : js_Ok 218 19 (o_ic 1 20) := js_St.ok (st_iconst rfl d_218_19)
theorem ki_218_16 : js_Ok 218 16 (o_le 23 19) := js_St.ok (st_ifle (by decide) d_218_16)
theorem ki_218_39 : js_Ok 218 39 (o_rF) := ok_rF rfl d_218_39
theorem ki_218_38 : js_Ok 218 38 (o_fc FP.fconst0 39) := js_St.ok (st_fconst0 d_218_38)
theorem ki_218_35 : js_Ok 218 35 (o_go 39) := js_St.ok (st_goto (by decide) d_218_35)
theorem ki_218_34 : js_Ok 218 34 (o_F2 FP.fdiv 35) := js_St.ok (st_fdiv d_218_34)
theorem ki_218_33 : js_Ok 218 33 (o_i2f 34) := js_St.ok (st_i2f d_218_33)
theorem ki_218_32 : js_Ok 218 32 (o_il 2 33) := js_St.ok (st_iloadn rfl d_218_32)
theorem d_219_0 : decode (js_b 219) 0 = .ok (.aload_n 0, 1) := by decide +kernel
theorem d_219_1 : decode (js_b 219) 1 = .ok (.invokevirtual 209, 3) := by decide +kernel
theorem d_219_4 : decode (js_b 219) 4 = .ok (.fstore_n 1, 1) := by decide +kernel
theorem d_219_5 : decode (js_b 219) 5 = .ok (.aload_n 0, 1) := by decide +kernel
theorem d_219_6 : decode (js_b 219) 6 = .ok (.getfield 39, 3) := by decide +kernel
theorem d_219_9 : decode (js_b 219) 9 = .ok (.ifCond .le 7, 3) := by decide +kernel
theorem d_219_12 : decode (js_b 219) 12 = .ok (.iconst 0, 1) := by decide +kernel
theorem d_219_13 : decode (js_b 219) 13 = .ok (.goto 7, 3) := by decide +kernel
theorem d_219_16 : decode (js_b 219) 16 = .ok (.fload_n 1, 1) := by decide +kernel
theorem d_219_17 : decode (js_b 219) 17 = .ok (.invokestatic 213, 3) := by decide +kernel
theorem d_219_20 : decode (js_b 219) 20 = .ok (.ireturn, 1) := by decide +kernel
theorem ki_219_13 : js_Ok 219 13 (o_go 20) := js_St.ok (st_goto (by decide) d_219_13)
theorem ki_219_12 : js_Ok 219 12 (o_ic 0 13) := js_St.ok (st_iconst rfl d_219_12)
theorem ki_219_9 : js_Ok 219 9 (o_le 16 12) := js_St.ok (st_ifle (by decide) d_219_9)
theorem ki_219_6 : js_Ok 219 6 (o_gI 8 6 9) := js_St.ok (st_gI js_c8 (by decide) kw_1239 d_219_6)
theorem ki_219_5 : js_Ok 219 5 (o_al 0 6) := js_St.ok (st_aloadn rfl d_219_5)
theorem ki_219_4 : js_Ok 219 4 (o_fs 1 5) := js_St.ok (st_fstoren rfl (Nat.le_of_ble_eq_true rfl) d_219_4)
theorem ki_219_1 : js_Ok 219 1 (o_cF 218 1 9 4) := ok_cF (site_V kk_219_218 (by decide) kw_1628 kw_1621 kw_1622 (fun t ht => by cases ht; exact Or.inl ⟨_, rfl, rfl⟩) d_219_1) rfl
theorem ki_219_0 : js_Ok 219 0 (o_al 0 1) := js_St.ok (st_aloadn rfl d_219_0)
theorem ki_219_20 : js_Ok 219 20 (o_rI) := ok_rI rfl d_219_20
theorem ki_219_17 : js_Ok 219 17 (o_cI 243 1 0 20) := ok_cI (site_S kk_219_243 kw_1629 kw_1630 d_219_17) rfl
theorem ki_219_16 : js_Ok 219 16 (o_fl 1 17) := js_St.ok (st_floadn rfl d_219_16)
theorem d_220_0 : decode (js_b 220) 0 = .ok (.aload_n 0, 1) := by decide +kernel
theorem d_220_1 : decode (js_b 220) 1 = .ok (.iconst 0, 1) := by decide +kernel
theorem d_220_2 : decode (js_b 220) 2 = .ok (.invokevirtual 105, 3) := by decide +kernel
theorem d_220_5 : decode (js_b 220) 5 = .ok (.aload_n 0, 1) := by decide +kernel
theorem d_220_6 : decode (js_b 220) 6 = .ok (.iconst 1, 1) := by decide +kernel
theorem d_220_7 : decode (js_b 220) 7 = .ok (.invokevirtual 105, 3) := by decide +kernel
theorem d_220_10 : decode (js_b 220) 10 = .ok (.isub, 1) := by decide +kernel
theorem d_220_11 : decode (js_b 220) 11 = .ok (.istore_n 1, 1) := by decide +kernel
theorem d_220_12 : decode (js_b 220) 12 = .ok (.aload_n 0, 1) := by decide +kernel
theorem d_220_13 : decode (js_b 220) 13 = .ok (.iload_n 1, 1) := by decide +kernel
theorem d_220_14 : decode (js_b 220) 14 = .ok (.ifCond .le 7, 3) := by decide +kernel
theorem d_220_17 : decode (js_b 220) 17 = .ok (.iconst 1, 1) := by decide +kernel
theorem d_220_18 : decode (js_b 220) 18 = .ok (.goto 4, 3) := by decide +kernel
theorem d_220_21 : decode (js_b 220) 21 = .ok (.iconst 0, 1) := by decide +kernel
theorem d_220_22 : decode (js_b 220) 22 = .ok (.invokevirtual 126, 3) := by decide +kernel
theorem d_220_25 : decode (js_b 220) 25 = .ok (.ifCond .eq 17, 3) := by decide +kernel
theorem d_220_28 : decode (js_b 220) 28 = .ok (.iconst 2, 1) := by decide +kernel
theorem d_220_29 : decode (js_b 220) 29 = .ok (.aload_n 0, 1) := by decide +kernel
theorem d_220_30 : decode (js_b 220) 30 = .ok (.iconst 1, 1) := by decide +kernel
theorem d_220_31 : decode (js_b 220) 31 = .ok (.invokevirtual 149, 3) := by decide +kernel
theorem d_220_34 : decode (js_b 220) 34 = .ok (.imul, 1) := by decide +kernel
theorem d_220_35 : decode (js_b 220) 35 = .ok (.i2d, 1) := by decide +kernel
theorem d_220_36 : decode (js_b 220) 36 = .ok (.iload_n 1, 1) := by decide +kernel
theorem d_220_37 : decode (js_b 220) 37 = .ok (.i2d, 1) := by decide +kernel
theorem d_220_38 : decode (js_b 220) 38 = .ok (.ddiv, 1) := by decide +kernel
theorem d_220_39 : decode (js_b 220) 39 = .ok (.goto 4, 3) := by decide +kernel
theorem d_220_42 : decode (js_b 220) 42 = .ok (.dconst 0, 1) := by decide +kernel
theorem d_220_43 : decode (js_b 220) 43 = .ok (.dreturn, 1) := by decide +kernel
theorem ki_220_14 : js_Ok 220 14 (o_le 21 17) := js_St.ok (st_ifle (by decide) d_220_14)
theorem ki_220_13 : js_Ok 220 13 (o_il 1 14) := js_St.ok (st_iloadn rfl d_220_13)
theorem ki_220_12 : js_Ok 220 12 (o_al 0 13) := js_St.ok (st_aloadn rfl d_220_12)
theorem ki_220_11 : js_Ok 220 11 (o_is 1 12) := js_St.ok (st_istoren rfl (Nat.le_of_ble_eq_true rfl) d_220_11)
theorem ki_220_10 : js_Ok 220 10 (o_b2 (fun x y => x - y) 11) := js_St.ok (st_isub d_220_10)
theorem ki_220_7 : js_Ok 220 7 (o_cI 148 2 9 10) := ok_cI (site_V kk_220_148 (by decide) kw_1312 kw_1314 ks_24 (fun t ht => by cases ht; exact Or.inl ⟨_, rfl, rfl⟩) d_220_7) rfl
theorem ki_220_6 : js_Ok 220 6 (o_ic 1 7) := js_St.ok (st_iconst rfl d_220_6)
theorem ki_220_5 : js_Ok 220 5 (o_al 0 6) := js_St.ok (st_aloadn rfl d_220_5)
theorem ki_220_2 : js_Ok 220 2 (o_cI 148 2 9 5) := ok_cI (site_V kk_220_148 (by decide) kw_1312 kw_1314 ks_24 (fun t ht => by cases ht; exact Or.inl ⟨_, rfl, rfl⟩) d_220_2) rfl
theorem ki_220_1 : js_Ok 220 1 (o_ic 0 2) := js_St.ok (st_iconst rfl d_220_1)
theorem ki_220_0 : js_Ok 220 0 (o_al 0 1) := js_St.ok (st_aloadn rfl d_220_0)
theorem ki_220_31 : js_Ok 220 31 (o_cI 157 2 9 34) := ok_cI (site_V kk_220_157 (by decide) kw_1466 kw_1468 ks_46 (fun t ht => by cases ht; exact Or.inl ⟨_, rfl, rfl⟩) d_220_31) rfl
theorem ki_220_30 : js_Ok 220 30 (o_ic 1 31) := js_St.ok (st_iconst rfl d_220_30)
theorem ki_220_29 : js_Ok 220 29 (o_al 0 30) := js_St.ok (st_aloadn rfl d_220_29)
theorem ki_220_28 : js_Ok 220 28 (o_ic 2 29) := js_St.ok (st_iconst rfl d_220_28)
theorem ki_220_25 : js_Ok 220 25 (o_eq 42 28) := js_St.ok (st_ifeq (by decide) d_220_25)
theorem ki_220_22 : js_Ok 220 22 (o_cI 139 2 9 25) := ok_cI (site_V kk_220_139 (by decide) kw_1364 kw_1366 ks_33 (fun t ht => by cases ht; exact Or.inl ⟨_, rfl, rfl⟩) d_220_22) rfl
theorem ki_220_21 : js_Ok 220 21 (o_ic 0 22) := js_St.ok (st_iconst rfl d_220_21)
theorem ki_220_18 : js_Ok 220 18 (o_go 22) := js_St.ok (st_goto (by decide) d_220_18)
theorem ki_220_17 : js_Ok 220 17 (o_ic 1 18) := js_St.ok (st_iconst rfl d_220_17)
theorem ki_220_43 : js_Ok 220 43 (o_rD) := ok_rD rfl d_220_43
theorem ki_220_42 : js_Ok 220 42 (o_dc FP.dconst0 43) := js_St.ok (st_dconst0 d_220_42)
theorem ki_220_39 : js_Ok 220 39 (o_go 43) := js_St.ok (st_goto (by decide) d_220_39)
theorem ki_220_38 : js_Ok 220 38 (o_D2 FP.ddiv 39) := js_St.ok (st_ddiv d_220_38)
theorem ki_220_37 : js_Ok 220 37 (o_i2d 38) := js_St.ok (st_i2d d_220_37)
theorem ki_220_36 : js_Ok 220 36 (o_il 1 37) := js_St.ok (st_iloadn rfl d_220_36)
theorem ki_220_35 : js_Ok 220 35 (o_i2d 36) := js_St.ok (st_i2d d_220_35)
theorem ki_220_34 : js_Ok 220 34 (o_b2 (fun x y => x * y) 35) := js_St.ok (st_imul d_220_34)
theorem d_221_0 : decode (js_b 221) 0 = .ok (.aload_n 0, 1) := by decide +kernel
theorem d_221_1 : decode (js_b 221) 1 = .ok (.iconst 0, 1) := by decide +kernel
theorem d_221_2 : decode (js_b 221) 2 = .ok (.putfield 39, 3) := by decide +kernel
theorem d_221_5 : decode (js_b 221) 5 = .ok (.iconst 1, 1) := by decide +kernel
theorem d_221_6 : decode (js_b 221) 6 = .ok (.ireturn, 1) := by decide +kernel
theorem ki_221_6 : js_Ok 221 6 (o_rZ) := ok_rZ rfl d_221_6
theorem ki_221_5 : js_Ok 221 5 (o_ic 1 6) := js_St.ok (st_iconst rfl d_221_5)
theorem ki_221_2 : js_Ok 221 2 (o_pI 8 6 5) := js_St.ok (st_pIown js_c8 (by decide) rfl kw_1239 (js_c8.2.2.1 6 (by decide)) d_221_2)
theorem ki_221_1 : js_Ok 221 1 (o_ic 0 2) := js_St.ok (st_iconst rfl d_221_1)
theorem ki_221_0 : js_Ok 221 0 (o_al 0 1) := js_St.ok (st_aloadn rfl d_221_0)
theorem d_222_0 : decode (js_b 222) 0 = .ok (.aload_n 0, 1) := by decide +kernel
theorem d_222_1 : decode (js_b 222) 1 = .ok (.getfield 22, 3) := by decide +kernel
theorem d_222_4 : decode (js_b 222) 4 = .ok (.aload_n 0, 1) := by decide +kernel
theorem d_222_5 : decode (js_b 222) 5 = .ok (.getfield 219, 3) := by decide +kernel
theorem d_222_8 : decode (js_b 222) 8 = .ok (.iload_n 1, 1) := by decide +kernel
theorem d_222_9 : decode (js_b 222) 9 = .ok (.i2c, 1) := by decide +kernel
theorem d_222_10 : decode (js_b 222) 10 = .ok (.castore, 1) := by decide +kernel
theorem d_222_11 : decode (js_b 222) 11 = .ok (.aload_n 0, 1) := by decide +kernel
theorem d_222_12 : decode (js_b 222) 12 = .ok (.dup, 1) := by decide +kernel
theorem d_222_13 : decode (js_b 222) 13 = .ok (.getfield 219, 3) := by decide +kernel
theorem d_222_16 : decode (js_b 222) 16 = .ok (.iconst 1, 1) := by decide +kernel
theorem d_222_17 : decode (js_b 222) 17 = .ok (.iadd, 1) := by decide +kernel
theorem d_222_18 : decode (js_b 222) 18 = .ok (.putfield 219, 3) := by decide +kernel
theorem d_222_21 : decode (js_b 222) 21 = .ok (.return_, 1) := by decide +kernel
theorem ki_222_13 : js_Ok 222 13 (o_gI 8 8 16) := js_St.ok (st_gI js_c8 (by decide) kw_1241 d_222_13)
theorem ki_222_12 : js_Ok 222 12 (o_dup 13) := js_St.ok (st_dup d_222_12)
theorem ki_222_11 : js_Ok 222 11 (o_al 0 12) := js_St.ok (st_aloadn rfl d_222_11)
theorem ki_222_10 : js_Ok 222 10 (o_sC 101 11) := js_St.ok (st_sC d_222_10)
theorem ki_222_9 : js_Ok 222 9 (o_u (fun x => (x.toUInt32 % 65536).toInt32) 10) := js_St.ok (st_i2c d_222_9)
theorem ki_222_8 : js_Ok 222 8 (o_il 1 9) := js_St.ok (st_iloadn rfl d_222_8)
theorem ki_222_5 : js_Ok 222 5 (o_gI 8 8 8) := js_St.ok (st_gI js_c8 (by decide) kw_1241 d_222_5)
theorem ki_222_4 : js_Ok 222 4 (o_al 0 5) := js_St.ok (st_aloadn rfl d_222_4)
theorem ki_222_1 : js_Ok 222 1 (o_gA 8 7 4) := js_St.ok (st_gA js_c8 (by decide) kw_1240 d_222_1)
theorem ki_222_0 : js_Ok 222 0 (o_al 0 1) := js_St.ok (st_aloadn rfl d_222_0)
theorem ki_222_21 : js_Ok 222 21 (o_rV) := ok_rV rfl d_222_21
theorem ki_222_18 : js_Ok 222 18 (o_pI 8 8 21) := js_St.ok (st_pIown js_c8 (by decide) rfl kw_1241 (js_c8.2.2.1 8 (by decide)) d_222_18)
theorem ki_222_17 : js_Ok 222 17 (o_b2 (fun x y => x + y) 18) := js_St.ok (st_iadd d_222_17)
theorem ki_222_16 : js_Ok 222 16 (o_ic 1 17) := js_St.ok (st_iconst rfl d_222_16)
theorem d_223_0 : decode (js_b 223) 0 = .ok (.aload_n 0, 1) := by decide +kernel
theorem d_223_1 : decode (js_b 223) 1 = .ok (.iload_n 1, 1) := by decide +kernel
theorem d_223_2 : decode (js_b 223) 2 = .ok (.iconst 0, 1) := by decide +kernel
theorem d_223_3 : decode (js_b 223) 3 = .ok (.bipush 7, 2) := by decide +kernel
theorem d_223_5 : decode (js_b 223) 5 = .ok (.invokestatic 69, 3) := by decide +kernel
theorem d_223_8 : decode (js_b 223) 8 = .ok (.invokevirtual 126, 3) := by decide +kernel
theorem d_223_11 : decode (js_b 223) 11 = .ok (.ifCond .ne 5, 3) := by decide +kernel
theorem d_223_14 : decode (js_b 223) 14 = .ok (.iconst 0, 1) := by decide +kernel
theorem d_223_15 : decode (js_b 223) 15 = .ok (.ireturn, 1) := by decide +kernel
theorem d_223_16 : decode (js_b 223) 16 = .ok (.aload_n 0, 1) := by decide +kernel
theorem d_223_17 : decode (js_b 223) 17 = .ok (.iconst 0, 1) := by decide +kernel
theorem d_223_18 : decode (js_b 223) 18 = .ok (.putfield 219, 3) := by decide +kernel
theorem d_223_21 : decode (js_b 223) 21 = .ok (.bipush 8, 2) := by decide +kernel
theorem d_223_23 : decode (js_b 223) 23 = .ok (.iload_n 1, 1) := by decide +kernel
theorem d_223_24 : decode (js_b 223) 24 = .ok (.imul, 1) := by decide +kernel
theorem d_223_25 : decode (js_b 223) 25 = .ok (.istore_n 2, 1) := by decide +kernel
theorem d_223_26 : decode (js_b 223) 26 = .ok (.iload_n 2, 1) := by decide +kernel
theorem d_223_27 : decode (js_b 223) 27 = .ok (.bipush 8, 2) := by decide +kernel
theorem d_223_29 : decode (js_b 223) 29 = .ok (.iload_n 1, 1) := by decide +kernel
theorem d_223_30 : decode (js_b 223) 30 = .ok (.imul, 1) := by decide +kernel
theorem d_223_31 : decode (js_b 223) 31 = .ok (.bipush 8, 2) := by decide +kernel
theorem d_223_33 : decode (js_b 223) 33 = .ok (.iadd, 1) := by decide +kernel
theorem d_223_34 : decode (js_b 223) 34 = .ok (.if_icmp .ge 54, 3) := by decide +kernel
theorem d_223_37 : decode (js_b 223) 37 = .ok (.aload_n 0, 1) := by decide +kernel
theorem d_223_38 : decode (js_b 223) 38 = .ok (.getfield 9, 3) := by decide +kernel
theorem d_223_41 : decode (js_b 223) 41 = .ok (.sipush 161, 3) := by decide +kernel
theorem d_223_44 : decode (js_b 223) 44 = .ok (.iload_n 2, 1) := by decide +kernel
theorem d_223_45 : decode (js_b 223) 45 = .ok (.iadd, 1) := by decide +kernel
theorem d_223_46 : decode (js_b 223) 46 = .ok (.iaload, 1) := by decide +kernel
theorem d_223_47 : decode (js_b 223) 47 = .ok (.iconst 1, 1) := by decide +kernel
theorem d_223_48 : decode (js_b 223) 48 = .ok (.isub, 1) := by decide +kernel
theorem d_223_49 : decode (js_b 223) 49 = .ok (.istore_n 3, 1) := by decide +kernel
theorem d_223_50 : decode (js_b 223) 50 = .ok (.aload_n 0, 1) := by decide +kernel
theorem d_223_51 : decode (js_b 223) 51 = .ok (.iload_n 3, 1) := by decide +kernel
theorem d_223_52 : decode (js_b 223) 52 = .ok (.ifCond .lt 12, 3) := by decide +kernel
theorem d_223_55 : decode (js_b 223) 55 = .ok (.aload_n 0, 1) := by decide +kernel
theorem d_223_56 : decode (js_b 223) 56 = .ok (.iload_n 3, 1) := by decide +kernel
theorem d_223_57 : decode (js_b 223) 57 = .ok (.iconst 1, 1) := by decide +kernel
theorem d_223_58 : decode (js_b 223) 58 = .ok (.invokevirtual 51, 3) := by decide +kernel
theorem d_223_61 : decode (js_b 223) 61 = .ok (.goto 18, 3) := by decide +kernel
theorem d_223_64 : decode (js_b 223) 64 = .ok (.aload_n 0, 1) := by decide +kernel
theorem d_223_65 : decode (js_b 223) 65 = .ok (.iload_n 2, 1) := by decide +kernel
theorem d_223_66 : decode (js_b 223) 66 = .ok (.invokevirtual 167, 3) := by decide +kernel
theorem d_223_69 : decode (js_b 223) 69 = .ok (.ifCond .eq 8, 3) := by decide +kernel
theorem d_223_72 : decode (js_b 223) 72 = .ok (.bipush 43, 2) := by decide +kernel
theorem d_223_74 : decode (js_b 223) 74 = .ok (.goto 5, 3) := by decide +kernel
theorem d_223_77 : decode (js_b 223) 77 = .ok (.bipush 46, 2) := by decide +kernel
theorem d_223_79 : decode (js_b 223) 79 = .ok (.invokevirtual 222, 3) := by decide +kernel
theorem d_223_82 : decode (js_b 223) 82 = .ok (.iinc 2 1, 3) := by decide +kernel
theorem d_223_85 : decode (js_b 223) 85 = .ok (.goto (-59), 3) := by decide +kernel
theorem d_223_88 : decode (js_b 223) 88 = .ok (.aload_n 0, 1) := by decide +kernel
theorem d_223_89 : decode (js_b 223) 89 = .ok (.getfield 219, 3) := by decide +kernel
theorem d_223_92 : decode (js_b 223) 92 = .ok (.ireturn, 1) := by decide +kernel
theorem ki_223_15 : js_Ok 223 15 (o_rI) := ok_rI rfl d_223_15
theorem ki_223_14 : js_Ok 223 14 (o_ic 0 15) := js_St.ok (st_iconst rfl d_223_14)
theorem ki_223_11 : js_Ok 223 11 (o_ne 16 14) := js_St.ok (st_ifne (by decide) d_223_11)
theorem ki_223_8 : js_Ok 223 8 (o_cI 139 2 9 11) := ok_cI (site_V kk_223_139 (by decide) kw_1364 kw_1366 ks_33 (fun t ht => by cases ht; exact Or.inl ⟨_, rfl, rfl⟩) d_223_8) rfl
theorem ki_223_5 : js_Ok 223 5 (o_cI 135 3 0 8) := ok_cI (site_S kk_223_135 kw_1302 kw_1303 d_223_5) rfl
theorem ki_223_3 : js_Ok 223 3 (o_ic 7 5) := js_St.ok (st_bipush rfl d_223_3)
theorem ki_223_2 : js_Ok 223 2 (o_ic 0 3) := js_St.ok (st_iconst rfl d_223_2)
theorem ki_223_1 : js_Ok 223 1 (o_il 1 2) := js_St.ok (st_iloadn rfl d_223_1)
theorem ki_223_0 : js_Ok 223 0 (o_al 0 1) := js_St.ok (st_aloadn rfl d_223_0)
theorem ki_223_31 : js_Ok 223 31 (o_ic 8 33) := js_St.ok (st_bipush rfl d_223_31)
theorem ki_223_30 : js_Ok 223 30 (o_b2 (fun x y => x * y) 31) := js_St.ok (st_imul d_223_30)
theorem ki_223_29 : js_Ok 223 29 (o_il 1 30) := js_St.ok (st_iloadn rfl d_223_29)
theorem ki_223_27 : js_Ok 223 27 (o_ic 8 29) := js_St.ok (st_bipush rfl d_223_27)
theorem ki_223_26 : js_Ok 223 26 (o_il 2 27) := js_St.ok (st_iloadn rfl d_223_26)
theorem ki_223_25 : js_Ok 223 25 (o_is 2 26) := js_St.ok (st_istoren rfl (Nat.le_of_ble_eq_true rfl) d_223_25)
theorem ki_223_24 : js_Ok 223 24 (o_b2 (fun x y => x * y) 25) := js_St.ok (st_imul d_223_24)
theorem ki_223_23 : js_Ok 223 23 (o_il 1 24) := js_St.ok (st_iloadn rfl d_223_23)
theorem ki_223_21 : js_Ok 223 21 (o_ic 8 23) := js_St.ok (st_bipush rfl d_223_21)
theorem ki_223_18 : js_Ok 223 18 (o_pI 8 8 21) := js_St.ok (st_pIown js_c8 (by decide) rfl kw_1241 (js_c8.2.2.1 8 (by decide)) d_223_18)
theorem ki_223_17 : js_Ok 223 17 (o_ic 0 18) := js_St.ok (st_iconst rfl d_223_17)
theorem ki_223_16 : js_Ok 223 16 (o_al 0 17) := js_St.ok (st_aloadn rfl d_223_16)
theorem ki_223_47 : js_Ok 223 47 (o_ic 1 48) := js_St.ok (st_iconst rfl d_223_47)
theorem ki_223_46 : js_Ok 223 46 (o_lI 100 47) := js_St.ok (st_lI d_223_46)
theorem ki_223_45 : js_Ok 223 45 (o_b2 (fun x y => x + y) 46) := js_St.ok (st_iadd d_223_45)
theorem ki_223_44 : js_Ok 223 44 (o_il 2 45) := js_St.ok (st_iloadn rfl d_223_44)
theorem ki_223_41 : js_Ok 223 41 (o_ic 161 44) := js_St.ok (st_sipush rfl d_223_41)
theorem ki_223_38 : js_Ok 223 38 (o_gA 8 0 41) := js_St.ok (st_gA js_c8 (by decide) kw_1233 d_223_38)
theorem ki_223_37 : js_Ok 223 37 (o_al 0 38) := js_St.ok (st_aloadn rfl d_223_37)
theorem ki_223_34 : js_Ok 223 34 (o_cge 88 37) := js_St.ok (st_icge (by decide) d_223_34)
theorem ki_223_33 : js_Ok 223 33 (o_b2 (fun x y => x + y) 34) := js_St.ok (st_iadd d_223_33)
theorem ki_223_61 : js_Ok 223 61 (o_go 79) := js_St.ok (st_goto (by decide) d_223_61)
theorem ki_223_58 : js_Ok 223 58 (o_cI 140 3 9 61) := ok_cI (site_V kk_223_140 (by decide) kw_1324 kw_1326 ks_27 (fun t ht => by cases ht; exact Or.inl ⟨_, rfl, rfl⟩) d_223_58) rfl
theorem ki_223_57 : js_Ok 223 57 (o_ic 1 58) := js_St.ok (st_iconst rfl d_223_57)
theorem ki_223_56 : js_Ok 223 56 (o_il 3 57) := js_St.ok (st_iloadn rfl d_223_56)
theorem ki_223_55 : js_Ok 223 55 (o_al 0 56) := js_St.ok (st_aloadn rfl d_223_55)
theorem ki_223_52 : js_Ok 223 52 (o_lt 64 55) := js_St.ok (st_iflt (by decide) d_223_52)
theorem ki_223_51 : js_Ok 223 51 (o_il 3 52) := js_St.ok (st_iloadn rfl d_223_51)
theorem ki_223_50 : js_Ok 223 50 (o_al 0 51) := js_St.ok (st_aloadn rfl d_223_50)
theorem ki_223_49 : js_Ok 223 49 (o_is 3 50) := js_St.ok (st_istoren rfl (Nat.le_of_ble_eq_true rfl) d_223_49)
theorem ki_223_48 : js_Ok 223 48 (o_b2 (fun x y => x - y) 49) := js_St.ok (st_isub d_223_48)
theorem ki_223_79 : js_Ok 223 79 (o_cV 222 2 9 82) := ok_cV (site_V kk_223_222 (by decide) kw_1651 kw_1653 ks_60 (fun t ht => by cases ht; exact Or.inl ⟨_, rfl, rfl⟩) d_223_79) rfl
theorem ki_223_77 : js_Ok 223 77 (o_ic 46 79) := js_St.ok (st_bipush rfl d_223_77)
theorem ki_223_74 : js_Ok 223 74 (o_go 79) := js_St.ok (st_goto (by decide) d_223_74)
theorem ki_223_72 : js_Ok 223 72 (o_ic 43 74) := js_St.ok (st_bipush rfl d_223_72)
theorem ki_223_69 : js_Ok 223 69 (o_eq 77 72) := js_St.ok (st_ifeq (by decide) d_223_69)
theorem ki_223_66 : js_Ok 223 66 (o_cI 159 2 9 69) := ok_cI (site_V kk_223_159 (by decide) kw_1482 kw_1484 ks_49 (fun t ht => by cases ht; exact Or.inl ⟨_, rfl, rfl⟩) d_223_66) rfl
theorem ki_223_65 : js_Ok 223 65 (o_il 2 66) := js_St.ok (st_iloadn rfl d_223_65)
theorem ki_223_64 : js_Ok 223 64 (o_al 0 65) := js_St.ok (st_aloadn rfl d_223_64)
theorem ki_223_92 : js_Ok 223 92 (o_rI) := ok_rI rfl d_223_92
theorem ki_223_89 : js_Ok 223 89 (o_gI 8 8 92) := js_St.ok (st_gI js_c8 (by decide) kw_1241 d_223_89)
theorem ki_223_88 : js_Ok 223 88 (o_al 0 89) := js_St.ok (st_aloadn rfl d_223_88)
theorem ki_223_85 : js_Ok 223 85 (o_go 26) := js_St.ok (st_goto (by decide) d_223_85)
theorem ki_223_82 : js_Ok 223 82 (o_inc 2 1 85) := js_St.ok (st_iinc rfl (Nat.le_of_ble_eq_true rfl) d_223_82)
theorem d_224_0 : decode (js_b 224) 0 = .ok (.aload_n 0, 1) := by decide +kernel
theorem d_224_1 : decode (js_b 224) 1 = .ok (.iload_n 1, 1) := by decide +kernel
theorem d_224_2 : decode (js_b 224) 2 = .ok (.invokevirtual 55, 3) := by decide +kernel
theorem d_224_5 : decode (js_b 224) 5 = .ok (.istore_n 2, 1) := by decide +kernel
theorem d_224_6 : decode (js_b 224) 6 = .ok (.aload_n 0, 1) := by decide +kernel
theorem d_224_7 : decode (js_b 224) 7 = .ok (.iload_n 2, 1) := by decide +kernel
theorem d_224_8 : decode (js_b 224) 8 = .ok (.ifCond .lt 7, 3) := by decide +kernel
theorem d_224_11 : decode (js_b 224) 11 = .ok (.iconst 1, 1) := by decide +kernel
theorem d_224_12 : decode (js_b 224) 12 = .ok (.goto 4, 3) := by decide +kernel
theorem d_224_15 : decode (js_b 224) 15 = .ok (.iconst 0, 1) := by decide +kernel
theorem d_224_16 : decode (js_b 224) 16 = .ok (.invokevirtual 126, 3) := by decide +kernel
theorem d_224_19 : decode (js_b 224) 19 = .ok (.ifCond .ne 5, 3) := by decide +kernel
theorem d_224_22 : decode (js_b 224) 22 = .ok (.iconst 0, 1) := by decide +kernel
theorem d_224_23 : decode (js_b 224) 23 = .ok (.ireturn, 1) := by decide +kernel
theorem d_224_24 : decode (js_b 224) 24 = .ok (.aload_n 0, 1) := by decide +kernel
theorem d_224_25 : decode (js_b 224) 25 = .ok (.iconst 0, 1) := by decide +kernel
theorem d_224_26 : decode (js_b 224) 26 = .ok (.putfield 219, 3) := by decide +kernel
theorem d_224_29 : decode (js_b 224) 29 = .ok (.aload_n 0, 1) := by decide +kernel
theorem d_224_30 : decode (js_b 224) 30 = .ok (.aload_n 0, 1) := by decide +kernel
theorem d_224_31 : decode (js_b 224) 31 = .ok (.iload_n 2, 1) := by decide +kernel
theorem d_224_32 : decode (js_b 224) 32 = .ok (.iconst 1, 1) := by decide +kernel
theorem d_224_33 : decode (js_b 224) 33 = .ok (.invokevirtual 51, 3) := by decide +kernel
theorem d_224_36 : decode (js_b 224) 36 = .ok (.invokevirtual 222, 3) := by decide +kernel
theorem d_224_39 : decode (js_b 224) 39 = .ok (.iconst 0, 1) := by decide +kernel
theorem d_224_40 : decode (js_b 224) 40 = .ok (.istore_n 3, 1) := by decide +kernel
theorem d_224_41 : decode (js_b 224) 41 = .ok (.iload_n 3, 1) := by decide +kernel
theorem d_224_42 : decode (js_b 224) 42 = .ok (.iconst 4, 1) := by decide +kernel
theorem d_224_43 : decode (js_b 224) 43 = .ok (.if_icmp .ge 51, 3) := by decide +kernel
theorem d_224_46 : decode (js_b 224) 46 = .ok (.aload_n 0, 1) := by decide +kernel
theorem d_224_47 : decode (js_b 224) 47 = .ok (.iload_n 2, 1) := by decide +kernel
theorem d_224_48 : decode (js_b 224) 48 = .ok (.iload_n 3, 1) := by decide +kernel
theorem d_224_49 : decode (js_b 224) 49 = .ok (.aload_n 0, 1) := by decide +kernel
theorem d_224_50 : decode (js_b 224) 50 = .ok (.iload_n 2, 1) := by decide +kernel
theorem d_224_51 : decode (js_b 224) 51 = .ok (.bipush 6, 2) := by decide +kernel
theorem d_224_53 : decode (js_b 224) 53 = .ok (.invokevirtual 51, 3) := by decide +kernel
theorem d_224_56 : decode (js_b 224) 56 = .ok (.invokevirtual 83, 3) := by decide +kernel
theorem d_224_59 : decode (js_b 224) 59 = .ok (.istore 4, 2) := by decide +kernel
theorem d_224_61 : decode (js_b 224) 61 = .ok (.aload_n 0, 1) := by decide +kernel
theorem d_224_62 : decode (js_b 224) 62 = .ok (.iload 4, 2) := by decide +kernel
theorem d_224_64 : decode (js_b 224) 64 = .ok (.bipush 10, 2) := by decide +kernel
theorem d_224_66 : decode (js_b 224) 66 = .ok (.if_icmp .ge 11, 3) := by decide +kernel
theorem d_224_69 : decode (js_b 224) 69 = .ok (.bipush 48, 2) := by decide +kernel
theorem d_224_71 : decode (js_b 224) 71 = .ok (.iload 4, 2) := by decide +kernel
theorem d_224_73 : decode (js_b 224) 73 = .ok (.iadd, 1) := by decide +kernel
theorem d_224_74 : decode (js_b 224) 74 = .ok (.goto 11, 3) := by decide +kernel
theorem d_224_77 : decode (js_b 224) 77 = .ok (.bipush 97, 2) := by decide +kernel
theorem d_224_79 : decode (js_b 224) 79 = .ok (.iload 4, 2) := by decide +kernel
theorem d_224_81 : decode (js_b 224) 81 = .ok (.iadd, 1) := by decide +kernel
theorem d_224_82 : decode (js_b 224) 82 = .ok (.bipush 10, 2) := by decide +kernel
theorem d_224_84 : decode (js_b 224) 84 = .ok (.isub, 1) := by decide +kernel
theorem d_224_85 : decode (js_b 224) 85 = .ok (.invokevirtual 222, 3) := by decide +kernel
theorem d_224_88 : decode (js_b 224) 88 = .ok (.iinc 3 1, 3) := by decide +kernel
theorem d_224_91 : decode (js_b 224) 91 = .ok (.goto (-50), 3) := by decide +kernel
theorem d_224_94 : decode (js_b 224) 94 = .ok (.aload_n 0, 1) := by decide +kernel
theorem d_224_95 : decode (js_b 224) 95 = .ok (.iload_n 2, 1) := by decide +kernel
theorem d_224_96 : decode (js_b 224) 96 = .ok (.invokevirtual 59, 3) := by decide +kernel
theorem d_224_99 : decode (js_b 224) 99 = .ok (.ifCond .eq 41, 3) := by decide +kernel
theorem d_224_102 : decode (js_b 224) 102 = .ok (.aload_n 0, 1) := by decide +kernel
theorem d_224_103 : decode (js_b 224) 103 = .ok (.iload_n 2, 1) := by decide +kernel
theorem d_224_104 : decode (js_b 224) 104 = .ok (.bipush 7, 2) := by decide +kernel
theorem d_224_106 : decode (js_b 224) 106 = .ok (.invokevirtual 51, 3) := by decide +kernel
theorem d_224_109 : decode (js_b 224) 109 = .ok (.iconst 1, 1) := by decide +kernel
theorem d_224_110 : decode (js_b 224) 110 = .ok (.isub, 1) := by decide +kernel
theorem d_224_111 : decode (js_b 224) 111 = .ok (.istore_n 3, 1) := by decide +kernel
theorem d_224_112 : decode (js_b 224) 112 = .ok (.aload_n 0, 1) := by decide +kernel
theorem d_224_113 : decode (js_b 224) 113 = .ok (.bipush 64, 2) := by decide +kernel
theorem d_224_115 : decode (js_b 224) 115 = .ok (.invokevirtual 222, 3) := by decide +kernel
theorem d_224_118 : decode (js_b 224) 118 = .ok (.aload_n 0, 1) := by decide +kernel
theorem d_224_119 : decode (js_b 224) 119 = .ok (.bipush 48, 2) := by decide +kernel
theorem d_224_121 : decode (js_b 224) 121 = .ok (.iload_n 3, 1) := by decide +kernel
theorem d_224_122 : decode (js_b 224) 122 = .ok (.bipush 8, 2) := by decide +kernel
theorem d_224_124 : decode (js_b 224) 124 = .ok (.idiv, 1) := by decide +kernel
theorem d_224_125 : decode (js_b 224) 125 = .ok (.iadd, 1) := by decide +kernel
theorem d_224_126 : decode (js_b 224) 126 = .ok (.invokevirtual 222, 3) := by decide +kernel
theorem d_224_129 : decode (js_b 224) 129 = .ok (.aload_n 0, 1) := by decide +kernel
theorem d_224_130 : decode (js_b 224) 130 = .ok (.bipush 48, 2) := by decide +kernel
theorem d_224_132 : decode (js_b 224) 132 = .ok (.iload_n 3, 1) := by decide +kernel
theorem d_224_133 : decode (js_b 224) 133 = .ok (.bipush 8, 2) := by decide +kernel
theorem d_224_135 : decode (js_b 224) 135 = .ok (.irem, 1) := by decide +kernel
theorem d_224_136 : decode (js_b 224) 136 = .ok (.iadd, 1) := by decide +kernel
theorem d_224_137 : decode (js_b 224) 137 = .ok (.invokevirtual 222, 3) := by decide +kernel
theorem d_224_140 : decode (js_b 224) 140 = .ok (.aload_n 0, 1) := by decide +kernel
theorem d_224_141 : decode (js_b 224) 141 = .ok (.getfield 219, 3) := by decide +kernel
theorem d_224_144 : decode (js_b 224) 144 = .ok (.ireturn, 1) := by decide +kernel
theorem ki_224_15 : js_Ok 224 15 (o_ic 0 16) := js_St.ok (st_iconst rfl d_224_15)
theorem ki_224_12 : js_Ok 224 12 (o_go 16) := js_St.ok (st_goto (by decide) d_224_12)
theorem ki_224_11 : js_Ok 224 11 (o_ic 1 12) := js_St.ok (st_iconst rfl d_224_11)
theorem ki_224_8 : js_Ok 224 8 (o_lt 15 11) := js_St.ok (st_iflt (by decide) d_224_8)
theorem ki_224_7 : js_Ok 224 7 (o_il 2 8) := js_St.ok (st_iloadn rfl d_224_7)
theorem ki_224_6 : js_Ok 224 6 (o_al 0 7) := js_St.ok (st_aloadn rfl d_224_6)
theorem ki_224_5 : js_Ok 224 5 (o_is 2 6) := js_St.ok (st_istoren rfl (Nat.le_of_ble_eq_true rfl) d_224_5)
theorem ki_224_2 : js_Ok 224 2 (o_cI 144 2 9 5) := ok_cI (site_V kk_224_144 (by decide) kw_1348 kw_1350 ks_32 (fun t ht => by cases ht; exact Or.inl ⟨_, rfl, rfl⟩) d_224_2) rfl
theorem ki_224_1 : js_Ok 224 1 (o_il 1 2) := js_St.ok (st_iloadn rfl d_224_1)
theorem ki_224_0 : js_Ok 224 0 (o_al 0 1) := js_St.ok (st_aloadn rfl d_224_0)
theorem ki_224_31 : js_Ok 224 31 (o_il 2 32) := js_St.ok (st_iloadn rfl d_224_31)
theorem ki_224_30 : js_Ok 224 30 (o_al 0 31) := js_St.ok (st_aloadn rfl d_224_30)
theorem ki_224_29 : js_Ok 224 29 (o_al 0 30) := js_St.ok (st_aloadn rfl d_224_29)
theorem ki_224_26 : js_Ok 224 26 (o_pI 8 8 29) := js_St.ok (st_pIown js_c8 (by decide) rfl kw_1241 (js_c8.2.2.1 8 (by decide)) d_224_26)
theorem ki_224_25 : js_Ok 224 25 (o_ic 0 26) := js_St.ok (st_iconst rfl d_224_25)
theorem ki_224_24 : js_Ok 224 24 (o_al 0 25) := js_St.ok (st_aloadn rfl d_224_24)
theorem ki_224_23 : js_Ok 224 23 (o_rI) := ok_rI rfl d_224_23
theorem ki_224_22 : js_Ok 224 22 (o_ic 0 23) := js_St.ok (st_iconst rfl d_224_22)
theorem ki_224_19 : js_Ok 224 19 (o_ne 24 22) := js_St.ok (st_ifne (by decide) d_224_19)
theorem ki_224_16 : js_Ok 224 16 (o_cI 139 2 9 19) := ok_cI (site_V kk_224_139 (by decide) kw_1364 kw_1366 ks_33 (fun t ht => by cases ht; exact Or.inl ⟨_, rfl, rfl⟩) d_224_16) rfl
theorem ki_224_47 : js_Ok 224 47 (o_il 2 48) := js_St.ok (st_iloadn rfl d_224_47)
theorem ki_224_46 : js_Ok 224 46 (o_al 0 47) := js_St.ok (st_aloadn rfl d_224_46)
theorem ki_224_43 : js_Ok 224 43 (o_cge 94 46) := js_St.ok (st_icge (by decide) d_224_43)
theorem ki_224_42 : js_Ok 224 42 (o_ic 4 43) := js_St.ok (st_iconst rfl d_224_42)
theorem ki_224_41 : js_Ok 224 41 (o_il 3 42) := js_St.ok (st_iloadn rfl d_224_41)
theorem ki_224_40 : js_Ok 224 40 (o_is 3 41) := js_St.ok (st_istoren rfl (Nat.le_of_ble_eq_true rfl) d_224_40)
theorem ki_224_39 : js_Ok 224 39 (o_ic 0 40) := js_St.ok (st_iconst rfl d_224_39)
theorem ki_224_36 : js_Ok 224 36 (o_cV 222 2 9 39) := ok_cV (site_V kk_224_222 (by decide) kw_1651 kw_1653 ks_60 (fun t ht => by cases ht; exact Or.inl ⟨_, rfl, rfl⟩) d_224_36) rfl
theorem ki_224_33 : js_Ok 224 33 (o_cI 140 3 9 36) := ok_cI (site_V kk_224_140 (by decide) kw_1324 kw_1326 ks_27 (fun t ht => by cases ht; exact Or.inl ⟨_, rfl, rfl⟩) d_224_33) rfl
theorem ki_224_32 : js_Ok 224 32 (o_ic 1 33) := js_St.ok (st_iconst rfl d_224_32)
theorem ki_224_62 : js_Ok 224 62 (o_il 4 64) := js_St.ok (st_iload d_224_62)
theorem ki_224_61 : js_Ok 224 61 (o_al 0 62) := js_St.ok (st_aloadn rfl d_224_61)
theorem ki_224_59 : js_Ok 224 59 (o_is 4 61) := js_St.ok (st_istore (Nat.le_of_ble_eq_true rfl) d_224_59)
theorem ki_224_56 : js_Ok 224 56 (o_cI 153 4 9 59) := ok_cI (site_V kk_224_153 (by decide) kw_1388 kw_1390 ks_35 (fun t ht => by cases ht; exact Or.inl ⟨_, rfl, rfl⟩) d_224_56) rfl
theorem ki_224_53 : js_Ok 224 53 (o_cI 140 3 9 56) := ok_cI (site_V kk_224_140 (by decide) kw_1324 kw_1326 ks_27 (fun t ht => by cases ht; exact Or.inl ⟨_, rfl, rfl⟩) d_224_53) rfl
theorem ki_224_51 : js_Ok 224 51 (o_ic 6 53) := js_St.ok (st_bipush rfl d_224_51)
theorem ki_224_50 : js_Ok 224 50 (o_il 2 51) := js_St.ok (st_iloadn rfl d_224_50)
theorem ki_224_49 : js_Ok 224 49 (o_al 0 50) := js_St.ok (st_aloadn rfl d_224_49)
theorem ki_224_48 : js_Ok 224 48 (o_il 3 49) := js_St.ok (st_iloadn rfl d_224_48)
theorem ki_224_79 : js_Ok 224 79 (o_il 4 81) := js_St.ok (st_iload d_224_79)
theorem ki_224_77 : js_Ok 224 77 (o_ic 97 79) := js_St.ok (st_bipush rfl d_224_77)
theorem ki_224_74 : js_Ok 224 74 (o_go 85) := js_St.ok (st_goto (by decide) d_224_74)
theorem ki_224_73 : js_Ok 224 73 (o_b2 (fun x y => x + y) 74) := js_St.ok (st_iadd d_224_73)
theorem ki_224_71 : js_Ok 224 71 (o_il 4 73) := js_St.ok (st_iload d_224_71)
theorem ki_224_69 : js_Ok 224 69 (o_ic 48 71) := js_St.ok (st_bipush rfl d_224_69)
theorem ki_224_66 : js_Ok 224 66 (o_cge 77 69) := js_St.ok (st_icge (by decide) d_224_66)
theorem ki_224_64 : js_Ok 224 64 (o_ic 10 66) := js_St.ok (st_bipush rfl d_224_64)
theorem ki_224_95 : js_Ok 224 95 (o_il 2 96) := js_St.ok (st_iloadn rfl d_224_95)
theorem ki_224_94 : js_Ok 224 94 (o_al 0 95) := js_St.ok (st_aloadn rfl d_224_94)
theorem ki_224_91 : js_Ok 224 91 (o_go 41) := js_St.ok (st_goto (by decide) d_224_91)
theorem ki_224_88 : js_Ok 224 88 (o_inc 3 1 91) := js_St.ok (st_iinc rfl (Nat.le_of_ble_eq_true rfl) d_224_88)
theorem ki_224_85 : js_Ok 224 85 (o_cV 222 2 9 88) := ok_cV (site_V kk_224_222 (by decide) kw_1651 kw_1653 ks_60 (fun t ht => by cases ht; exact Or.inl ⟨_, rfl, rfl⟩) d_224_85) rfl
theorem ki_224_84 : js_Ok 224 84 (o_b2 (fun x y => x - y) 85) := js_St.ok (st_isub d_224_84)
theorem ki_224_82 : js_Ok 224 82 (o_ic 10 84) := js_St.ok (st_bipush rfl d_224_82)
theorem ki_224_81 : js_Ok 224 81 (o_b2 (fun x y => x + y) 82) := js_St.ok (st_iadd d_224_81)
theorem ki_224_111 : js_Ok 224 111 (o_is 3 112) := js_St.ok (st_istoren rfl (Nat.le_of_ble_eq_true rfl) d_224_111)
theorem ki_224_110 : js_Ok 224 110 (o_b2 (fun x y => x - y) 111) := js_St.ok (st_isub d_224_110)
theorem ki_224_109 : js_Ok 224 109 (o_ic 1 110) := js_St.ok (st_iconst rfl d_224_109)
theorem ki_224_106 : js_Ok 224 106 (o_cI 140 3 9 109) := ok_cI (site_V kk_224_140 (by decide) kw_1324 kw_1326 ks_27 (fun t ht => by cases ht; exact Or.inl ⟨_, rfl, rfl⟩) d_224_106) rfl
theorem ki_224_104 : js_Ok 224 104 (o_ic 7 106) := js_St.ok (st_bipush rfl d_224_104)
theorem ki_224_103 : js_Ok 224 103 (o_il 2 104) := js_St.ok (st_iloadn rfl d_224_103)
theorem ki_224_102 : js_Ok 224 102 (o_al 0 103) := js_St.ok (st_aloadn rfl d_224_102)
theorem ki_224_99 : js_Ok 224 99 (o_eq 140 102) := js_St.ok (st_ifeq (by decide) d_224_99)
theorem ki_224_96 : js_Ok 224 96 (o_cI 145 2 9 99) := ok_cI (site_V kk_224_145 (by decide) kw_1328 kw_1330 ks_28 (fun t ht => by cases ht; exact Or.inl ⟨_, rfl, rfl⟩) d_224_96) rfl
theorem ki_224_126 : js_Ok 224 126 (o_cV 222 2 9 129) := ok_cV (site_V kk_224_222 (by decide) kw_1651 kw_1653 ks_60 (fun t ht => by cases ht; exact Or.inl ⟨_, rfl, rfl⟩) d_224_126) rfl
theorem ki_224_125 : js_Ok 224 125 (o_b2 (fun x y => x + y) 126) := js_St.ok (st_iadd d_224_125)
theorem ki_224_124 : js_Ok 224 124 (o_div 125) := js_St.ok (st_idiv d_224_124)
theorem ki_224_122 : js_Ok 224 122 (o_ic 8 124) := js_St.ok (st_bipush rfl d_224_122)
theorem ki_224_121 : js_Ok 224 121 (o_il 3 122) := js_St.ok (st_iloadn rfl d_224_121)
theorem ki_224_119 : js_Ok 224 119 (o_ic 48 121) := js_St.ok (st_bipush rfl d_224_119)
theorem ki_224_118 : js_Ok 224 118 (o_al 0 119) := js_St.ok (st_aloadn rfl d_224_118)
theorem ki_224_115 : js_Ok 224 115 (o_cV 222 2 9 118) := ok_cV (site_V kk_224_222 (by decide) kw_1651 kw_1653 ks_60 (fun t ht => by cases ht; exact Or.inl ⟨_, rfl, rfl⟩) d_224_115) rfl
theorem ki_224_113 : js_Ok 224 113 (o_ic 64 115) := js_St.ok (st_bipush rfl d_224_113)
theorem ki_224_112 : js_Ok 224 112 (o_al 0 113) := js_St.ok (st_aloadn rfl d_224_112)
theorem ki_224_141 : js_Ok 224 141 (o_gI 8 8 144) := js_St.ok (st_gI js_c8 (by decide) kw_1241 d_224_141)
theorem ki_224_140 : js_Ok 224 140 (o_al 0 141) := js_St.ok (st_aloadn rfl d_224_140)
theorem ki_224_137 : js_Ok 224 137 (o_cV 222 2 9 140) := ok_cV (site_V kk_224_222 (by decide) kw_1651 kw_1653 ks_60 (fun t ht => by cases ht; exact Or.inl ⟨_, rfl, rfl⟩) d_224_137) rfl
theorem ki_224_136 : js_Ok 224 136 (o_b2 (fun x y => x + y) 137) := js_St.ok (st_iadd d_224_136)
theorem ki_224_135 : js_Ok 224 135 (o_rem 136) := js_St.ok (st_irem d_224_135)
theorem ki_224_133 : js_Ok 224 133 (o_ic 8 135) := js_St.ok (st_bipush rfl d_224_133)
theorem ki_224_132 : js_Ok 224 132 (o_il 3 133) := js_St.ok (st_iloadn rfl d_224_132)
theorem ki_224_130 : js_Ok 224 130 (o_ic 48 132) := js_St.ok (st_bipush rfl d_224_130)
theorem ki_224_129 : js_Ok 224 129 (o_al 0 130) := js_St.ok (st_aloadn rfl d_224_129)
theorem ki_224_144 : js_Ok 224 144 (o_rI) := ok_rI rfl d_224_144
theorem d_225_0 : decode (js_b 225) 0 = .ok (.aload_n 0, 1) := by decide +kernel
theorem d_225_1 : decode (js_b 225) 1 = .ok (.iload_n 1, 1) := by decide +kernel
theorem d_225_2 : decode (js_b 225) 2 = .ok (.iconst 0, 1) := by decide +kernel
theorem d_225_3 : decode (js_b 225) 3 = .ok (.aload_n 0, 1) := by decide +kernel
theorem d_225_4 : decode (js_b 225) 4 = .ok (.getfield 219, 3) := by decide +kernel
theorem d_225_7 : decode (js_b 225) 7 = .ok (.iconst 1, 1) := by decide +kernel
theorem d_225_8 : decode (js_b 225) 8 = .ok (.isub, 1) := by decide +kernel
theorem d_225_9 : decode (js_b 225) 9 = .ok (.invokestatic 69, 3) := by decide +kernel
theorem d_225_12 : decode (js_b 225) 12 = .ok (.invokevirtual 126, 3) := by decide +kernel
theorem d_225_15 : decode (js_b 225) 15 = .ok (.ifCond .eq 12, 3) := by decide +kernel
theorem d_225_18 : decode (js_b 225) 18 = .ok (.aload_n 0, 1) := by decide +kernel
theorem d_225_19 : decode (js_b 225) 19 = .ok (.getfield 22, 3) := by decide +kernel
theorem d_225_22 : decode (js_b 225) 22 = .ok (.iload_n 1, 1) := by decide +kernel
theorem d_225_23 : decode (js_b 225) 23 = .ok (.caload, 1) := by decide +kernel
theorem d_225_24 : decode (js_b 225) 24 = .ok (.goto 5, 3) := by decide +kernel
theorem d_225_27 : decode (js_b 225) 27 = .ok (.bipush 32, 2) := by decide +kernel
theorem d_225_29 : decode (js_b 225) 29 = .ok (.ireturn, 1) := by decide +kernel
theorem ki_225_15 : js_Ok 225 15 (o_eq 27 18) := js_St.ok (st_ifeq (by decide) d_225_15)
theorem ki_225_12 : js_Ok 225 12 (o_cI 139 2 9 15) := ok_cI (site_V kk_225_139 (by decide) kw_1364 kw_1366 ks_33 (fun t ht => by cases ht; exact Or.inl ⟨_, rfl, rfl⟩) d_225_12) rfl
theorem ki_225_9 : js_Ok 225 9 (o_cI 135 3 0 12) := ok_cI (site_S kk_225_135 kw_1302 kw_1303 d_225_9) rfl
theorem ki_225_8 : js_Ok 225 8 (o_b2 (fun x y => x - y) 9) := js_St.ok (st_isub d_225_8)
theorem ki_225_7 : js_Ok 225 7 (o_ic 1 8) := js_St.ok (st_iconst rfl d_225_7)
theorem ki_225_4 : js_Ok 225 4 (o_gI 8 8 7) := js_St.ok (st_gI js_c8 (by decide) kw_1241 d_225_4)
theorem ki_225_3 : js_Ok 225 3 (o_al 0 4) := js_St.ok (st_aloadn rfl d_225_3)
theorem ki_225_2 : js_Ok 225 2 (o_ic 0 3) := js_St.ok (st_iconst rfl d_225_2)
theorem ki_225_1 : js_Ok 225 1 (o_il 1 2) := js_St.ok (st_iloadn rfl d_225_1)
theorem ki_225_0 : js_Ok 225 0 (o_al 0 1) := js_St.ok (st_aloadn rfl d_225_0)
theorem ki_225_29 : js_Ok 225 29 (o_rC) := ok_rC rfl d_225_29
theorem ki_225_27 : js_Ok 225 27 (o_ic 32 29) := js_St.ok (st_bipush rfl d_225_27)
theorem ki_225_24 : js_Ok 225 24 (o_go 29) := js_St.ok (st_goto (by decide) d_225_24)
theorem ki_225_23 : js_Ok 225 23 (o_lI 101 24) := js_St.ok (st_lIc d_225_23)
theorem ki_225_22 : js_Ok 225 22 (o_il 1 23) := js_St.ok (st_iloadn rfl d_225_22)
theorem ki_225_19 : js_Ok 225 19 (o_gA 8 7 22) := js_St.ok (st_gA js_c8 (by decide) kw_1240 d_225_19)
theorem ki_225_18 : js_Ok 225 18 (o_al 0 19) := js_St.ok (st_aloadn rfl d_225_18)
theorem d_226_0 : decode (js_b 226) 0 = .ok (.aload_n 0, 1) := by decide +kernel
theorem d_226_1 : decode (js_b 226) 1 = .ok (.aload_n 0, 1) := by decide +kernel
theorem d_226_2 : decode (js_b 226) 2 = .ok (.getfield 226, 3) := by decide +kernel
theorem d_226_5 : decode (js_b 226) 5 = .ok (.bipush 60, 2) := by decide +kernel
theorem d_226_7 : decode (js_b 226) 7 = .ok (.if_icmp .ne 7, 3) := by decide +kernel
theorem d_226_10 : decode (js_b 226) 10 = .ok (.iconst 1, 1) := by decide +kernel
theorem d_226_11 : decode (js_b 226) 11 = .ok (.goto 4, 3) := by decide +kernel
theorem d_226_14 : decode (js_b 226) 14 = .ok (.iconst 0, 1) := by decide +kernel
theorem d_226_15 : decode (js_b 226) 15 = .ok (.putfield 39, 3) := by decide +kernel
theorem d_226_18 : decode (js_b 226) 18 = .ok (.aload_n 0, 1) := by decide +kernel
theorem d_226_19 : decode (js_b 226) 19 = .ok (.getfield 39, 3) := by decide +kernel
theorem d_226_22 : decode (js_b 226) 22 = .ok (.ifCond .le 5, 3) := by decide +kernel
theorem d_226_25 : decode (js_b 226) 25 = .ok (.iconst 0, 1) := by decide +kernel
theorem d_226_26 : decode (js_b 226) 26 = .ok (.ireturn, 1) := by decide +kernel
theorem d_226_27 : decode (js_b 226) 27 = .ok (.aload_n 0, 1) := by decide +kernel
theorem d_226_28 : decode (js_b 226) 28 = .ok (.getfield 26, 3) := by decide +kernel
theorem d_226_31 : decode (js_b 226) 31 = .ok (.aload_n 0, 1) := by decide +kernel
theorem d_226_32 : decode (js_b 226) 32 = .ok (.getfield 226, 3) := by decide +kernel
theorem d_226_35 : decode (js_b 226) 35 = .ok (.iload_n 1, 1) := by decide +kernel
theorem d_226_36 : decode (js_b 226) 36 = .ok (.castore, 1) := by decide +kernel
theorem d_226_37 : decode (js_b 226) 37 = .ok (.aload_n 0, 1) := by decide +kernel
theorem d_226_38 : decode (js_b 226) 38 = .ok (.dup, 1) := by decide +kernel
theorem d_226_39 : decode (js_b 226) 39 = .ok (.getfield 226, 3) := by decide +kernel
theorem d_226_42 : decode (js_b 226) 42 = .ok (.iconst 1, 1) := by decide +kernel
theorem d_226_43 : decode (js_b 226) 43 = .ok (.iadd, 1) := by decide +kernel
theorem d_226_44 : decode (js_b 226) 44 = .ok (.putfield 226, 3) := by decide +kernel
theorem d_226_47 : decode (js_b 226) 47 = .ok (.aload_n 0, 1) := by decide +kernel
theorem d_226_48 : decode (js_b 226) 48 = .ok (.getfield 226, 3) := by decide +kernel
theorem d_226_51 : decode (js_b 226) 51 = .ok (.ireturn, 1) := by decide +kernel
theorem ki_226_15 : js_Ok 226 15 (o_pI 8 6 18) := js_St.ok (st_pIown js_c8 (by decide) rfl kw_1239 (js_c8.2.2.1 6 (by decide)) d_226_15)
theorem ki_226_14 : js_Ok 226 14 (o_ic 0 15) := js_St.ok (st_iconst rfl d_226_14)
theorem ki_226_11 : js_Ok 226 11 (o_go 15) := js_St.ok (st_goto (by decide) d_226_11)
theorem ki_226_10 : js_Ok 226 10 (o_ic 1 11) := js_St.ok (st_iconst rfl d_226_10)
theorem ki_226_7 : js_Ok 226 7 (o_cne 14 10) := js_St.ok (st_icne (by decide) d_226_7)
theorem ki_226_5 : js_Ok 226 5 (o_ic 60 7) := js_St.ok (st_bipush rfl d_226_5)
theorem ki_226_2 : js_Ok 226 2 (o_gI 8 10 5) := js_St.ok (st_gI js_c8 (by decide) kw_1243 d_226_2)
theorem ki_226_1 : js_Ok 226 1 (o_al 0 2) := js_St.ok (st_aloadn rfl d_226_1)
theorem ki_226_0 : js_Ok 226 0 (o_al 0 1) := js_St.ok (st_aloadn rfl d_226_0)
theorem ki_226_31 : js_Ok 226 31 (o_al 0 32) := js_St.ok (st_aloadn rfl d_226_31)
theorem ki_226_28 : js_Ok 226 28 (o_gA 8 9 31) := js_St.ok (st_gA js_c8 (by decide) kw_1242 d_226_28)
theorem ki_226_27 : js_Ok 226 27 (o_al 0 28) := js_St.ok (st_aloadn rfl d_226_27)
theorem ki_226_26 : js_Ok 226 26 (o_rI) := ok_rI rfl d_226_26
theorem ki_226_25 : js_Ok 226 25 (o_ic 0 26) := js_St.ok (st_iconst rfl d_226_25)
theorem ki_226_22 : js_Ok 226 22 (o_le 27 25) := js_St.ok (st_ifle (by decide) d_226_22)
theorem ki_226_19 : js_Ok 226 19 (o_gI 8 6 22) := js_St.ok (st_gI js_c8 (by decide) kw_1239 d_226_19)
theorem ki_226_18 : js_Ok 226 18 (o_al 0 19) := js_St.ok (st_aloadn rfl d_226_18)
theorem ki_226_47 : js_Ok 226 47 (o_al 0 48) := js_St.ok (st_aloadn rfl d_226_47)
theorem ki_226_44 : js_Ok 226 44 (o_pI 8 10 47) := js_St.ok (st_pIown js_c8 (by decide) rfl kw_1243 (js_c8.2.2.1 10 (by decide)) d_226_44)
theorem ki_226_43 : js_Ok 226 43 (o_b2 (fun x y => x + y) 44) := js_St.ok (st_iadd d_226_43)
theorem ki_226_42 : js_Ok 226 42 (o_ic 1 43) := js_St.ok (st_iconst rfl d_226_42)
theorem ki_226_39 : js_Ok 226 39 (o_gI 8 10 42) := js_St.ok (st_gI js_c8 (by decide) kw_1243 d_226_39)
theorem ki_226_38 : js_Ok 226 38 (o_dup 39) := js_St.ok (st_dup d_226_38)
theorem ki_226_37 : js_Ok 226 37 (o_al 0 38) := js_St.ok (st_aloadn rfl d_226_37)
theorem ki_226_36 : js_Ok 226 36 (o_sC 101 37) := js_St.ok (st_sC d_226_36)
theorem ki_226_35 : js_Ok 226 35 (o_il 1 36) := js_St.ok (st_iloadn rfl d_226_35)
theorem ki_226_32 : js_Ok 226 32 (o_gI 8 10 35) := js_St.ok (st_gI js_c8 (by decide) kw_1243 d_226_32)
theorem ki_226_51 : js_Ok 226 51 (o_rI) := ok_rI rfl d_226_51
theorem ki_226_48 : js_Ok 226 48 (o_gI 8 10 51) := js_St.ok (st_gI js_c8 (by decide) kw_1243 d_226_48)
theorem d_227_0 : decode (js_b 227) 0 = .ok (.aload_n 0, 1) := by decide +kernel
theorem d_227_1 : decode (js_b 227) 1 = .ok (.getfield 229, 3) := by decide +kernel
theorem d_227_4 : decode (js_b 227) 4 = .ok (.iload_n 1, 1) := by decide +kernel
theorem d_227_5 : decode (js_b 227) 5 = .ok (.iadd, 1) := by decide +kernel
theorem d_227_6 : decode (js_b 227) 6 = .ok (.aload_n 0, 1) := by decide +kernel
theorem d_227_7 : decode (js_b 227) 7 = .ok (.getfield 226, 3) := by decide +kernel
theorem d_227_10 : decode (js_b 227) 10 = .ok (.if_icmp .ge 17, 3) := by decide +kernel
theorem d_227_13 : decode (js_b 227) 13 = .ok (.aload_n 0, 1) := by decide +kernel
theorem d_227_14 : decode (js_b 227) 14 = .ok (.getfield 26, 3) := by decide +kernel
theorem d_227_17 : decode (js_b 227) 17 = .ok (.aload_n 0, 1) := by decide +kernel
theorem d_227_18 : decode (js_b 227) 18 = .ok (.getfield 229, 3) := by decide +kernel
theorem d_227_21 : decode (js_b 227) 21 = .ok (.iload_n 1, 1) := by decide +kernel
theorem d_227_22 : decode (js_b 227) 22 = .ok (.iadd, 1) := by decide +kernel
theorem d_227_23 : decode (js_b 227) 23 = .ok (.caload, 1) := by decide +kernel
theorem d_227_24 : decode (js_b 227) 24 = .ok (.goto 4, 3) := by decide +kernel
theorem d_227_27 : decode (js_b 227) 27 = .ok (.iconst (-1), 1) := by decide +kernel
theorem d_227_28 : decode (js_b 227) 28 = .ok (.ireturn, 1) := by decide +kernel
theorem ki_227_14 : js_Ok 227 14 (o_gA 8 9 17) := js_St.ok (st_gA js_c8 (by decide) kw_1242 d_227_14)
theorem ki_227_13 : js_Ok 227 13 (o_al 0 14) := js_St.ok (st_aloadn rfl d_227_13)
theorem ki_227_10 : js_Ok 227 10 (o_cge 27 13) := js_St.ok (st_icge (by decide) d_227_10)
theorem ki_227_7 : js_Ok 227 7 (o_gI 8 10 10) := js_St.ok (st_gI js_c8 (by decide) kw_1243 d_227_7)
theorem ki_227_6 : js_Ok 227 6 (o_al 0 7) := js_St.ok (st_aloadn rfl d_227_6)
theorem ki_227_5 : js_Ok 227 5 (o_b2 (fun x y => x + y) 6) := js_St.ok (st_iadd d_227_5)
theorem ki_227_4 : js_Ok 227 4 (o_il 1 5) := js_St.ok (st_iloadn rfl d_227_4)
theorem ki_227_1 : js_Ok 227 1 (o_gI 8 11 4) := js_St.ok (st_gI js_c8 (by decide) kw_1244 d_227_1)
theorem ki_227_0 : js_Ok 227 0 (o_al 0 1) := js_St.ok (st_aloadn rfl d_227_0)
theorem ki_227_28 : js_Ok 227 28 (o_rI) := ok_rI rfl d_227_28
theorem ki_227_27 : js_Ok 227 27 (o_ic (-1) 28) := js_St.ok (st_iconst rfl d_227_27)
theorem ki_227_24 : js_Ok 227 24 (o_go 28) := js_St.ok (st_goto (by decide) d_227_24)
theorem ki_227_23 : js_Ok 227 23 (o_lI 101 24) := js_St.ok (st_lIc d_227_23)
theorem ki_227_22 : js_Ok 227 22 (o_b2 (fun x y => x + y) 23) := js_St.ok (st_iadd d_227_22)
theorem ki_227_21 : js_Ok 227 21 (o_il 1 22) := js_St.ok (st_iloadn rfl d_227_21)
theorem ki_227_18 : js_Ok 227 18 (o_gI 8 11 21) := js_St.ok (st_gI js_c8 (by decide) kw_1244 d_227_18)
theorem ki_227_17 : js_Ok 227 17 (o_al 0 18) := js_St.ok (st_aloadn rfl d_227_17)
theorem d_228_0 : decode (js_b 228) 0 = .ok (.iconst 0, 1) := by decide +kernel
theorem d_228_1 : decode (js_b 228) 1 = .ok (.istore_n 2, 1) := by decide +kernel
theorem d_228_2 : decode (js_b 228) 2 = .ok (.iload_n 2, 1) := by decide +kernel
theorem d_228_3 : decode (js_b 228) 3 = .ok (.aload_n 1, 1) := by decide +kernel
theorem d_228_4 : decode (js_b 228) 4 = .ok (.invokevirtual 232, 3) := by decide +kernel
theorem d_228_7 : decode (js_b 228) 7 = .ok (.if_icmp .ge 59, 3) := by decide +kernel
theorem d_228_10 : decode (js_b 228) 10 = .ok (.aload_n 0, 1) := by decide +kernel
theorem d_228_11 : decode (js_b 228) 11 = .ok (.getfield 236, 3) := by decide +kernel
theorem d_228_14 : decode (js_b 228) 14 = .ok (.ifCond .ne 52, 3) := by decide +kernel
theorem d_228_17 : decode (js_b 228) 17 = .ok (.aload_n 0, 1) := by decide +kernel
theorem d_228_18 : decode (js_b 228) 18 = .ok (.aload_n 0, 1) := by decide +kernel
theorem d_228_19 : decode (js_b 228) 19 = .ok (.iconst 0, 1) := by decide +kernel
theorem d_228_20 : decode (js_b 228) 20 = .ok (.invokevirtual 240, 3) := by decide +kernel
theorem d_228_23 : decode (js_b 228) 23 = .ok (.aload_n 1, 1) := by decide +kernel
theorem d_228_24 : decode (js_b 228) 24 = .ok (.iload_n 2, 1) := by decide +kernel
theorem d_228_25 : decode (js_b 228) 25 = .ok (.invokevirtual 243, 3) := by decide +kernel
theorem d_228_28 : decode (js_b 228) 28 = .ok (.if_icmp .eq 7, 3) := by decide +kernel
theorem d_228_31 : decode (js_b 228) 31 = .ok (.iconst 1, 1) := by decide +kernel
theorem d_228_32 : decode (js_b 228) 32 = .ok (.goto 4, 3) := by decide +kernel
theorem d_228_35 : decode (js_b 228) 35 = .ok (.iconst 0, 1) := by decide +kernel
theorem d_228_36 : decode (js_b 228) 36 = .ok (.putfield 236, 3) := by decide +kernel
theorem d_228_39 : decode (js_b 228) 39 = .ok (.aload_n 0, 1) := by decide +kernel
theorem d_228_40 : decode (js_b 228) 40 = .ok (.dup, 1) := by decide +kernel
theorem d_228_41 : decode (js_b 228) 41 = .ok (.getfield 229, 3) := by decide +kernel
theorem d_228_44 : decode (js_b 228) 44 = .ok (.aload_n 0, 1) := by decide +kernel
theorem d_228_45 : decode (js_b 228) 45 = .ok (.getfield 236, 3) := by decide +kernel
theorem d_228_48 : decode (js_b 228) 48 = .ok (.ifCond .eq 7, 3) := by decide +kernel
theorem d_228_51 : decode (js_b 228) 51 = .ok (.iconst 0, 1) := by decide +kernel
theorem d_228_52 : decode (js_b 228) 52 = .ok (.goto 4, 3) := by decide +kernel
theorem d_228_55 : decode (js_b 228) 55 = .ok (.iconst 1, 1) := by decide +kernel
theorem d_228_56 : decode (js_b 228) 56 = .ok (.iadd, 1) := by decide +kernel
theorem d_228_57 : decode (js_b 228) 57 = .ok (.putfield 229, 3) := by decide +kernel
theorem d_228_60 : decode (js_b 228) 60 = .ok (.iinc 2 1, 3) := by decide +kernel
theorem d_228_63 : decode (js_b 228) 63 = .ok (.goto (-61), 3) := by decide +kernel
theorem d_228_66 : decode (js_b 228) 66 = .ok (.return_, 1) := by decide +kernel
theorem ki_228_14 : js_Ok 228 14 (o_ne 66 17) := js_St.ok (st_ifne (by decide) d_228_14)
theorem ki_228_11 : js_Ok 228 11 (o_gI 8 12 14) := js_St.ok (st_gI js_c8 (by decide) kw_1245 d_228_11)
theorem ki_228_10 : js_Ok 228 10 (o_al 0 11) := js_St.ok (st_aloadn rfl d_228_10)
theorem ki_228_7 : js_Ok 228 7 (o_cge 66 10) := js_St.ok (st_icge (by decide) d_228_7)
theorem ki_228_4 : js_Ok 228 4 (o_cI 248 1 21 7) := ok_cI (site_V kk_228_248 (by decide) kw_1684 kw_1105 kw_1106 (fun t ht => by cases ht; exact Or.inr ⟨by decide, rfl⟩) d_228_4) rfl
theorem ki_228_3 : js_Ok 228 3 (o_al 1 4) := js_St.ok (st_aloadn rfl d_228_3)
theorem ki_228_2 : js_Ok 228 2 (o_il 2 3) := js_St.ok (st_iloadn rfl d_228_2)
theorem ki_228_1 : js_Ok 228 1 (o_is 2 2) := js_St.ok (st_istoren rfl (Nat.le_of_ble_eq_true rfl) d_228_1)
theorem ki_228_0 : js_Ok 228 0 (o_ic 0 1) := js_St.ok (st_iconst rfl d_228_0)
theorem ki_228_31 : js_Ok 228 31 (o_ic 1 32) := js_St.ok (st_iconst rfl d_228_31)
theorem ki_228_28 : js_Ok 228 28 (o_ceq 35 31) := js_St.ok (st_iceq (by decide) d_228_28)
theorem ki_228_25 : js_Ok 228 25 (o_cI 249 2 21 28) := ok_cI (site_V kk_228_249 (by decide) kw_1685 kw_1115 kw_1116 (fun t ht => by cases ht; exact Or.inr ⟨by decide, rfl⟩) d_228_25) rfl
theorem ki_228_24 : js_Ok 228 24 (o_il 2 25) := js_St.ok (st_iloadn rfl d_228_24)
theorem ki_228_23 : js_Ok 228 23 (o_al 1 24) := js_St.ok (st_aloadn rfl d_228_23)
theorem ki_228_20 : js_Ok 228 20 (o_cI 227 2 9 23) := ok_cI (site_V kk_228_227 (by decide) kw_1675 kw_1677 ks_62 (fun t ht => by cases ht; exact Or.inl ⟨_, rfl, rfl⟩) d_228_20) rfl
theorem ki_228_19 : js_Ok 228 19 (o_ic 0 20) := js_St.ok (st_iconst rfl d_228_19)
theorem ki_228_18 : js_Ok 228 18 (o_al 0 19) := js_St.ok (st_aloadn rfl d_228_18)
theorem ki_228_17 : js_Ok 228 17 (o_al 0 18) := js_St.ok (st_aloadn rfl d_228_17)
theorem ki_228_45 : js_Ok 228 45 (o_gI 8 12 48) := js_St.ok (st_gI js_c8 (by decide) kw_1245 d_228_45)
theorem ki_228_44 : js_Ok 228 44 (o_al 0 45) := js_St.ok (st_aloadn rfl d_228_44)
theorem ki_228_41 : js_Ok 228 41 (o_gI 8 11 44) := js_St.ok (st_gI js_c8 (by decide) kw_1244 d_228_41)
theorem ki_228_40 : js_Ok 228 40 (o_dup 41) := js_St.ok (st_dup d_228_40)
theorem ki_228_39 : js_Ok 228 39 (o_al 0 40) := js_St.ok (st_aloadn rfl d_228_39)
theorem ki_228_36 : js_Ok 228 36 (o_pZ 8 12 39) := js_St.ok (st_pZown js_c8 (by decide) rfl kw_1245 (js_c8.2.2.1 12 (by decide)) d_228_36)
theorem ki_228_35 : js_Ok 228 35 (o_ic 0 36) := js_St.ok (st_iconst rfl d_228_35)
theorem ki_228_32 : js_Ok 228 32 (o_go 36) := js_St.ok (st_goto (by decide) d_228_32)
theorem ki_228_63 : js_Ok 228 63 (o_go 2) := js_St.ok (st_goto (by decide) d_228_63)
theorem ki_228_60 : js_Ok 228 60 (o_inc 2 1 63) := js_St.ok (st_iinc rfl (Nat.le_of_ble_eq_true rfl) d_228_60)
theorem ki_228_57 : js_Ok 228 57 (o_pI 8 11 60) := js_St.ok (st_pIown js_c8 (by decide) rfl kw_1244 (js_c8.2.2.1 11 (by decide)) d_228_57)
theorem ki_228_56 : js_Ok 228 56 (o_b2 (fun x y => x + y) 57) := js_St.ok (st_iadd d_228_56)
theorem ki_228_55 : js_Ok 228 55 (o_ic 1 56) := js_St.ok (st_iconst rfl d_228_55)
theorem ki_228_52 : js_Ok 228 52 (o_go 56) := js_St.ok (st_goto (by decide) d_228_52)
theorem ki_228_51 : js_Ok 228 51 (o_ic 0 52) := js_St.ok (st_iconst rfl d_228_51)
theorem ki_228_48 : js_Ok 228 48 (o_eq 55 51) := js_St.ok (st_ifeq (by decide) d_228_48)
theorem ki_228_66 : js_Ok 228 66 (o_rV) := ok_rV rfl d_228_66
theorem d_229_0 : decode (js_b 229) 0 = .ok (.iload_n 0, 1) := by decide +kernel
theorem d_229_1 : decode (js_b 229) 1 = .ok (.bipush 48, 2) := by decide +kernel
theorem d_229_3 : decode (js_b 229) 3 = .ok (.bipush 57, 2) := by decide +kernel
theorem d_229_5 : decode (js_b 229) 5 = .ok (.invokestatic 69, 3) := by decide +kernel
theorem d_229_8 : decode (js_b 229) 8 = .ok (.ifCond .eq 10, 3) := by decide +kernel
theorem d_229_11 : decode (js_b 229) 11 = .ok (.iload_n 0, 1) := by decide +kernel
theorem d_229_12 : decode (js_b 229) 12 = .ok (.bipush 48, 2) := by decide +kernel
theorem d_229_14 : decode (js_b 229) 14 = .ok (.isub, 1) := by decide +kernel
theorem d_229_15 : decode (js_b 229) 15 = .ok (.goto 25, 3) := by decide +kernel
theorem d_229_18 : decode (js_b 229) 18 = .ok (.iload_n 0, 1) := by decide +kernel
theorem d_229_19 : decode (js_b 229) 19 = .ok (.bipush 97, 2) := by decide +kernel
theorem d_229_21 : decode (js_b 229) 21 = .ok (.bipush 102, 2) := by decide +kernel
theorem d_229_23 : decode (js_b 229) 23 = .ok (.invokestatic 69, 3) := by decide +kernel
theorem d_229_26 : decode (js_b 229) 26 = .ok (.ifCond .eq 13, 3) := by decide +kernel
theorem d_229_29 : decode (js_b 229) 29 = .ok (.iload_n 0, 1) := by decide +kernel
theorem d_229_30 : decode (js_b 229) 30 = .ok (.bipush 97, 2) := by decide +kernel
theorem d_229_32 : decode (js_b 229) 32 = .ok (.isub, 1) := by decide +kernel
theorem d_229_33 : decode (js_b 229) 33 = .ok (.bipush 10, 2) := by decide +kernel
theorem d_229_35 : decode (js_b 229) 35 = .ok (.iadd, 1) := by decide +kernel
theorem d_229_36 : decode (js_b 229) 36 = .ok (.goto 4, 3) := by decide +kernel
theorem d_229_39 : decode (js_b 229) 39 = .ok (.iconst (-1), 1) := by decide +kernel
theorem d_229_40 : decode (js_b 229) 40 = .ok (.ireturn, 1) := by decide +kernel
theorem ki_229_15 : js_Ok 229 15 (o_go 40) := js_St.ok (st_goto (by decide) d_229_15)
theorem ki_229_14 : js_Ok 229 14 (o_b2 (fun x y => x - y) 15) := js_St.ok (st_isub d_229_14)
theorem ki_229_12 : js_Ok 229 12 (o_ic 48 14) := js_St.ok (st_bipush rfl d_229_12)
theorem ki_229_11 : js_Ok 229 11 (o_il 0 12) := js_St.ok (st_iloadn rfl d_229_11)
theorem ki_229_8 : js_Ok 229 8 (o_eq 18 11) := js_St.ok (st_ifeq (by decide) d_229_8)
theorem ki_229_5 : js_Ok 229 5 (o_cI 135 3 0 8) := ok_cI (site_S kk_229_135 kw_1302 kw_1303 d_229_5) rfl
theorem ki_229_3 : js_Ok 229 3 (o_ic 57 5) := js_St.ok (st_bipush rfl d_229_3)
theorem ki_229_1 : js_Ok 229 1 (o_ic 48 3) := js_St.ok (st_bipush rfl d_229_1)
theorem ki_229_0 : js_Ok 229 0 (o_il 0 1) := js_St.ok (st_iloadn rfl d_229_0)
theorem ki_229_30 : js_Ok 229 30 (o_ic 97 32) := js_St.ok (st_bipush rfl d_229_30)
theorem ki_229_29 : js_Ok 229 29 (o_il 0 30) := js_St.ok (st_iloadn rfl d_229_29)
theorem ki_229_26 : js_Ok 229 26 (o_eq 39 29) := js_St.ok (st_ifeq (by decide) d_229_26)
theorem ki_229_23 : js_Ok 229 23 (o_cI 135 3 0 26) := ok_cI (site_S kk_229_135 kw_1302 kw_1303 d_229_23) rfl
theorem ki_229_21 : js_Ok 229 21 (o_ic 102 23) := js_St.ok (st_bipush rfl d_229_21)
theorem ki_229_19 : js_Ok 229 19 (o_ic 97 21) := js_St.ok (st_bipush rfl d_229_19)
theorem ki_229_18 : js_Ok 229 18 (o_il 0 19) := js_St.ok (st_iloadn rfl d_229_18)
theorem ki_229_40 : js_Ok 229 40 (o_rI) := ok_rI rfl d_229_40
theorem ki_229_39 : js_Ok 229 39 (o_ic (-1) 40) := js_St.ok (st_iconst rfl d_229_39)
theorem ki_229_36 : js_Ok 229 36 (o_go 40) := js_St.ok (st_goto (by decide) d_229_36)
theorem ki_229_35 : js_Ok 229 35 (o_b2 (fun x y => x + y) 36) := js_St.ok (st_iadd d_229_35)
theorem ki_229_33 : js_Ok 229 33 (o_ic 10 35) := js_St.ok (st_bipush rfl d_229_33)
theorem ki_229_32 : js_Ok 229 32 (o_b2 (fun x y => x - y) 33) := js_St.ok (st_isub d_229_32)
theorem d_230_0 : decode (js_b 230) 0 = .ok (.aload_n 0, 1) := by decide +kernel
theorem d_230_1 : decode (js_b 230) 1 = .ok (.iconst 0, 1) := by decide +kernel
theorem d_230_2 : decode (js_b 230) 2 = .ok (.invokevirtual 240, 3) := by decide +kernel
theorem d_230_5 : decode (js_b 230) 5 = .ok (.invokestatic 247, 3) := by decide +kernel
theorem d_230_8 : decode (js_b 230) 8 = .ok (.istore_n 2, 1) := by decide +kernel
theorem d_230_9 : decode (js_b 230) 9 = .ok (.aload_n 0, 1) := by decide +kernel
theorem d_230_10 : decode (js_b 230) 10 = .ok (.aload_n 0, 1) := by decide +kernel
theorem d_230_11 : decode (js_b 230) 11 = .ok (.getfield 236, 3) := by decide +kernel
theorem d_230_14 : decode (js_b 230) 14 = .ok (.ifCond .ne 12, 3) := by decide +kernel
theorem d_230_17 : decode (js_b 230) 17 = .ok (.iload_n 2, 1) := by decide +kernel
theorem d_230_18 : decode (js_b 230) 18 = .ok (.ifCond .lt 8, 3) := by decide +kernel
theorem d_230_21 : decode (js_b 230) 21 = .ok (.iload_n 2, 1) := by decide +kernel
theorem d_230_22 : decode (js_b 230) 22 = .ok (.iload_n 1, 1) := by decide +kernel
theorem d_230_23 : decode (js_b 230) 23 = .ok (.if_icmp .lt 7, 3) := by decide +kernel
theorem d_230_26 : decode (js_b 230) 26 = .ok (.iconst 1, 1) := by decide +kernel
theorem d_230_27 : decode (js_b 230) 27 = .ok (.goto 4, 3) := by decide +kernel
theorem d_230_30 : decode (js_b 230) 30 = .ok (.iconst 0, 1) := by decide +kernel
theorem d_230_31 : decode (js_b 230) 31 = .ok (.putfield 236, 3) := by decide +kernel
theorem d_230_34 : decode (js_b 230) 34 = .ok (.aload_n 0, 1) := by decide +kernel
theorem d_230_35 : decode (js_b 230) 35 = .ok (.dup, 1) := by decide +kernel
theorem d_230_36 : decode (js_b 230) 36 = .ok (.getfield 229, 3) := by decide +kernel
theorem d_230_39 : decode (js_b 230) 39 = .ok (.aload_n 0, 1) := by decide +kernel
theorem d_230_40 : decode (js_b 230) 40 = .ok (.getfield 236, 3) := by decide +kernel
theorem d_230_43 : decode (js_b 230) 43 = .ok (.ifCond .eq 7, 3) := by decide +kernel
theorem d_230_46 : decode (js_b 230) 46 = .ok (.iconst 0, 1) := by decide +kernel
theorem d_230_47 : decode (js_b 230) 47 = .ok (.goto 4, 3) := by decide +kernel
theorem d_230_50 : decode (js_b 230) 50 = .ok (.iconst 1, 1) := by decide +kernel
theorem d_230_51 : decode (js_b 230) 51 = .ok (.iadd, 1) := by decide +kernel
theorem d_230_52 : decode (js_b 230) 52 = .ok (.putfield 229, 3) := by decide +kernel
theorem d_230_55 : decode (js_b 230) 55 = .ok (.aload_n 0, 1) := by decide +kernel
theorem d_230_56 : decode (js_b 230) 56 = .ok (.getfield 236, 3) := by decide +kernel
theorem d_230_59 : decode (js_b 230) 59 = .ok (.ifCond .eq 7, 3) := by decide +kernel
theorem d_230_62 : decode (js_b 230) 62 = .ok (.iconst 0, 1) := by decide +kernel
theorem d_230_63 : decode (js_b 230) 63 = .ok (.goto 4, 3) := by decide +kernel
theorem d_230_66 : decode (js_b 230) 66 = .ok (.iload_n 2, 1) := by decide +kernel
theorem d_230_67 : decode (js_b 230) 67 = .ok (.ireturn, 1) := by decide +kernel
theorem ki_230_14 : js_Ok 230 14 (o_ne 26 17) := js_St.ok (st_ifne (by decide) d_230_14)
theorem ki_230_11 : js_Ok 230 11 (o_gI 8 12 14) := js_St.ok (st_gI js_c8 (by decide) kw_1245 d_230_11)
theorem ki_230_10 : js_Ok 230 10 (o_al 0 11) := js_St.ok (st_aloadn rfl d_230_10)
theorem ki_230_9 : js_Ok 230 9 (o_al 0 10) := js_St.ok (st_aloadn rfl d_230_9)
theorem ki_230_8 : js_Ok 230 8 (o_is 2 9) := js_St.ok (st_istoren rfl (Nat.le_of_ble_eq_true rfl) d_230_8)
theorem ki_230_5 : js_Ok 230 5 (o_cI 229 1 0 8) := ok_cI (site_S kk_230_229 kw_1690 kw_1691 d_230_5) rfl
theorem ki_230_2 : js_Ok 230 2 (o_cI 227 2 9 5) := ok_cI (site_V kk_230_227 (by decide) kw_1675 kw_1677 ks_62 (fun t ht => by cases ht; exact Or.inl ⟨_, rfl, rfl⟩) d_230_2) rfl
theorem ki_230_1 : js_Ok 230 1 (o_ic 0 2) := js_St.ok (st_iconst rfl d_230_1)
theorem ki_230_0 : js_Ok 230 0 (o_al 0 1) := js_St.ok (st_aloadn rfl d_230_0)
theorem ki_230_31 : js_Ok 230 31 (o_pZ 8 12 34) := js_St.ok (st_pZown js_c8 (by decide) rfl kw_1245 (js_c8.2.2.1 12 (by decide)) d_230_31)
theorem ki_230_30 : js_Ok 230 30 (o_ic 0 31) := js_St.ok (st_iconst rfl d_230_30)
theorem ki_230_27 : js_Ok 230 27 (o_go 31) := js_St.ok (st_goto (by decide) d_230_27)
theorem ki_230_26 : js_Ok 230 26 (o_ic 1 27) := js_St.ok (st_iconst rfl d_230_26)
theorem ki_230_23 : js_Ok 230 23 (o_clt 30 26) := js_St.ok (st_iclt (by decide) d_230_23)
theorem ki_230_22 : js_Ok 230 22 (o_il 1 23) := js_St.ok (st_iloadn rfl d_230_22)
theorem ki_230_21 : js_Ok 230 21 (o_il 2 22) := js_St.ok (st_iloadn rfl d_230_21)
theorem ki_230_18 : js_Ok 230 18 (o_lt 26 21) := js_St.ok (st_iflt (by decide) d_230_18)
theorem ki_230_17 : js_Ok 230 17 (o_il 2 18) := js_St.ok (st_iloadn rfl d_230_17)
theorem ki_230_47 : js_Ok 230 47 (o_go 51) := js_St.ok (st_goto (by decide) d_230_47)
theorem ki_230_46 : js_Ok 230 46 (o_ic 0 47) := js_St.ok (st_iconst rfl d_230_46)
theorem ki_230_43 : js_Ok 230 43 (o_eq 50 46) := js_St.ok (st_ifeq (by decide) d_230_43)
theorem ki_230_40 : js_Ok 230 40 (o_gI 8 12 43) := js_St.ok (st_gI js_c8 (by decide) kw_1245 d_230_40)
theorem ki_230_39 : js_Ok 230 39 (o_al 0 40) := js_St.ok (st_aloadn rfl d_230_39)
theorem ki_230_36 : js_Ok 230 36 (o_gI 8 11 39) := js_St.ok (st_gI js_c8 (by decide) kw_1244 d_230_36)
theorem ki_230_35 : js_Ok 230 35 (o_dup 36) := js_St.ok (st_dup d_230_35)
theorem ki_230_34 : js_Ok 230 34 (o_al 0 35) := js_St.ok (st_aloadn rfl d_230_34)
theorem ki_230_63 : js_Ok 230 63 (o_go 67) := js_St.ok (st_goto (by decide) d_230_63)
theorem ki_230_62 : js_Ok 230 62 (o_ic 0 63) := js_St.ok (st_iconst rfl d_230_62)
theorem ki_230_59 : js_Ok 230 59 (o_eq 66 62) := js_St.ok (st_ifeq (by decide) d_230_59)
theorem ki_230_56 : js_Ok 230 56 (o_gI 8 12 59) := js_St.ok (st_gI js_c8 (by decide) kw_1245 d_230_56)
theorem ki_230_55 : js_Ok 230 55 (o_al 0 56) := js_St.ok (st_aloadn rfl d_230_55)
theorem ki_230_52 : js_Ok 230 52 (o_pI 8 11 55) := js_St.ok (st_pIown js_c8 (by decide) rfl kw_1244 (js_c8.2.2.1 11 (by decide)) d_230_52)
theorem ki_230_51 : js_Ok 230 51 (o_b2 (fun x y => x + y) 52) := js_St.ok (st_iadd d_230_51)
theorem ki_230_50 : js_Ok 230 50 (o_ic 1 51) := js_St.ok (st_iconst rfl d_230_50)
theorem ki_230_67 : js_Ok 230 67 (o_rI) := ok_rI rfl d_230_67
theorem ki_230_66 : js_Ok 230 66 (o_il 2 67) := js_St.ok (st_iloadn rfl d_230_66)
theorem d_231_0 : decode (js_b 231) 0 = .ok (.aload_n 0, 1) := by decide +kernel
theorem d_231_1 : decode (js_b 231) 1 = .ok (.bipush 10, 2) := by decide +kernel
theorem d_231_3 : decode (js_b 231) 3 = .ok (.invokevirtual 250, 3) := by decide +kernel
theorem d_231_6 : decode (js_b 231) 6 = .ok (.istore_n 1, 1) := by decide +kernel
theorem d_231_7 : decode (js_b 231) 7 = .ok (.aload_n 0, 1) := by decide +kernel
theorem d_231_8 : decode (js_b 231) 8 = .ok (.getfield 236, 3) := by decide +kernel
theorem d_231_11 : decode (js_b 231) 11 = .ok (.ifCond .ne 32, 3) := by decide +kernel
theorem d_231_14 : decode (js_b 231) 14 = .ok (.aload_n 0, 1) := by decide +kernel
theorem d_231_15 : decode (js_b 231) 15 = .ok (.iconst 0, 1) := by decide +kernel
theorem d_231_16 : decode (js_b 231) 16 = .ok (.invokevirtual 240, 3) := by decide +kernel
theorem d_231_19 : decode (js_b 231) 19 = .ok (.bipush 48, 2) := by decide +kernel
theorem d_231_21 : decode (js_b 231) 21 = .ok (.bipush 57, 2) := by decide +kernel
theorem d_231_23 : decode (js_b 231) 23 = .ok (.invokestatic 69, 3) := by decide +kernel
theorem d_231_26 : decode (js_b 231) 26 = .ok (.ifCond .eq 17, 3) := by decide +kernel
theorem d_231_29 : decode (js_b 231) 29 = .ok (.bipush 10, 2) := by decide +kernel
theorem d_231_31 : decode (js_b 231) 31 = .ok (.iload_n 1, 1) := by decide +kernel
theorem d_231_32 : decode (js_b 231) 32 = .ok (.imul, 1) := by decide +kernel
theorem d_231_33 : decode (js_b 231) 33 = .ok (.aload_n 0, 1) := by decide +kernel
theorem d_231_34 : decode (js_b 231) 34 = .ok (.bipush 10, 2) := by decide +kernel
theorem d_231_36 : decode (js_b 231) 36 = .ok (.invokevirtual 250, 3) := by decide +kernel
theorem d_231_39 : decode (js_b 231) 39 = .ok (.iadd, 1) := by decide +kernel
theorem d_231_40 : decode (js_b 231) 40 = .ok (.goto 4, 3) := by decide +kernel
theorem d_231_43 : decode (js_b 231) 43 = .ok (.iload_n 1, 1) := by decide +kernel
theorem d_231_44 : decode (js_b 231) 44 = .ok (.ireturn, 1) := by decide +kernel
theorem ki_231_15 : js_Ok 231 15 (o_ic 0 16) := js_St.ok (st_iconst rfl d_231_15)
theorem ki_231_14 : js_Ok 231 14 (o_al 0 15) := js_St.ok (st_aloadn rfl d_231_14)
theorem ki_231_11 : js_Ok 231 11 (o_ne 43 14) := js_St.ok (st_ifne (by decide) d_231_11)
theorem ki_231_8 : js_Ok 231 8 (o_gI 8 12 11) := js_St.ok (st_gI js_c8 (by decide) kw_1245 d_231_8)
theorem ki_231_7 : js_Ok 231 7 (o_al 0 8) := js_St.ok (st_aloadn rfl d_231_7)
theorem ki_231_6 : js_Ok 231 6 (o_is 1 7) := js_St.ok (st_istoren rfl (Nat.le_of_ble_eq_true rfl) d_231_6)
theorem ki_231_3 : js_Ok 231 3 (o_cI 230 2 9 6) := ok_cI (site_V kk_231_230 (by decide) kw_1686 kw_1688 ks_64 (fun t ht => by cases ht; exact Or.inl ⟨_, rfl, rfl⟩) d_231_3) rfl
theorem ki_231_1 : js_Ok 231 1 (o_ic 10 3) := js_St.ok (st_bipush rfl d_231_1)
theorem ki_231_0 : js_Ok 231 0 (o_al 0 1) := js_St.ok (st_aloadn rfl d_231_0)
theorem ki_231_31 : js_Ok 231 31 (o_il 1 32) := js_St.ok (st_iloadn rfl d_231_31)
theorem ki_231_29 : js_Ok 231 29 (o_ic 10 31) := js_St.ok (st_bipush rfl d_231_29)
theorem ki_231_26 : js_Ok 231 26 (o_eq 43 29) := js_St.ok (st_ifeq (by decide) d_231_26)
theorem ki_231_23 : js_Ok 231 23 (o_cI 135 3 0 26) := ok_cI (site_S kk_231_135 kw_1302 kw_1303 d_231_23) rfl
theorem ki_231_21 : js_Ok 231 21 (o_ic 57 23) := js_St.ok (st_bipush rfl d_231_21)
theorem ki_231_19 : js_Ok 231 19 (o_ic 48 21) := js_St.ok (st_bipush rfl d_231_19)
theorem ki_231_16 : js_Ok 231 16 (o_cI 227 2 9 19) := ok_cI (site_V kk_231_227 (by decide) kw_1675 kw_1677 ks_62 (fun t ht => by cases ht; exact Or.inl ⟨_, rfl, rfl⟩) d_231_16) rfl
theorem ki_231_44 : js_Ok 231 44 (o_rI) := ok_rI rfl d_231_44
theorem ki_231_43 : js_Ok 231 43 (o_il 1 44) := js_St.ok (st_iloadn rfl d_231_43)
theorem ki_231_40 : js_Ok 231 40 (o_go 44) := js_St.ok (st_goto (by decide) d_231_40)
theorem ki_231_39 : js_Ok 231 39 (o_b2 (fun x y => x + y) 40) := js_St.ok (st_iadd d_231_39)
theorem ki_231_36 : js_Ok 231 36 (o_cI 230 2 9 39) := ok_cI (site_V kk_231_230 (by decide) kw_1686 kw_1688 ks_64 (fun t ht => by cases ht; exact Or.inl ⟨_, rfl, rfl⟩) d_231_36) rfl
theorem ki_231_34 : js_Ok 231 34 (o_ic 10 36) := js_St.ok (st_bipush rfl d_231_34)
theorem ki_231_33 : js_Ok 231 33 (o_al 0 34) := js_St.ok (st_aloadn rfl d_231_33)
theorem ki_231_32 : js_Ok 231 32 (o_b2 (fun x y => x * y) 33) := js_St.ok (st_imul d_231_32)
theorem d_232_0 : decode (js_b 232) 0 = .ok (.aload_n 0, 1) := by decide +kernel
theorem d_232_1 : decode (js_b 232) 1 = .ok (.getfield 236, 3) := by decide +kernel
theorem d_232_4 : decode (js_b 232) 4 = .ok (.ifCond .eq 4, 3) := by decide +kernel
theorem d_232_7 : decode (js_b 232) 7 = .ok (.return_, 1) := by decide +kernel
theorem d_232_8 : decode (js_b 232) 8 = .ok (.bipush 6, 2) := by decide +kernel
theorem d_232_10 : decode (js_b 232) 10 = .ok (.aload_n 0, 1) := by decide +kernel
theorem d_232_11 : decode (js_b 232) 11 = .ok (.getfield 253, 3) := by decide +kernel
theorem d_232_14 : decode (js_b 232) 14 = .ok (.imul, 1) := by decide +kernel
theorem d_232_15 : decode (js_b 232) 15 = .ok (.istore_n 1, 1) := by decide +kernel
theorem d_232_16 : decode (js_b 232) 16 = .ok (.aload_n 0, 1) := by decide +kernel
theorem d_232_17 : decode (js_b 232) 17 = .ok (.dup, 1) := by decide +kernel
theorem d_232_18 : decode (js_b 232) 18 = .ok (.getfield 253, 3) := by decide +kernel
theorem d_232_21 : decode (js_b 232) 21 = .ok (.iconst 1, 1) := by decide +kernel
theorem d_232_22 : decode (js_b 232) 22 = .ok (.iadd, 1) := by decide +kernel
theorem d_232_23 : decode (js_b 232) 23 = .ok (.putfield 253, 3) := by decide +kernel
theorem d_232_26 : decode (js_b 232) 26 = .ok (.aload_n 0, 1) := by decide +kernel
theorem d_232_27 : decode (js_b 232) 27 = .ok (.iconst 0, 1) := by decide +kernel
theorem d_232_28 : decode (js_b 232) 28 = .ok (.invokevirtual 240, 3) := by decide +kernel
theorem d_232_31 : decode (js_b 232) 31 = .ok (.bipush 116, 2) := by decide +kernel
theorem d_232_33 : decode (js_b 232) 33 = .ok (.if_icmp .ne 18, 3) := by decide +kernel
theorem d_232_36 : decode (js_b 232) 36 = .ok (.aload_n 0, 1) := by decide +kernel
theorem d_232_37 : decode (js_b 232) 37 = .ok (.iconst 1, 1) := by decide +kernel
theorem d_232_38 : decode (js_b 232) 38 = .ok (.invokevirtual 240, 3) := by decide +kernel
theorem d_232_41 : decode (js_b 232) 41 = .ok (.bipush 117, 2) := by decide +kernel
theorem d_232_43 : decode (js_b 232) 43 = .ok (.if_icmp .ne 8, 3) := by decide +kernel
theorem d_232_46 : decode (js_b 232) 46 = .ok (.bipush 117, 2) := by decide +kernel
theorem d_232_48 : decode (js_b 232) 48 = .ok (.goto 8, 3) := by decide +kernel
theorem d_232_51 : decode (js_b 232) 51 = .ok (.aload_n 0, 1) := by decide +kernel
theorem d_232_52 : decode (js_b 232) 52 = .ok (.iconst 0, 1) := by decide +kernel
theorem d_232_53 : decode (js_b 232) 53 = .ok (.invokevirtual 240, 3) := by decide +kernel
theorem d_232_56 : decode (js_b 232) 56 = .ok (.istore_n 2, 1) := by decide +kernel
theorem d_232_57 : decode (js_b 232) 57 = .ok (.aload_n 0, 1) := by decide +kernel
theorem d_232_58 : decode (js_b 232) 58 = .ok (.getfield 36, 3) := by decide +kernel
theorem d_232_61 : decode (js_b 232) 61 = .ok (.iload_n 1, 1) := by decide +kernel
theorem d_232_62 : decode (js_b 232) 62 = .ok (.iload_n 2, 1) := by decide +kernel
theorem d_232_63 : decode (js_b 232) 63 = .ok (.iastore, 1) := by decide +kernel
theorem d_232_64 : decode (js_b 232) 64 = .ok (.iload_n 2, 1) := by decide +kernel
theorem d_232_65 : decode (js_b 232) 65 = .ok (.bipush 110, 2) := by decide +kernel
theorem d_232_67 : decode (js_b 232) 67 = .ok (.if_icmp .ne 104, 3) := by decide +kernel
theorem d_232_70 : decode (js_b 232) 70 = .ok (.aload_n 0, 1) := by decide +kernel
theorem d_232_71 : decode (js_b 232) 71 = .ok (.ldc_w 256, 3) := by decide +kernel
theorem d_232_74 : decode (js_b 232) 74 = .ok (.invokevirtual 258, 3) := by decide +kernel
theorem d_232_77 : decode (js_b 232) 77 = .ok (.aload_n 0, 1) := by decide +kernel
theorem d_232_78 : decode (js_b 232) 78 = .ok (.iconst 0, 1) := by decide +kernel
theorem d_232_79 : decode (js_b 232) 79 = .ok (.invokevirtual 240, 3) := by decide +kernel
theorem d_232_82 : decode (js_b 232) 82 = .ok (.istore_n 3, 1) := by decide +kernel
theorem d_232_83 : decode (js_b 232) 83 = .ok (.aload_n 0, 1) := by decide +kernel
theorem d_232_84 : decode (js_b 232) 84 = .ok (.aload_n 0, 1) := by decide +kernel
theorem d_232_85 : decode (js_b 232) 85 = .ok (.getfield 236, 3) := by decide +kernel
theorem d_232_88 : decode (js_b 232) 88 = .ok (.ifCond .ne 10, 3) := by decide +kernel
theorem d_232_91 : decode (js_b 232) 91 = .ok (.iload_n 3, 1) := by decide +kernel
theorem d_232_92 : decode (js_b 232) 92 = .ok (.invokestatic 99, 3) := by decide +kernel
theorem d_232_95 : decode (js_b 232) 95 = .ok (.ifCond .ne 7, 3) := by decide +kernel
theorem d_232_98 : decode (js_b 232) 98 = .ok (.iconst 1, 1) := by decide +kernel
theorem d_232_99 : decode (js_b 232) 99 = .ok (.goto 4, 3) := by decide +kernel
theorem d_232_102 : decode (js_b 232) 102 = .ok (.iconst 0, 1) := by decide +kernel
theorem d_232_103 : decode (js_b 232) 103 = .ok (.putfield 236, 3) := by decide +kernel
theorem d_232_106 : decode (js_b 232) 106 = .ok (.aload_n 0, 1) := by decide +kernel
theorem d_232_107 : decode (js_b 232) 107 = .ok (.dup, 1) := by decide +kernel
theorem d_232_108 : decode (js_b 232) 108 = .ok (.getfield 229, 3) := by decide +kernel
theorem d_232_111 : decode (js_b 232) 111 = .ok (.aload_n 0, 1) := by decide +kernel
theorem d_232_112 : decode (js_b 232) 112 = .ok (.getfield 236, 3) := by decide +kernel
theorem d_232_115 : decode (js_b 232) 115 = .ok (.ifCond .eq 7, 3) := by decide +kernel
theorem d_232_118 : decode (js_b 232) 118 = .ok (.iconst 0, 1) := by decide +kernel
theorem d_232_119 : decode (js_b 232) 119 = .ok (.goto 4, 3) := by decide +kernel
theorem d_232_122 : decode (js_b 232) 122 = .ok (.iconst 1, 1) := by decide +kernel
theorem d_232_123 : decode (js_b 232) 123 = .ok (.iadd, 1) := by decide +kernel
theorem d_232_124 : decode (js_b 232) 124 = .ok (.putfield 229, 3) := by decide +kernel
theorem d_232_127 : decode (js_b 232) 127 = .ok (.aload_n 0, 1) := by decide +kernel
theorem d_232_128 : decode (js_b 232) 128 = .ok (.getfield 36, 3) := by decide +kernel
theorem d_232_131 : decode (js_b 232) 131 = .ok (.iload_n 1, 1) := by decide +kernel
theorem d_232_132 : decode (js_b 232) 132 = .ok (.iconst 1, 1) := by decide +kernel
theorem d_232_133 : decode (js_b 232) 133 = .ok (.iadd, 1) := by decide +kernel
theorem d_232_134 : decode (js_b 232) 134 = .ok (.iload_n 3, 1) := by decide +kernel
theorem d_232_135 : decode (js_b 232) 135 = .ok (.iastore, 1) := by decide +kernel
theorem d_232_136 : decode (js_b 232) 136 = .ok (.iconst 0, 1) := by decide +kernel
theorem d_232_137 : decode (js_b 232) 137 = .ok (.istore 4, 2) := by decide +kernel
theorem d_232_139 : decode (js_b 232) 139 = .ok (.iload 4, 2) := by decide +kernel
theorem d_232_141 : decode (js_b 232) 141 = .ok (.iconst 4, 1) := by decide +kernel
theorem d_232_142 : decode (js_b 232) 142 = .ok (.if_icmp .ge 26, 3) := by decide +kernel
theorem d_232_145 : decode (js_b 232) 145 = .ok (.aload_n 0, 1) := by decide +kernel
theorem d_232_146 : decode (js_b 232) 146 = .ok (.getfield 36, 3) := by decide +kernel
theorem d_232_149 : decode (js_b 232) 149 = .ok (.iload_n 1, 1) := by decide +kernel
theorem d_232_150 : decode (js_b 232) 150 = .ok (.iconst 2, 1) := by decide +kernel
theorem d_232_151 : decode (js_b 232) 151 = .ok (.iadd, 1) := by decide +kernel
theorem d_232_152 : decode (js_b 232) 152 = .ok (.iload 4, 2) := by decide +kernel
theorem d_232_154 : decode (js_b 232) 154 = .ok (.iadd, 1) := by decide +kernel
theorem d_232_155 : decode (js_b 232) 155 = .ok (.aload_n 0, 1) := by decide +kernel
theorem d_232_156 : decode (js_b 232) 156 = .ok (.bipush 16, 2) := by decide +kernel
theorem d_232_158 : decode (js_b 232) 158 = .ok (.invokevirtual 250, 3) := by decide +kernel
theorem d_232_161 : decode (js_b 232) 161 = .ok (.iastore, 1) := by decide +kernel
theorem d_232_162 : decode (js_b 232) 162 = .ok (.iinc 4 1, 3) := by decide +kernel
theorem d_232_165 : decode (js_b 232) 165 = .ok (.goto (-26), 3) := by decide +kernel
theorem d_232_168 : decode (js_b 232) 168 = .ok (.goto 231, 3) := by decide +kernel
theorem d_232_171 : decode (js_b 232) 171 = .ok (.iload_n 2, 1) := by decide +kernel
theorem d_232_172 : decode (js_b 232) 172 = .ok (.bipush 112, 2) := by decide +kernel
theorem d_232_174 : decode (js_b 232) 174 = .ok (.if_icmp .ne 60, 3) := by decide +kernel
theorem d_232_177 : decode (js_b 232) 177 = .ok (.aload_n 0, 1) := by decide +kernel
theorem d_232_178 : decode (js_b 232) 178 = .ok (.ldc_w 262, 3) := by decide +kernel
theorem d_232_181 : decode (js_b 232) 181 = .ok (.invokevirtual 258, 3) := by decide +kernel
theorem d_232_184 : decode (js_b 232) 184 = .ok (.aload_n 0, 1) := by decide +kernel
theorem d_232_185 : decode (js_b 232) 185 = .ok (.getfield 36, 3) := by decide +kernel
theorem d_232_188 : decode (js_b 232) 188 = .ok (.iload_n 1, 1) := by decide +kernel
theorem d_232_189 : decode (js_b 232) 189 = .ok (.iconst 1, 1) := by decide +kernel
theorem d_232_190 : decode (js_b 232) 190 = .ok (.iadd, 1) := by decide +kernel
theorem d_232_191 : decode (js_b 232) 191 = .ok (.aload_n 0, 1) := by decide +kernel
theorem d_232_192 : decode (js_b 232) 192 = .ok (.invokevirtual 264, 3) := by decide +kernel
theorem d_232_195 : decode (js_b 232) 195 = .ok (.iastore, 1) := by decide +kernel
theorem d_232_196 : decode (js_b 232) 196 = .ok (.aload_n 0, 1) := by decide +kernel
theorem d_232_197 : decode (js_b 232) 197 = .ok (.ldc_w 267, 3) := by decide +kernel
theorem d_232_200 : decode (js_b 232) 200 = .ok (.invokevirtual 258, 3) := by decide +kernel
theorem d_232_203 : decode (js_b 232) 203 = .ok (.aload_n 0, 1) := by decide +kernel
theorem d_232_204 : decode (js_b 232) 204 = .ok (.getfield 36, 3) := by decide +kernel
theorem d_232_207 : decode (js_b 232) 207 = .ok (.iload_n 1, 1) := by decide +kernel
theorem d_232_208 : decode (js_b 232) 208 = .ok (.iconst 2, 1) := by decide +kernel
theorem d_232_209 : decode (js_b 232) 209 = .ok (.iadd, 1) := by decide +kernel
theorem d_232_210 : decode (js_b 232) 210 = .ok (.aload_n 0, 1) := by decide +kernel
theorem d_232_211 : decode (js_b 232) 211 = .ok (.bipush 10, 2) := by decide +kernel
theorem d_232_213 : decode (js_b 232) 213 = .ok (.invokevirtual 250, 3) := by decide +kernel
theorem d_232_216 : decode (js_b 232) 216 = .ok (.iastore, 1) := by decide +kernel
theorem d_232_217 : decode (js_b 232) 217 = .ok (.aload_n 0, 1) := by decide +kernel
theorem d_232_218 : decode (js_b 232) 218 = .ok (.getfield 36, 3) := by decide +kernel
theorem d_232_221 : decode (js_b 232) 221 = .ok (.iload_n 1, 1) := by decide +kernel
theorem d_232_222 : decode (js_b 232) 222 = .ok (.iconst 3, 1) := by decide +kernel
theorem d_232_223 : decode (js_b 232) 223 = .ok (.iadd, 1) := by decide +kernel
theorem d_232_224 : decode (js_b 232) 224 = .ok (.aload_n 0, 1) := by decide +kernel
theorem d_232_225 : decode (js_b 232) 225 = .ok (.bipush 10, 2) := by decide +kernel
theorem d_232_227 : decode (js_b 232) 227 = .ok (.invokevirtual 250, 3) := by decide +kernel
theorem d_232_230 : decode (js_b 232) 230 = .ok (.iastore, 1) := by decide +kernel
theorem d_232_231 : decode (js_b 232) 231 = .ok (.goto 168, 3) := by decide +kernel
theorem d_232_234 : decode (js_b 232) 234 = .ok (.iload_n 2, 1) := by decide +kernel
theorem d_232_235 : decode (js_b 232) 235 = .ok (.bipush 117, 2) := by decide +kernel
theorem d_232_237 : decode (js_b 232) 237 = .ok (.if_icmp .ne 62, 3) := by decide +kernel
theorem d_232_240 : decode (js_b 232) 240 = .ok (.aload_n 0, 1) := by decide +kernel
theorem d_232_241 : decode (js_b 232) 241 = .ok (.aload_n 0, 1) := by decide +kernel
theorem d_232_242 : decode (js_b 232) 242 = .ok (.iconst 0, 1) := by decide +kernel
theorem d_232_243 : decode (js_b 232) 243 = .ok (.invokevirtual 240, 3) := by decide +kernel
theorem d_232_246 : decode (js_b 232) 246 = .ok (.bipush 116, 2) := by decide +kernel
theorem d_232_248 : decode (js_b 232) 248 = .ok (.if_icmp .ne 9, 3) := by decide +kernel
theorem d_232_251 : decode (js_b 232) 251 = .ok (.ldc_w 269, 3) := by decide +kernel
theorem d_232_254 : decode (js_b 232) 254 = .ok (.goto 6, 3) := by decide +kernel
theorem d_232_257 : decode (js_b 232) 257 = .ok (.ldc_w 271, 3) := by decide +kernel
theorem d_232_260 : decode (js_b 232) 260 = .ok (.invokevirtual 258, 3) := by decide +kernel
theorem d_232_263 : decode (js_b 232) 263 = .ok (.aload_n 0, 1) := by decide +kernel
theorem d_232_264 : decode (js_b 232) 264 = .ok (.getfield 36, 3) := by decide +kernel
theorem d_232_267 : decode (js_b 232) 267 = .ok (.iload_n 1, 1) := by decide +kernel
theorem d_232_268 : decode (js_b 232) 268 = .ok (.iconst 1, 1) := by decide +kernel
theorem d_232_269 : decode (js_b 232) 269 = .ok (.iadd, 1) := by decide +kernel
theorem d_232_270 : decode (js_b 232) 270 = .ok (.aload_n 0, 1) := by decide +kernel
theorem d_232_271 : decode (js_b 232) 271 = .ok (.invokevirtual 264, 3) := by decide +kernel
theorem d_232_274 : decode (js_b 232) 274 = .ok (.iastore, 1) := by decide +kernel
theorem d_232_275 : decode (js_b 232) 275 = .ok (.aload_n 0, 1) := by decide +kernel
theorem d_232_276 : decode (js_b 232) 276 = .ok (.ldc_w 273, 3) := by decide +kernel
theorem d_232_279 : decode (js_b 232) 279 = .ok (.invokevirtual 258, 3) := by decide +kernel
theorem d_232_282 : decode (js_b 232) 282 = .ok (.aload_n 0, 1) := by decide +kernel
theorem d_232_283 : decode (js_b 232) 283 = .ok (.getfield 36, 3) := by decide +kernel
theorem d_232_286 : decode (js_b 232) 286 = .ok (.iload_n 1, 1) := by decide +kernel
theorem d_232_287 : decode (js_b 232) 287 = .ok (.iconst 2, 1) := by decide +kernel
theorem d_232_288 : decode (js_b 232) 288 = .ok (.iadd, 1) := by decide +kernel
theorem d_232_289 : decode (js_b 232) 289 = .ok (.aload_n 0, 1) := by decide +kernel
theorem d_232_290 : decode (js_b 232) 290 = .ok (.bipush 10, 2) := by decide +kernel
theorem d_232_292 : decode (js_b 232) 292 = .ok (.invokevirtual 250, 3) := by decide +kernel
theorem d_232_295 : decode (js_b 232) 295 = .ok (.iastore, 1) := by decide +kernel
theorem d_232_296 : decode (js_b 232) 296 = .ok (.goto 103, 3) := by decide +kernel
theorem d_232_299 : decode (js_b 232) 299 = .ok (.iload_n 2, 1) := by decide +kernel
theorem d_232_300 : decode (js_b 232) 300 = .ok (.bipush 115, 2) := by decide +kernel
theorem d_232_302 : decode (js_b 232) 302 = .ok (.if_icmp .ne 44, 3) := by decide +kernel
theorem d_232_305 : decode (js_b 232) 305 = .ok (.aload_n 0, 1) := by decide +kernel
theorem d_232_306 : decode (js_b 232) 306 = .ok (.ldc_w 275, 3) := by decide +kernel
theorem d_232_309 : decode (js_b 232) 309 = .ok (.invokevirtual 258, 3) := by decide +kernel
theorem d_232_312 : decode (js_b 232) 312 = .ok (.aload_n 0, 1) := by decide +kernel
theorem d_232_313 : decode (js_b 232) 313 = .ok (.getfield 36, 3) := by decide +kernel
theorem d_232_316 : decode (js_b 232) 316 = .ok (.iload_n 1, 1) := by decide +kernel
theorem d_232_317 : decode (js_b 232) 317 = .ok (.iconst 1, 1) := by decide +kernel
theorem d_232_318 : decode (js_b 232) 318 = .ok (.iadd, 1) := by decide +kernel
theorem d_232_319 : decode (js_b 232) 319 = .ok (.aload_n 0, 1) := by decide +kernel
theorem d_232_320 : decode (js_b 232) 320 = .ok (.invokevirtual 264, 3) := by decide +kernel
theorem d_232_323 : decode (js_b 232) 323 = .ok (.iastore, 1) := by decide +kernel
theorem d_232_324 : decode (js_b 232) 324 = .ok (.aload_n 0, 1) := by decide +kernel
theorem d_232_325 : decode (js_b 232) 325 = .ok (.ldc_w 277, 3) := by decide +kernel
theorem d_232_328 : decode (js_b 232) 328 = .ok (.invokevirtual 258, 3) := by decide +kernel
theorem d_232_331 : decode (js_b 232) 331 = .ok (.aload_n 0, 1) := by decide +kernel
theorem d_232_332 : decode (js_b 232) 332 = .ok (.getfield 36, 3) := by decide +kernel
theorem d_232_335 : decode (js_b 232) 335 = .ok (.iload_n 1, 1) := by decide +kernel
theorem d_232_336 : decode (js_b 232) 336 = .ok (.iconst 2, 1) := by decide +kernel
theorem d_232_337 : decode (js_b 232) 337 = .ok (.iadd, 1) := by decide +kernel
theorem d_232_338 : decode (js_b 232) 338 = .ok (.aload_n 0, 1) := by decide +kernel
theorem d_232_339 : decode (js_b 232) 339 = .ok (.invokevirtual 264, 3) := by decide +kernel
theorem d_232_342 : decode (js_b 232) 342 = .ok (.iastore, 1) := by decide +kernel
theorem d_232_343 : decode (js_b 232) 343 = .ok (.goto 56, 3) := by decide +kernel
theorem d_232_346 : decode (js_b 232) 346 = .ok (.iload_n 2, 1) := by decide +kernel
theorem d_232_347 : decode (js_b 232) 347 = .ok (.bipush 116, 2) := by decide +kernel
theorem d_232_349 : decode (js_b 232) 349 = .ok (.if_icmp .eq 9, 3) := by decide +kernel
theorem d_232_352 : decode (js_b 232) 352 = .ok (.iload_n 2, 1) := by decide +kernel
theorem d_232_353 : decode (js_b 232) 353 = .ok (.bipush 100, 2) := by decide +kernel
theorem d_232_355 : decode (js_b 232) 355 = .ok (.if_icmp .ne 37, 3) := by decide +kernel
theorem d_232_358 : decode (js_b 232) 358 = .ok (.aload_n 0, 1) := by decide +kernel
theorem d_232_359 : decode (js_b 232) 359 = .ok (.iload_n 2, 1) := by decide +kernel
theorem d_232_360 : decode (js_b 232) 360 = .ok (.bipush 116, 2) := by decide +kernel
theorem d_232_362 : decode (js_b 232) 362 = .ok (.if_icmp .ne 9, 3) := by decide +kernel
theorem d_232_365 : decode (js_b 232) 365 = .ok (.ldc_w 279, 3) := by decide +kernel
theorem d_232_368 : decode (js_b 232) 368 = .ok (.goto 6, 3) := by decide +kernel
theorem d_232_371 : decode (js_b 232) 371 = .ok (.ldc_w 281, 3) := by decide +kernel
theorem d_232_374 : decode (js_b 232) 374 = .ok (.invokevirtual 258, 3) := by decide +kernel
theorem d_232_377 : decode (js_b 232) 377 = .ok (.aload_n 0, 1) := by decide +kernel
theorem d_232_378 : decode (js_b 232) 378 = .ok (.getfield 36, 3) := by decide +kernel
theorem d_232_381 : decode (js_b 232) 381 = .ok (.iload_n 1, 1) := by decide +kernel
theorem d_232_382 : decode (js_b 232) 382 = .ok (.iconst 1, 1) := by decide +kernel
theorem d_232_383 : decode (js_b 232) 383 = .ok (.iadd, 1) := by decide +kernel
theorem d_232_384 : decode (js_b 232) 384 = .ok (.aload_n 0, 1) := by decide +kernel
theorem d_232_385 : decode (js_b 232) 385 = .ok (.invokevirtual 264, 3) := by decide +kernel
theorem d_232_388 : decode (js_b 232) 388 = .ok (.iastore, 1) := by decide +kernel
theorem d_232_389 : decode (js_b 232) 389 = .ok (.goto 10, 3) := by decide +kernel
theorem d_232_392 : decode (js_b 232) 392 = .ok (.aload_n 0, 1) := by decide +kernel
theorem d_232_393 : decode (js_b 232) 393 = .ok (.ldc_w 271, 3) := by decide +kernel
theorem d_232_396 : decode (js_b 232) 396 = .ok (.invokevirtual 258, 3) := by decide +kernel
theorem d_232_399 : decode (js_b 232) 399 = .ok (.return_, 1) := by decide +kernel
theorem ki_232_15 : js_Ok 232 15 (o_is 1 16) := js_St.ok (st_istoren rfl (Nat.le_of_ble_eq_true rfl) d_232_15)
theorem ki_232_14 : js_Ok 232 14 (o_b2 (fun x y => x * y) 15) := js_St.ok (st_imul d_232_14)
theorem ki_232_11 : js_Ok 232 11 (o_gI 8 16 14) := js_St.ok (st_gI js_c8 (by decide) kw_1249 d_232_11)
theorem ki_232_10 : js_Ok 232 10 (o_al 0 11) := js_St.ok (st_aloadn rfl d_232_10)
theorem ki_232_8 : js_Ok 232 8 (o_ic 6 10) := js_St.ok (st_bipush rfl d_232_8)
theorem ki_232_7 : js_Ok 232 7 (o_rV) := ok_rV rfl d_232_7
theorem ki_232_4 : js_Ok 232 4 (o_eq 8 7) := js_St.ok (st_ifeq (by decide) d_232_4)
theorem ki_232_1 : js_Ok 232 1 (o_gI 8 12 4) := js_St.ok (st_gI js_c8 (by decide) kw_1245 d_232_1)
theorem ki_232_0 : js_Ok 232 0 (o_al 0 1) := js_St.ok (st_aloadn rfl d_232_0)
theorem ki_232_31 : js_Ok 232 31 (o_ic 116 33) := js_St.ok (st_bipush rfl d_232_31)
theorem ki_232_28 : js_Ok 232 28 (o_cI 227 2 9 31) := ok_cI (site_V kk_232_227 (by decide) kw_1675 kw_1677 ks_62 (fun t ht => by cases ht; exact Or.inl ⟨_, rfl, rfl⟩) d_232_28) rfl
theorem ki_232_27 : js_Ok 232 27 (o_ic 0 28) := js_St.ok (st_iconst rfl d_232_27)
theorem ki_232_26 : js_Ok 232 26 (o_al 0 27) := js_St.ok (st_aloadn rfl d_232_26)
theorem ki_232_23 : js_Ok 232 23 (o_pI 8 16 26) := js_St.ok (st_pIown js_c8 (by decide) rfl kw_1249 (js_c8.2.2.1 16 (by decide)) d_232_23)
theorem ki_232_22 : js_Ok 232 22 (o_b2 (fun x y => x + y) 23) := js_St.ok (st_iadd d_232_22)
theorem ki_232_21 : js_Ok 232 21 (o_ic 1 22) := js_St.ok (st_iconst rfl d_232_21)
theorem ki_232_18 : js_Ok 232 18 (o_gI 8 16 21) := js_St.ok (st_gI js_c8 (by decide) kw_1249 d_232_18)
theorem ki_232_17 : js_Ok 232 17 (o_dup 18) := js_St.ok (st_dup d_232_17)
theorem ki_232_16 : js_Ok 232 16 (o_al 0 17) := js_St.ok (st_aloadn rfl d_232_16)
theorem ki_232_46 : js_Ok 232 46 (o_ic 117 48) := js_St.ok (st_bipush rfl d_232_46)
theorem ki_232_43 : js_Ok 232 43 (o_cne 51 46) := js_St.ok (st_icne (by decide) d_232_43)
theorem ki_232_41 : js_Ok 232 41 (o_ic 117 43) := js_St.ok (st_bipush rfl d_232_41)
theorem ki_232_38 : js_Ok 232 38 (o_cI 227 2 9 41) := ok_cI (site_V kk_232_227 (by decide) kw_1675 kw_1677 ks_62 (fun t ht => by cases ht; exact Or.inl ⟨_, rfl, rfl⟩) d_232_38) rfl
theorem ki_232_37 : js_Ok 232 37 (o_ic 1 38) := js_St.ok (st_iconst rfl d_232_37)
theorem ki_232_36 : js_Ok 232 36 (o_al 0 37) := js_St.ok (st_aloadn rfl d_232_36)
theorem ki_232_33 : js_Ok 232 33 (o_cne 51 36) := js_St.ok (st_icne (by decide) d_232_33)
theorem ki_232_63 : js_Ok 232 63 (o_sI 100 64) := js_St.ok (st_sI d_232_63)
theorem ki_232_62 : js_Ok 232 62 (o_il 2 63) := js_St.ok (st_iloadn rfl d_232_62)
theorem ki_232_61 : js_Ok 232 61 (o_il 1 62) := js_St.ok (st_iloadn rfl d_232_61)
theorem ki_232_58 : js_Ok 232 58 (o_gA 8 15 61) := js_St.ok (st_gA js_c8 (by decide) kw_1248 d_232_58)
theorem ki_232_57 : js_Ok 232 57 (o_al 0 58) := js_St.ok (st_aloadn rfl d_232_57)
theorem ki_232_56 : js_Ok 232 56 (o_is 2 57) := js_St.ok (st_istoren rfl (Nat.le_of_ble_eq_true rfl) d_232_56)
theorem ki_232_53 : js_Ok 232 53 (o_cI 227 2 9 56) := ok_cI (site_V kk_232_227 (by decide) kw_1675 kw_1677 ks_62 (fun t ht => by cases ht; exact Or.inl ⟨_, rfl, rfl⟩) d_232_53) rfl
theorem ki_232_52 : js_Ok 232 52 (o_ic 0 53) := js_St.ok (st_iconst rfl d_232_52)
theorem ki_232_51 : js_Ok 232 51 (o_al 0 52) := js_St.ok (st_aloadn rfl d_232_51)
theorem ki_232_48 : js_Ok 232 48 (o_go 56) := js_St.ok (st_goto (by decide) d_232_48)
theorem ki_232_79 : js_Ok 232 79 (o_cI 227 2 9 82) := ok_cI (site_V kk_232_227 (by decide) kw_1675 kw_1677 ks_62 (fun t ht => by cases ht; exact Or.inl ⟨_, rfl, rfl⟩) d_232_79) rfl
theorem ki_232_78 : js_Ok 232 78 (o_ic 0 79) := js_St.ok (st_iconst rfl d_232_78)
theorem ki_232_77 : js_Ok 232 77 (o_al 0 78) := js_St.ok (st_aloadn rfl d_232_77)
theorem ki_232_74 : js_Ok 232 74 (o_cV 228 2 9 77) := ok_cV (site_V kk_232_228 (by decide) kw_1680 kw_1682 ks_63 (fun t ht => by cases ht; exact Or.inl ⟨_, rfl, rfl⟩) d_232_74) rfl
theorem ki_232_71 : js_Ok 232 71 (o_rc 30 74) := js_St.ok (st_ldcs (tx := "new ") (by decide +kernel) d_232_71)
theorem ki_232_70 : js_Ok 232 70 (o_al 0 71) := js_St.ok (st_aloadn rfl d_232_70)
theorem ki_232_67 : js_Ok 232 67 (o_cne 171 70) := js_St.ok (st_icne (by decide) d_232_67)
theorem ki_232_65 : js_Ok 232 65 (o_ic 110 67) := js_St.ok (st_bipush rfl d_232_65)
theorem ki_232_64 : js_Ok 232 64 (o_il 2 65) := js_St.ok (st_iloadn rfl d_232_64)
theorem ki_232_95 : js_Ok 232 95 (o_ne 102 98) := js_St.ok (st_ifne (by decide) d_232_95)
theorem ki_232_92 : js_Ok 232 92 (o_cI 150 1 0 95) := ok_cI (site_S kk_232_150 kw_1305 kw_1306 d_232_92) rfl
theorem ki_232_91 : js_Ok 232 91 (o_il 3 92) := js_St.ok (st_iloadn rfl d_232_91)
theorem ki_232_88 : js_Ok 232 88 (o_ne 98 91) := js_St.ok (st_ifne (by decide) d_232_88)
theorem ki_232_85 : js_Ok 232 85 (o_gI 8 12 88) := js_St.ok (st_gI js_c8 (by decide) kw_1245 d_232_85)
theorem ki_232_84 : js_Ok 232 84 (o_al 0 85) := js_St.ok (st_aloadn rfl d_232_84)
theorem ki_232_83 : js_Ok 232 83 (o_al 0 84) := js_St.ok (st_aloadn rfl d_232_83)
theorem ki_232_82 : js_Ok 232 82 (o_is 3 83) := js_St.ok (st_istoren rfl (Nat.le_of_ble_eq_true rfl) d_232_82)
theorem ki_232_111 : js_Ok 232 111 (o_al 0 112) := js_St.ok (st_aloadn rfl d_232_111)
theorem ki_232_108 : js_Ok 232 108 (o_gI 8 11 111) := js_St.ok (st_gI js_c8 (by decide) kw_1244 d_232_108)
theorem ki_232_107 : js_Ok 232 107 (o_dup 108) := js_St.ok (st_dup d_232_107)
theorem ki_232_106 : js_Ok 232 106 (o_al 0 107) := js_St.ok (st_aloadn rfl d_232_106)
theorem ki_232_103 : js_Ok 232 103 (o_pZ 8 12 106) := js_St.ok (st_pZown js_c8 (by decide) rfl kw_1245 (js_c8.2.2.1 12 (by decide)) d_232_103)
theorem ki_232_102 : js_Ok 232 102 (o_ic 0 103) := js_St.ok (st_iconst rfl d_232_102)
theorem ki_232_99 : js_Ok 232 99 (o_go 103) := js_St.ok (st_goto (by decide) d_232_99)
theorem ki_232_98 : js_Ok 232 98 (o_ic 1 99) := js_St.ok (st_iconst rfl d_232_98)
theorem ki_232_127 : js_Ok 232 127 (o_al 0 128) := js_St.ok (st_aloadn rfl d_232_127)
theorem ki_232_124 : js_Ok 232 124 (o_pI 8 11 127) := js_St.ok (st_pIown js_c8 (by decide) rfl kw_1244 (js_c8.2.2.1 11 (by decide)) d_232_124)
theorem ki_232_123 : js_Ok 232 123 (o_b2 (fun x y => x + y) 124) := js_St.ok (st_iadd d_232_123)
theorem ki_232_122 : js_Ok 232 122 (o_ic 1 123) := js_St.ok (st_iconst rfl d_232_122)
theorem ki_232_119 : js_Ok 232 119 (o_go 123) := js_St.ok (st_goto (by decide) d_232_119)
theorem ki_232_118 : js_Ok 232 118 (o_ic 0 119) := js_St.ok (st_iconst rfl d_232_118)
theorem ki_232_115 : js_Ok 232 115 (o_eq 122 118) := js_St.ok (st_ifeq (by decide) d_232_115)
theorem ki_232_112 : js_Ok 232 112 (o_gI 8 12 115) := js_St.ok (st_gI js_c8 (by decide) kw_1245 d_232_112)
theorem ki_232_142 : js_Ok 232 142 (o_cge 168 145) := js_St.ok (st_icge (by decide) d_232_142)
theorem ki_232_141 : js_Ok 232 141 (o_ic 4 142) := js_St.ok (st_iconst rfl d_232_141)
theorem ki_232_139 : js_Ok 232 139 (o_il 4 141) := js_St.ok (st_iload d_232_139)
theorem ki_232_137 : js_Ok 232 137 (o_is 4 139) := js_St.ok (st_istore (Nat.le_of_ble_eq_true rfl) d_232_137)
theorem ki_232_136 : js_Ok 232 136 (o_ic 0 137) := js_St.ok (st_iconst rfl d_232_136)
theorem ki_232_135 : js_Ok 232 135 (o_sI 100 136) := js_St.ok (st_sI d_232_135)
theorem ki_232_134 : js_Ok 232 134 (o_il 3 135) := js_St.ok (st_iloadn rfl d_232_134)
theorem ki_232_133 : js_Ok 232 133 (o_b2 (fun x y => x + y) 134) := js_St.ok (st_iadd d_232_133)
theorem ki_232_132 : js_Ok 232 132 (o_ic 1 133) := js_St.ok (st_iconst rfl d_232_132)
theorem ki_232_131 : js_Ok 232 131 (o_il 1 132) := js_St.ok (st_iloadn rfl d_232_131)
theorem ki_232_128 : js_Ok 232 128 (o_gA 8 15 131) := js_St.ok (st_gA js_c8 (by decide) kw_1248 d_232_128)
theorem ki_232_158 : js_Ok 232 158 (o_cI 230 2 9 161) := ok_cI (site_V kk_232_230 (by decide) kw_1686 kw_1688 ks_64 (fun t ht => by cases ht; exact Or.inl ⟨_, rfl, rfl⟩) d_232_158) rfl
theorem ki_232_156 : js_Ok 232 156 (o_ic 16 158) := js_St.ok (st_bipush rfl d_232_156)
theorem ki_232_155 : js_Ok 232 155 (o_al 0 156) := js_St.ok (st_aloadn rfl d_232_155)
theorem ki_232_154 : js_Ok 232 154 (o_b2 (fun x y => x + y) 155) := js_St.ok (st_iadd d_232_154)
theorem ki_232_152 : js_Ok 232 152 (o_il 4 154) := js_St.ok (st_iload d_232_152)
theorem ki_232_151 : js_Ok 232 151 (o_b2 (fun x y => x + y) 152) := js_St.ok (st_iadd d_232_151)
theorem ki_232_150 : js_Ok 232 150 (o_ic 2 151) := js_St.ok (st_iconst rfl d_232_150)
theorem ki_232_149 : js_Ok 232 149 (o_il 1 150) := js_St.ok (st_iloadn rfl d_232_149)
theorem ki_232_146 : js_Ok 232 146 (o_gA 8 15 149) := js_St.ok (st_gA js_c8 (by decide) kw_1248 d_232_146)
theorem ki_232_145 : js_Ok 232 145 (o_al 0 146) := js_St.ok (st_aloadn rfl d_232_145)
theorem ki_232_174 : js_Ok 232 174 (o_cne 234 177) := js_St.ok (st_icne (by decide) d_232_174)
theorem ki_232_172 : js_Ok 232 172 (o_ic 112 174) := js_St.ok (st_bipush rfl d_232_172)
theorem ki_232_171 : js_Ok 232 171 (o_il 2 172) := js_St.ok (st_iloadn rfl d_232_171)
theorem ki_232_168 : js_Ok 232 168 (o_go 399) := js_St.ok (st_goto (by decide) d_232_168)
theorem ki_232_165 : js_Ok 232 165 (o_go 139) := js_St.ok (st_goto (by decide) d_232_165)
theorem ki_232_162 : js_Ok 232 162 (o_inc 4 1 165) := js_St.ok (st_iinc rfl (Nat.le_of_ble_eq_true rfl) d_232_162)
theorem ki_232_161 : js_Ok 232 161 (o_sI 100 162) := js_St.ok (st_sI d_232_161)
theorem ki_232_191 : js_Ok 232 191 (o_al 0 192) := js_St.ok (st_aloadn rfl d_232_191)
theorem ki_232_190 : js_Ok 232 190 (o_b2 (fun x y => x + y) 191) := js_St.ok (st_iadd d_232_190)
theorem ki_232_189 : js_Ok 232 189 (o_ic 1 190) := js_St.ok (st_iconst rfl d_232_189)
theorem ki_232_188 : js_Ok 232 188 (o_il 1 189) := js_St.ok (st_iloadn rfl d_232_188)
theorem ki_232_185 : js_Ok 232 185 (o_gA 8 15 188) := js_St.ok (st_gA js_c8 (by decide) kw_1248 d_232_185)
theorem ki_232_184 : js_Ok 232 184 (o_al 0 185) := js_St.ok (st_aloadn rfl d_232_184)
theorem ki_232_181 : js_Ok 232 181 (o_cV 228 2 9 184) := ok_cV (site_V kk_232_228 (by decide) kw_1680 kw_1682 ks_63 (fun t ht => by cases ht; exact Or.inl ⟨_, rfl, rfl⟩) d_232_181) rfl
theorem ki_232_178 : js_Ok 232 178 (o_rc 31 181) := js_St.ok (st_ldcs (tx := "put ") (by decide +kernel) d_232_178)
theorem ki_232_177 : js_Ok 232 177 (o_al 0 178) := js_St.ok (st_aloadn rfl d_232_177)
theorem ki_232_207 : js_Ok 232 207 (o_il 1 208) := js_St.ok (st_iloadn rfl d_232_207)
theorem ki_232_204 : js_Ok 232 204 (o_gA 8 15 207) := js_St.ok (st_gA js_c8 (by decide) kw_1248 d_232_204)
theorem ki_232_203 : js_Ok 232 203 (o_al 0 204) := js_St.ok (st_aloadn rfl d_232_203)
theorem ki_232_200 : js_Ok 232 200 (o_cV 228 2 9 203) := ok_cV (site_V kk_232_228 (by decide) kw_1680 kw_1682 ks_63 (fun t ht => by cases ht; exact Or.inl ⟨_, rfl, rfl⟩) d_232_200) rfl
theorem ki_232_197 : js_Ok 232 197 (o_rc 32 200) := js_St.ok (st_ldcs (tx := "@") (by decide +kernel) d_232_197)
theorem ki_232_196 : js_Ok 232 196 (o_al 0 197) := js_St.ok (st_aloadn rfl d_232_196)
theorem ki_232_195 : js_Ok 232 195 (o_sI 100 196) := js_St.ok (st_sI d_232_195)
theorem ki_232_192 : js_Ok 232 192 (o_cI 231 1 9 195) := ok_cI (site_V kk_232_231 (by decide) kw_1694 kw_1696 ks_65 (fun t ht => by cases ht; exact Or.inl ⟨_, rfl, rfl⟩) d_232_192) rfl
theorem ki_232_223 : js_Ok 232 223 (o_b2 (fun x y => x + y) 224) := js_St.ok (st_iadd d_232_223)
theorem ki_232_222 : js_Ok 232 222 (o_ic 3 223) := js_St.ok (st_iconst rfl d_232_222)
theorem ki_232_221 : js_Ok 232 221 (o_il 1 222) := js_St.ok (st_iloadn rfl d_232_221)
theorem ki_232_218 : js_Ok 232 218 (o_gA 8 15 221) := js_St.ok (st_gA js_c8 (by decide) kw_1248 d_232_218)
theorem ki_232_217 : js_Ok 232 217 (o_al 0 218) := js_St.ok (st_aloadn rfl d_232_217)
theorem ki_232_216 : js_Ok 232 216 (o_sI 100 217) := js_St.ok (st_sI d_232_216)
theorem ki_232_213 : js_Ok 232 213 (o_cI 230 2 9 216) := ok_cI (site_V kk_232_230 (by decide) kw_1686 kw_1688 ks_64 (fun t ht => by cases ht; exact Or.inl ⟨_, rfl, rfl⟩) d_232_213) rfl
theorem ki_232_211 : js_Ok 232 211 (o_ic 10 213) := js_St.ok (st_bipush rfl d_232_211)
theorem ki_232_210 : js_Ok 232 210 (o_al 0 211) := js_St.ok (st_aloadn rfl d_232_210)
theorem ki_232_209 : js_Ok 232 209 (o_b2 (fun x y => x + y) 210) := js_St.ok (st_iadd d_232_209)
theorem ki_232_208 : js_Ok 232 208 (o_ic 2 209) := js_St.ok (st_iconst rfl d_232_208)
theorem ki_232_237 : js_Ok 232 237 (o_cne 299 240) := js_St.ok (st_icne (by decide) d_232_237)
theorem ki_232_235 : js_Ok 232 235 (o_ic 117 237) := js_St.ok (st_bipush rfl d_232_235)
theorem ki_232_234 : js_Ok 232 234 (o_il 2 235) := js_St.ok (st_iloadn rfl d_232_234)
theorem ki_232_231 : js_Ok 232 231 (o_go 399) := js_St.ok (st_goto (by decide) d_232_231)
theorem ki_232_230 : js_Ok 232 230 (o_sI 100 231) := js_St.ok (st_sI d_232_230)
theorem ki_232_227 : js_Ok 232 227 (o_cI 230 2 9 230) := ok_cI (site_V kk_232_230 (by decide) kw_1686 kw_1688 ks_64 (fun t ht => by cases ht; exact Or.inl ⟨_, rfl, rfl⟩) d_232_227) rfl
theorem ki_232_225 : js_Ok 232 225 (o_ic 10 227) := js_St.ok (st_bipush rfl d_232_225)
theorem ki_232_224 : js_Ok 232 224 (o_al 0 225) := js_St.ok (st_aloadn rfl d_232_224)
theorem ki_232_254 : js_Ok 232 254 (o_go 260) := js_St.ok (st_goto (by decide) d_232_254)
theorem ki_232_251 : js_Ok 232 251 (o_rc 33 254) := js_St.ok (st_ldcs (tx := "turn ") (by decide +kernel) d_232_251)
theorem ki_232_248 : js_Ok 232 248 (o_cne 257 251) := js_St.ok (st_icne (by decide) d_232_248)
theorem ki_232_246 : js_Ok 232 246 (o_ic 116 248) := js_St.ok (st_bipush rfl d_232_246)
theorem ki_232_243 : js_Ok 232 243 (o_cI 227 2 9 246) := ok_cI (site_V kk_232_227 (by decide) kw_1675 kw_1677 ks_62 (fun t ht => by cases ht; exact Or.inl ⟨_, rfl, rfl⟩) d_232_243) rfl
theorem ki_232_242 : js_Ok 232 242 (o_ic 0 243) := js_St.ok (st_iconst rfl d_232_242)
theorem ki_232_241 : js_Ok 232 241 (o_al 0 242) := js_St.ok (st_aloadn rfl d_232_241)
theorem ki_232_240 : js_Ok 232 240 (o_al 0 241) := js_St.ok (st_aloadn rfl d_232_240)
theorem ki_232_271 : js_Ok 232 271 (o_cI 231 1 9 274) := ok_cI (site_V kk_232_231 (by decide) kw_1694 kw_1696 ks_65 (fun t ht => by cases ht; exact Or.inl ⟨_, rfl, rfl⟩) d_232_271) rfl
theorem ki_232_270 : js_Ok 232 270 (o_al 0 271) := js_St.ok (st_aloadn rfl d_232_270)
theorem ki_232_269 : js_Ok 232 269 (o_b2 (fun x y => x + y) 270) := js_St.ok (st_iadd d_232_269)
theorem ki_232_268 : js_Ok 232 268 (o_ic 1 269) := js_St.ok (st_iconst rfl d_232_268)
theorem ki_232_267 : js_Ok 232 267 (o_il 1 268) := js_St.ok (st_iloadn rfl d_232_267)
theorem ki_232_264 : js_Ok 232 264 (o_gA 8 15 267) := js_St.ok (st_gA js_c8 (by decide) kw_1248 d_232_264)
theorem ki_232_263 : js_Ok 232 263 (o_al 0 264) := js_St.ok (st_aloadn rfl d_232_263)
theorem ki_232_260 : js_Ok 232 260 (o_cV 228 2 9 263) := ok_cV (site_V kk_232_228 (by decide) kw_1680 kw_1682 ks_63 (fun t ht => by cases ht; exact Or.inl ⟨_, rfl, rfl⟩) d_232_260) rfl
theorem ki_232_257 : js_Ok 232 257 (o_rc 34 260) := js_St.ok (st_ldcs (tx := "fill") (by decide +kernel) d_232_257)
theorem ki_232_287 : js_Ok 232 287 (o_ic 2 288) := js_St.ok (st_iconst rfl d_232_287)
theorem ki_232_286 : js_Ok 232 286 (o_il 1 287) := js_St.ok (st_iloadn rfl d_232_286)
theorem ki_232_283 : js_Ok 232 283 (o_gA 8 15 286) := js_St.ok (st_gA js_c8 (by decide) kw_1248 d_232_283)
theorem ki_232_282 : js_Ok 232 282 (o_al 0 283) := js_St.ok (st_aloadn rfl d_232_282)
theorem ki_232_279 : js_Ok 232 279 (o_cV 228 2 9 282) := ok_cV (site_V kk_232_228 (by decide) kw_1680 kw_1682 ks_63 (fun t ht => by cases ht; exact Or.inl ⟨_, rfl, rfl⟩) d_232_279) rfl
theorem ki_232_276 : js_Ok 232 276 (o_rc 35 279) := js_St.ok (st_ldcs (tx := "*") (by decide +kernel) d_232_276)
theorem ki_232_275 : js_Ok 232 275 (o_al 0 276) := js_St.ok (st_aloadn rfl d_232_275)
theorem ki_232_274 : js_Ok 232 274 (o_sI 100 275) := js_St.ok (st_sI d_232_274)
theorem ki_232_302 : js_Ok 232 302 (o_cne 346 305) := js_St.ok (st_icne (by decide) d_232_302)
theorem ki_232_300 : js_Ok 232 300 (o_ic 115 302) := js_St.ok (st_bipush rfl d_232_300)
theorem ki_232_299 : js_Ok 232 299 (o_il 2 300) := js_St.ok (st_iloadn rfl d_232_299)
theorem ki_232_296 : js_Ok 232 296 (o_go 399) := js_St.ok (st_goto (by decide) d_232_296)
theorem ki_232_295 : js_Ok 232 295 (o_sI 100 296) := js_St.ok (st_sI d_232_295)
theorem ki_232_292 : js_Ok 232 292 (o_cI 230 2 9 295) := ok_cI (site_V kk_232_230 (by decide) kw_1686 kw_1688 ks_64 (fun t ht => by cases ht; exact Or.inl ⟨_, rfl, rfl⟩) d_232_292) rfl
theorem ki_232_290 : js_Ok 232 290 (o_ic 10 292) := js_St.ok (st_bipush rfl d_232_290)
theorem ki_232_289 : js_Ok 232 289 (o_al 0 290) := js_St.ok (st_aloadn rfl d_232_289)
theorem ki_232_288 : js_Ok 232 288 (o_b2 (fun x y => x + y) 289) := js_St.ok (st_iadd d_232_288)
theorem ki_232_319 : js_Ok 232 319 (o_al 0 320) := js_St.ok (st_aloadn rfl d_232_319)
theorem ki_232_318 : js_Ok 232 318 (o_b2 (fun x y => x + y) 319) := js_St.ok (st_iadd d_232_318)
theorem ki_232_317 : js_Ok 232 317 (o_ic 1 318) := js_St.ok (st_iconst rfl d_232_317)
theorem ki_232_316 : js_Ok 232 316 (o_il 1 317) := js_St.ok (st_iloadn rfl d_232_316)
theorem ki_232_313 : js_Ok 232 313 (o_gA 8 15 316) := js_St.ok (st_gA js_c8 (by decide) kw_1248 d_232_313)
theorem ki_232_312 : js_Ok 232 312 (o_al 0 313) := js_St.ok (st_aloadn rfl d_232_312)
theorem ki_232_309 : js_Ok 232 309 (o_cV 228 2 9 312) := ok_cV (site_V kk_232_228 (by decide) kw_1680 kw_1682 ks_63 (fun t ht => by cases ht; exact Or.inl ⟨_, rfl, rfl⟩) d_232_309) rfl
theorem ki_232_306 : js_Ok 232 306 (o_rc 36 309) := js_St.ok (st_ldcs (tx := "swap ") (by decide +kernel) d_232_306)
theorem ki_232_305 : js_Ok 232 305 (o_al 0 306) := js_St.ok (st_aloadn rfl d_232_305)
theorem ki_232_335 : js_Ok 232 335 (o_il 1 336) := js_St.ok (st_iloadn rfl d_232_335)
theorem ki_232_332 : js_Ok 232 332 (o_gA 8 15 335) := js_St.ok (st_gA js_c8 (by decide) kw_1248 d_232_332)
theorem ki_232_331 : js_Ok 232 331 (o_al 0 332) := js_St.ok (st_aloadn rfl d_232_331)
theorem ki_232_328 : js_Ok 232 328 (o_cV 228 2 9 331) := ok_cV (site_V kk_232_228 (by decide) kw_1680 kw_1682 ks_63 (fun t ht => by cases ht; exact Or.inl ⟨_, rfl, rfl⟩) d_232_328) rfl
theorem ki_232_325 : js_Ok 232 325 (o_rc 37 328) := js_St.ok (st_ldcs (tx := "&") (by decide +kernel) d_232_325)
theorem ki_232_324 : js_Ok 232 324 (o_al 0 325) := js_St.ok (st_aloadn rfl d_232_324)
theorem ki_232_323 : js_Ok 232 323 (o_sI 100 324) := js_St.ok (st_sI d_232_323)
theorem ki_232_320 : js_Ok 232 320 (o_cI 231 1 9 323) := ok_cI (site_V kk_232_231 (by decide) kw_1694 kw_1696 ks_65 (fun t ht => by cases ht; exact Or.inl ⟨_, rfl, rfl⟩) d_232_320) rfl
theorem ki_232_349 : js_Ok 232 349 (o_ceq 358 352) := js_St.ok (st_iceq (by decide) d_232_349)
theorem ki_232_347 : js_Ok 232 347 (o_ic 116 349) := js_St.ok (st_bipush rfl d_232_347)
theorem ki_232_346 : js_Ok 232 346 (o_il 2 347) := js_St.ok (st_iloadn rfl d_232_346)
theorem ki_232_343 : js_Ok 232 343 (o_go 399) := js_St.ok (st_goto (by decide) d_232_343)
theorem ki_232_342 : js_Ok 232 342 (o_sI 100 343) := js_St.ok (st_sI d_232_342)
theorem ki_232_339 : js_Ok 232 339 (o_cI 231 1 9 342) := ok_cI (site_V kk_232_231 (by decide) kw_1694 kw_1696 ks_65 (fun t ht => by cases ht; exact Or.inl ⟨_, rfl, rfl⟩) d_232_339) rfl
theorem ki_232_338 : js_Ok 232 338 (o_al 0 339) := js_St.ok (st_aloadn rfl d_232_338)
theorem ki_232_337 : js_Ok 232 337 (o_b2 (fun x y => x + y) 338) := js_St.ok (st_iadd d_232_337)
theorem ki_232_336 : js_Ok 232 336 (o_ic 2 337) := js_St.ok (st_iconst rfl d_232_336)
theorem ki_232_365 : js_Ok 232 365 (o_rc 38 368) := js_St.ok (st_ldcs (tx := "take ") (by decide +kernel) d_232_365)
theorem ki_232_362 : js_Ok 232 362 (o_cne 371 365) := js_St.ok (st_icne (by decide) d_232_362)
theorem ki_232_360 : js_Ok 232 360 (o_ic 116 362) := js_St.ok (st_bipush rfl d_232_360)
theorem ki_232_359 : js_Ok 232 359 (o_il 2 360) := js_St.ok (st_iloadn rfl d_232_359)
theorem ki_232_358 : js_Ok 232 358 (o_al 0 359) := js_St.ok (st_aloadn rfl d_232_358)
theorem ki_232_355 : js_Ok 232 355 (o_cne 392 358) := js_St.ok (st_icne (by decide) d_232_355)
theorem ki_232_353 : js_Ok 232 353 (o_ic 100 355) := js_St.ok (st_bipush rfl d_232_353)
theorem ki_232_352 : js_Ok 232 352 (o_il 2 353) := js_St.ok (st_iloadn rfl d_232_352)
theorem ki_232_383 : js_Ok 232 383 (o_b2 (fun x y => x + y) 384) := js_St.ok (st_iadd d_232_383)
theorem ki_232_382 : js_Ok 232 382 (o_ic 1 383) := js_St.ok (st_iconst rfl d_232_382)
theorem ki_232_381 : js_Ok 232 381 (o_il 1 382) := js_St.ok (st_iloadn rfl d_232_381)
theorem ki_232_378 : js_Ok 232 378 (o_gA 8 15 381) := js_St.ok (st_gA js_c8 (by decide) kw_1248 d_232_378)
theorem ki_232_377 : js_Ok 232 377 (o_al 0 378) := js_St.ok (st_aloadn rfl d_232_377)
theorem ki_232_374 : js_Ok 232 374 (o_cV 228 2 9 377) := ok_cV (site_V kk_232_228 (by decide) kw_1680 kw_1682 ks_63 (fun t ht => by cases ht; exact Or.inl ⟨_, rfl, rfl⟩) d_232_374) rfl
theorem ki_232_371 : js_Ok 232 371 (o_rc 39 374) := js_St.ok (st_ldcs (tx := "drop ") (by decide +kernel) d_232_371)
theorem ki_232_368 : js_Ok 232 368 (o_go 374) := js_St.ok (st_goto (by decide) d_232_368)
theorem ki_232_399 : js_Ok 232 399 (o_rV) := ok_rV rfl d_232_399
theorem ki_232_396 : js_Ok 232 396 (o_cV 228 2 9 399) := ok_cV (site_V kk_232_228 (by decide) kw_1680 kw_1682 ks_63 (fun t ht => by cases ht; exact Or.inl ⟨_, rfl, rfl⟩) d_232_396) rfl
theorem ki_232_393 : js_Ok 232 393 (o_rc 34 396) := js_St.ok (st_ldcs (tx := "fill") (by decide +kernel) d_232_393)
theorem ki_232_392 : js_Ok 232 392 (o_al 0 393) := js_St.ok (st_aloadn rfl d_232_392)
theorem ki_232_389 : js_Ok 232 389 (o_go 399) := js_St.ok (st_goto (by decide) d_232_389)
theorem ki_232_388 : js_Ok 232 388 (o_sI 100 389) := js_St.ok (st_sI d_232_388)
theorem ki_232_385 : js_Ok 232 385 (o_cI 231 1 9 388) := ok_cI (site_V kk_232_231 (by decide) kw_1694 kw_1696 ks_65 (fun t ht => by cases ht; exact Or.inl ⟨_, rfl, rfl⟩) d_232_385) rfl
theorem ki_232_384 : js_Ok 232 384 (o_al 0 385) := js_St.ok (st_aloadn rfl d_232_384)
theorem d_233_0 : decode (js_b 233) 0 = .ok (.bipush 6, 2) := by decide +kernel
theorem d_233_2 : decode (js_b 233) 2 = .ok (.iload_n 1, 1) := by decide +kernel
theorem d_233_3 : decode (js_b 233) 3 = .ok (.imul, 1) := by decide +kernel
theorem d_233_4 : decode (js_b 233) 4 = .ok (.istore_n 2, 1) := by decide +kernel
theorem d_233_5 : decode (js_b 233) 5 = .ok (.aload_n 0, 1) := by decide +kernel
theorem d_233_6 : decode (js_b 233) 6 = .ok (.getfield 36, 3) := by decide +kernel
theorem d_233_9 : decode (js_b 233) 9 = .ok (.iload_n 2, 1) := by decide +kernel
theorem d_233_10 : decode (js_b 233) 10 = .ok (.iconst 1, 1) := by decide +kernel
theorem d_233_11 : decode (js_b 233) 11 = .ok (.iadd, 1) := by decide +kernel
theorem d_233_12 : decode (js_b 233) 12 = .ok (.iaload, 1) := by decide +kernel
theorem d_233_13 : decode (js_b 233) 13 = .ok (.istore_n 3, 1) := by decide +kernel
theorem d_233_14 : decode (js_b 233) 14 = .ok (.aload_n 0, 1) := by decide +kernel
theorem d_233_15 : decode (js_b 233) 15 = .ok (.getfield 36, 3) := by decide +kernel
theorem d_233_18 : decode (js_b 233) 18 = .ok (.iload_n 2, 1) := by decide +kernel
theorem d_233_19 : decode (js_b 233) 19 = .ok (.iconst 2, 1) := by decide +kernel
theorem d_233_20 : decode (js_b 233) 20 = .ok (.iadd, 1) := by decide +kernel
theorem d_233_21 : decode (js_b 233) 21 = .ok (.iaload, 1) := by decide +kernel
theorem d_233_22 : decode (js_b 233) 22 = .ok (.istore 4, 2) := by decide +kernel
theorem d_233_24 : decode (js_b 233) 24 = .ok (.aload_n 0, 1) := by decide +kernel
theorem d_233_25 : decode (js_b 233) 25 = .ok (.getfield 36, 3) := by decide +kernel
theorem d_233_28 : decode (js_b 233) 28 = .ok (.iload_n 2, 1) := by decide +kernel
theorem d_233_29 : decode (js_b 233) 29 = .ok (.iconst 3, 1) := by decide +kernel
theorem d_233_30 : decode (js_b 233) 30 = .ok (.iadd, 1) := by decide +kernel
theorem d_233_31 : decode (js_b 233) 31 = .ok (.iaload, 1) := by decide +kernel
theorem d_233_32 : decode (js_b 233) 32 = .ok (.istore 5, 2) := by decide +kernel
theorem d_233_34 : decode (js_b 233) 34 = .ok (.aload_n 0, 1) := by decide +kernel
theorem d_233_35 : decode (js_b 233) 35 = .ok (.getfield 36, 3) := by decide +kernel
theorem d_233_38 : decode (js_b 233) 38 = .ok (.iload_n 2, 1) := by decide +kernel
theorem d_233_39 : decode (js_b 233) 39 = .ok (.iaload, 1) := by decide +kernel
theorem d_233_40 : decode (js_b 233) 40 = .ok (.tableswitch 177 100 117 #[167, 177, 177, 177, 177, 177, 177, 177, 177, 177, 88, 177, 119, 177, 177, 145, 157, 133], 88) := by decide +kernel
theorem d_233_128 : decode (js_b 233) 128 = .ok (.aload_n 0, 1) := by decide +kernel
theorem d_233_129 : decode (js_b 233) 129 = .ok (.iload_n 3, 1) := by decide +kernel
theorem d_233_130 : decode (js_b 233) 130 = .ok (.i2c, 1) := by decide +kernel
theorem d_233_131 : decode (js_b 233) 131 = .ok (.iload 4, 2) := by decide +kernel
theorem d_233_133 : decode (js_b 233) 133 = .ok (.iload 5, 2) := by decide +kernel
theorem d_233_135 : decode (js_b 233) 135 = .ok (.aload_n 0, 1) := by decide +kernel
theorem d_233_136 : decode (js_b 233) 136 = .ok (.getfield 36, 3) := by decide +kernel
theorem d_233_139 : decode (js_b 233) 139 = .ok (.iload_n 2, 1) := by decide +kernel
theorem d_233_140 : decode (js_b 233) 140 = .ok (.iconst 4, 1) := by decide +kernel
theorem d_233_141 : decode (js_b 233) 141 = .ok (.iadd, 1) := by decide +kernel
theorem d_233_142 : decode (js_b 233) 142 = .ok (.iaload, 1) := by decide +kernel
theorem d_233_143 : decode (js_b 233) 143 = .ok (.aload_n 0, 1) := by decide +kernel
theorem d_233_144 : decode (js_b 233) 144 = .ok (.getfield 36, 3) := by decide +kernel
theorem d_233_147 : decode (js_b 233) 147 = .ok (.iload_n 2, 1) := by decide +kernel
theorem d_233_148 : decode (js_b 233) 148 = .ok (.iconst 5, 1) := by decide +kernel
theorem d_233_149 : decode (js_b 233) 149 = .ok (.iadd, 1) := by decide +kernel
theorem d_233_150 : decode (js_b 233) 150 = .ok (.iaload, 1) := by decide +kernel
theorem d_233_151 : decode (js_b 233) 151 = .ok (.invokevirtual 116, 3) := by decide +kernel
theorem d_233_154 : decode (js_b 233) 154 = .ok (.istore 6, 2) := by decide +kernel
theorem d_233_156 : decode (js_b 233) 156 = .ok (.goto 67, 3) := by decide +kernel
theorem d_233_159 : decode (js_b 233) 159 = .ok (.aload_n 0, 1) := by decide +kernel
theorem d_233_160 : decode (js_b 233) 160 = .ok (.iload_n 3, 1) := by decide +kernel
theorem d_233_161 : decode (js_b 233) 161 = .ok (.iload 4, 2) := by decide +kernel
theorem d_233_163 : decode (js_b 233) 163 = .ok (.iload 5, 2) := by decide +kernel
theorem d_233_165 : decode (js_b 233) 165 = .ok (.invokevirtual 140, 3) := by decide +kernel
theorem d_233_168 : decode (js_b 233) 168 = .ok (.istore 6, 2) := by decide +kernel
theorem d_233_170 : decode (js_b 233) 170 = .ok (.goto 53, 3) := by decide +kernel
theorem d_233_173 : decode (js_b 233) 173 = .ok (.aload_n 0, 1) := by decide +kernel
theorem d_233_174 : decode (js_b 233) 174 = .ok (.iload_n 3, 1) := by decide +kernel
theorem d_233_175 : decode (js_b 233) 175 = .ok (.iload 4, 2) := by decide +kernel
theorem d_233_177 : decode (js_b 233) 177 = .ok (.invokevirtual 146, 3) := by decide +kernel
theorem d_233_180 : decode (js_b 233) 180 = .ok (.istore 6, 2) := by decide +kernel
theorem d_233_182 : decode (js_b 233) 182 = .ok (.goto 41, 3) := by decide +kernel
theorem d_233_185 : decode (js_b 233) 185 = .ok (.aload_n 0, 1) := by decide +kernel
theorem d_233_186 : decode (js_b 233) 186 = .ok (.iload_n 3, 1) := by decide +kernel
theorem d_233_187 : decode (js_b 233) 187 = .ok (.iload 4, 2) := by decide +kernel
theorem d_233_189 : decode (js_b 233) 189 = .ok (.invokevirtual 152, 3) := by decide +kernel
theorem d_233_192 : decode (js_b 233) 192 = .ok (.istore 6, 2) := by decide +kernel
theorem d_233_194 : decode (js_b 233) 194 = .ok (.goto 29, 3) := by decide +kernel
theorem d_233_197 : decode (js_b 233) 197 = .ok (.aload_n 0, 1) := by decide +kernel
theorem d_233_198 : decode (js_b 233) 198 = .ok (.iload_n 3, 1) := by decide +kernel
theorem d_233_199 : decode (js_b 233) 199 = .ok (.invokevirtual 143, 3) := by decide +kernel
theorem d_233_202 : decode (js_b 233) 202 = .ok (.istore 6, 2) := by decide +kernel
theorem d_233_204 : decode (js_b 233) 204 = .ok (.goto 19, 3) := by decide +kernel
theorem d_233_207 : decode (js_b 233) 207 = .ok (.aload_n 0, 1) := by decide +kernel
theorem d_233_208 : decode (js_b 233) 208 = .ok (.iload_n 3, 1) := by decide +kernel
theorem d_233_209 : decode (js_b 233) 209 = .ok (.invokevirtual 123, 3) := by decide +kernel
theorem d_233_212 : decode (js_b 233) 212 = .ok (.istore 6, 2) := by decide +kernel
theorem d_233_214 : decode (js_b 233) 214 = .ok (.goto 9, 3) := by decide +kernel
theorem d_233_217 : decode (js_b 233) 217 = .ok (.aload_n 0, 1) := by decide +kernel
theorem d_233_218 : decode (js_b 233) 218 = .ok (.invokevirtual 191, 3) := by decide +kernel
theorem d_233_221 : decode (js_b 233) 221 = .ok (.istore 6, 2) := by decide +kernel
theorem d_233_223 : decode (js_b 233) 223 = .ok (.return_, 1) := by decide +kernel
theorem ki_233_15 : js_Ok 233 15 (o_gA 8 15 18) := js_St.ok (st_gA js_c8 (by decide) kw_1248 d_233_15)
theorem ki_233_14 : js_Ok 233 14 (o_al 0 15) := js_St.ok (st_aloadn rfl d_233_14)
theorem ki_233_13 : js_Ok 233 13 (o_is 3 14) := js_St.ok (st_istoren rfl (Nat.le_of_ble_eq_true rfl) d_233_13)
theorem ki_233_12 : js_Ok 233 12 (o_lI 100 13) := js_St.ok (st_lI d_233_12)
theorem ki_233_11 : js_Ok 233 11 (o_b2 (fun x y => x + y) 12) := js_St.ok (st_iadd d_233_11)
theorem ki_233_10 : js_Ok 233 10 (o_ic 1 11) := js_St.ok (st_iconst rfl d_233_10)
theorem ki_233_9 : js_Ok 233 9 (o_il 2 10) := js_St.ok (st_iloadn rfl d_233_9)
theorem ki_233_6 : js_Ok 233 6 (o_gA 8 15 9) := js_St.ok (st_gA js_c8 (by decide) kw_1248 d_233_6)
theorem ki_233_5 : js_Ok 233 5 (o_al 0 6) := js_St.ok (st_aloadn rfl d_233_5)
theorem ki_233_4 : js_Ok 233 4 (o_is 2 5) := js_St.ok (st_istoren rfl (Nat.le_of_ble_eq_true rfl) d_233_4)
theorem ki_233_3 : js_Ok 233 3 (o_b2 (fun x y => x * y) 4) := js_St.ok (st_imul d_233_3)
theorem ki_233_2 : js_Ok 233 2 (o_il 1 3) := js_St.ok (st_iloadn rfl d_233_2)
theorem ki_233_0 : js_Ok 233 0 (o_ic 6 2) := js_St.ok (st_bipush rfl d_233_0)
theorem ki_233_31 : js_Ok 233 31 (o_lI 100 32) := js_St.ok (st_lI d_233_31)
theorem ki_233_30 : js_Ok 233 30 (o_b2 (fun x y => x + y) 31) := js_St.ok (st_iadd d_233_30)
theorem ki_233_29 : js_Ok 233 29 (o_ic 3 30) := js_St.ok (st_iconst rfl d_233_29)
theorem ki_233_28 : js_Ok 233 28 (o_il 2 29) := js_St.ok (st_iloadn rfl d_233_28)
theorem ki_233_25 : js_Ok 233 25 (o_gA 8 15 28) := js_St.ok (st_gA js_c8 (by decide) kw_1248 d_233_25)
theorem ki_233_24 : js_Ok 233 24 (o_al 0 25) := js_St.ok (st_aloadn rfl d_233_24)
theorem ki_233_22 : js_Ok 233 22 (o_is 4 24) := js_St.ok (st_istore (Nat.le_of_ble_eq_true rfl) d_233_22)
theorem ki_233_21 : js_Ok 233 21 (o_lI 100 22) := js_St.ok (st_lI d_233_21)
theorem ki_233_20 : js_Ok 233 20 (o_b2 (fun x y => x + y) 21) := js_St.ok (st_iadd d_233_20)
theorem ki_233_19 : js_Ok 233 19 (o_ic 2 20) := js_St.ok (st_iconst rfl d_233_19)
theorem ki_233_18 : js_Ok 233 18 (o_il 2 19) := js_St.ok (st_iloadn rfl d_233_18)
theorem ki_233_40 : js_Ok 233 40 (o_sw 217 [(100, 207), (101, 217), (102, 217), (103, 217), (104, 217), (105, 217), (106, 217), (107, 217), (108, 217), (109, 217), (110, 128), (111, 217), (112, 159), (113, 217), (114, 217), (115, 185), (116, 197), (117, 173)]) := js_St.ok (st_tsw (by decide +kernel) (by decide +kernel) (by decide +kernel) d_233_40)
theorem ki_233_39 : js_Ok 233 39 (o_lI 100 40) := js_St.ok (st_lI d_233_39)
theorem ki_233_38 : js_Ok 233 38 (o_il 2 39) := js_St.ok (st_iloadn rfl d_233_38)
theorem ki_233_35 : js_Ok 233 35 (o_gA 8 15 38) := js_St.ok (st_gA js_c8 (by decide) kw_1248 d_233_35)
theorem ki_233_34 : js_Ok 233 34 (o_al 0 35) := js_St.ok (st_aloadn rfl d_233_34)
theorem ki_233_32 : js_Ok 233 32 (o_is 5 34) := js_St.ok (st_istore (Nat.le_of_ble_eq_true rfl) d_233_32)
theorem ki_233_143 : js_Ok 233 143 (o_al 0 144) := js_St.ok (st_aloadn rfl d_233_143)
theorem ki_233_142 : js_Ok 233 142 (o_lI 100 143) := js_St.ok (st_lI d_233_142)
theorem ki_233_141 : js_Ok 233 141 (o_b2 (fun x y => x + y) 142) := js_St.ok (st_iadd d_233_141)
theorem ki_233_140 : js_Ok 233 140 (o_ic 4 141) := js_St.ok (st_iconst rfl d_233_140)
theorem ki_233_139 : js_Ok 233 139 (o_il 2 140) := js_St.ok (st_iloadn rfl d_233_139)
theorem ki_233_136 : js_Ok 233 136 (o_gA 8 15 139) := js_St.ok (st_gA js_c8 (by decide) kw_1248 d_233_136)
theorem ki_233_135 : js_Ok 233 135 (o_al 0 136) := js_St.ok (st_aloadn rfl d_233_135)
theorem ki_233_133 : js_Ok 233 133 (o_il 5 135) := js_St.ok (st_iload d_233_133)
theorem ki_233_131 : js_Ok 233 131 (o_il 4 133) := js_St.ok (st_iload d_233_131)
theorem ki_233_130 : js_Ok 233 130 (o_u (fun x => (x.toUInt32 % 65536).toInt32) 131) := js_St.ok (st_i2c d_233_130)
theorem ki_233_129 : js_Ok 233 129 (o_il 3 130) := js_St.ok (st_iloadn rfl d_233_129)
theorem ki_233_128 : js_Ok 233 128 (o_al 0 129) := js_St.ok (st_aloadn rfl d_233_128)
theorem ki_233_159 : js_Ok 233 159 (o_al 0 160) := js_St.ok (st_aloadn rfl d_233_159)
theorem ki_233_156 : js_Ok 233 156 (o_go 223) := js_St.ok (st_goto (by decide) d_233_156)
theorem ki_233_154 : js_Ok 233 154 (o_is 6 156) := js_St.ok (st_istore (Nat.le_of_ble_eq_true rfl) d_233_154)
theorem ki_233_151 : js_Ok 233 151 (o_cI 160 6 9 154) := ok_cI (site_V kk_233_160 (by decide) kw_1298 kw_1300 ks_22 (fun t ht => by cases ht; exact Or.inl ⟨_, rfl, rfl⟩) d_233_151) rfl
theorem ki_233_150 : js_Ok 233 150 (o_lI 100 151) := js_St.ok (st_lI d_233_150)
theorem ki_233_149 : js_Ok 233 149 (o_b2 (fun x y => x + y) 150) := js_St.ok (st_iadd d_233_149)
theorem ki_233_148 : js_Ok 233 148 (o_ic 5 149) := js_St.ok (st_iconst rfl d_233_148)
theorem ki_233_147 : js_Ok 233 147 (o_il 2 148) := js_St.ok (st_iloadn rfl d_233_147)
theorem ki_233_144 : js_Ok 233 144 (o_gA 8 15 147) := js_St.ok (st_gA js_c8 (by decide) kw_1248 d_233_144)
theorem ki_233_175 : js_Ok 233 175 (o_il 4 177) := js_St.ok (st_iload d_233_175)
theorem ki_233_174 : js_Ok 233 174 (o_il 3 175) := js_St.ok (st_iloadn rfl d_233_174)
theorem ki_233_173 : js_Ok 233 173 (o_al 0 174) := js_St.ok (st_aloadn rfl d_233_173)
theorem ki_233_170 : js_Ok 233 170 (o_go 223) := js_St.ok (st_goto (by decide) d_233_170)
theorem ki_233_168 : js_Ok 233 168 (o_is 6 170) := js_St.ok (st_istore (Nat.le_of_ble_eq_true rfl) d_233_168)
theorem ki_233_165 : js_Ok 233 165 (o_cI 175 4 9 168) := ok_cI (site_V kk_233_175 (by decide) kw_1412 kw_1414 ks_37 (fun t ht => by cases ht; exact Or.inl ⟨_, rfl, rfl⟩) d_233_165) rfl
theorem ki_233_163 : js_Ok 233 163 (o_il 5 165) := js_St.ok (st_iload d_233_163)
theorem ki_233_161 : js_Ok 233 161 (o_il 4 163) := js_St.ok (st_iload d_233_161)
theorem ki_233_160 : js_Ok 233 160 (o_il 3 161) := js_St.ok (st_iloadn rfl d_233_160)
theorem ki_233_189 : js_Ok 233 189 (o_cI 181 3 9 192) := ok_cI (site_V kk_233_181 (by decide) kw_1462 kw_1464 ks_45 (fun t ht => by cases ht; exact Or.inl ⟨_, rfl, rfl⟩) d_233_189) rfl
theorem ki_233_187 : js_Ok 233 187 (o_il 4 189) := js_St.ok (st_iload d_233_187)
theorem ki_233_186 : js_Ok 233 186 (o_il 3 187) := js_St.ok (st_iloadn rfl d_233_186)
theorem ki_233_185 : js_Ok 233 185 (o_al 0 186) := js_St.ok (st_aloadn rfl d_233_185)
theorem ki_233_182 : js_Ok 233 182 (o_go 223) := js_St.ok (st_goto (by decide) d_233_182)
theorem ki_233_180 : js_Ok 233 180 (o_is 6 182) := js_St.ok (st_istore (Nat.le_of_ble_eq_true rfl) d_233_180)
theorem ki_233_177 : js_Ok 233 177 (o_cI 179 3 9 180) := ok_cI (site_V kk_233_179 (by decide) kw_1454 kw_1456 ks_44 (fun t ht => by cases ht; exact Or.inl ⟨_, rfl, rfl⟩) d_233_177) rfl
theorem ki_233_207 : js_Ok 233 207 (o_al 0 208) := js_St.ok (st_aloadn rfl d_233_207)
theorem ki_233_204 : js_Ok 233 204 (o_go 223) := js_St.ok (st_goto (by decide) d_233_204)
theorem ki_233_202 : js_Ok 233 202 (o_is 6 204) := js_St.ok (st_istore (Nat.le_of_ble_eq_true rfl) d_233_202)
theorem ki_233_199 : js_Ok 233 199 (o_cI 177 2 9 202) := ok_cI (site_V kk_233_177 (by decide) kw_1446 kw_1448 ks_43 (fun t ht => by cases ht; exact Or.inl ⟨_, rfl, rfl⟩) d_233_199) rfl
theorem ki_233_198 : js_Ok 233 198 (o_il 3 199) := js_St.ok (st_iloadn rfl d_233_198)
theorem ki_233_197 : js_Ok 233 197 (o_al 0 198) := js_St.ok (st_aloadn rfl d_233_197)
theorem ki_233_194 : js_Ok 233 194 (o_go 223) := js_St.ok (st_goto (by decide) d_233_194)
theorem ki_233_192 : js_Ok 233 192 (o_is 6 194) := js_St.ok (st_istore (Nat.le_of_ble_eq_true rfl) d_233_192)
theorem ki_233_223 : js_Ok 233 223 (o_rV) := ok_rV rfl d_233_223
theorem ki_233_221 : js_Ok 233 221 (o_is 6 223) := js_St.ok (st_istore (Nat.le_of_ble_eq_true rfl) d_233_221)
theorem ki_233_218 : js_Ok 233 218 (o_cI 192 1 9 221) := ok_cI (site_V kk_233_192 (by decide) kw_1518 kw_1520 ks_57 (fun t ht => by cases ht; exact Or.inl ⟨_, rfl, rfl⟩) d_233_218) rfl
theorem ki_233_217 : js_Ok 233 217 (o_al 0 218) := js_St.ok (st_aloadn rfl d_233_217)
theorem ki_233_214 : js_Ok 233 214 (o_go 223) := js_St.ok (st_goto (by decide) d_233_214)
theorem ki_233_212 : js_Ok 233 212 (o_is 6 214) := js_St.ok (st_istore (Nat.le_of_ble_eq_true rfl) d_233_212)
theorem ki_233_209 : js_Ok 233 209 (o_cI 162 2 9 212) := ok_cI (site_V kk_233_162 (by decide) kw_1344 kw_1346 ks_31 (fun t ht => by cases ht; exact Or.inl ⟨_, rfl, rfl⟩) d_233_209) rfl
theorem ki_233_208 : js_Ok 233 208 (o_il 3 209) := js_St.ok (st_iloadn rfl d_233_208)
theorem d_234_0 : decode (js_b 234) 0 = .ok (.aload_n 0, 1) := by decide +kernel
theorem d_234_1 : decode (js_b 234) 1 = .ok (.iconst 0, 1) := by decide +kernel
theorem d_234_2 : decode (js_b 234) 2 = .ok (.putfield 229, 3) := by decide +kernel
theorem d_234_5 : decode (js_b 234) 5 = .ok (.aload_n 0, 1) := by decide +kernel
theorem d_234_6 : decode (js_b 234) 6 = .ok (.iconst 0, 1) := by decide +kernel
theorem d_234_7 : decode (js_b 234) 7 = .ok (.putfield 236, 3) := by decide +kernel
theorem d_234_10 : decode (js_b 234) 10 = .ok (.aload_n 0, 1) := by decide +kernel
theorem d_234_11 : decode (js_b 234) 11 = .ok (.iconst 0, 1) := by decide +kernel
theorem d_234_12 : decode (js_b 234) 12 = .ok (.putfield 253, 3) := by decide +kernel
theorem d_234_15 : decode (js_b 234) 15 = .ok (.aload_n 0, 1) := by decide +kernel
theorem d_234_16 : decode (js_b 234) 16 = .ok (.invokevirtual 283, 3) := by decide +kernel
theorem d_234_19 : decode (js_b 234) 19 = .ok (.aload_n 0, 1) := by decide +kernel
theorem d_234_20 : decode (js_b 234) 20 = .ok (.getfield 236, 3) := by decide +kernel
theorem d_234_23 : decode (js_b 234) 23 = .ok (.ifCond .ne 30, 3) := by decide +kernel
theorem d_234_26 : decode (js_b 234) 26 = .ok (.aload_n 0, 1) := by decide +kernel
theorem d_234_27 : decode (js_b 234) 27 = .ok (.iconst 0, 1) := by decide +kernel
theorem d_234_28 : decode (js_b 234) 28 = .ok (.invokevirtual 240, 3) := by decide +kernel
theorem d_234_31 : decode (js_b 234) 31 = .ok (.bipush 59, 2) := by decide +kernel
theorem d_234_33 : decode (js_b 234) 33 = .ok (.if_icmp .ne 20, 3) := by decide +kernel
theorem d_234_36 : decode (js_b 234) 36 = .ok (.aload_n 0, 1) := by decide +kernel
theorem d_234_37 : decode (js_b 234) 37 = .ok (.dup, 1) := by decide +kernel
theorem d_234_38 : decode (js_b 234) 38 = .ok (.getfield 229, 3) := by decide +kernel
theorem d_234_41 : decode (js_b 234) 41 = .ok (.iconst 1, 1) := by decide +kernel
theorem d_234_42 : decode (js_b 234) 42 = .ok (.iadd, 1) := by decide +kernel
theorem d_234_43 : decode (js_b 234) 43 = .ok (.putfield 229, 3) := by decide +kernel
theorem d_234_46 : decode (js_b 234) 46 = .ok (.aload_n 0, 1) := by decide +kernel
theorem d_234_47 : decode (js_b 234) 47 = .ok (.invokevirtual 283, 3) := by decide +kernel
theorem d_234_50 : decode (js_b 234) 50 = .ok (.goto (-31), 3) := by decide +kernel
theorem d_234_53 : decode (js_b 234) 53 = .ok (.aload_n 0, 1) := by decide +kernel
theorem d_234_54 : decode (js_b 234) 54 = .ok (.aload_n 0, 1) := by decide +kernel
theorem d_234_55 : decode (js_b 234) 55 = .ok (.getfield 236, 3) := by decide +kernel
theorem d_234_58 : decode (js_b 234) 58 = .ok (.ifCond .ne 14, 3) := by decide +kernel
theorem d_234_61 : decode (js_b 234) 61 = .ok (.aload_n 0, 1) := by decide +kernel
theorem d_234_62 : decode (js_b 234) 62 = .ok (.getfield 229, 3) := by decide +kernel
theorem d_234_65 : decode (js_b 234) 65 = .ok (.aload_n 0, 1) := by decide +kernel
theorem d_234_66 : decode (js_b 234) 66 = .ok (.getfield 226, 3) := by decide +kernel
theorem d_234_69 : decode (js_b 234) 69 = .ok (.if_icmp .ge 7, 3) := by decide +kernel
theorem d_234_72 : decode (js_b 234) 72 = .ok (.iconst 1, 1) := by decide +kernel
theorem d_234_73 : decode (js_b 234) 73 = .ok (.goto 4, 3) := by decide +kernel
theorem d_234_76 : decode (js_b 234) 76 = .ok (.iconst 0, 1) := by decide +kernel
theorem d_234_77 : decode (js_b 234) 77 = .ok (.putfield 236, 3) := by decide +kernel
theorem d_234_80 : decode (js_b 234) 80 = .ok (.aload_n 0, 1) := by decide +kernel
theorem d_234_81 : decode (js_b 234) 81 = .ok (.aload_n 0, 1) := by decide +kernel
theorem d_234_82 : decode (js_b 234) 82 = .ok (.getfield 236, 3) := by decide +kernel
theorem d_234_85 : decode (js_b 234) 85 = .ok (.ifCond .eq 10, 3) := by decide +kernel
theorem d_234_88 : decode (js_b 234) 88 = .ok (.aload_n 0, 1) := by decide +kernel
theorem d_234_89 : decode (js_b 234) 89 = .ok (.getfield 229, 3) := by decide +kernel
theorem d_234_92 : decode (js_b 234) 92 = .ok (.goto 7, 3) := by decide +kernel
theorem d_234_95 : decode (js_b 234) 95 = .ok (.aload_n 0, 1) := by decide +kernel
theorem d_234_96 : decode (js_b 234) 96 = .ok (.getfield 29, 3) := by decide +kernel
theorem d_234_99 : decode (js_b 234) 99 = .ok (.putfield 29, 3) := by decide +kernel
theorem d_234_102 : decode (js_b 234) 102 = .ok (.aload_n 0, 1) := by decide +kernel
theorem d_234_103 : decode (js_b 234) 103 = .ok (.iconst 0, 1) := by decide +kernel
theorem d_234_104 : decode (js_b 234) 104 = .ok (.putfield 226, 3) := by decide +kernel
theorem d_234_107 : decode (js_b 234) 107 = .ok (.aload_n 0, 1) := by decide +kernel
theorem d_234_108 : decode (js_b 234) 108 = .ok (.getfield 236, 3) := by decide +kernel
theorem d_234_111 : decode (js_b 234) 111 = .ok (.ifCond .eq 9, 3) := by decide +kernel
theorem d_234_114 : decode (js_b 234) 114 = .ok (.aload_n 0, 1) := by decide +kernel
theorem d_234_115 : decode (js_b 234) 115 = .ok (.iconst 1, 1) := by decide +kernel
theorem d_234_116 : decode (js_b 234) 116 = .ok (.invokevirtual 102, 3) := by decide +kernel
theorem d_234_119 : decode (js_b 234) 119 = .ok (.ireturn, 1) := by decide +kernel
theorem d_234_120 : decode (js_b 234) 120 = .ok (.aload_n 0, 1) := by decide +kernel
theorem d_234_121 : decode (js_b 234) 121 = .ok (.invokevirtual 113, 3) := by decide +kernel
theorem d_234_124 : decode (js_b 234) 124 = .ok (.iconst 0, 1) := by decide +kernel
theorem d_234_125 : decode (js_b 234) 125 = .ok (.istore_n 1, 1) := by decide +kernel
theorem d_234_126 : decode (js_b 234) 126 = .ok (.iload_n 1, 1) := by decide +kernel
theorem d_234_127 : decode (js_b 234) 127 = .ok (.aload_n 0, 1) := by decide +kernel
theorem d_234_128 : decode (js_b 234) 128 = .ok (.getfield 253, 3) := by decide +kernel
theorem d_234_131 : decode (js_b 234) 131 = .ok (.if_icmp .ge 36, 3) := by decide +kernel
theorem d_234_134 : decode (js_b 234) 134 = .ok (.aload_n 0, 1) := by decide +kernel
theorem d_234_135 : decode (js_b 234) 135 = .ok (.iload_n 1, 1) := by decide +kernel
theorem d_234_136 : decode (js_b 234) 136 = .ok (.invokevirtual 286, 3) := by decide +kernel
theorem d_234_139 : decode (js_b 234) 139 = .ok (.aload_n 0, 1) := by decide +kernel
theorem d_234_140 : decode (js_b 234) 140 = .ok (.getfield 39, 3) := by decide +kernel
theorem d_234_143 : decode (js_b 234) 143 = .ok (.ifCond .le 18, 3) := by decide +kernel
theorem d_234_146 : decode (js_b 234) 146 = .ok (.aload_n 0, 1) := by decide +kernel
theorem d_234_147 : decode (js_b 234) 147 = .ok (.iload_n 1, 1) := by decide +kernel
theorem d_234_148 : decode (js_b 234) 148 = .ok (.putfield 33, 3) := by decide +kernel
theorem d_234_151 : decode (js_b 234) 151 = .ok (.aload_n 0, 1) := by decide +kernel
theorem d_234_152 : decode (js_b 234) 152 = .ok (.aload_n 0, 1) := by decide +kernel
theorem d_234_153 : decode (js_b 234) 153 = .ok (.iconst 2, 1) := by decide +kernel
theorem d_234_154 : decode (js_b 234) 154 = .ok (.invokevirtual 102, 3) := by decide +kernel
theorem d_234_157 : decode (js_b 234) 157 = .ok (.invokevirtual 120, 3) := by decide +kernel
theorem d_234_160 : decode (js_b 234) 160 = .ok (.ireturn, 1) := by decide +kernel
theorem d_234_161 : decode (js_b 234) 161 = .ok (.iinc 1 1, 3) := by decide +kernel
theorem d_234_164 : decode (js_b 234) 164 = .ok (.goto (-38), 3) := by decide +kernel
theorem d_234_167 : decode (js_b 234) 167 = .ok (.aload_n 0, 1) := by decide +kernel
theorem d_234_168 : decode (js_b 234) 168 = .ok (.aload_n 0, 1) := by decide +kernel
theorem d_234_169 : decode (js_b 234) 169 = .ok (.getfield 253, 3) := by decide +kernel
theorem d_234_172 : decode (js_b 234) 172 = .ok (.invokevirtual 120, 3) := by decide +kernel
theorem d_234_175 : decode (js_b 234) 175 = .ok (.ireturn, 1) := by decide +kernel
theorem ki_234_15 : js_Ok 234 15 (o_al 0 16) := js_St.ok (st_aloadn rfl d_234_15)
theorem ki_234_12 : js_Ok 234 12 (o_pI 8 16 15) := js_St.ok (st_pIown js_c8 (by decide) rfl kw_1249 (js_c8.2.2.1 16 (by decide)) d_234_12)
theorem ki_234_11 : js_Ok 234 11 (o_ic 0 12) := js_St.ok (st_iconst rfl d_234_11)
theorem ki_234_10 : js_Ok 234 10 (o_al 0 11) := js_St.ok (st_aloadn rfl d_234_10)
theorem ki_234_7 : js_Ok 234 7 (o_pZ 8 12 10) := js_St.ok (st_pZown js_c8 (by decide) rfl kw_1245 (js_c8.2.2.1 12 (by decide)) d_234_7)
theorem ki_234_6 : js_Ok 234 6 (o_ic 0 7) := js_St.ok (st_iconst rfl d_234_6)
theorem ki_234_5 : js_Ok 234 5 (o_al 0 6) := js_St.ok (st_aloadn rfl d_234_5)
theorem ki_234_2 : js_Ok 234 2 (o_pI 8 11 5) := js_St.ok (st_pIown js_c8 (by decide) rfl kw_1244 (js_c8.2.2.1 11 (by decide)) d_234_2)
theorem ki_234_1 : js_Ok 234 1 (o_ic 0 2) := js_St.ok (st_iconst rfl d_234_1)
theorem ki_234_0 : js_Ok 234 0 (o_al 0 1) := js_St.ok (st_aloadn rfl d_234_0)
theorem ki_234_31 : js_Ok 234 31 (o_ic 59 33) := js_St.ok (st_bipush rfl d_234_31)
theorem ki_234_28 : js_Ok 234 28 (o_cI 227 2 9 31) := ok_cI (site_V kk_234_227 (by decide) kw_1675 kw_1677 ks_62 (fun t ht => by cases ht; exact Or.inl ⟨_, rfl, rfl⟩) d_234_28) rfl
theorem ki_234_27 : js_Ok 234 27 (o_ic 0 28) := js_St.ok (st_iconst rfl d_234_27)
theorem ki_234_26 : js_Ok 234 26 (o_al 0 27) := js_St.ok (st_aloadn rfl d_234_26)
theorem ki_234_23 : js_Ok 234 23 (o_ne 53 26) := js_St.ok (st_ifne (by decide) d_234_23)
theorem ki_234_20 : js_Ok 234 20 (o_gI 8 12 23) := js_St.ok (st_gI js_c8 (by decide) kw_1245 d_234_20)
theorem ki_234_19 : js_Ok 234 19 (o_al 0 20) := js_St.ok (st_aloadn rfl d_234_19)
theorem ki_234_16 : js_Ok 234 16 (o_cV 232 1 9 19) := ok_cV (site_V kk_234_232 (by decide) kw_1671 kw_1673 ks_61 (fun t ht => by cases ht; exact Or.inl ⟨_, rfl, rfl⟩) d_234_16) rfl
theorem ki_234_47 : js_Ok 234 47 (o_cV 232 1 9 50) := ok_cV (site_V kk_234_232 (by decide) kw_1671 kw_1673 ks_61 (fun t ht => by cases ht; exact Or.inl ⟨_, rfl, rfl⟩) d_234_47) rfl
theorem ki_234_46 : js_Ok 234 46 (o_al 0 47) := js_St.ok (st_aloadn rfl d_234_46)
theorem ki_234_43 : js_Ok 234 43 (o_pI 8 11 46) := js_St.ok (st_pIown js_c8 (by decide) rfl kw_1244 (js_c8.2.2.1 11 (by decide)) d_234_43)
theorem ki_234_42 : js_Ok 234 42 (o_b2 (fun x y => x + y) 43) := js_St.ok (st_iadd d_234_42)
theorem ki_234_41 : js_Ok 234 41 (o_ic 1 42) := js_St.ok (st_iconst rfl d_234_41)
theorem ki_234_38 : js_Ok 234 38 (o_gI 8 11 41) := js_St.ok (st_gI js_c8 (by decide) kw_1244 d_234_38)
theorem ki_234_37 : js_Ok 234 37 (o_dup 38) := js_St.ok (st_dup d_234_37)
theorem ki_234_36 : js_Ok 234 36 (o_al 0 37) := js_St.ok (st_aloadn rfl d_234_36)
theorem ki_234_33 : js_Ok 234 33 (o_cne 53 36) := js_St.ok (st_icne (by decide) d_234_33)
theorem ki_234_62 : js_Ok 234 62 (o_gI 8 11 65) := js_St.ok (st_gI js_c8 (by decide) kw_1244 d_234_62)
theorem ki_234_61 : js_Ok 234 61 (o_al 0 62) := js_St.ok (st_aloadn rfl d_234_61)
theorem ki_234_58 : js_Ok 234 58 (o_ne 72 61) := js_St.ok (st_ifne (by decide) d_234_58)
theorem ki_234_55 : js_Ok 234 55 (o_gI 8 12 58) := js_St.ok (st_gI js_c8 (by decide) kw_1245 d_234_55)
theorem ki_234_54 : js_Ok 234 54 (o_al 0 55) := js_St.ok (st_aloadn rfl d_234_54)
theorem ki_234_53 : js_Ok 234 53 (o_al 0 54) := js_St.ok (st_aloadn rfl d_234_53)
theorem ki_234_50 : js_Ok 234 50 (o_go 19) := js_St.ok (st_goto (by decide) d_234_50)
theorem ki_234_77 : js_Ok 234 77 (o_pZ 8 12 80) := js_St.ok (st_pZown js_c8 (by decide) rfl kw_1245 (js_c8.2.2.1 12 (by decide)) d_234_77)
theorem ki_234_76 : js_Ok 234 76 (o_ic 0 77) := js_St.ok (st_iconst rfl d_234_76)
theorem ki_234_73 : js_Ok 234 73 (o_go 77) := js_St.ok (st_goto (by decide) d_234_73)
theorem ki_234_72 : js_Ok 234 72 (o_ic 1 73) := js_St.ok (st_iconst rfl d_234_72)
theorem ki_234_69 : js_Ok 234 69 (o_cge 76 72) := js_St.ok (st_icge (by decide) d_234_69)
theorem ki_234_66 : js_Ok 234 66 (o_gI 8 10 69) := js_St.ok (st_gI js_c8 (by decide) kw_1243 d_234_66)
theorem ki_234_65 : js_Ok 234 65 (o_al 0 66) := js_St.ok (st_aloadn rfl d_234_65)
theorem ki_234_95 : js_Ok 234 95 (o_al 0 96) := js_St.ok (st_aloadn rfl d_234_95)
theorem ki_234_92 : js_Ok 234 92 (o_go 99) := js_St.ok (st_goto (by decide) d_234_92)
theorem ki_234_89 : js_Ok 234 89 (o_gI 8 11 92) := js_St.ok (st_gI js_c8 (by decide) kw_1244 d_234_89)
theorem ki_234_88 : js_Ok 234 88 (o_al 0 89) := js_St.ok (st_aloadn rfl d_234_88)
theorem ki_234_85 : js_Ok 234 85 (o_eq 95 88) := js_St.ok (st_ifeq (by decide) d_234_85)
theorem ki_234_82 : js_Ok 234 82 (o_gI 8 12 85) := js_St.ok (st_gI js_c8 (by decide) kw_1245 d_234_82)
theorem ki_234_81 : js_Ok 234 81 (o_al 0 82) := js_St.ok (st_aloadn rfl d_234_81)
theorem ki_234_80 : js_Ok 234 80 (o_al 0 81) := js_St.ok (st_aloadn rfl d_234_80)
theorem ki_234_111 : js_Ok 234 111 (o_eq 120 114) := js_St.ok (st_ifeq (by decide) d_234_111)
theorem ki_234_108 : js_Ok 234 108 (o_gI 8 12 111) := js_St.ok (st_gI js_c8 (by decide) kw_1245 d_234_108)
theorem ki_234_107 : js_Ok 234 107 (o_al 0 108) := js_St.ok (st_aloadn rfl d_234_107)
theorem ki_234_104 : js_Ok 234 104 (o_pI 8 10 107) := js_St.ok (st_pIown js_c8 (by decide) rfl kw_1243 (js_c8.2.2.1 10 (by decide)) d_234_104)
theorem ki_234_103 : js_Ok 234 103 (o_ic 0 104) := js_St.ok (st_iconst rfl d_234_103)
theorem ki_234_102 : js_Ok 234 102 (o_al 0 103) := js_St.ok (st_aloadn rfl d_234_102)
theorem ki_234_99 : js_Ok 234 99 (o_pI 8 13 102) := js_St.ok (st_pIown js_c8 (by decide) rfl kw_1246 (js_c8.2.2.1 13 (by decide)) d_234_99)
theorem ki_234_96 : js_Ok 234 96 (o_gI 8 13 99) := js_St.ok (st_gI js_c8 (by decide) kw_1246 d_234_96)
theorem ki_234_127 : js_Ok 234 127 (o_al 0 128) := js_St.ok (st_aloadn rfl d_234_127)
theorem ki_234_126 : js_Ok 234 126 (o_il 1 127) := js_St.ok (st_iloadn rfl d_234_126)
theorem ki_234_125 : js_Ok 234 125 (o_is 1 126) := js_St.ok (st_istoren rfl (Nat.le_of_ble_eq_true rfl) d_234_125)
theorem ki_234_124 : js_Ok 234 124 (o_ic 0 125) := js_St.ok (st_iconst rfl d_234_124)
theorem ki_234_121 : js_Ok 234 121 (o_cV 136 1 9 124) := ok_cV (site_V kk_234_136 (by decide) kw_1293 kw_1295 ks_21 (fun t ht => by cases ht; exact Or.inl ⟨_, rfl, rfl⟩) d_234_121) rfl
theorem ki_234_120 : js_Ok 234 120 (o_al 0 121) := js_St.ok (st_aloadn rfl d_234_120)
theorem ki_234_119 : js_Ok 234 119 (o_rI) := ok_rI rfl d_234_119
theorem ki_234_116 : js_Ok 234 116 (o_cI 138 2 9 119) := ok_cI (site_V kk_234_138 (by decide) kw_1308 kw_1310 ks_23 (fun t ht => by cases ht; exact Or.inl ⟨_, rfl, rfl⟩) d_234_116) rfl
theorem ki_234_115 : js_Ok 234 115 (o_ic 1 116) := js_St.ok (st_iconst rfl d_234_115)
theorem ki_234_114 : js_Ok 234 114 (o_al 0 115) := js_St.ok (st_aloadn rfl d_234_114)
theorem ki_234_143 : js_Ok 234 143 (o_le 161 146) := js_St.ok (st_ifle (by decide) d_234_143)
theorem ki_234_140 : js_Ok 234 140 (o_gI 8 6 143) := js_St.ok (st_gI js_c8 (by decide) kw_1239 d_234_140)
theorem ki_234_139 : js_Ok 234 139 (o_al 0 140) := js_St.ok (st_aloadn rfl d_234_139)
theorem ki_234_136 : js_Ok 234 136 (o_cV 233 2 9 139) := ok_cV (site_V kk_234_233 (by decide) kw_1706 kw_1708 ks_66 (fun t ht => by cases ht; exact Or.inl ⟨_, rfl, rfl⟩) d_234_136) rfl
theorem ki_234_135 : js_Ok 234 135 (o_il 1 136) := js_St.ok (st_iloadn rfl d_234_135)
theorem ki_234_134 : js_Ok 234 134 (o_al 0 135) := js_St.ok (st_aloadn rfl d_234_134)
theorem ki_234_131 : js_Ok 234 131 (o_cge 167 134) := js_St.ok (st_icge (by decide) d_234_131)
theorem ki_234_128 : js_Ok 234 128 (o_gI 8 16 131) := js_St.ok (st_gI js_c8 (by decide) kw_1249 d_234_128)
theorem ki_234_157 : js_Ok 234 157 (o_cI 137 2 9 160) := ok_cI (site_V kk_234_137 (by decide) kw_1336 kw_1338 ks_30 (fun t ht => by cases ht; exact Or.inl ⟨_, rfl, rfl⟩) d_234_157) rfl
theorem ki_234_154 : js_Ok 234 154 (o_cI 138 2 9 157) := ok_cI (site_V kk_234_138 (by decide) kw_1308 kw_1310 ks_23 (fun t ht => by cases ht; exact Or.inl ⟨_, rfl, rfl⟩) d_234_154) rfl
theorem ki_234_153 : js_Ok 234 153 (o_ic 2 154) := js_St.ok (st_iconst rfl d_234_153)
theorem ki_234_152 : js_Ok 234 152 (o_al 0 153) := js_St.ok (st_aloadn rfl d_234_152)
theorem ki_234_151 : js_Ok 234 151 (o_al 0 152) := js_St.ok (st_aloadn rfl d_234_151)
theorem ki_234_148 : js_Ok 234 148 (o_pI 8 14 151) := js_St.ok (st_pIown js_c8 (by decide) rfl kw_1247 (js_c8.2.2.1 14 (by decide)) d_234_148)
theorem ki_234_147 : js_Ok 234 147 (o_il 1 148) := js_St.ok (st_iloadn rfl d_234_147)
theorem ki_234_146 : js_Ok 234 146 (o_al 0 147) := js_St.ok (st_aloadn rfl d_234_146)
theorem ki_234_175 : js_Ok 234 175 (o_rI) := ok_rI rfl d_234_175
theorem ki_234_172 : js_Ok 234 172 (o_cI 137 2 9 175) := ok_cI (site_V kk_234_137 (by decide) kw_1336 kw_1338 ks_30 (fun t ht => by cases ht; exact Or.inl ⟨_, rfl, rfl⟩) d_234_172) rfl
theorem ki_234_169 : js_Ok 234 169 (o_gI 8 16 172) := js_St.ok (st_gI js_c8 (by decide) kw_1249 d_234_169)
theorem ki_234_168 : js_Ok 234 168 (o_al 0 169) := js_St.ok (st_aloadn rfl d_234_168)
theorem ki_234_167 : js_Ok 234 167 (o_al 0 168) := js_St.ok (st_aloadn rfl d_234_167)
theorem ki_234_164 : js_Ok 234 164 (o_go 126) := js_St.ok (st_goto (by decide) d_234_164)
theorem ki_234_161 : js_Ok 234 161 (o_inc 1 1 164) := js_St.ok (st_iinc rfl (Nat.le_of_ble_eq_true rfl) d_234_161)
theorem ki_234_160 : js_Ok 234 160 (o_rI) := ok_rI rfl d_234_160
theorem d_235_0 : decode (js_b 235) 0 = .ok (.aload_n 0, 1) := by decide +kernel
theorem d_235_1 : decode (js_b 235) 1 = .ok (.aload_n 0, 1) := by decide +kernel
theorem d_235_2 : decode (js_b 235) 2 = .ok (.getfield 29, 3) := by decide +kernel
theorem d_235_5 : decode (js_b 235) 5 = .ok (.ifCond .lt 7, 3) := by decide +kernel
theorem d_235_8 : decode (js_b 235) 8 = .ok (.iconst 1, 1) := by decide +kernel
theorem d_235_9 : decode (js_b 235) 9 = .ok (.goto 4, 3) := by decide +kernel
theorem d_235_12 : decode (js_b 235) 12 = .ok (.iconst 0, 1) := by decide +kernel
theorem d_235_13 : decode (js_b 235) 13 = .ok (.invokevirtual 126, 3) := by decide +kernel
theorem d_235_16 : decode (js_b 235) 16 = .ok (.ifCond .eq 10, 3) := by decide +kernel
theorem d_235_19 : decode (js_b 235) 19 = .ok (.aload_n 0, 1) := by decide +kernel
theorem d_235_20 : decode (js_b 235) 20 = .ok (.getfield 29, 3) := by decide +kernel
theorem d_235_23 : decode (js_b 235) 23 = .ok (.goto 4, 3) := by decide +kernel
theorem d_235_26 : decode (js_b 235) 26 = .ok (.iconst 0, 1) := by decide +kernel
theorem d_235_27 : decode (js_b 235) 27 = .ok (.ireturn, 1) := by decide +kernel
theorem ki_235_13 : js_Ok 235 13 (o_cI 139 2 9 16) := ok_cI (site_V kk_235_139 (by decide) kw_1364 kw_1366 ks_33 (fun t ht => by cases ht; exact Or.inl ⟨_, rfl, rfl⟩) d_235_13) rfl
theorem ki_235_12 : js_Ok 235 12 (o_ic 0 13) := js_St.ok (st_iconst rfl d_235_12)
theorem ki_235_9 : js_Ok 235 9 (o_go 13) := js_St.ok (st_goto (by decide) d_235_9)
theorem ki_235_8 : js_Ok 235 8 (o_ic 1 9) := js_St.ok (st_iconst rfl d_235_8)
theorem ki_235_5 : js_Ok 235 5 (o_lt 12 8) := js_St.ok (st_iflt (by decide) d_235_5)
theorem ki_235_2 : js_Ok 235 2 (o_gI 8 13 5) := js_St.ok (st_gI js_c8 (by decide) kw_1246 d_235_2)
theorem ki_235_1 : js_Ok 235 1 (o_al 0 2) := js_St.ok (st_aloadn rfl d_235_1)
theorem ki_235_0 : js_Ok 235 0 (o_al 0 1) := js_St.ok (st_aloadn rfl d_235_0)
theorem ki_235_27 : js_Ok 235 27 (o_rI) := ok_rI rfl d_235_27
theorem ki_235_26 : js_Ok 235 26 (o_ic 0 27) := js_St.ok (st_iconst rfl d_235_26)
theorem ki_235_23 : js_Ok 235 23 (o_go 27) := js_St.ok (st_goto (by decide) d_235_23)
theorem ki_235_20 : js_Ok 235 20 (o_gI 8 13 23) := js_St.ok (st_gI js_c8 (by decide) kw_1246 d_235_20)
theorem ki_235_19 : js_Ok 235 19 (o_al 0 20) := js_St.ok (st_aloadn rfl d_235_19)
theorem ki_235_16 : js_Ok 235 16 (o_eq 26 19) := js_St.ok (st_ifeq (by decide) d_235_16)
theorem d_236_0 : decode (js_b 236) 0 = .ok (.aload_n 0, 1) := by decide +kernel
theorem d_236_1 : decode (js_b 236) 1 = .ok (.aload_n 0, 1) := by decide +kernel
theorem d_236_2 : decode (js_b 236) 2 = .ok (.getfield 33, 3) := by decide +kernel
theorem d_236_5 : decode (js_b 236) 5 = .ok (.ifCond .lt 7, 3) := by decide +kernel
theorem d_236_8 : decode (js_b 236) 8 = .ok (.iconst 1, 1) := by decide +kernel
theorem d_236_9 : decode (js_b 236) 9 = .ok (.goto 4, 3) := by decide +kernel
theorem d_236_12 : decode (js_b 236) 12 = .ok (.iconst 0, 1) := by decide +kernel
theorem d_236_13 : decode (js_b 236) 13 = .ok (.invokevirtual 126, 3) := by decide +kernel
theorem d_236_16 : decode (js_b 236) 16 = .ok (.ifCond .eq 10, 3) := by decide +kernel
theorem d_236_19 : decode (js_b 236) 19 = .ok (.aload_n 0, 1) := by decide +kernel
theorem d_236_20 : decode (js_b 236) 20 = .ok (.getfield 33, 3) := by decide +kernel
theorem d_236_23 : decode (js_b 236) 23 = .ok (.goto 4, 3) := by decide +kernel
theorem d_236_26 : decode (js_b 236) 26 = .ok (.iconst 0, 1) := by decide +kernel
theorem d_236_27 : decode (js_b 236) 27 = .ok (.ireturn, 1) := by decide +kernel
theorem ki_236_13 : js_Ok 236 13 (o_cI 139 2 9 16) := ok_cI (site_V kk_236_139 (by decide) kw_1364 kw_1366 ks_33 (fun t ht => by cases ht; exact Or.inl ⟨_, rfl, rfl⟩) d_236_13) rfl
theorem ki_236_12 : js_Ok 236 12 (o_ic 0 13) := js_St.ok (st_iconst rfl d_236_12)
theorem ki_236_9 : js_Ok 236 9 (o_go 13) := js_St.ok (st_goto (by decide) d_236_9)
theorem ki_236_8 : js_Ok 236 8 (o_ic 1 9) := js_St.ok (st_iconst rfl d_236_8)
theorem ki_236_5 : js_Ok 236 5 (o_lt 12 8) := js_St.ok (st_iflt (by decide) d_236_5)
theorem ki_236_2 : js_Ok 236 2 (o_gI 8 14 5) := js_St.ok (st_gI js_c8 (by decide) kw_1247 d_236_2)
theorem ki_236_1 : js_Ok 236 1 (o_al 0 2) := js_St.ok (st_aloadn rfl d_236_1)
theorem ki_236_0 : js_Ok 236 0 (o_al 0 1) := js_St.ok (st_aloadn rfl d_236_0)
theorem ki_236_27 : js_Ok 236 27 (o_rI) := ok_rI rfl d_236_27
theorem ki_236_26 : js_Ok 236 26 (o_ic 0 27) := js_St.ok (st_iconst rfl d_236_26)
theorem ki_236_23 : js_Ok 236 23 (o_go 27) := js_St.ok (st_goto (by decide) d_236_23)
theorem ki_236_20 : js_Ok 236 20 (o_gI 8 14 23) := js_St.ok (st_gI js_c8 (by decide) kw_1247 d_236_20)
theorem ki_236_19 : js_Ok 236 19 (o_al 0 20) := js_St.ok (st_aloadn rfl d_236_19)
theorem ki_236_16 : js_Ok 236 16 (o_eq 26 19) := js_St.ok (st_ifeq (by decide) d_236_16)
theorem d_237_0 : decode (js_b 237) 0 = .ok (.aload_n 0, 1) := by decide +kernel
theorem d_237_1 : decode (js_b 237) 1 = .ok (.aload_n 0, 1) := by decide +kernel
theorem d_237_2 : decode (js_b 237) 2 = .ok (.getfield 48, 3) := by decide +kernel
theorem d_237_5 : decode (js_b 237) 5 = .ok (.ifCond .ne 7, 3) := by decide +kernel
theorem d_237_8 : decode (js_b 237) 8 = .ok (.iconst 1, 1) := by decide +kernel
theorem d_237_9 : decode (js_b 237) 9 = .ok (.goto 4, 3) := by decide +kernel
theorem d_237_12 : decode (js_b 237) 12 = .ok (.iconst 0, 1) := by decide +kernel
theorem d_237_13 : decode (js_b 237) 13 = .ok (.putfield 39, 3) := by decide +kernel
theorem d_237_16 : decode (js_b 237) 16 = .ok (.aload_n 0, 1) := by decide +kernel
theorem d_237_17 : decode (js_b 237) 17 = .ok (.getfield 39, 3) := by decide +kernel
theorem d_237_20 : decode (js_b 237) 20 = .ok (.ifCond .le 5, 3) := by decide +kernel
theorem d_237_23 : decode (js_b 237) 23 = .ok (.iconst 0, 1) := by decide +kernel
theorem d_237_24 : decode (js_b 237) 24 = .ok (.ireturn, 1) := by decide +kernel
theorem d_237_25 : decode (js_b 237) 25 = .ok (.aload_n 0, 1) := by decide +kernel
theorem d_237_26 : decode (js_b 237) 26 = .ok (.dup, 1) := by decide +kernel
theorem d_237_27 : decode (js_b 237) 27 = .ok (.getfield 48, 3) := by decide +kernel
theorem d_237_30 : decode (js_b 237) 30 = .ok (.iconst 1, 1) := by decide +kernel
theorem d_237_31 : decode (js_b 237) 31 = .ok (.isub, 1) := by decide +kernel
theorem d_237_32 : decode (js_b 237) 32 = .ok (.putfield 48, 3) := by decide +kernel
theorem d_237_35 : decode (js_b 237) 35 = .ok (.aload_n 0, 1) := by decide +kernel
theorem d_237_36 : decode (js_b 237) 36 = .ok (.getfield 19, 3) := by decide +kernel
theorem d_237_39 : decode (js_b 237) 39 = .ok (.sipush 225, 3) := by decide +kernel
theorem d_237_42 : decode (js_b 237) 42 = .ok (.aload_n 0, 1) := by decide +kernel
theorem d_237_43 : decode (js_b 237) 43 = .ok (.getfield 48, 3) := by decide +kernel
theorem d_237_46 : decode (js_b 237) 46 = .ok (.imul, 1) := by decide +kernel
theorem d_237_47 : decode (js_b 237) 47 = .ok (.aload_n 0, 1) := by decide +kernel
theorem d_237_48 : decode (js_b 237) 48 = .ok (.getfield 9, 3) := by decide +kernel
theorem d_237_51 : decode (js_b 237) 51 = .ok (.iconst 0, 1) := by decide +kernel
theorem d_237_52 : decode (js_b 237) 52 = .ok (.sipush 225, 3) := by decide +kernel
theorem d_237_55 : decode (js_b 237) 55 = .ok (.invokestatic 42, 3) := by decide +kernel
theorem d_237_58 : decode (js_b 237) 58 = .ok (.aload_n 0, 1) := by decide +kernel
theorem d_237_59 : decode (js_b 237) 59 = .ok (.getfield 48, 3) := by decide +kernel
theorem d_237_62 : decode (js_b 237) 62 = .ok (.ireturn, 1) := by decide +kernel
theorem ki_237_13 : js_Ok 237 13 (o_pI 8 6 16) := js_St.ok (st_pIown js_c8 (by decide) rfl kw_1239 (js_c8.2.2.1 6 (by decide)) d_237_13)
theorem ki_237_12 : js_Ok 237 12 (o_ic 0 13) := js_St.ok (st_iconst rfl d_237_12)
theorem ki_237_9 : js_Ok 237 9 (o_go 13) := js_St.ok (st_goto (by decide) d_237_9)
theorem ki_237_8 : js_Ok 237 8 (o_ic 1 9) := js_St.ok (st_iconst rfl d_237_8)
theorem ki_237_5 : js_Ok 237 5 (o_ne 12 8) := js_St.ok (st_ifne (by decide) d_237_5)
theorem ki_237_2 : js_Ok 237 2 (o_gI 8 5 5) := js_St.ok (st_gI js_c8 (by decide) kw_1238 d_237_2)
theorem ki_237_1 : js_Ok 237 1 (o_al 0 2) := js_St.ok (st_aloadn rfl d_237_1)
theorem ki_237_0 : js_Ok 237 0 (o_al 0 1) := js_St.ok (st_aloadn rfl d_237_0)
theorem ki_237_31 : js_Ok 237 31 (o_b2 (fun x y => x - y) 32) := js_St.ok (st_isub d_237_31)
theorem ki_237_30 : js_Ok 237 30 (o_ic 1 31) := js_St.ok (st_iconst rfl d_237_30)
theorem ki_237_27 : js_Ok 237 27 (o_gI 8 5 30) := js_St.ok (st_gI js_c8 (by decide) kw_1238 d_237_27)
theorem ki_237_26 : js_Ok 237 26 (o_dup 27) := js_St.ok (st_dup d_237_26)
theorem ki_237_25 : js_Ok 237 25 (o_al 0 26) := js_St.ok (st_aloadn rfl d_237_25)
theorem ki_237_24 : js_Ok 237 24 (o_rI) := ok_rI rfl d_237_24
theorem ki_237_23 : js_Ok 237 23 (o_ic 0 24) := js_St.ok (st_iconst rfl d_237_23)
theorem ki_237_20 : js_Ok 237 20 (o_le 25 23) := js_St.ok (st_ifle (by decide) d_237_20)
theorem ki_237_17 : js_Ok 237 17 (o_gI 8 6 20) := js_St.ok (st_gI js_c8 (by decide) kw_1239 d_237_17)
theorem ki_237_16 : js_Ok 237 16 (o_al 0 17) := js_St.ok (st_aloadn rfl d_237_16)
theorem ki_237_47 : js_Ok 237 47 (o_al 0 48) := js_St.ok (st_aloadn rfl d_237_47)
theorem ki_237_46 : js_Ok 237 46 (o_b2 (fun x y => x * y) 47) := js_St.ok (st_imul d_237_46)
theorem ki_237_43 : js_Ok 237 43 (o_gI 8 5 46) := js_St.ok (st_gI js_c8 (by decide) kw_1238 d_237_43)
theorem ki_237_42 : js_Ok 237 42 (o_al 0 43) := js_St.ok (st_aloadn rfl d_237_42)
theorem ki_237_39 : js_Ok 237 39 (o_ic 225 42) := js_St.ok (st_sipush rfl d_237_39)
theorem ki_237_36 : js_Ok 237 36 (o_gA 8 4 39) := js_St.ok (st_gA js_c8 (by decide) kw_1237 d_237_36)
theorem ki_237_35 : js_Ok 237 35 (o_al 0 36) := js_St.ok (st_aloadn rfl d_237_35)
theorem ki_237_32 : js_Ok 237 32 (o_pI 8 5 35) := js_St.ok (st_pIown js_c8 (by decide) rfl kw_1238 (js_c8.2.2.1 5 (by decide)) d_237_32)
theorem ki_237_62 : js_Ok 237 62 (o_rI) := ok_rI rfl d_237_62
theorem ki_237_59 : js_Ok 237 59 (o_gI 8 5 62) := js_St.ok (st_gI js_c8 (by decide) kw_1238 d_237_59)
theorem ki_237_58 : js_Ok 237 58 (o_al 0 59) := js_St.ok (st_aloadn rfl d_237_58)
theorem ki_237_55 : js_Ok 237 55 (o_cp 100 58) := js_St.ok (st_cp kw_1297 kw_368 kw_367 kw_79 d_237_55)
theorem ki_237_52 : js_Ok 237 52 (o_ic 225 55) := js_St.ok (st_sipush rfl d_237_52)
theorem ki_237_51 : js_Ok 237 51 (o_ic 0 52) := js_St.ok (st_iconst rfl d_237_51)
theorem ki_237_48 : js_Ok 237 48 (o_gA 8 0 51) := js_St.ok (st_gA js_c8 (by decide) kw_1233 d_237_48)
theorem d_238_0 : decode (js_b 238) 0 = .ok (.aload_n 0, 1) := by decide +kernel
theorem d_238_1 : decode (js_b 238) 1 = .ok (.iconst 0, 1) := by decide +kernel
theorem d_238_2 : decode (js_b 238) 2 = .ok (.putfield 39, 3) := by decide +kernel
theorem d_238_5 : decode (js_b 238) 5 = .ok (.aload_n 0, 1) := by decide +kernel
theorem d_238_6 : decode (js_b 238) 6 = .ok (.getfield 48, 3) := by decide +kernel
theorem d_238_9 : decode (js_b 238) 9 = .ok (.ireturn, 1) := by decide +kernel
theorem ki_238_9 : js_Ok 238 9 (o_rI) := ok_rI rfl d_238_9
theorem ki_238_6 : js_Ok 238 6 (o_gI 8 5 9) := js_St.ok (st_gI js_c8 (by decide) kw_1238 d_238_6)
theorem ki_238_5 : js_Ok 238 5 (o_al 0 6) := js_St.ok (st_aloadn rfl d_238_5)
theorem ki_238_2 : js_Ok 238 2 (o_pI 8 6 5) := js_St.ok (st_pIown js_c8 (by decide) rfl kw_1239 (js_c8.2.2.1 6 (by decide)) d_238_2)
theorem ki_238_1 : js_Ok 238 1 (o_ic 0 2) := js_St.ok (st_iconst rfl d_238_1)
theorem ki_238_0 : js_Ok 238 0 (o_al 0 1) := js_St.ok (st_aloadn rfl d_238_0)
theorem d_239_0 : decode (js_b 239) 0 = .ok (.aload_n 0, 1) := by decide +kernel
theorem d_239_1 : decode (js_b 239) 1 = .ok (.iconst 0, 1) := by decide +kernel
theorem d_239_2 : decode (js_b 239) 2 = .ok (.putfield 39, 3) := by decide +kernel
theorem d_239_5 : decode (js_b 239) 5 = .ok (.aload_n 0, 1) := by decide +kernel
theorem d_239_6 : decode (js_b 239) 6 = .ok (.getfield 9, 3) := by decide +kernel
theorem d_239_9 : decode (js_b 239) 9 = .ok (.iconst 0, 1) := by decide +kernel
theorem d_239_10 : decode (js_b 239) 10 = .ok (.aload_n 0, 1) := by decide +kernel
theorem d_239_11 : decode (js_b 239) 11 = .ok (.getfield 16, 3) := by decide +kernel
theorem d_239_14 : decode (js_b 239) 14 = .ok (.iconst 0, 1) := by decide +kernel
theorem d_239_15 : decode (js_b 239) 15 = .ok (.sipush 225, 3) := by decide +kernel
theorem d_239_18 : decode (js_b 239) 18 = .ok (.invokestatic 42, 3) := by decide +kernel
theorem d_239_21 : decode (js_b 239) 21 = .ok (.aload_n 0, 1) := by decide +kernel
theorem d_239_22 : decode (js_b 239) 22 = .ok (.iconst 1, 1) := by decide +kernel
theorem d_239_23 : decode (js_b 239) 23 = .ok (.putfield 289, 3) := by decide +kernel
theorem d_239_26 : decode (js_b 239) 26 = .ok (.aload_n 0, 1) := by decide +kernel
theorem d_239_27 : decode (js_b 239) 27 = .ok (.iconst 0, 1) := by decide +kernel
theorem d_239_28 : decode (js_b 239) 28 = .ok (.invokevirtual 105, 3) := by decide +kernel
theorem d_239_31 : decode (js_b 239) 31 = .ok (.ireturn, 1) := by decide +kernel
theorem ki_239_15 : js_Ok 239 15 (o_ic 225 18) := js_St.ok (st_sipush rfl d_239_15)
theorem ki_239_14 : js_Ok 239 14 (o_ic 0 15) := js_St.ok (st_iconst rfl d_239_14)
theorem ki_239_11 : js_Ok 239 11 (o_gA 8 2 14) := js_St.ok (st_gA js_c8 (by decide) kw_1235 d_239_11)
theorem ki_239_10 : js_Ok 239 10 (o_al 0 11) := js_St.ok (st_aloadn rfl d_239_10)
theorem ki_239_9 : js_Ok 239 9 (o_ic 0 10) := js_St.ok (st_iconst rfl d_239_9)
theorem ki_239_6 : js_Ok 239 6 (o_gA 8 0 9) := js_St.ok (st_gA js_c8 (by decide) kw_1233 d_239_6)
theorem ki_239_5 : js_Ok 239 5 (o_al 0 6) := js_St.ok (st_aloadn rfl d_239_5)
theorem ki_239_2 : js_Ok 239 2 (o_pI 8 6 5) := js_St.ok (st_pIown js_c8 (by decide) rfl kw_1239 (js_c8.2.2.1 6 (by decide)) d_239_2)
theorem ki_239_1 : js_Ok 239 1 (o_ic 0 2) := js_St.ok (st_iconst rfl d_239_1)
theorem ki_239_0 : js_Ok 239 0 (o_al 0 1) := js_St.ok (st_aloadn rfl d_239_0)
theorem ki_239_31 : js_Ok 239 31 (o_rI) := ok_rI rfl d_239_31
theorem ki_239_28 : js_Ok 239 28 (o_cI 148 2 9 31) := ok_cI (site_V kk_239_148 (by decide) kw_1312 kw_1314 ks_24 (fun t ht => by cases ht; exact Or.inl ⟨_, rfl, rfl⟩) d_239_28) rfl
theorem ki_239_27 : js_Ok 239 27 (o_ic 0 28) := js_St.ok (st_iconst rfl d_239_27)
theorem ki_239_26 : js_Ok 239 26 (o_al 0 27) := js_St.ok (st_aloadn rfl d_239_26)
theorem ki_239_23 : js_Ok 239 23 (o_pZ 8 3 26) := js_St.ok (st_pZown js_c8 (by decide) rfl kw_1236 (js_c8.2.2.1 3 (by decide)) d_239_23)
theorem ki_239_22 : js_Ok 239 22 (o_ic 1 23) := js_St.ok (st_iconst rfl d_239_22)
theorem ki_239_21 : js_Ok 239 21 (o_al 0 22) := js_St.ok (st_aloadn rfl d_239_21)
theorem ki_239_18 : js_Ok 239 18 (o_cp 100 21) := js_St.ok (st_cp kw_1297 kw_368 kw_367 kw_79 d_239_18)
theorem d_240_0 : decode (js_b 240) 0 = .ok (.aload_n 0, 1) := by decide +kernel
theorem d_240_1 : decode (js_b 240) 1 = .ok (.aload_n 0, 1) := by decide +kernel
theorem d_240_2 : decode (js_b 240) 2 = .ok (.getfield 289, 3) := by decide +kernel
theorem d_240_5 : decode (js_b 240) 5 = .ok (.ifCond .eq 7, 3) := by decide +kernel
theorem d_240_8 : decode (js_b 240) 8 = .ok (.iconst 0, 1) := by decide +kernel
theorem d_240_9 : decode (js_b 240) 9 = .ok (.goto 4, 3) := by decide +kernel
theorem d_240_12 : decode (js_b 240) 12 = .ok (.iconst 1, 1) := by decide +kernel
theorem d_240_13 : decode (js_b 240) 13 = .ok (.putfield 39, 3) := by decide +kernel
theorem d_240_16 : decode (js_b 240) 16 = .ok (.aload_n 0, 1) := by decide +kernel
theorem d_240_17 : decode (js_b 240) 17 = .ok (.getfield 39, 3) := by decide +kernel
theorem d_240_20 : decode (js_b 240) 20 = .ok (.ifCond .le 5, 3) := by decide +kernel
theorem d_240_23 : decode (js_b 240) 23 = .ok (.iconst 0, 1) := by decide +kernel
theorem d_240_24 : decode (js_b 240) 24 = .ok (.ireturn, 1) := by decide +kernel
theorem d_240_25 : decode (js_b 240) 25 = .ok (.aload_n 0, 1) := by decide +kernel
theorem d_240_26 : decode (js_b 240) 26 = .ok (.getfield 16, 3) := by decide +kernel
theorem d_240_29 : decode (js_b 240) 29 = .ok (.iconst 0, 1) := by decide +kernel
theorem d_240_30 : decode (js_b 240) 30 = .ok (.aload_n 0, 1) := by decide +kernel
theorem d_240_31 : decode (js_b 240) 31 = .ok (.getfield 9, 3) := by decide +kernel
theorem d_240_34 : decode (js_b 240) 34 = .ok (.iconst 0, 1) := by decide +kernel
theorem d_240_35 : decode (js_b 240) 35 = .ok (.sipush 225, 3) := by decide +kernel
theorem d_240_38 : decode (js_b 240) 38 = .ok (.invokestatic 42, 3) := by decide +kernel
theorem d_240_41 : decode (js_b 240) 41 = .ok (.aload_n 0, 1) := by decide +kernel
theorem d_240_42 : decode (js_b 240) 42 = .ok (.iconst 0, 1) := by decide +kernel
theorem d_240_43 : decode (js_b 240) 43 = .ok (.putfield 48, 3) := by decide +kernel
theorem d_240_46 : decode (js_b 240) 46 = .ok (.aload_n 0, 1) := by decide +kernel
theorem d_240_47 : decode (js_b 240) 47 = .ok (.iconst 0, 1) := by decide +kernel
theorem d_240_48 : decode (js_b 240) 48 = .ok (.invokevirtual 105, 3) := by decide +kernel
theorem d_240_51 : decode (js_b 240) 51 = .ok (.ireturn, 1) := by decide +kernel
theorem ki_240_13 : js_Ok 240 13 (o_pI 8 6 16) := js_St.ok (st_pIown js_c8 (by decide) rfl kw_1239 (js_c8.2.2.1 6 (by decide)) d_240_13)
theorem ki_240_12 : js_Ok 240 12 (o_ic 1 13) := js_St.ok (st_iconst rfl d_240_12)
theorem ki_240_9 : js_Ok 240 9 (o_go 13) := js_St.ok (st_goto (by decide) d_240_9)
theorem ki_240_8 : js_Ok 240 8 (o_ic 0 9) := js_St.ok (st_iconst rfl d_240_8)
theorem ki_240_5 : js_Ok 240 5 (o_eq 12 8) := js_St.ok (st_ifeq (by decide) d_240_5)
theorem ki_240_2 : js_Ok 240 2 (o_gI 8 3 5) := js_St.ok (st_gI js_c8 (by decide) kw_1236 d_240_2)
theorem ki_240_1 : js_Ok 240 1 (o_al 0 2) := js_St.ok (st_aloadn rfl d_240_1)
theorem ki_240_0 : js_Ok 240 0 (o_al 0 1) := js_St.ok (st_aloadn rfl d_240_0)
theorem ki_240_31 : js_Ok 240 31 (o_gA 8 0 34) := js_St.ok (st_gA js_c8 (by decide) kw_1233 d_240_31)
theorem ki_240_30 : js_Ok 240 30 (o_al 0 31) := js_St.ok (st_aloadn rfl d_240_30)
theorem ki_240_29 : js_Ok 240 29 (o_ic 0 30) := js_St.ok (st_iconst rfl d_240_29)
theorem ki_240_26 : js_Ok 240 26 (o_gA 8 2 29) := js_St.ok (st_gA js_c8 (by decide) kw_1235 d_240_26)
theorem ki_240_25 : js_Ok 240 25 (o_al 0 26) := js_St.ok (st_aloadn rfl d_240_25)
theorem ki_240_24 : js_Ok 240 24 (o_rI) := ok_rI rfl d_240_24
theorem ki_240_23 : js_Ok 240 23 (o_ic 0 24) := js_St.ok (st_iconst rfl d_240_23)
theorem ki_240_20 : js_Ok 240 20 (o_le 25 23) := js_St.ok (st_ifle (by decide) d_240_20)
theorem ki_240_17 : js_Ok 240 17 (o_gI 8 6 20) := js_St.ok (st_gI js_c8 (by decide) kw_1239 d_240_17)
theorem ki_240_16 : js_Ok 240 16 (o_al 0 17) := js_St.ok (st_aloadn rfl d_240_16)
theorem ki_240_47 : js_Ok 240 47 (o_ic 0 48) := js_St.ok (st_iconst rfl d_240_47)
theorem ki_240_46 : js_Ok 240 46 (o_al 0 47) := js_St.ok (st_aloadn rfl d_240_46)
theorem ki_240_43 : js_Ok 240 43 (o_pI 8 5 46) := js_St.ok (st_pIown js_c8 (by decide) rfl kw_1238 (js_c8.2.2.1 5 (by decide)) d_240_43)
theorem ki_240_42 : js_Ok 240 42 (o_ic 0 43) := js_St.ok (st_iconst rfl d_240_42)
theorem ki_240_41 : js_Ok 240 41 (o_al 0 42) := js_St.ok (st_aloadn rfl d_240_41)
theorem ki_240_38 : js_Ok 240 38 (o_cp 100 41) := js_St.ok (st_cp kw_1297 kw_368 kw_367 kw_79 d_240_38)
theorem ki_240_35 : js_Ok 240 35 (o_ic 225 38) := js_St.ok (st_sipush rfl d_240_35)
theorem ki_240_34 : js_Ok 240 34 (o_ic 0 35) := js_St.ok (st_iconst rfl d_240_34)
theorem ki_240_51 : js_Ok 240 51 (o_rI) := ok_rI rfl d_240_51
theorem ki_240_48 : js_Ok 240 48 (o_cI 148 2 9 51) := ok_cI (site_V kk_240_148 (by decide) kw_1312 kw_1314 ks_24 (fun t ht => by cases ht; exact Or.inl ⟨_, rfl, rfl⟩) d_240_48) rfl
theorem d_241_0 : decode (js_b 241) 0 = .ok (.aload_n 0, 1) := by decide +kernel
theorem d_241_1 : decode (js_b 241) 1 = .ok (.getfield 7, 3) := by decide +kernel
theorem d_241_4 : decode (js_b 241) 4 = .ok (.ireturn, 1) := by decide +kernel
theorem ki_241_4 : js_Ok 241 4 (o_rI) := ok_rI rfl d_241_4
theorem ki_241_1 : js_Ok 241 1 (o_gI 21 0 4) := js_St.ok (st_gIc (by decide) (by decide) kw_1761 d_241_1)
theorem ki_241_0 : js_Ok 241 0 (o_al 0 1) := js_St.ok (st_aloadn rfl d_241_0)
theorem d_242_0 : decode (js_b 242) 0 = .ok (.fload_n 0, 1) := by decide +kernel
theorem d_242_1 : decode (js_b 242) 1 = .ok (.fload_n 0, 1) := by decide +kernel
theorem d_242_2 : decode (js_b 242) 2 = .ok (.fcmp .l, 1) := by decide +kernel
theorem d_242_3 : decode (js_b 242) 3 = .ok (.ifCond .eq 7, 3) := by decide +kernel
theorem d_242_6 : decode (js_b 242) 6 = .ok (.iconst 1, 1) := by decide +kernel
theorem d_242_7 : decode (js_b 242) 7 = .ok (.goto 4, 3) := by decide +kernel
theorem d_242_10 : decode (js_b 242) 10 = .ok (.iconst 0, 1) := by decide +kernel
theorem d_242_11 : decode (js_b 242) 11 = .ok (.ireturn, 1) := by decide +kernel
theorem ki_242_11 : js_Ok 242 11 (o_rZ) := ok_rZ rfl d_242_11
theorem ki_242_10 : js_Ok 242 10 (o_ic 0 11) := js_St.ok (st_iconst rfl d_242_10)
theorem ki_242_7 : js_Ok 242 7 (o_go 11) := js_St.ok (st_goto (by decide) d_242_7)
theorem ki_242_6 : js_Ok 242 6 (o_ic 1 7) := js_St.ok (st_iconst rfl d_242_6)
theorem ki_242_3 : js_Ok 242 3 (o_eq 10 6) := js_St.ok (st_ifeq (by decide) d_242_3)
theorem ki_242_2 : js_Ok 242 2 (o_fcmp .l 3) := js_St.ok (st_fcmp d_242_2)
theorem ki_242_1 : js_Ok 242 1 (o_fl 0 2) := js_St.ok (st_floadn rfl d_242_1)
theorem ki_242_0 : js_Ok 242 0 (o_fl 0 1) := js_St.ok (st_floadn rfl d_242_0)
theorem d_243_0 : decode (js_b 243) 0 = .ok (.fload_n 0, 1) := by decide +kernel
theorem d_243_1 : decode (js_b 243) 1 = .ok (.invokestatic 59, 3) := by decide +kernel
theorem d_243_4 : decode (js_b 243) 4 = .ok (.ifCond .ne 8, 3) := by decide +kernel
theorem d_243_7 : decode (js_b 243) 7 = .ok (.fload_n 0, 1) := by decide +kernel
theorem d_243_8 : decode (js_b 243) 8 = .ok (.invokestatic 74, 3) := by decide +kernel
theorem d_243_11 : decode (js_b 243) 11 = .ok (.ireturn, 1) := by decide +kernel
theorem d_243_12 : decode (js_b 243) 12 = .ok (.ldc 77, 2) := by decide +kernel
theorem d_243_14 : decode (js_b 243) 14 = .ok (.ireturn, 1) := by decide +kernel
theorem ki_243_14 : js_Ok 243 14 (o_rI) := ok_rI rfl d_243_14
theorem ki_243_12 : js_Ok 243 12 (o_ic 2143289344 14) := js_St.ok (st_ldc kw_1638 d_243_12)
theorem ki_243_11 : js_Ok 243 11 (o_rI) := ok_rI rfl d_243_11
theorem ki_243_8 : js_Ok 243 8 (o_raw 11) := js_St.ok (st_raw kw_1635 kw_1637 kw_1636 kw_95 d_243_8)
theorem ki_243_7 : js_Ok 243 7 (o_fl 0 8) := js_St.ok (st_floadn rfl d_243_7)
theorem ki_243_4 : js_Ok 243 4 (o_ne 12 7) := js_St.ok (st_ifne (by decide) d_243_4)
theorem ki_243_1 : js_Ok 243 1 (o_cI 242 1 0 4) := ok_cI (site_S kk_243_242 kw_1632 kw_1633 d_243_1) rfl
theorem ki_243_0 : js_Ok 243 0 (o_fl 0 1) := js_St.ok (st_floadn rfl d_243_0)
theorem d_244_0 : decode (js_b 244) 0 = .ok (.iload_n 0, 1) := by decide +kernel
theorem d_244_1 : decode (js_b 244) 1 = .ok (.iload_n 0, 1) := by decide +kernel
theorem d_244_2 : decode (js_b 244) 2 = .ok (.iconst 1, 1) := by decide +kernel
theorem d_244_3 : decode (js_b 244) 3 = .ok (.iushr, 1) := by decide +kernel
theorem d_244_4 : decode (js_b 244) 4 = .ok (.ldc_w 265, 3) := by decide +kernel
theorem d_244_7 : decode (js_b 244) 7 = .ok (.iand, 1) := by decide +kernel
theorem d_244_8 : decode (js_b 244) 8 = .ok (.isub, 1) := by decide +kernel
theorem d_244_9 : decode (js_b 244) 9 = .ok (.istore_n 0, 1) := by decide +kernel
theorem d_244_10 : decode (js_b 244) 10 = .ok (.iload_n 0, 1) := by decide +kernel
theorem d_244_11 : decode (js_b 244) 11 = .ok (.ldc_w 266, 3) := by decide +kernel
theorem d_244_14 : decode (js_b 244) 14 = .ok (.iand, 1) := by decide +kernel
theorem d_244_15 : decode (js_b 244) 15 = .ok (.iload_n 0, 1) := by decide +kernel
theorem d_244_16 : decode (js_b 244) 16 = .ok (.iconst 2, 1) := by decide +kernel
theorem d_244_17 : decode (js_b 244) 17 = .ok (.iushr, 1) := by decide +kernel
theorem d_244_18 : decode (js_b 244) 18 = .ok (.ldc_w 266, 3) := by decide +kernel
theorem d_244_21 : decode (js_b 244) 21 = .ok (.iand, 1) := by decide +kernel
theorem d_244_22 : decode (js_b 244) 22 = .ok (.iadd, 1) := by decide +kernel
theorem d_244_23 : decode (js_b 244) 23 = .ok (.istore_n 0, 1) := by decide +kernel
theorem d_244_24 : decode (js_b 244) 24 = .ok (.iload_n 0, 1) := by decide +kernel
theorem d_244_25 : decode (js_b 244) 25 = .ok (.iload_n 0, 1) := by decide +kernel
theorem d_244_26 : decode (js_b 244) 26 = .ok (.iconst 4, 1) := by decide +kernel
theorem d_244_27 : decode (js_b 244) 27 = .ok (.iushr, 1) := by decide +kernel
theorem d_244_28 : decode (js_b 244) 28 = .ok (.iadd, 1) := by decide +kernel
theorem d_244_29 : decode (js_b 244) 29 = .ok (.ldc_w 267, 3) := by decide +kernel
theorem d_244_32 : decode (js_b 244) 32 = .ok (.iand, 1) := by decide +kernel
theorem d_244_33 : decode (js_b 244) 33 = .ok (.istore_n 0, 1) := by decide +kernel
theorem d_244_34 : decode (js_b 244) 34 = .ok (.iload_n 0, 1) := by decide +kernel
theorem d_244_35 : decode (js_b 244) 35 = .ok (.iload_n 0, 1) := by decide +kernel
theorem d_244_36 : decode (js_b 244) 36 = .ok (.bipush 8, 2) := by decide +kernel
theorem d_244_38 : decode (js_b 244) 38 = .ok (.iushr, 1) := by decide +kernel
theorem d_244_39 : decode (js_b 244) 39 = .ok (.iadd, 1) := by decide +kernel
theorem d_244_40 : decode (js_b 244) 40 = .ok (.istore_n 0, 1) := by decide +kernel
theorem d_244_41 : decode (js_b 244) 41 = .ok (.iload_n 0, 1) := by decide +kernel
theorem d_244_42 : decode (js_b 244) 42 = .ok (.iload_n 0, 1) := by decide +kernel
theorem d_244_43 : decode (js_b 244) 43 = .ok (.bipush 16, 2) := by decide +kernel
theorem d_244_45 : decode (js_b 244) 45 = .ok (.iushr, 1) := by decide +kernel
theorem d_244_46 : decode (js_b 244) 46 = .ok (.iadd, 1) := by decide +kernel
theorem d_244_47 : decode (js_b 244) 47 = .ok (.istore_n 0, 1) := by decide +kernel
theorem d_244_48 : decode (js_b 244) 48 = .ok (.iload_n 0, 1) := by decide +kernel
theorem d_244_49 : decode (js_b 244) 49 = .ok (.bipush 63, 2) := by decide +kernel
theorem d_244_51 : decode (js_b 244) 51 = .ok (.iand, 1) := by decide +kernel
theorem d_244_52 : decode (js_b 244) 52 = .ok (.ireturn, 1) := by decide +kernel
theorem ki_244_15 : js_Ok 244 15 (o_il 0 16) := js_St.ok (st_iloadn rfl d_244_15)
theorem ki_244_14 : js_Ok 244 14 (o_b2 (fun x y => x &&& y) 15) := js_St.ok (st_iand d_244_14)
theorem ki_244_11 : js_Ok 244 11 (o_ic 858993459 14) := js_St.ok (st_ldcw kw_344 d_244_11)
theorem ki_244_10 : js_Ok 244 10 (o_il 0 11) := js_St.ok (st_iloadn rfl d_244_10)
theorem ki_244_9 : js_Ok 244 9 (o_is 0 10) := js_St.ok (st_istoren rfl (Nat.le_of_ble_eq_true rfl) d_244_9)
theorem ki_244_8 : js_Ok 244 8 (o_b2 (fun x y => x - y) 9) := js_St.ok (st_isub d_244_8)
theorem ki_244_7 : js_Ok 244 7 (o_b2 (fun x y => x &&& y) 8) := js_St.ok (st_iand d_244_7)
theorem ki_244_4 : js_Ok 244 4 (o_ic 1431655765 7) := js_St.ok (st_ldcw kw_343 d_244_4)
theorem ki_244_3 : js_Ok 244 3 (o_b2 (fun x y => (x.toUInt32 >>> (y.toUInt32 &&& Int32.toUInt32 31)).toInt32) 4) := js_St.ok (st_iushr d_244_3)
theorem ki_244_2 : js_Ok 244 2 (o_ic 1 3) := js_St.ok (st_iconst rfl d_244_2)
theorem ki_244_1 : js_Ok 244 1 (o_il 0 2) := js_St.ok (st_iloadn rfl d_244_1)
theorem ki_244_0 : js_Ok 244 0 (o_il 0 1) := js_St.ok (st_iloadn rfl d_244_0)
theorem ki_244_29 : js_Ok 244 29 (o_ic 252645135 32) := js_St.ok (st_ldcw kw_345 d_244_29)
theorem ki_244_28 : js_Ok 244 28 (o_b2 (fun x y => x + y) 29) := js_St.ok (st_iadd d_244_28)
theorem ki_244_27 : js_Ok 244 27 (o_b2 (fun x y => (x.toUInt32 >>> (y.toUInt32 &&& Int32.toUInt32 31)).toInt32) 28) := js_St.ok (st_iushr d_244_27)
theorem ki_244_26 : js_Ok 244 26 (o_ic 4 27) := js_St.ok (st_iconst rfl d_244_26)
theorem ki_244_25 : js_Ok 244 25 (o_il 0 26) := js_St.ok (st_iloadn rfl d_244_25)
theorem ki_244_24 : js_Ok 244 24 (o_il 0 25) := js_St.ok (st_iloadn rfl d_244_24)
theorem ki_244_23 : js_Ok 244 23 (o_is 0 24) := js_St.ok (st_istoren rfl (Nat.le_of_ble_eq_true rfl) d_244_23)
theorem ki_244_22 : js_Ok 244 22 (o_b2 (fun x y => x + y) 23) := js_St.ok (st_iadd d_244_22)
theorem ki_244_21 : js_Ok 244 21 (o_b2 (fun x y => x &&& y) 22) := js_St.ok (st_iand d_244_21)
theorem ki_244_18 : js_Ok 244 18 (o_ic 858993459 21) := js_St.ok (st_ldcw kw_344 d_244_18)
theorem ki_244_17 : js_Ok 244 17 (o_b2 (fun x y => (x.toUInt32 >>> (y.toUInt32 &&& Int32.toUInt32 31)).toInt32) 18) := js_St.ok (st_iushr d_244_17)
theorem ki_244_16 : js_Ok 244 16 (o_ic 2 17) := js_St.ok (st_iconst rfl d_244_16)
theorem ki_244_47 : js_Ok 244 47 (o_is 0 48) := js_St.ok (st_istoren rfl (Nat.le_of_ble_eq_true rfl) d_244_47)
theorem ki_244_46 : js_Ok 244 46 (o_b2 (fun x y => x + y) 47) := js_St.ok (st_iadd d_244_46)
theorem ki_244_45 : js_Ok 244 45 (o_b2 (fun x y => (x.toUInt32 >>> (y.toUInt32 &&& Int32.toUInt32 31)).toInt32) 46) := js_St.ok (st_iushr d_244_45)
theorem ki_244_43 : js_Ok 244 43 (o_ic 16 45) := js_St.ok (st_bipush rfl d_244_43)
theorem ki_244_42 : js_Ok 244 42 (o_il 0 43) := js_St.ok (st_iloadn rfl d_244_42)
theorem ki_244_41 : js_Ok 244 41 (o_il 0 42) := js_St.ok (st_iloadn rfl d_244_41)
theorem ki_244_40 : js_Ok 244 40 (o_is 0 41) := js_St.ok (st_istoren rfl (Nat.le_of_ble_eq_true rfl) d_244_40)
theorem ki_244_39 : js_Ok 244 39 (o_b2 (fun x y => x + y) 40) := js_St.ok (st_iadd d_244_39)
theorem ki_244_38 : js_Ok 244 38 (o_b2 (fun x y => (x.toUInt32 >>> (y.toUInt32 &&& Int32.toUInt32 31)).toInt32) 39) := js_St.ok (st_iushr d_244_38)
theorem ki_244_36 : js_Ok 244 36 (o_ic 8 38) := js_St.ok (st_bipush rfl d_244_36)
theorem ki_244_35 : js_Ok 244 35 (o_il 0 36) := js_St.ok (st_iloadn rfl d_244_35)
theorem ki_244_34 : js_Ok 244 34 (o_il 0 35) := js_St.ok (st_iloadn rfl d_244_34)
theorem ki_244_33 : js_Ok 244 33 (o_is 0 34) := js_St.ok (st_istoren rfl (Nat.le_of_ble_eq_true rfl) d_244_33)
theorem ki_244_32 : js_Ok 244 32 (o_b2 (fun x y => x &&& y) 33) := js_St.ok (st_iand d_244_32)
theorem ki_244_52 : js_Ok 244 52 (o_rI) := ok_rI rfl d_244_52
theorem ki_244_51 : js_Ok 244 51 (o_b2 (fun x y => x &&& y) 52) := js_St.ok (st_iand d_244_51)
theorem ki_244_49 : js_Ok 244 49 (o_ic 63 51) := js_St.ok (st_bipush rfl d_244_49)
theorem ki_244_48 : js_Ok 244 48 (o_il 0 49) := js_St.ok (st_iloadn rfl d_244_48)
theorem d_245_0 : decode (js_b 245) 0 = .ok (.lload_n 0, 1) := by decide +kernel
theorem d_245_1 : decode (js_b 245) 1 = .ok (.lload_n 0, 1) := by decide +kernel
theorem d_245_2 : decode (js_b 245) 2 = .ok (.iconst 1, 1) := by decide +kernel
theorem d_245_3 : decode (js_b 245) 3 = .ok (.lushr, 1) := by decide +kernel
theorem d_245_4 : decode (js_b 245) 4 = .ok (.ldc2_w 314, 3) := by decide +kernel
theorem d_245_7 : decode (js_b 245) 7 = .ok (.land, 1) := by decide +kernel
theorem d_245_8 : decode (js_b 245) 8 = .ok (.lsub, 1) := by decide +kernel
theorem d_245_9 : decode (js_b 245) 9 = .ok (.lstore_n 0, 1) := by decide +kernel
theorem d_245_10 : decode (js_b 245) 10 = .ok (.lload_n 0, 1) := by decide +kernel
theorem d_245_11 : decode (js_b 245) 11 = .ok (.ldc2_w 316, 3) := by decide +kernel
theorem d_245_14 : decode (js_b 245) 14 = .ok (.land, 1) := by decide +kernel
theorem d_245_15 : decode (js_b 245) 15 = .ok (.lload_n 0, 1) := by decide +kernel
theorem d_245_16 : decode (js_b 245) 16 = .ok (.iconst 2, 1) := by decide +kernel
theorem d_245_17 : decode (js_b 245) 17 = .ok (.lushr, 1) := by decide +kernel
theorem d_245_18 : decode (js_b 245) 18 = .ok (.ldc2_w 316, 3) := by decide +kernel
theorem d_245_21 : decode (js_b 245) 21 = .ok (.land, 1) := by decide +kernel
theorem d_245_22 : decode (js_b 245) 22 = .ok (.ladd, 1) := by decide +kernel
theorem d_245_23 : decode (js_b 245) 23 = .ok (.lstore_n 0, 1) := by decide +kernel
theorem d_245_24 : decode (js_b 245) 24 = .ok (.lload_n 0, 1) := by decide +kernel
theorem d_245_25 : decode (js_b 245) 25 = .ok (.lload_n 0, 1) := by decide +kernel
theorem d_245_26 : decode (js_b 245) 26 = .ok (.iconst 4, 1) := by decide +kernel
theorem d_245_27 : decode (js_b 245) 27 = .ok (.lushr, 1) := by decide +kernel
theorem d_245_28 : decode (js_b 245) 28 = .ok (.ladd, 1) := by decide +kernel
theorem d_245_29 : decode (js_b 245) 29 = .ok (.ldc2_w 318, 3) := by decide +kernel
theorem d_245_32 : decode (js_b 245) 32 = .ok (.land, 1) := by decide +kernel
theorem d_245_33 : decode (js_b 245) 33 = .ok (.lstore_n 0, 1) := by decide +kernel
theorem d_245_34 : decode (js_b 245) 34 = .ok (.lload_n 0, 1) := by decide +kernel
theorem d_245_35 : decode (js_b 245) 35 = .ok (.lload_n 0, 1) := by decide +kernel
theorem d_245_36 : decode (js_b 245) 36 = .ok (.bipush 8, 2) := by decide +kernel
theorem d_245_38 : decode (js_b 245) 38 = .ok (.lushr, 1) := by decide +kernel
theorem d_245_39 : decode (js_b 245) 39 = .ok (.ladd, 1) := by decide +kernel
theorem d_245_40 : decode (js_b 245) 40 = .ok (.lstore_n 0, 1) := by decide +kernel
theorem d_245_41 : decode (js_b 245) 41 = .ok (.lload_n 0, 1) := by decide +kernel
theorem d_245_42 : decode (js_b 245) 42 = .ok (.lload_n 0, 1) := by decide +kernel
theorem d_245_43 : decode (js_b 245) 43 = .ok (.bipush 16, 2) := by decide +kernel
theorem d_245_45 : decode (js_b 245) 45 = .ok (.lushr, 1) := by decide +kernel
theorem d_245_46 : decode (js_b 245) 46 = .ok (.ladd, 1) := by decide +kernel
theorem d_245_47 : decode (js_b 245) 47 = .ok (.lstore_n 0, 1) := by decide +kernel
theorem d_245_48 : decode (js_b 245) 48 = .ok (.lload_n 0, 1) := by decide +kernel
theorem d_245_49 : decode (js_b 245) 49 = .ok (.lload_n 0, 1) := by decide +kernel
theorem d_245_50 : decode (js_b 245) 50 = .ok (.bipush 32, 2) := by decide +kernel
theorem d_245_52 : decode (js_b 245) 52 = .ok (.lushr, 1) := by decide +kernel
theorem d_245_53 : decode (js_b 245) 53 = .ok (.ladd, 1) := by decide +kernel
theorem d_245_54 : decode (js_b 245) 54 = .ok (.lstore_n 0, 1) := by decide +kernel
theorem d_245_55 : decode (js_b 245) 55 = .ok (.lload_n 0, 1) := by decide +kernel
theorem d_245_56 : decode (js_b 245) 56 = .ok (.l2i, 1) := by decide +kernel
theorem d_245_57 : decode (js_b 245) 57 = .ok (.bipush 127, 2) := by decide +kernel
theorem d_245_59 : decode (js_b 245) 59 = .ok (.iand, 1) := by decide +kernel
theorem d_245_60 : decode (js_b 245) 60 = .ok (.ireturn, 1) := by decide +kernel
theorem ki_245_15 : js_Ok 245 15 (o_ll 0 16) := js_St.ok (st_lloadn rfl d_245_15)
theorem ki_245_14 : js_Ok 245 14 (o_B2 (fun x y => x &&& y) 15) := js_St.ok (st_land d_245_14)
theorem ki_245_11 : js_Ok 245 11 (o_lc 3689348814741910323 14) := js_St.ok (st_ldc2 kw_601 d_245_11)
theorem ki_245_10 : js_Ok 245 10 (o_ll 0 11) := js_St.ok (st_lloadn rfl d_245_10)
theorem ki_245_9 : js_Ok 245 9 (o_ls 0 10) := js_St.ok (st_lstoren rfl (Nat.le_of_ble_eq_true rfl) d_245_9)
theorem ki_245_8 : js_Ok 245 8 (o_B2 (fun x y => x - y) 9) := js_St.ok (st_lsub d_245_8)
theorem ki_245_7 : js_Ok 245 7 (o_B2 (fun x y => x &&& y) 8) := js_St.ok (st_land d_245_7)
theorem ki_245_4 : js_Ok 245 4 (o_lc 6148914691236517205 7) := js_St.ok (st_ldc2 kw_600 d_245_4)
theorem ki_245_3 : js_Ok 245 3 (o_Sh (fun x y => (x.toUInt64 >>> (y.toInt64.toUInt64 &&& Int64.toUInt64 63)).toInt64) 4) := js_St.ok (st_lushr d_245_3)
theorem ki_245_2 : js_Ok 245 2 (o_ic 1 3) := js_St.ok (st_iconst rfl d_245_2)
theorem ki_245_1 : js_Ok 245 1 (o_ll 0 2) := js_St.ok (st_lloadn rfl d_245_1)
theorem ki_245_0 : js_Ok 245 0 (o_ll 0 1) := js_St.ok (st_lloadn rfl d_245_0)
theorem ki_245_29 : js_Ok 245 29 (o_lc 1085102592571150095 32) := js_St.ok (st_ldc2 kw_602 d_245_29)
theorem ki_245_28 : js_Ok 245 28 (o_B2 (fun x y => x + y) 29) := js_St.ok (st_ladd d_245_28)
theorem ki_245_27 : js_Ok 245 27 (o_Sh (fun x y => (x.toUInt64 >>> (y.toInt64.toUInt64 &&& Int64.toUInt64 63)).toInt64) 28) := js_St.ok (st_lushr d_245_27)
theorem ki_245_26 : js_Ok 245 26 (o_ic 4 27) := js_St.ok (st_iconst rfl d_245_26)
theorem ki_245_25 : js_Ok 245 25 (o_ll 0 26) := js_St.ok (st_lloadn rfl d_245_25)
theorem ki_245_24 : js_Ok 245 24 (o_ll 0 25) := js_St.ok (st_lloadn rfl d_245_24)
theorem ki_245_23 : js_Ok 245 23 (o_ls 0 24) := js_St.ok (st_lstoren rfl (Nat.le_of_ble_eq_true rfl) d_245_23)
theorem ki_245_22 : js_Ok 245 22 (o_B2 (fun x y => x + y) 23) := js_St.ok (st_ladd d_245_22)
theorem ki_245_21 : js_Ok 245 21 (o_B2 (fun x y => x &&& y) 22) := js_St.ok (st_land d_245_21)
theorem ki_245_18 : js_Ok 245 18 (o_lc 3689348814741910323 21) := js_St.ok (st_ldc2 kw_601 d_245_18)
theorem ki_245_17 : js_Ok 245 17 (o_Sh (fun x y => (x.toUInt64 >>> (y.toInt64.toUInt64 &&& Int64.toUInt64 63)).toInt64) 18) := js_St.ok (st_lushr d_245_17)
theorem ki_245_16 : js_Ok 245 16 (o_ic 2 17) := js_St.ok (st_iconst rfl d_245_16)
theorem ki_245_47 : js_Ok 245 47 (o_ls 0 48) := js_St.ok (st_lstoren rfl (Nat.le_of_ble_eq_true rfl) d_245_47)
theorem ki_245_46 : js_Ok 245 46 (o_B2 (fun x y => x + y) 47) := js_St.ok (st_ladd d_245_46)
theorem ki_245_45 : js_Ok 245 45 (o_Sh (fun x y => (x.toUInt64 >>> (y.toInt64.toUInt64 &&& Int64.toUInt64 63)).toInt64) 46) := js_St.ok (st_lushr d_245_45)
theorem ki_245_43 : js_Ok 245 43 (o_ic 16 45) := js_St.ok (st_bipush rfl d_245_43)
theorem ki_245_42 : js_Ok 245 42 (o_ll 0 43) := js_St.ok (st_lloadn rfl d_245_42)
theorem ki_245_41 : js_Ok 245 41 (o_ll 0 42) := js_St.ok (st_lloadn rfl d_245_41)
theorem ki_245_40 : js_Ok 245 40 (o_ls 0 41) := js_St.ok (st_lstoren rfl (Nat.le_of_ble_eq_true rfl) d_245_40)
theorem ki_245_39 : js_Ok 245 39 (o_B2 (fun x y => x + y) 40) := js_St.ok (st_ladd d_245_39)
theorem ki_245_38 : js_Ok 245 38 (o_Sh (fun x y => (x.toUInt64 >>> (y.toInt64.toUInt64 &&& Int64.toUInt64 63)).toInt64) 39) := js_St.ok (st_lushr d_245_38)
theorem ki_245_36 : js_Ok 245 36 (o_ic 8 38) := js_St.ok (st_bipush rfl d_245_36)
theorem ki_245_35 : js_Ok 245 35 (o_ll 0 36) := js_St.ok (st_lloadn rfl d_245_35)
theorem ki_245_34 : js_Ok 245 34 (o_ll 0 35) := js_St.ok (st_lloadn rfl d_245_34)
theorem ki_245_33 : js_Ok 245 33 (o_ls 0 34) := js_St.ok (st_lstoren rfl (Nat.le_of_ble_eq_true rfl) d_245_33)
theorem ki_245_32 : js_Ok 245 32 (o_B2 (fun x y => x &&& y) 33) := js_St.ok (st_land d_245_32)
theorem ki_245_60 : js_Ok 245 60 (o_rI) := ok_rI rfl d_245_60
theorem ki_245_59 : js_Ok 245 59 (o_b2 (fun x y => x &&& y) 60) := js_St.ok (st_iand d_245_59)
theorem ki_245_57 : js_Ok 245 57 (o_ic 127 59) := js_St.ok (st_bipush rfl d_245_57)
theorem ki_245_56 : js_Ok 245 56 (o_l2i 57) := js_St.ok (st_l2i d_245_56)
theorem ki_245_55 : js_Ok 245 55 (o_ll 0 56) := js_St.ok (st_lloadn rfl d_245_55)
theorem ki_245_54 : js_Ok 245 54 (o_ls 0 55) := js_St.ok (st_lstoren rfl (Nat.le_of_ble_eq_true rfl) d_245_54)
theorem ki_245_53 : js_Ok 245 53 (o_B2 (fun x y => x + y) 54) := js_St.ok (st_ladd d_245_53)
theorem ki_245_52 : js_Ok 245 52 (o_Sh (fun x y => (x.toUInt64 >>> (y.toInt64.toUInt64 &&& Int64.toUInt64 63)).toInt64) 53) := js_St.ok (st_lushr d_245_52)
theorem ki_245_50 : js_Ok 245 50 (o_ic 32 52) := js_St.ok (st_bipush rfl d_245_50)
theorem ki_245_49 : js_Ok 245 49 (o_ll 0 50) := js_St.ok (st_lloadn rfl d_245_49)
theorem ki_245_48 : js_Ok 245 48 (o_ll 0 49) := js_St.ok (st_lloadn rfl d_245_48)
theorem d_246_0 : decode (js_b 246) 0 = .ok (.iload_n 0, 1) := by decide +kernel
theorem d_246_1 : decode (js_b 246) 1 = .ok (.iload_n 1, 1) := by decide +kernel
theorem d_246_2 : decode (js_b 246) 2 = .ok (.if_icmp .lt 7, 3) := by decide +kernel
theorem d_246_5 : decode (js_b 246) 5 = .ok (.iload_n 0, 1) := by decide +kernel
theorem d_246_6 : decode (js_b 246) 6 = .ok (.goto 4, 3) := by decide +kernel
theorem d_246_9 : decode (js_b 246) 9 = .ok (.iload_n 1, 1) := by decide +kernel
theorem d_246_10 : decode (js_b 246) 10 = .ok (.ireturn, 1) := by decide +kernel
theorem ki_246_10 : js_Ok 246 10 (o_rI) := ok_rI rfl d_246_10
theorem ki_246_9 : js_Ok 246 9 (o_il 1 10) := js_St.ok (st_iloadn rfl d_246_9)
theorem ki_246_6 : js_Ok 246 6 (o_go 10) := js_St.ok (st_goto (by decide) d_246_6)
theorem ki_246_5 : js_Ok 246 5 (o_il 0 6) := js_St.ok (st_iloadn rfl d_246_5)
theorem ki_246_2 : js_Ok 246 2 (o_clt 9 5) := js_St.ok (st_iclt (by decide) d_246_2)
theorem ki_246_1 : js_Ok 246 1 (o_il 1 2) := js_St.ok (st_iloadn rfl d_246_1)
theorem ki_246_0 : js_Ok 246 0 (o_il 0 1) := js_St.ok (st_iloadn rfl d_246_0)
theorem d_247_0 : decode (js_b 247) 0 = .ok (.iload_n 0, 1) := by decide +kernel
theorem d_247_1 : decode (js_b 247) 1 = .ok (.iload_n 1, 1) := by decide +kernel
theorem d_247_2 : decode (js_b 247) 2 = .ok (.if_icmp .gt 7, 3) := by decide +kernel
theorem d_247_5 : decode (js_b 247) 5 = .ok (.iload_n 0, 1) := by decide +kernel
theorem d_247_6 : decode (js_b 247) 6 = .ok (.goto 4, 3) := by decide +kernel
theorem d_247_9 : decode (js_b 247) 9 = .ok (.iload_n 1, 1) := by decide +kernel
theorem d_247_10 : decode (js_b 247) 10 = .ok (.ireturn, 1) := by decide +kernel
theorem ki_247_10 : js_Ok 247 10 (o_rI) := ok_rI rfl d_247_10
theorem ki_247_9 : js_Ok 247 9 (o_il 1 10) := js_St.ok (st_iloadn rfl d_247_9)
theorem ki_247_6 : js_Ok 247 6 (o_go 10) := js_St.ok (st_goto (by decide) d_247_6)
theorem ki_247_5 : js_Ok 247 5 (o_il 0 6) := js_St.ok (st_iloadn rfl d_247_5)
theorem ki_247_2 : js_Ok 247 2 (o_cgt 9 5) := js_St.ok (st_icgt (by decide) d_247_2)
theorem ki_247_1 : js_Ok 247 1 (o_il 1 2) := js_St.ok (st_iloadn rfl d_247_1)
theorem ki_247_0 : js_Ok 247 0 (o_il 0 1) := js_St.ok (st_iloadn rfl d_247_0)
theorem d_248_0 : decode (js_b 248) 0 = .ok (.aload_n 0, 1) := by decide +kernel
theorem d_248_1 : decode (js_b 248) 1 = .ok (.getfield 9, 3) := by decide +kernel
theorem d_248_4 : decode (js_b 248) 4 = .ok (.arraylength, 1) := by decide +kernel
theorem d_248_5 : decode (js_b 248) 5 = .ok (.aload_n 0, 1) := by decide +kernel
theorem d_248_6 : decode (js_b 248) 6 = .ok (.invokevirtual 335, 3) := by decide +kernel
theorem d_248_9 : decode (js_b 248) 9 = .ok (.ishr, 1) := by decide +kernel
theorem d_248_10 : decode (js_b 248) 10 = .ok (.ireturn, 1) := by decide +kernel
theorem ki_248_10 : js_Ok 248 10 (o_rI) := ok_rI rfl d_248_10
theorem ki_248_9 : js_Ok 248 9 (o_b2 (fun x y => x >>> (y &&& 31)) 10) := js_St.ok (st_ishr d_248_9)
theorem ki_248_6 : js_Ok 248 6 (o_cI 250 1 21 9) := ok_cI (site_V kk_248_250 (by decide) kw_1108 kw_1109 kw_1110 (fun t ht => by cases ht; exact Or.inr ⟨by decide, rfl⟩) d_248_6) rfl
theorem ki_248_5 : js_Ok 248 5 (o_al 0 6) := js_St.ok (st_aloadn rfl d_248_5)
theorem ki_248_4 : js_Ok 248 4 (o_len 5) := js_St.ok (st_len d_248_4)
theorem ki_248_1 : js_Ok 248 1 (o_gA 20 0 4) := js_St.ok (st_gAc (by decide) (by decide) kw_1758 d_248_1)
theorem ki_248_0 : js_Ok 248 0 (o_al 0 1) := js_St.ok (st_aloadn rfl d_248_0)
theorem d_249_0 : decode (js_b 249) 0 = .ok (.aload_n 0, 1) := by decide +kernel
theorem d_249_1 : decode (js_b 249) 1 = .ok (.invokevirtual 492, 3) := by decide +kernel
theorem d_249_4 : decode (js_b 249) 4 = .ok (.ifCond .eq 12, 3) := by decide +kernel
theorem d_249_7 : decode (js_b 249) 7 = .ok (.aload_n 0, 1) := by decide +kernel
theorem d_249_8 : decode (js_b 249) 8 = .ok (.getfield 9, 3) := by decide +kernel
theorem d_249_11 : decode (js_b 249) 11 = .ok (.iload_n 1, 1) := by decide +kernel
theorem d_249_12 : decode (js_b 249) 12 = .ok (.invokestatic 495, 3) := by decide +kernel
theorem d_249_15 : decode (js_b 249) 15 = .ok (.ireturn, 1) := by decide +kernel
theorem d_249_16 : decode (js_b 249) 16 = .ok (.aload_n 0, 1) := by decide +kernel
theorem d_249_17 : decode (js_b 249) 17 = .ok (.getfield 9, 3) := by decide +kernel
theorem d_249_20 : decode (js_b 249) 20 = .ok (.iload_n 1, 1) := by decide +kernel
theorem d_249_21 : decode (js_b 249) 21 = .ok (.invokestatic 498, 3) := by decide +kernel
theorem ki_249_15 : js_Ok 249 15 (o_rC) := ok_rC rfl d_249_15
theorem ki_249_12 : js_Ok 249 12 (o_cI 253 2 0 15) := ok_cI (site_S kk_249_253 kw_1122 kw_1123 d_249_12) rfl
theorem ki_249_11 : js_Ok 249 11 (o_il 1 12) := js_St.ok (st_iloadn rfl d_249_11)
theorem ki_249_8 : js_Ok 249 8 (o_gA 20 0 11) := js_St.ok (st_gAc (by decide) (by decide) kw_1758 d_249_8)
theorem ki_249_7 : js_Ok 249 7 (o_al 0 8) := js_St.ok (st_aloadn rfl d_249_7)
theorem ki_249_4 : js_Ok 249 4 (o_eq 16 7) := js_St.ok (st_ifeq (by decide) d_249_4)
theorem ki_249_1 : js_Ok 249 1 (o_cI 251 1 21 4) := ok_cI (site_V kk_249_251 (by decide) kw_1118 kw_1119 kw_1120 (fun t ht => by cases ht; exact Or.inr ⟨by decide, rfl⟩) d_249_1) rfl
theorem ki_249_0 : js_Ok 249 0 (o_al 0 1) := js_St.ok (st_aloadn rfl d_249_0)
theorem ki_249_21 : js_Ok 249 21 (o_bad) := js_St.ok st_bad
theorem ki_249_20 : js_Ok 249 20 (o_il 1 21) := js_St.ok (st_iloadn rfl d_249_20)
theorem ki_249_17 : js_Ok 249 17 (o_gA 20 0 20) := js_St.ok (st_gAc (by decide) (by decide) kw_1758 d_249_17)
theorem ki_249_16 : js_Ok 249 16 (o_al 0 17) := js_St.ok (st_aloadn rfl d_249_16)
theorem d_250_0 : decode (js_b 250) 0 = .ok (.getstatic 38, 3) := by decide +kernel
theorem d_250_3 : decode (js_b 250) 3 = .ok (.ifCond .eq 10, 3) := by decide +kernel
theorem d_250_6 : decode (js_b 250) 6 = .ok (.aload_n 0, 1) := by decide +kernel
theorem d_250_7 : decode (js_b 250) 7 = .ok (.getfield 15, 3) := by decide +kernel
theorem d_250_10 : decode (js_b 250) 10 = .ok (.goto 4, 3) := by decide +kernel
theorem d_250_13 : decode (js_b 250) 13 = .ok (.iconst 1, 1) := by decide +kernel
theorem d_250_14 : decode (js_b 250) 14 = .ok (.ireturn, 1) := by decide +kernel
theorem ki_250_14 : js_Ok 250 14 (o_rB) := ok_rB rfl d_250_14
theorem ki_250_13 : js_Ok 250 13 (o_ic 1 14) := js_St.ok (st_iconst rfl d_250_13)
theorem ki_250_10 : js_Ok 250 10 (o_go 14) := js_St.ok (st_goto (by decide) d_250_10)
theorem ki_250_7 : js_Ok 250 7 (o_gI 20 1 10) := js_St.ok (st_gIc (by decide) (by decide) kw_1759 d_250_7)
theorem ki_250_6 : js_Ok 250 6 (o_al 0 7) := js_St.ok (st_aloadn rfl d_250_6)
theorem ki_250_3 : js_Ok 250 3 (o_eq 13 6) := js_St.ok (st_ifeq (by decide) d_250_3)
theorem ki_250_0 : js_Ok 250 0 (o_ic 1 3) := js_St.ok (st_gsI (by decide +kernel) kw_1112 d_250_0)
theorem d_251_0 : decode (js_b 251) 0 = .ok (.getstatic 38, 3) := by decide +kernel
theorem d_251_3 : decode (js_b 251) 3 = .ok (.ifCond .eq 14, 3) := by decide +kernel
theorem d_251_6 : decode (js_b 251) 6 = .ok (.aload_n 0, 1) := by decide +kernel
theorem d_251_7 : decode (js_b 251) 7 = .ok (.getfield 15, 3) := by decide +kernel
theorem d_251_10 : decode (js_b 251) 10 = .ok (.ifCond .ne 7, 3) := by decide +kernel
theorem d_251_13 : decode (js_b 251) 13 = .ok (.iconst 1, 1) := by decide +kernel
theorem d_251_14 : decode (js_b 251) 14 = .ok (.goto 4, 3) := by decide +kernel
theorem d_251_17 : decode (js_b 251) 17 = .ok (.iconst 0, 1) := by decide +kernel
theorem d_251_18 : decode (js_b 251) 18 = .ok (.ireturn, 1) := by decide +kernel
theorem ki_251_14 : js_Ok 251 14 (o_go 18) := js_St.ok (st_goto (by decide) d_251_14)
theorem ki_251_13 : js_Ok 251 13 (o_ic 1 14) := js_St.ok (st_iconst rfl d_251_13)
theorem ki_251_10 : js_Ok 251 10 (o_ne 17 13) := js_St.ok (st_ifne (by decide) d_251_10)
theorem ki_251_7 : js_Ok 251 7 (o_gI 20 1 10) := js_St.ok (st_gIc (by decide) (by decide) kw_1759 d_251_7)
theorem ki_251_6 : js_Ok 251 6 (o_al 0 7) := js_St.ok (st_aloadn rfl d_251_6)
theorem ki_251_3 : js_Ok 251 3 (o_eq 17 6) := js_St.ok (st_ifeq (by decide) d_251_3)
theorem ki_251_0 : js_Ok 251 0 (o_ic 1 3) := js_St.ok (st_gsI (by decide +kernel) kw_1112 d_251_0)
theorem ki_251_18 : js_Ok 251 18 (o_rZ) := ok_rZ rfl d_251_18
theorem ki_251_17 : js_Ok 251 17 (o_ic 0 18) := js_St.ok (st_iconst rfl d_251_17)
theorem d_252_0 : decode (js_b 252) 0 = .ok (.iload_n 0, 1) := by decide +kernel
theorem d_252_1 : decode (js_b 252) 1 = .ok (.iload_n 1, 1) := by decide +kernel
theorem d_252_2 : decode (js_b 252) 2 = .ok (.getstatic 1053, 3) := by decide +kernel
theorem d_252_5 : decode (js_b 252) 5 = .ok (.invokestatic 1059, 3) := by decide +kernel
theorem d_252_8 : decode (js_b 252) 8 = .ok (.pop, 1) := by decide +kernel
theorem d_252_9 : decode (js_b 252) 9 = .ok (.return_, 1) := by decide +kernel
theorem ki_252_9 : js_Ok 252 9 (o_rV) := ok_rV rfl d_252_9
theorem ki_252_8 : js_Ok 252 8 (o_pop 9) := js_St.ok (st_pop d_252_8)
theorem ki_252_5 : js_Ok 252 5 (o_cI 254 3 0 8) := ok_cI (site_S kk_252_254 kw_1130 kw_1131 d_252_5) rfl
theorem ki_252_2 : js_Ok 252 2 (o_jc 5) := js_St.ok (st_gsJ kw_1128 d_252_2)
theorem ki_252_1 : js_Ok 252 1 (o_il 1 2) := js_St.ok (st_iloadn rfl d_252_1)
theorem ki_252_0 : js_Ok 252 0 (o_il 0 1) := js_St.ok (st_iloadn rfl d_252_0)
theorem d_253_0 : decode (js_b 253) 0 = .ok (.iload_n 1, 1) := by decide +kernel
theorem d_253_1 : decode (js_b 253) 1 = .ok (.aload_n 0, 1) := by decide +kernel
theorem d_253_2 : decode (js_b 253) 2 = .ok (.arraylength, 1) := by decide +kernel
theorem d_253_3 : decode (js_b 253) 3 = .ok (.invokestatic 9, 3) := by decide +kernel
theorem d_253_6 : decode (js_b 253) 6 = .ok (.aload_n 0, 1) := by decide +kernel
theorem d_253_7 : decode (js_b 253) 7 = .ok (.iload_n 1, 1) := by decide +kernel
theorem d_253_8 : decode (js_b 253) 8 = .ok (.baload, 1) := by decide +kernel
theorem d_253_9 : decode (js_b 253) 9 = .ok (.sipush 255, 3) := by decide +kernel
theorem d_253_12 : decode (js_b 253) 12 = .ok (.iand, 1) := by decide +kernel
theorem d_253_13 : decode (js_b 253) 13 = .ok (.i2c, 1) := by decide +kernel
theorem d_253_14 : decode (js_b 253) 14 = .ok (.ireturn, 1) := by decide +kernel
theorem ki_253_14 : js_Ok 253 14 (o_rC) := ok_rC rfl d_253_14
theorem ki_253_13 : js_Ok 253 13 (o_u (fun x => (x.toUInt32 % 65536).toInt32) 14) := js_St.ok (st_i2c d_253_13)
theorem ki_253_12 : js_Ok 253 12 (o_b2 (fun x y => x &&& y) 13) := js_St.ok (st_iand d_253_12)
theorem ki_253_9 : js_Ok 253 9 (o_ic 255 12) := js_St.ok (st_sipush rfl d_253_9)
theorem ki_253_8 : js_Ok 253 8 (o_lI 104 9) := js_St.ok (st_lIb d_253_8)
theorem ki_253_7 : js_Ok 253 7 (o_il 1 8) := js_St.ok (st_iloadn rfl d_253_7)
theorem ki_253_6 : js_Ok 253 6 (o_al 0 7) := js_St.ok (st_aloadn rfl d_253_6)
theorem ki_253_3 : js_Ok 253 3 (o_cV 252 2 0 6) := ok_cV (site_S kk_253_252 kw_1125 kw_1126 d_253_3) rfl
theorem ki_253_2 : js_Ok 253 2 (o_len 3) := js_St.ok (st_len d_253_2)
theorem ki_253_1 : js_Ok 253 1 (o_al 0 2) := js_St.ok (st_aloadn rfl d_253_1)
theorem ki_253_0 : js_Ok 253 0 (o_il 1 1) := js_St.ok (st_iloadn rfl d_253_0)
theorem d_254_0 : decode (js_b 254) 0 = .ok (.iload_n 0, 1) := by decide +kernel
theorem d_254_1 : decode (js_b 254) 1 = .ok (.ifCond .lt 8, 3) := by decide +kernel
theorem d_254_4 : decode (js_b 254) 4 = .ok (.iload_n 0, 1) := by decide +kernel
theorem d_254_5 : decode (js_b 254) 5 = .ok (.iload_n 1, 1) := by decide +kernel
theorem d_254_6 : decode (js_b 254) 6 = .ok (.if_icmp .lt 10, 3) := by decide +kernel
theorem d_254_9 : decode (js_b 254) 9 = .ok (.aload_n 2, 1) := by decide +kernel
theorem d_254_10 : decode (js_b 254) 10 = .ok (.iload_n 0, 1) := by decide +kernel
theorem d_254_11 : decode (js_b 254) 11 = .ok (.iload_n 1, 1) := by decide +kernel
theorem d_254_12 : decode (js_b 254) 12 = .ok (.invokestatic 95, 3) := by decide +kernel
theorem d_254_16 : decode (js_b 254) 16 = .ok (.iload_n 0, 1) := by decide +kernel
theorem d_254_17 : decode (js_b 254) 17 = .ok (.ireturn, 1) := by decide +kernel
theorem ki_254_12 : js_Ok 254 12 (o_bad) := js_St.ok st_bad
theorem ki_254_11 : js_Ok 254 11 (o_il 1 12) := js_St.ok (st_iloadn rfl d_254_11)
theorem ki_254_10 : js_Ok 254 10 (o_il 0 11) := js_St.ok (st_iloadn rfl d_254_10)
theorem ki_254_9 : js_Ok 254 9 (o_al 2 10) := js_St.ok (st_aloadn rfl d_254_9)
theorem ki_254_6 : js_Ok 254 6 (o_clt 16 9) := js_St.ok (st_iclt (by decide) d_254_6)
theorem ki_254_5 : js_Ok 254 5 (o_il 1 6) := js_St.ok (st_iloadn rfl d_254_5)
theorem ki_254_4 : js_Ok 254 4 (o_il 0 5) := js_St.ok (st_iloadn rfl d_254_4)
theorem ki_254_1 : js_Ok 254 1 (o_lt 9 4) := js_St.ok (st_iflt (by decide) d_254_1)
theorem ki_254_0 : js_Ok 254 0 (o_il 0 1) := js_St.ok (st_iloadn rfl d_254_0)
theorem ki_254_17 : js_Ok 254 17 (o_rI) := ok_rI rfl d_254_17
theorem ki_254_16 : js_Ok 254 16 (o_il 0 17) := js_St.ok (st_iloadn rfl d_254_16)
set_option maxRecDepth 20000 in
theorem mk_201 : js_mok 201 := ⟨by decide +kernel, jk_tab (fun _ => js_St.ok st_bad) (show jk_all (js_Ok 201) 0 tb_201 from ⟨⟨ki_201_0, ⟨ki_201_1, ⟨ki_201_2, ⟨kbad, ⟨kbad, ⟨ki_201_5, ⟨ki_201_6, ⟨ki_201_7, ⟨ki_201_8, ⟨ki_201_9, ⟨ki_201_10, ⟨kbad, ⟨ki_201_12, ⟨kbad, ⟨kbad, ⟨ki_201_15, trivial⟩⟩⟩⟩⟩⟩⟩⟩⟩⟩⟩⟩⟩⟩⟩⟩, ⟨⟨ki_201_16, ⟨ki_201_17, ⟨kbad, ⟨kbad, ⟨ki_201_20, ⟨kbad, ⟨kbad, ⟨ki_201_23, ⟨ki_201_24, ⟨ki_201_25, ⟨ki_201_26, ⟨kbad, ⟨kbad, ⟨ki_201_29, ⟨ki_201_30, ⟨ki_201_31, trivial⟩⟩⟩⟩⟩⟩⟩⟩⟩⟩⟩⟩⟩⟩⟩⟩, ⟨⟨ki_201_32, ⟨kbad, ⟨kbad, ⟨ki_201_35, ⟨ki_201_36, ⟨ki_201_37, ⟨ki_201_38, ⟨kbad, ⟨kbad, ⟨ki_201_41, ⟨kbad, ⟨kbad, ⟨ki_201_44, ⟨ki_201_45, trivial⟩⟩⟩⟩⟩⟩⟩⟩⟩⟩⟩⟩⟩⟩, trivial⟩⟩⟩)⟩
set_option maxRecDepth 20000 in
theorem mk_202 : js_mok 202 := ⟨by decide +kernel, jk_tab (fun _ => js_St.ok st_bad) (show jk_all (js_Ok 202) 0 tb_202 from ⟨⟨ki_202_0, ⟨ki_202_1, ⟨ki_202_2, ⟨ki_202_3, ⟨ki_202_4, ⟨kbad, ⟨kbad, ⟨ki_202_7, ⟨kbad, ⟨kbad, ⟨ki_202_10, ⟨kbad, ⟨ki_202_12, ⟨ki_202_13, ⟨kbad, ⟨ki_202_15, trivial⟩⟩⟩⟩⟩⟩⟩⟩⟩⟩⟩⟩⟩⟩⟩⟩, ⟨⟨kbad, ⟨ki_202_17, ⟨kbad, ⟨ki_202_19, ⟨kbad, ⟨kbad, ⟨ki_202_22, ⟨kbad, ⟨ki_202_24, ⟨kbad, ⟨kbad, ⟨ki_202_27, ⟨ki_202_28, ⟨kbad, ⟨kbad, ⟨ki_202_31, trivial⟩⟩⟩⟩⟩⟩⟩⟩⟩⟩⟩⟩⟩⟩⟩⟩, ⟨⟨kbad, ⟨kbad, ⟨ki_202_34, ⟨kbad, ⟨ki_202_36, ⟨ki_202_37, ⟨ki_202_38, ⟨ki_202_39, ⟨ki_202_40, ⟨kbad, ⟨ki_202_42, ⟨ki_202_43, ⟨kbad, ⟨ki_202_45, ⟨kbad, ⟨kbad, trivial⟩⟩⟩⟩⟩⟩⟩⟩⟩⟩⟩⟩⟩⟩⟩⟩, ⟨⟨ki_202_48, ⟨ki_202_49, ⟨kbad, ⟨ki_202_51, ⟨ki_202_52, ⟨kbad, ⟨kbad, ⟨ki_202_55, ⟨ki_202_56, ⟨kbad, ⟨kbad, ⟨ki_202_59, ⟨ki_202_60, ⟨kbad, ⟨ki_202_62, ⟨ki_202_63, trivial⟩⟩⟩⟩⟩⟩⟩⟩⟩⟩⟩⟩⟩⟩⟩⟩, ⟨⟨kbad, ⟨kbad, ⟨ki_202_66, ⟨ki_202_67, ⟨ki_202_68, ⟨ki_202_69, ⟨kbad, ⟨kbad, ⟨ki_202_72, ⟨kbad, ⟨kbad, ⟨ki_202_75, ⟨ki_202_76, trivial⟩⟩⟩⟩⟩⟩⟩⟩⟩⟩⟩⟩⟩, trivial⟩⟩⟩⟩⟩)⟩
set_option maxRecDepth 20000 in
theorem mk_203 : js_mok 203 := ⟨by decide +kernel, jk_tab (fun _ => js_St.ok st_bad) (show jk_all (js_Ok 203) 0 tb_203 from ⟨⟨ki_203_0, ⟨ki_203_1, ⟨ki_203_2, ⟨kbad, ⟨kbad, ⟨ki_203_5, ⟨ki_203_6, ⟨ki_203_7, ⟨ki_203_8, ⟨ki_203_9, ⟨ki_203_10, ⟨kbad, ⟨ki_203_12, ⟨kbad, ⟨kbad, ⟨ki_203_15, trivial⟩⟩⟩⟩⟩⟩⟩⟩⟩⟩⟩⟩⟩⟩⟩⟩, ⟨⟨ki_203_16, ⟨ki_203_17, ⟨ki_203_18, ⟨kbad, ⟨kbad, ⟨ki_203_21, ⟨kbad, ⟨kbad, ⟨ki_203_24, ⟨ki_203_25, ⟨ki_203_26, ⟨ki_203_27, ⟨kbad, ⟨kbad, ⟨ki_203_30, ⟨ki_203_31, trivial⟩⟩⟩⟩⟩⟩⟩⟩⟩⟩⟩⟩⟩⟩⟩⟩, ⟨⟨ki_203_32, ⟨ki_203_33, ⟨kbad, ⟨kbad, ⟨ki_203_36, ⟨kbad, ⟨kbad, ⟨ki_203_39, ⟨ki_203_40, trivial⟩⟩⟩⟩⟩⟩⟩⟩⟩, trivial⟩⟩⟩)⟩
set_option maxRecDepth 20000 in
theorem mk_204 : js_mok 204 := ⟨by decide +kernel, jk_tab (fun _ => js_St.ok st_bad) (show jk_all (js_Ok 204) 0 tb_204 from ⟨⟨ki_204_0, ⟨ki_204_1, ⟨kbad, ⟨kbad, ⟨ki_204_4, trivial⟩⟩⟩⟩⟩, trivial⟩)⟩
set_option maxRecDepth 20000 in
theorem mk_205 : js_mok 205 := ⟨by decide +kernel, jk_tab (fun _ => js_St.ok st_bad) (show jk_all (js_Ok 205) 0 tb_205 from ⟨⟨ki_205_0, ⟨ki_205_1, ⟨ki_205_2, ⟨kbad, ⟨kbad, ⟨ki_205_5, ⟨ki_205_6, ⟨ki_205_7, ⟨ki_205_8, ⟨ki_205_9, ⟨ki_205_10, ⟨kbad, ⟨ki_205_12, ⟨kbad, ⟨kbad, ⟨ki_205_15, trivial⟩⟩⟩⟩⟩⟩⟩⟩⟩⟩⟩⟩⟩⟩⟩⟩, ⟨⟨ki_205_16, ⟨ki_205_17, ⟨ki_205_18, ⟨kbad, ⟨kbad, ⟨ki_205_21, ⟨kbad, ⟨kbad, ⟨ki_205_24, ⟨ki_205_25, ⟨kbad, ⟨kbad, ⟨ki_205_28, ⟨ki_205_29, ⟨ki_205_30, ⟨ki_205_31, trivial⟩⟩⟩⟩⟩⟩⟩⟩⟩⟩⟩⟩⟩⟩⟩⟩, ⟨⟨kbad, ⟨kbad, ⟨ki_205_34, ⟨kbad, ⟨kbad, ⟨ki_205_37, ⟨ki_205_38, trivial⟩⟩⟩⟩⟩⟩⟩, trivial⟩⟩⟩)⟩
set_option maxRecDepth 20000 in
theorem mk_206 : js_mok 206 := ⟨by decide +kernel, jk_tab (fun _ => js_St.ok st_bad) (show jk_all (js_Ok 206) 0 tb_206 from ⟨⟨ki_206_0, ⟨ki_206_1, ⟨ki_206_2, ⟨kbad, ⟨kbad, ⟨ki_206_5, ⟨ki_206_6, ⟨ki_206_7, ⟨kbad, ⟨kbad, ⟨ki_206_10, trivial⟩⟩⟩⟩⟩⟩⟩⟩⟩⟩⟩, trivial⟩)⟩
set_option maxRecDepth 20000 in
theorem mk_207 : js_mok 207 := ⟨by decide +kernel, jk_tab (fun _ => js_St.ok st_bad) (show jk_all (js_Ok 207) 0 tb_207 from ⟨⟨ki_207_0, ⟨ki_207_1, ⟨ki_207_2, ⟨kbad, ⟨kbad, ⟨ki_207_5, ⟨ki_207_6, ⟨ki_207_7, ⟨kbad, ⟨kbad, ⟨ki_207_10, trivial⟩⟩⟩⟩⟩⟩⟩⟩⟩⟩⟩, trivial⟩)⟩
set_option maxRecDepth 20000 in
theorem mk_208 : js_mok 208 := ⟨by decide +kernel, jk_tab (fun _ => js_St.ok st_bad) (show jk_all (js_Ok 208) 0 tb_208 from ⟨⟨ki_208_0, ⟨ki_208_1, ⟨ki_208_2, ⟨kbad, ⟨kbad, ⟨ki_208_5, ⟨ki_208_6, ⟨ki_208_7, ⟨ki_208_8, ⟨kbad, ⟨kbad, ⟨ki_208_11, ⟨ki_208_12, ⟨kbad, ⟨kbad, ⟨ki_208_15, trivial⟩⟩⟩⟩⟩⟩⟩⟩⟩⟩⟩⟩⟩⟩⟩⟩, ⟨⟨ki_208_16, ⟨ki_208_17, ⟨ki_208_18, ⟨kbad, ⟨kbad, ⟨ki_208_21, ⟨kbad, ⟨kbad, ⟨ki_208_24, ⟨ki_208_25, ⟨kbad, ⟨kbad, ⟨ki_208_28, ⟨ki_208_29, ⟨kbad, ⟨kbad, trivial⟩⟩⟩⟩⟩⟩⟩⟩⟩⟩⟩⟩⟩⟩⟩⟩, ⟨⟨ki_208_32, ⟨ki_208_33, ⟨kbad, ⟨kbad, ⟨ki_208_36, ⟨kbad, ⟨kbad, ⟨ki_208_39, ⟨ki_208_40, ⟨ki_208_41, ⟨ki_208_42, ⟨kbad, ⟨ki_208_44, ⟨kbad, ⟨kbad, ⟨ki_208_47, trivial⟩⟩⟩⟩⟩⟩⟩⟩⟩⟩⟩⟩⟩⟩⟩⟩, ⟨⟨ki_208_48, ⟨ki_208_49, ⟨ki_208_50, ⟨kbad, ⟨kbad, ⟨ki_208_53, ⟨ki_208_54, ⟨kbad, ⟨kbad, ⟨ki_208_57, ⟨ki_208_58, ⟨kbad, ⟨kbad, ⟨ki_208_61, ⟨ki_208_62, trivial⟩⟩⟩⟩⟩⟩⟩⟩⟩⟩⟩⟩⟩⟩⟩, trivial⟩⟩⟩⟩)⟩
set_option maxRecDepth 20000 in
theorem mk_209 : js_mok 209 := ⟨by decide +kernel, jk_tab (fun _ => js_St.ok st_bad) (show jk_all (js_Ok 209) 0 tb_209 from ⟨⟨ki_209_0, ⟨ki_209_1, ⟨ki_209_2, ⟨kbad, ⟨kbad, ⟨ki_209_5, ⟨ki_209_6, ⟨ki_209_7, ⟨ki_209_8, ⟨kbad, ⟨kbad, ⟨ki_209_11, ⟨ki_209_12, ⟨kbad, ⟨kbad, ⟨ki_209_15, trivial⟩⟩⟩⟩⟩⟩⟩⟩⟩⟩⟩⟩⟩⟩⟩⟩, ⟨⟨ki_209_16, ⟨kbad, ⟨kbad, ⟨ki_209_19, ⟨kbad, ⟨kbad, ⟨ki_209_22, ⟨ki_209_23, ⟨ki_209_24, ⟨ki_209_25, ⟨kbad, ⟨ki_209_27, ⟨kbad, ⟨kbad, ⟨ki_209_30, ⟨ki_209_31, trivial⟩⟩⟩⟩⟩⟩⟩⟩⟩⟩⟩⟩⟩⟩⟩⟩, ⟨⟨ki_209_32, ⟨ki_209_33, ⟨kbad, ⟨kbad, ⟨ki_209_36, ⟨kbad, ⟨kbad, ⟨ki_209_39, ⟨ki_209_40, trivial⟩⟩⟩⟩⟩⟩⟩⟩⟩, trivial⟩⟩⟩)⟩
set_option maxRecDepth 20000 in
theorem mk_210 : js_mok 210 := ⟨by decide +kernel, jk_tab (fun _ => js_St.ok st_bad) (show jk_all (js_Ok 210) 0 tb_210 from ⟨⟨ki_210_0, ⟨ki_210_1, ⟨ki_210_2, ⟨ki_210_3, ⟨ki_210_4, ⟨kbad, ⟨kbad, ⟨ki_210_7, ⟨kbad, ⟨kbad, ⟨ki_210_10, ⟨ki_210_11, ⟨kbad, ⟨kbad, ⟨ki_210_14, ⟨kbad, trivial⟩⟩⟩⟩⟩⟩⟩⟩⟩⟩⟩⟩⟩⟩⟩⟩, ⟨⟨kbad, ⟨ki_210_17, ⟨ki_210_18, ⟨kbad, ⟨kbad, ⟨ki_210_21, ⟨ki_210_22, ⟨kbad, ⟨ki_210_24, ⟨ki_210_25, ⟨ki_210_26, ⟨ki_210_27, ⟨ki_210_28, ⟨kbad, ⟨kbad, ⟨ki_210_31, trivial⟩⟩⟩⟩⟩⟩⟩⟩⟩⟩⟩⟩⟩⟩⟩⟩, trivial⟩⟩)⟩
set_option maxRecDepth 20000 in
theorem mk_211 : js_mok 211 := ⟨by decide +kernel, jk_tab (fun _ => js_St.ok st_bad) (show jk_all (js_Ok 211) 0 tb_211 from ⟨⟨ki_211_0, ⟨ki_211_1, ⟨ki_211_2, ⟨ki_211_3, ⟨ki_211_4, ⟨ki_211_5, ⟨kbad, ⟨ki_211_7, ⟨kbad, ⟨ki_211_9, ⟨ki_211_10, ⟨ki_211_11, ⟨kbad, ⟨kbad, ⟨ki_211_14, ⟨ki_211_15, trivial⟩⟩⟩⟩⟩⟩⟩⟩⟩⟩⟩⟩⟩⟩⟩⟩, ⟨⟨kbad, ⟨ki_211_17, ⟨ki_211_18, ⟨kbad, ⟨ki_211_20, ⟨kbad, ⟨ki_211_22, ⟨kbad, ⟨ki_211_24, ⟨kbad, ⟨kbad, ⟨ki_211_27, ⟨ki_211_28, ⟨kbad, ⟨ki_211_30, ⟨kbad, trivial⟩⟩⟩⟩⟩⟩⟩⟩⟩⟩⟩⟩⟩⟩⟩⟩, ⟨⟨ki_211_32, ⟨ki_211_33, ⟨kbad, ⟨kbad, ⟨ki_211_36, ⟨ki_211_37, ⟨kbad, ⟨ki_211_39, ⟨ki_211_40, ⟨ki_211_41, ⟨ki_211_42, ⟨ki_211_43, ⟨ki_211_44, ⟨kbad, ⟨kbad, ⟨ki_211_47, trivial⟩⟩⟩⟩⟩⟩⟩⟩⟩⟩⟩⟩⟩⟩⟩⟩, ⟨⟨ki_211_48, ⟨ki_211_49, ⟨kbad, ⟨ki_211_51, ⟨kbad, ⟨ki_211_53, ⟨kbad, ⟨kbad, ⟨ki_211_56, ⟨ki_211_57, ⟨kbad, ⟨kbad, ⟨ki_211_60, ⟨ki_211_61, ⟨kbad, ⟨ki_211_63, trivial⟩⟩⟩⟩⟩⟩⟩⟩⟩⟩⟩⟩⟩⟩⟩⟩, ⟨⟨kbad, ⟨ki_211_65, ⟨kbad, ⟨kbad, ⟨ki_211_68, ⟨ki_211_69, ⟨kbad, ⟨kbad, ⟨ki_211_72, ⟨ki_211_73, ⟨ki_211_74, ⟨ki_211_75, ⟨kbad, ⟨kbad, ⟨ki_211_78, ⟨kbad, trivial⟩⟩⟩⟩⟩⟩⟩⟩⟩⟩⟩⟩⟩⟩⟩⟩, ⟨⟨kbad, ⟨ki_211_81, ⟨kbad, ⟨kbad, ⟨ki_211_84, ⟨kbad, ⟨kbad, ⟨ki_211_87, ⟨kbad, ⟨kbad, ⟨ki_211_90, ⟨ki_211_91, trivial⟩⟩⟩⟩⟩⟩⟩⟩⟩⟩⟩⟩, trivial⟩⟩⟩⟩⟩⟩)⟩
set_option maxRecDepth 20000 in
theorem mk_212 : js_mok 212 := ⟨by decide +kernel, jk_tab (fun _ => js_St.ok st_bad) (show jk_all (js_Ok 212) 0 tb_212 from ⟨⟨ki_212_0, ⟨ki_212_1, ⟨ki_212_2, ⟨ki_212_3, ⟨ki_212_4, ⟨ki_212_5, ⟨kbad, ⟨ki_212_7, ⟨kbad, ⟨kbad, ⟨ki_212_10, ⟨ki_212_11, ⟨ki_212_12, ⟨ki_212_13, ⟨ki_212_14, ⟨ki_212_15, trivial⟩⟩⟩⟩⟩⟩⟩⟩⟩⟩⟩⟩⟩⟩⟩⟩, ⟨⟨ki_212_16, ⟨ki_212_17, ⟨ki_212_18, ⟨ki_212_19, ⟨kbad, ⟨kbad, ⟨ki_212_22, ⟨kbad, ⟨kbad, ⟨ki_212_25, ⟨ki_212_26, trivial⟩⟩⟩⟩⟩⟩⟩⟩⟩⟩⟩, trivial⟩⟩)⟩
set_option maxRecDepth 20000 in
theorem mk_213 : js_mok 213 := ⟨by decide +kernel, jk_tab (fun _ => js_St.ok st_bad) (show jk_all (js_Ok 213) 0 tb_213 from ⟨⟨ki_213_0, ⟨ki_213_1, ⟨ki_213_2, ⟨ki_213_3, ⟨ki_213_4, ⟨ki_213_5, ⟨ki_213_6, ⟨kbad, ⟨kbad, ⟨ki_213_9, ⟨ki_213_10, ⟨kbad, ⟨ki_213_12, ⟨kbad, ⟨ki_213_14, ⟨kbad, trivial⟩⟩⟩⟩⟩⟩⟩⟩⟩⟩⟩⟩⟩⟩⟩⟩, ⟨⟨ki_213_16, ⟨kbad, ⟨kbad, ⟨ki_213_19, ⟨ki_213_20, ⟨kbad, ⟨kbad, ⟨ki_213_23, ⟨kbad, ⟨kbad, ⟨ki_213_26, ⟨kbad, ⟨ki_213_28, ⟨ki_213_29, ⟨ki_213_30, ⟨kbad, trivial⟩⟩⟩⟩⟩⟩⟩⟩⟩⟩⟩⟩⟩⟩⟩⟩, ⟨⟨kbad, ⟨ki_213_33, ⟨ki_213_34, ⟨kbad, ⟨ki_213_36, ⟨ki_213_37, ⟨ki_213_38, ⟨ki_213_39, ⟨ki_213_40, ⟨ki_213_41, ⟨kbad, ⟨kbad, ⟨ki_213_44, ⟨ki_213_45, ⟨ki_213_46, ⟨kbad, trivial⟩⟩⟩⟩⟩⟩⟩⟩⟩⟩⟩⟩⟩⟩⟩⟩, ⟨⟨ki_213_48, ⟨kbad, ⟨kbad, ⟨ki_213_51, ⟨ki_213_52, ⟨ki_213_53, ⟨kbad, ⟨kbad, ⟨ki_213_56, ⟨kbad, ⟨kbad, ⟨ki_213_59, ⟨kbad, ⟨kbad, ⟨ki_213_62, ⟨ki_213_63, trivial⟩⟩⟩⟩⟩⟩⟩⟩⟩⟩⟩⟩⟩⟩⟩⟩, trivial⟩⟩⟩⟩)⟩
set_option maxRecDepth 20000 in
theorem mk_214 : js_mok 214 := ⟨by decide +kernel, jk_tab (fun _ => js_St.ok st_bad) (show jk_all (js_Ok 214) 0 tb_214 from ⟨⟨ki_214_0, ⟨ki_214_1, ⟨kbad, ⟨kbad, ⟨ki_214_4, trivial⟩⟩⟩⟩⟩, trivial⟩)⟩
set_option maxRecDepth 20000 in
theorem mk_215 : js_mok 215 := ⟨by decide +kernel, jk_tab (fun _ => js_St.ok st_bad) (show jk_all (js_Ok 215) 0 tb_215 from ⟨⟨ki_215_0, ⟨ki_215_1, ⟨ki_215_2, ⟨kbad, ⟨kbad, ⟨ki_215_5, ⟨ki_215_6, ⟨ki_215_7, ⟨ki_215_8, ⟨kbad, ⟨kbad, ⟨ki_215_11, ⟨ki_215_12, ⟨kbad, ⟨kbad, ⟨ki_215_15, trivial⟩⟩⟩⟩⟩⟩⟩⟩⟩⟩⟩⟩⟩⟩⟩⟩, ⟨⟨ki_215_16, ⟨kbad, ⟨kbad, ⟨ki_215_19, ⟨kbad, ⟨kbad, ⟨ki_215_22, ⟨ki_215_23, ⟨ki_215_24, ⟨ki_215_25, ⟨kbad, ⟨ki_215_27, ⟨kbad, ⟨kbad, ⟨ki_215_30, ⟨ki_215_31, trivial⟩⟩⟩⟩⟩⟩⟩⟩⟩⟩⟩⟩⟩⟩⟩⟩, ⟨⟨ki_215_32, ⟨kbad, ⟨kbad, ⟨ki_215_35, ⟨kbad, ⟨kbad, ⟨ki_215_38, ⟨kbad, ⟨kbad, ⟨ki_215_41, ⟨ki_215_42, trivial⟩⟩⟩⟩⟩⟩⟩⟩⟩⟩⟩, trivial⟩⟩⟩)⟩
set_option maxRecDepth 20000 in
theorem mk_216 : js_mok 216 := ⟨by decide +kernel, jk_tab (fun _ => js_St.ok st_bad) (show jk_all (js_Ok 216) 0 tb_216 from ⟨⟨ki_216_0, ⟨ki_216_1, ⟨ki_216_2, ⟨kbad, ⟨kbad, ⟨ki_216_5, ⟨ki_216_6, ⟨ki_216_7, ⟨ki_216_8, ⟨kbad, ⟨kbad, ⟨ki_216_11, ⟨ki_216_12, ⟨kbad, ⟨kbad, ⟨ki_216_15, trivial⟩⟩⟩⟩⟩⟩⟩⟩⟩⟩⟩⟩⟩⟩⟩⟩, ⟨⟨ki_216_16, ⟨kbad, ⟨kbad, ⟨ki_216_19, ⟨kbad, ⟨kbad, ⟨ki_216_22, ⟨ki_216_23, ⟨ki_216_24, ⟨ki_216_25, ⟨kbad, ⟨ki_216_27, ⟨kbad, ⟨kbad, ⟨ki_216_30, ⟨ki_216_31, trivial⟩⟩⟩⟩⟩⟩⟩⟩⟩⟩⟩⟩⟩⟩⟩⟩, ⟨⟨ki_216_32, ⟨kbad, ⟨kbad, ⟨ki_216_35, ⟨kbad, ⟨kbad, ⟨ki_216_38, ⟨ki_216_39, trivial⟩⟩⟩⟩⟩⟩⟩⟩, trivial⟩⟩⟩)⟩
set_option maxRecDepth 20000 in
theorem mk_217 : js_mok 217 := ⟨by decide +kernel, jk_tab (fun _ => js_St.ok st_bad) (show jk_all (js_Ok 217) 0 tb_217 from ⟨⟨ki_217_0, ⟨ki_217_1, ⟨ki_217_2, ⟨ki_217_3, ⟨ki_217_4, ⟨ki_217_5, ⟨kbad, ⟨ki_217_7, ⟨kbad, ⟨kbad, ⟨ki_217_10, ⟨ki_217_11, ⟨kbad, ⟨kbad, ⟨ki_217_14, ⟨kbad, trivial⟩⟩⟩⟩⟩⟩⟩⟩⟩⟩⟩⟩⟩⟩⟩⟩, ⟨⟨kbad, ⟨ki_217_17, ⟨ki_217_18, ⟨ki_217_19, ⟨ki_217_20, ⟨kbad, ⟨kbad, ⟨ki_217_23, ⟨ki_217_24, ⟨ki_217_25, ⟨ki_217_26, ⟨kbad, ⟨kbad, ⟨ki_217_29, ⟨kbad, ⟨kbad, trivial⟩⟩⟩⟩⟩⟩⟩⟩⟩⟩⟩⟩⟩⟩⟩⟩, ⟨⟨ki_217_32, ⟨kbad, ⟨kbad, ⟨ki_217_35, ⟨kbad, ⟨kbad, ⟨ki_217_38, ⟨ki_217_39, ⟨ki_217_40, ⟨kbad, ⟨kbad, ⟨ki_217_43, ⟨kbad, ⟨kbad, ⟨ki_217_46, ⟨ki_217_47, trivial⟩⟩⟩⟩⟩⟩⟩⟩⟩⟩⟩⟩⟩⟩⟩⟩, ⟨⟨ki_217_48, ⟨kbad, ⟨kbad, ⟨ki_217_51, ⟨ki_217_52, ⟨kbad, ⟨kbad, ⟨ki_217_55, ⟨ki_217_56, ⟨kbad, ⟨kbad, ⟨ki_217_59, ⟨ki_217_60, trivial⟩⟩⟩⟩⟩⟩⟩⟩⟩⟩⟩⟩⟩, trivial⟩⟩⟩⟩)⟩
set_option maxRecDepth 20000 in
theorem mk_218 : js_mok 218 := ⟨by decide +kernel, jk_tab (fun _ => js_St.ok st_bad) (show jk_all (js_Ok 218) 0 tb_218 from ⟨⟨ki_218_0, ⟨ki_218_1, ⟨ki_218_2, ⟨kbad, ⟨kbad, ⟨ki_218_5, ⟨ki_218_6, ⟨ki_218_7, ⟨ki_218_8, ⟨ki_218_9, ⟨kbad, ⟨kbad, ⟨ki_218_12, ⟨ki_218_13, ⟨ki_218_14, ⟨ki_218_15, trivial⟩⟩⟩⟩⟩⟩⟩⟩⟩⟩⟩⟩⟩⟩⟩⟩, ⟨⟨ki_218_16, ⟨kbad, ⟨kbad, ⟨ki_218_19, ⟨ki_218_20, ⟨kbad, ⟨kbad, ⟨ki_218_23, ⟨ki_218_24, ⟨kbad, ⟨kbad, ⟨ki_218_27, ⟨kbad, ⟨kbad, ⟨ki_218_30, ⟨ki_218_31, trivial⟩⟩⟩⟩⟩⟩⟩⟩⟩⟩⟩⟩⟩⟩⟩⟩, ⟨⟨ki_218_32, ⟨ki_218_33, ⟨ki_218_34, ⟨ki_218_35, ⟨kbad, ⟨kbad, ⟨ki_218_38, ⟨ki_218_39, trivial⟩⟩⟩⟩⟩⟩⟩⟩, trivial⟩⟩⟩)⟩
set_option maxRecDepth 20000 in
theorem mk_219 : js_mok 219 := ⟨by decide +kernel, jk_tab (fun _ => js_St.ok st_bad) (show jk_all (js_Ok 219) 0 tb_219 from ⟨⟨ki_219_0, ⟨ki_219_1, ⟨kbad, ⟨kbad, ⟨ki_219_4, ⟨ki_219_5, ⟨ki_219_6, ⟨kbad, ⟨kbad, ⟨ki_219_9, ⟨kbad, ⟨kbad, ⟨ki_219_12, ⟨ki_219_13, ⟨kbad, ⟨kbad, trivial⟩⟩⟩⟩⟩⟩⟩⟩⟩⟩⟩⟩⟩⟩⟩⟩, ⟨⟨ki_219_16, ⟨ki_219_17, ⟨kbad, ⟨kbad, ⟨ki_219_20, trivial⟩⟩⟩⟩⟩, trivial⟩⟩)⟩
set_option maxRecDepth 20000 in
theorem mk_220 : js_mok 220 := ⟨by decide +kernel, jk_tab (fun _ => js_St.ok st_bad) (show jk_all (js_Ok 220) 0 tb_220 from ⟨⟨ki_220_0, ⟨ki_220_1, ⟨ki_220_2, ⟨kbad, ⟨kbad, ⟨ki_220_5, ⟨ki_220_6, ⟨ki_220_7, ⟨kbad, ⟨kbad, ⟨ki_220_10, ⟨ki_220_11, ⟨ki_220_12, ⟨ki_220_13, ⟨ki_220_14, ⟨kbad, trivial⟩⟩⟩⟩⟩⟩⟩⟩⟩⟩⟩⟩⟩⟩⟩⟩, ⟨⟨kbad, ⟨ki_220_17, ⟨ki_220_18, ⟨kbad, ⟨kbad, ⟨ki_220_21, ⟨ki_220_22, ⟨kbad, ⟨kbad, ⟨ki_220_25, ⟨kbad, ⟨kbad, ⟨ki_220_28, ⟨ki_220_29, ⟨ki_220_30, ⟨ki_220_31, trivial⟩⟩⟩⟩⟩⟩⟩⟩⟩⟩⟩⟩⟩⟩⟩⟩, ⟨⟨kbad, ⟨kbad, ⟨ki_220_34, ⟨ki_220_35, ⟨ki_220_36, ⟨ki_220_37, ⟨ki_220_38, ⟨ki_220_39, ⟨kbad, ⟨kbad, ⟨ki_220_42, ⟨ki_220_43, trivial⟩⟩⟩⟩⟩⟩⟩⟩⟩⟩⟩⟩, trivial⟩⟩⟩)⟩
set_option maxRecDepth 20000 in
theorem mk_221 : js_mok 221 := ⟨by decide +kernel, jk_tab (fun _ => js_St.ok st_bad) (show jk_all (js_Ok 221) 0 tb_221 from ⟨⟨ki_221_0, ⟨ki_221_1, ⟨ki_221_2, ⟨kbad, ⟨kbad, ⟨ki_221_5, ⟨ki_221_6, trivial⟩⟩⟩⟩⟩⟩⟩, trivial⟩)⟩
set_option maxRecDepth 20000 in
theorem mk_222 : js_mok 222 := ⟨by decide +kernel, jk_tab (fun _ => js_St.ok st_bad) (show jk_all (js_Ok 222) 0 tb_222 from ⟨⟨ki_222_0, ⟨ki_222_1, ⟨kbad, ⟨kbad, ⟨ki_222_4, ⟨ki_222_5, ⟨kbad, ⟨kbad, ⟨ki_222_8, ⟨ki_222_9, ⟨ki_222_10, ⟨ki_222_11, ⟨ki_222_12, ⟨ki_222_13, ⟨kbad, ⟨kbad, trivial⟩⟩⟩⟩⟩⟩⟩⟩⟩⟩⟩⟩⟩⟩⟩⟩, ⟨⟨ki_222_16, ⟨ki_222_17, ⟨ki_222_18, ⟨kbad, ⟨kbad, ⟨ki_222_21, trivial⟩⟩⟩⟩⟩⟩, trivial⟩⟩)⟩
set_option maxRecDepth 20000 in
theorem mk_223 : js_mok 223 := ⟨by decide +kernel, jk_tab (fun _ => js_St.ok st_bad) (show jk_all (js_Ok 223) 0 tb_223 from ⟨⟨ki_223_0, ⟨ki_223_1, ⟨ki_223_2, ⟨ki_223_3, ⟨kbad, ⟨ki_223_5, ⟨kbad, ⟨kbad, ⟨ki_223_8, ⟨kbad, ⟨kbad, ⟨ki_223_11, ⟨kbad, ⟨kbad, ⟨ki_223_14, ⟨ki_223_15, trivial⟩⟩⟩⟩⟩⟩⟩⟩⟩⟩⟩⟩⟩⟩⟩⟩, ⟨⟨ki_223_16, ⟨ki_223_17, ⟨ki_223_18, ⟨kbad, ⟨kbad, ⟨ki_223_21, ⟨kbad, ⟨ki_223_23, ⟨ki_223_24, ⟨ki_223_25, ⟨ki_223_26, ⟨ki_223_27, ⟨kbad, ⟨ki_223_29, ⟨ki_223_30, ⟨ki_223_31, trivial⟩⟩⟩⟩⟩⟩⟩⟩⟩⟩⟩⟩⟩⟩⟩⟩, ⟨⟨kbad, ⟨ki_223_33, ⟨ki_223_34, ⟨kbad, ⟨kbad, ⟨ki_223_37, ⟨ki_223_38, ⟨kbad, ⟨kbad, ⟨ki_223_41, ⟨kbad, ⟨kbad, ⟨ki_223_44, ⟨ki_223_45, ⟨ki_223_46, ⟨ki_223_47, trivial⟩⟩⟩⟩⟩⟩⟩⟩⟩⟩⟩⟩⟩⟩⟩⟩, ⟨⟨ki_223_48, ⟨ki_223_49, ⟨ki_223_50, ⟨ki_223_51, ⟨ki_223_52, ⟨kbad, ⟨kbad, ⟨ki_223_55, ⟨ki_223_56, ⟨ki_223_57, ⟨ki_223_58, ⟨kbad, ⟨kbad, ⟨ki_223_61, ⟨kbad, ⟨kbad, trivial⟩⟩⟩⟩⟩⟩⟩⟩⟩⟩⟩⟩⟩⟩⟩⟩, ⟨⟨ki_223_64, ⟨ki_223_65, ⟨ki_223_66, ⟨kbad, ⟨kbad, ⟨ki_223_69, ⟨kbad, ⟨kbad, ⟨ki_223_72, ⟨kbad, ⟨ki_223_74, ⟨kbad, ⟨kbad, ⟨ki_223_77, ⟨kbad, ⟨ki_223_79, trivial⟩⟩⟩⟩⟩⟩⟩⟩⟩⟩⟩⟩⟩⟩⟩⟩, ⟨⟨kbad, ⟨kbad, ⟨ki_223_82, ⟨kbad, ⟨kbad, ⟨ki_223_85, ⟨kbad, ⟨kbad, ⟨ki_223_88, ⟨ki_223_89, ⟨kbad, ⟨kbad, ⟨ki_223_92, trivial⟩⟩⟩⟩⟩⟩⟩⟩⟩⟩⟩⟩⟩, trivial⟩⟩⟩⟩⟩⟩)⟩
set_option maxRecDepth 20000 in
theorem mk_224 : js_mok 224 := ⟨by decide +kernel, jk_tab (fun _ => js_St.ok st_bad) (show jk_all (js_Ok 224) 0 tb_224 from ⟨⟨ki_224_0, ⟨ki_224_1, ⟨ki_224_2, ⟨kbad, ⟨kbad, ⟨ki_224_5, ⟨ki_224_6, ⟨ki_224_7, ⟨ki_224_8, ⟨kbad, ⟨kbad, ⟨ki_224_11, ⟨ki_224_12, ⟨kbad, ⟨kbad, ⟨ki_224_15, trivial⟩⟩⟩⟩⟩⟩⟩⟩⟩⟩⟩⟩⟩⟩⟩⟩, ⟨⟨ki_224_16, ⟨kbad, ⟨kbad, ⟨ki_224_19, ⟨kbad, ⟨kbad, ⟨ki_224_22, ⟨ki_224_23, ⟨ki_224_24, ⟨ki_224_25, ⟨ki_224_26, ⟨kbad, ⟨kbad, ⟨ki_224_29, ⟨ki_224_30, ⟨ki_224_31, trivial⟩⟩⟩⟩⟩⟩⟩⟩⟩⟩⟩⟩⟩⟩⟩⟩, ⟨⟨ki_224_32, ⟨ki_224_33, ⟨kbad, ⟨kbad, ⟨ki_224_36, ⟨kbad, ⟨kbad, ⟨ki_224_39, ⟨ki_224_40, ⟨ki_224_41, ⟨ki_224_42, ⟨ki_224_43, ⟨kbad, ⟨kbad, ⟨ki_224_46, ⟨ki_224_47, trivial⟩⟩⟩⟩⟩⟩⟩⟩⟩⟩⟩⟩⟩⟩⟩⟩, ⟨⟨ki_224_48, ⟨ki_224_49, ⟨ki_224_50, ⟨ki_224_51, ⟨kbad, ⟨ki_224_53, ⟨kbad, ⟨kbad, ⟨ki_224_56, ⟨kbad, ⟨kbad, ⟨ki_224_59, ⟨kbad, ⟨ki_224_61, ⟨ki_224_62, ⟨kbad, trivial⟩⟩⟩⟩⟩⟩⟩⟩⟩⟩⟩⟩⟩⟩⟩⟩, ⟨⟨ki_224_64, ⟨kbad, ⟨ki_224_66, ⟨kbad, ⟨kbad, ⟨ki_224_69, ⟨kbad, ⟨ki_224_71, ⟨kbad, ⟨ki_224_73, ⟨ki_224_74, ⟨kbad, ⟨kbad, ⟨ki_224_77, ⟨kbad, ⟨ki_224_79, trivial⟩⟩⟩⟩⟩⟩⟩⟩⟩⟩⟩⟩⟩⟩⟩⟩, ⟨⟨kbad, ⟨ki_224_81, ⟨ki_224_82, ⟨kbad, ⟨ki_224_84, ⟨ki_224_85, ⟨kbad, ⟨kbad, ⟨ki_224_88, ⟨kbad, ⟨kbad, ⟨ki_224_91, ⟨kbad, ⟨kbad, ⟨ki_224_94, ⟨ki_224_95, trivial⟩⟩⟩⟩⟩⟩⟩⟩⟩⟩⟩⟩⟩⟩⟩⟩, ⟨⟨ki_224_96, ⟨kbad, ⟨kbad, ⟨ki_224_99, ⟨kbad, ⟨kbad, ⟨ki_224_102, ⟨ki_224_103, ⟨ki_224_104, ⟨kbad, ⟨ki_224_106, ⟨kbad, ⟨kbad, ⟨ki_224_109, ⟨ki_224_110, ⟨ki_224_111, trivial⟩⟩⟩⟩⟩⟩⟩⟩⟩⟩⟩⟩⟩⟩⟩⟩, ⟨⟨ki_224_112, ⟨ki_224_113, ⟨kbad, ⟨ki_224_115, ⟨kbad, ⟨kbad, ⟨ki_224_118, ⟨ki_224_119, ⟨kbad, ⟨ki_224_121, ⟨ki_224_122, ⟨kbad, ⟨ki_224_124, ⟨ki_224_125, ⟨ki_224_126, ⟨kbad, trivial⟩⟩⟩⟩⟩⟩⟩⟩⟩⟩⟩⟩⟩⟩⟩⟩, ⟨⟨kbad, ⟨ki_224_129, ⟨ki_224_130, ⟨kbad, ⟨ki_224_132, ⟨ki_224_133, ⟨kbad, ⟨ki_224_135, ⟨ki_224_136, ⟨ki_224_137, ⟨kbad, ⟨kbad, ⟨ki_224_140, ⟨ki_224_141, ⟨kbad, ⟨kbad, trivial⟩⟩⟩⟩⟩⟩⟩⟩⟩⟩⟩⟩⟩⟩⟩⟩, ⟨⟨ki_224_144, trivial⟩, trivial⟩⟩⟩⟩⟩⟩⟩⟩⟩⟩)⟩
set_option maxRecDepth 20000 in
theorem mk_225 : js_mok 225 := ⟨by decide +kernel, jk_tab (fun _ => js_St.ok st_bad) (show jk_all (js_Ok 225) 0 tb_225 from ⟨⟨ki_225_0, ⟨ki_225_1, ⟨ki_225_2, ⟨ki_225_3, ⟨ki_225_4, ⟨kbad, ⟨kbad, ⟨ki_225_7, ⟨ki_225_8, ⟨ki_225_9, ⟨kbad, ⟨kbad, ⟨ki_225_12, ⟨kbad, ⟨kbad, ⟨ki_225_15, trivial⟩⟩⟩⟩⟩⟩⟩⟩⟩⟩⟩⟩⟩⟩⟩⟩, ⟨⟨kbad, ⟨kbad, ⟨ki_225_18, ⟨ki_225_19, ⟨kbad, ⟨kbad, ⟨ki_225_22, ⟨ki_225_23, ⟨ki_225_24, ⟨kbad, ⟨kbad, ⟨ki_225_27, ⟨kbad, ⟨ki_225_29, trivial⟩⟩⟩⟩⟩⟩⟩⟩⟩⟩⟩⟩⟩⟩, trivial⟩⟩)⟩
set_option maxRecDepth 20000 in
theorem mk_226 : js_mok 226 := ⟨by decide +kernel, jk_tab (fun _ => js_St.ok st_bad) (show jk_all (js_Ok 226) 0 tb_226 from ⟨⟨ki_226_0, ⟨ki_226_1, ⟨ki_226_2, ⟨kbad, ⟨kbad, ⟨ki_226_5, ⟨kbad, ⟨ki_226_7, ⟨kbad, ⟨kbad, ⟨ki_226_10, ⟨ki_226_11, ⟨kbad, ⟨kbad, ⟨ki_226_14, ⟨ki_226_15, trivial⟩⟩⟩⟩⟩⟩⟩⟩⟩⟩⟩⟩⟩⟩⟩⟩, ⟨⟨kbad, ⟨kbad, ⟨ki_226_18, ⟨ki_226_19, ⟨kbad, ⟨kbad, ⟨ki_226_22, ⟨kbad, ⟨kbad, ⟨ki_226_25, ⟨ki_226_26, ⟨ki_226_27, ⟨ki_226_28, ⟨kbad, ⟨kbad, ⟨ki_226_31, trivial⟩⟩⟩⟩⟩⟩⟩⟩⟩⟩⟩⟩⟩⟩⟩⟩, ⟨⟨ki_226_32, ⟨kbad, ⟨kbad, ⟨ki_226_35, ⟨ki_226_36, ⟨ki_226_37, ⟨ki_226_38, ⟨ki_226_39, ⟨kbad, ⟨kbad, ⟨ki_226_42, ⟨ki_226_43, ⟨ki_226_44, ⟨kbad, ⟨kbad, ⟨ki_226_47, trivial⟩⟩⟩⟩⟩⟩⟩⟩⟩⟩⟩⟩⟩⟩⟩⟩, ⟨⟨ki_226_48, ⟨kbad, ⟨kbad, ⟨ki_226_51, trivial⟩⟩⟩⟩, trivial⟩⟩⟩⟩)⟩
set_option maxRecDepth 20000 in
theorem mk_227 : js_mok 227 := ⟨by decide +kernel, jk_tab (fun _ => js_St.ok st_bad) (show jk_all (js_Ok 227) 0 tb_227 from ⟨⟨ki_227_0, ⟨ki_227_1, ⟨kbad, ⟨kbad, ⟨ki_227_4, ⟨ki_227_5, ⟨ki_227_6, ⟨ki_227_7, ⟨kbad, ⟨kbad, ⟨ki_227_10, ⟨kbad, ⟨kbad, ⟨ki_227_13, ⟨ki_227_14, ⟨kbad, trivial⟩⟩⟩⟩⟩⟩⟩⟩⟩⟩⟩⟩⟩⟩⟩⟩, ⟨⟨kbad, ⟨ki_227_17, ⟨ki_227_18, ⟨kbad, ⟨kbad, ⟨ki_227_21, ⟨ki_227_22, ⟨ki_227_23, ⟨ki_227_24, ⟨kbad, ⟨kbad, ⟨ki_227_27, ⟨ki_227_28, trivial⟩⟩⟩⟩⟩⟩⟩⟩⟩⟩⟩⟩⟩, trivial⟩⟩)⟩
set_option maxRecDepth 20000 in
theorem mk_228 : js_mok 228 := ⟨by decide +kernel, jk_tab (fun _ => js_St.ok st_bad) (show jk_all (js_Ok 228) 0 tb_228 from ⟨⟨ki_228_0, ⟨ki_228_1, ⟨ki_228_2, ⟨ki_228_3, ⟨ki_228_4, ⟨kbad, ⟨kbad, ⟨ki_228_7, ⟨kbad, ⟨kbad, ⟨ki_228_10, ⟨ki_228_11, ⟨kbad, ⟨kbad, ⟨ki_228_14, ⟨kbad, trivial⟩⟩⟩⟩⟩⟩⟩⟩⟩⟩⟩⟩⟩⟩⟩⟩, ⟨⟨kbad, ⟨ki_228_17, ⟨ki_228_18, ⟨ki_228_19, ⟨ki_228_20, ⟨kbad, ⟨kbad, ⟨ki_228_23, ⟨ki_228_24, ⟨ki_228_25, ⟨kbad, ⟨kbad, ⟨ki_228_28, ⟨kbad, ⟨kbad, ⟨ki_228_31, trivial⟩⟩⟩⟩⟩⟩⟩⟩⟩⟩⟩⟩⟩⟩⟩⟩, ⟨⟨ki_228_32, ⟨kbad, ⟨kbad, ⟨ki_228_35, ⟨ki_228_36, ⟨kbad, ⟨kbad, ⟨ki_228_39, ⟨ki_228_40, ⟨ki_228_41, ⟨kbad, ⟨kbad, ⟨ki_228_44, ⟨ki_228_45, ⟨kbad, ⟨kbad, trivial⟩⟩⟩⟩⟩⟩⟩⟩⟩⟩⟩⟩⟩⟩⟩⟩, ⟨⟨ki_228_48, ⟨kbad, ⟨kbad, ⟨ki_228_51, ⟨ki_228_52, ⟨kbad, ⟨kbad, ⟨ki_228_55, ⟨ki_228_56, ⟨ki_228_57, ⟨kbad, ⟨kbad, ⟨ki_228_60, ⟨kbad, ⟨kbad, ⟨ki_228_63, trivial⟩⟩⟩⟩⟩⟩⟩⟩⟩⟩⟩⟩⟩⟩⟩⟩, ⟨⟨kbad, ⟨kbad, ⟨ki_228_66, trivial⟩⟩⟩, trivial⟩⟩⟩⟩⟩)⟩
set_option maxRecDepth 20000 in
theorem mk_229 : js_mok 229 := ⟨by decide +kernel, jk_tab (fun _ => js_St.ok st_bad) (show jk_all (js_Ok 229) 0 tb_229 from ⟨⟨ki_229_0, ⟨ki_229_1, ⟨kbad, ⟨ki_229_3, ⟨kbad, ⟨ki_229_5, ⟨kbad, ⟨kbad, ⟨ki_229_8, ⟨kbad, ⟨kbad, ⟨ki_229_11, ⟨ki_229_12, ⟨kbad, ⟨ki_229_14, ⟨ki_229_15, trivial⟩⟩⟩⟩⟩⟩⟩⟩⟩⟩⟩⟩⟩⟩⟩⟩, ⟨⟨kbad, ⟨kbad, ⟨ki_229_18, ⟨ki_229_19, ⟨kbad, ⟨ki_229_21, ⟨kbad, ⟨ki_229_23, ⟨kbad, ⟨kbad, ⟨ki_229_26, ⟨kbad, ⟨kbad, ⟨ki_229_29, ⟨ki_229_30, ⟨kbad, trivial⟩⟩⟩⟩⟩⟩⟩⟩⟩⟩⟩⟩⟩⟩⟩⟩, ⟨⟨ki_229_32, ⟨ki_229_33, ⟨kbad, ⟨ki_229_35, ⟨ki_229_36, ⟨kbad, ⟨kbad, ⟨ki_229_39, ⟨ki_229_40, trivial⟩⟩⟩⟩⟩⟩⟩⟩⟩, trivial⟩⟩⟩)⟩
set_option maxRecDepth 20000 in
theorem mk_230 : js_mok 230 := ⟨by decide +kernel, jk_tab (fun _ => js_St.ok st_bad) (show jk_all (js_Ok 230) 0 tb_230 from ⟨⟨ki_230_0, ⟨ki_230_1, ⟨ki_230_2, ⟨kbad, ⟨kbad, ⟨ki_230_5, ⟨kbad, ⟨kbad, ⟨ki_230_8, ⟨ki_230_9, ⟨ki_230_10, ⟨ki_230_11, ⟨kbad, ⟨kbad, ⟨ki_230_14, ⟨kbad, trivial⟩⟩⟩⟩⟩⟩⟩⟩⟩⟩⟩⟩⟩⟩⟩⟩, ⟨⟨kbad, ⟨ki_230_17, ⟨ki_230_18, ⟨kbad, ⟨kbad, ⟨ki_230_21, ⟨ki_230_22, ⟨ki_230_23, ⟨kbad, ⟨kbad, ⟨ki_230_26, ⟨ki_230_27, ⟨kbad, ⟨kbad, ⟨ki_230_30, ⟨ki_230_31, trivial⟩⟩⟩⟩⟩⟩⟩⟩⟩⟩⟩⟩⟩⟩⟩⟩, ⟨⟨kbad, ⟨kbad, ⟨ki_230_34, ⟨ki_230_35, ⟨ki_230_36, ⟨kbad, ⟨kbad, ⟨ki_230_39, ⟨ki_230_40, ⟨kbad, ⟨kbad, ⟨ki_230_43, ⟨kbad, ⟨kbad, ⟨ki_230_46, ⟨ki_230_47, trivial⟩⟩⟩⟩⟩⟩⟩⟩⟩⟩⟩⟩⟩⟩⟩⟩, ⟨⟨kbad, ⟨kbad, ⟨ki_230_50, ⟨ki_230_51, ⟨ki_230_52, ⟨kbad, ⟨kbad, ⟨ki_230_55, ⟨ki_230_56, ⟨kbad, ⟨kbad, ⟨ki_230_59, ⟨kbad, ⟨kbad, ⟨ki_230_62, ⟨ki_230_63, trivial⟩⟩⟩⟩⟩⟩⟩⟩⟩⟩⟩⟩⟩⟩⟩⟩, ⟨⟨kbad, ⟨kbad, ⟨ki_230_66, ⟨ki_230_67, trivial⟩⟩⟩⟩, trivial⟩⟩⟩⟩⟩)⟩
set_option maxRecDepth 20000 in
theorem mk_231 : js_mok 231 := ⟨by decide +kernel, jk_tab (fun _ => js_St.ok st_bad) (show jk_all (js_Ok 231) 0 tb_231 from ⟨⟨ki_231_0, ⟨ki_231_1, ⟨kbad, ⟨ki_231_3, ⟨kbad, ⟨kbad, ⟨ki_231_6, ⟨ki_231_7, ⟨ki_231_8, ⟨kbad, ⟨kbad, ⟨ki_231_11, ⟨kbad, ⟨kbad, ⟨ki_231_14, ⟨ki_231_15, trivial⟩⟩⟩⟩⟩⟩⟩⟩⟩⟩⟩⟩⟩⟩⟩⟩, ⟨⟨ki_231_16, ⟨kbad, ⟨kbad, ⟨ki_231_19, ⟨kbad, ⟨ki_231_21, ⟨kbad, ⟨ki_231_23, ⟨kbad, ⟨kbad, ⟨ki_231_26, ⟨kbad, ⟨kbad, ⟨ki_231_29, ⟨kbad, ⟨ki_231_31, trivial⟩⟩⟩⟩⟩⟩⟩⟩⟩⟩⟩⟩⟩⟩⟩⟩, ⟨⟨ki_231_32, ⟨ki_231_33, ⟨ki_231_34, ⟨kbad, ⟨ki_231_36, ⟨kbad, ⟨kbad, ⟨ki_231_39, ⟨ki_231_40, ⟨kbad, ⟨kbad, ⟨ki_231_43, ⟨ki_231_44, trivial⟩⟩⟩⟩⟩⟩⟩⟩⟩⟩⟩⟩⟩, trivial⟩⟩⟩)⟩
set_option maxRecDepth 20000 in
theorem mk_232 : js_mok 232 := ⟨by decide +kernel, jk_tab (fun _ => js_St.ok st_bad) (show jk_all (js_Ok 232) 0 tb_232 from ⟨⟨ki_232_0, ⟨ki_232_1, ⟨kbad, ⟨kbad, ⟨ki_232_4, ⟨kbad, ⟨kbad, ⟨ki_232_7, ⟨ki_232_8, ⟨kbad, ⟨ki_232_10, ⟨ki_232_11, ⟨kbad, ⟨kbad, ⟨ki_232_14, ⟨ki_232_15, trivial⟩⟩⟩⟩⟩⟩⟩⟩⟩⟩⟩⟩⟩⟩⟩⟩, ⟨⟨ki_232_16, ⟨ki_232_17, ⟨ki_232_18, ⟨kbad, ⟨kbad, ⟨ki_232_21, ⟨ki_232_22, ⟨ki_232_23, ⟨kbad, ⟨kbad, ⟨ki_232_26, ⟨ki_232_27, ⟨ki_232_28, ⟨kbad, ⟨kbad, ⟨ki_232_31, trivial⟩⟩⟩⟩⟩⟩⟩⟩⟩⟩⟩⟩⟩⟩⟩⟩, ⟨⟨kbad, ⟨ki_232_33, ⟨kbad, ⟨kbad, ⟨ki_232_36, ⟨ki_232_37, ⟨ki_232_38, ⟨kbad, ⟨kbad, ⟨ki_232_41, ⟨kbad, ⟨ki_232_43, ⟨kbad, ⟨kbad, ⟨ki_232_46, ⟨kbad, trivial⟩⟩⟩⟩⟩⟩⟩⟩⟩⟩⟩⟩⟩⟩⟩⟩, ⟨⟨ki_232_48, ⟨kbad, ⟨kbad, ⟨ki_232_51, ⟨ki_232_52, ⟨ki_232_53, ⟨kbad, ⟨kbad, ⟨ki_232_56, ⟨ki_232_57, ⟨ki_232_58, ⟨kbad, ⟨kbad, ⟨ki_232_61, ⟨ki_232_62, ⟨ki_232_63, trivial⟩⟩⟩⟩⟩⟩⟩⟩⟩⟩⟩⟩⟩⟩⟩⟩, ⟨⟨ki_232_64, ⟨ki_232_65, ⟨kbad, ⟨ki_232_67, ⟨kbad, ⟨kbad, ⟨ki_232_70, ⟨ki_232_71, ⟨kbad, ⟨kbad, ⟨ki_232_74, ⟨kbad, ⟨kbad, ⟨ki_232_77, ⟨ki_232_78, ⟨ki_232_79, trivial⟩⟩⟩⟩⟩⟩⟩⟩⟩⟩⟩⟩⟩⟩⟩⟩, ⟨⟨kbad, ⟨kbad, ⟨ki_232_82, ⟨ki_232_83, ⟨ki_232_84, ⟨ki_232_85, ⟨kbad, ⟨kbad, ⟨ki_232_88, ⟨kbad, ⟨kbad, ⟨ki_232_91, ⟨ki_232_92, ⟨kbad, ⟨kbad, ⟨ki_232_95, trivial⟩⟩⟩⟩⟩⟩⟩⟩⟩⟩⟩⟩⟩⟩⟩⟩, ⟨⟨kbad, ⟨kbad, ⟨ki_232_98, ⟨ki_232_99, ⟨kbad, ⟨kbad, ⟨ki_232_102, ⟨ki_232_103, ⟨kbad, ⟨kbad, ⟨ki_232_106, ⟨ki_232_107, ⟨ki_232_108, ⟨kbad, ⟨kbad, ⟨ki_232_111, trivial⟩⟩⟩⟩⟩⟩⟩⟩⟩⟩⟩⟩⟩⟩⟩⟩, ⟨⟨ki_232_112, ⟨kbad, ⟨kbad, ⟨ki_232_115, ⟨kbad, ⟨kbad, ⟨ki_232_118, ⟨ki_232_119, ⟨kbad, ⟨kbad, ⟨ki_232_122, ⟨ki_232_123, ⟨ki_232_124, ⟨kbad, ⟨kbad, ⟨ki_232_127, trivial⟩⟩⟩⟩⟩⟩⟩⟩⟩⟩⟩⟩⟩⟩⟩⟩, ⟨⟨ki_232_128, ⟨kbad, ⟨kbad, ⟨ki_232_131, ⟨ki_232_132, ⟨ki_232_133, ⟨ki_232_134, ⟨ki_232_135, ⟨ki_232_136, ⟨ki_232_137, ⟨kbad, ⟨ki_232_139, ⟨kbad, ⟨ki_232_141, ⟨ki_232_142, ⟨kbad, trivial⟩⟩⟩⟩⟩⟩⟩⟩⟩⟩⟩⟩⟩⟩⟩⟩, ⟨⟨kbad, ⟨ki_232_145, ⟨ki_232_146, ⟨kbad, ⟨kbad, ⟨ki_232_149, ⟨ki_232_150, ⟨ki_232_151, ⟨ki_232_152, ⟨kbad, ⟨ki_232_154, ⟨ki_232_155, ⟨ki_232_156, ⟨kbad, ⟨ki_232_158, ⟨kbad, trivial⟩⟩⟩⟩⟩⟩⟩⟩⟩⟩⟩⟩⟩⟩⟩⟩, ⟨⟨kbad, ⟨ki_232_161, ⟨ki_232_162, ⟨kbad, ⟨kbad, ⟨ki_232_165, ⟨kbad, ⟨kbad, ⟨ki_232_168, ⟨kbad, ⟨kbad, ⟨ki_232_171, ⟨ki_232_172, ⟨kbad, ⟨ki_232_174, ⟨kbad, trivial⟩⟩⟩⟩⟩⟩⟩⟩⟩⟩⟩⟩⟩⟩⟩⟩, ⟨⟨kbad, ⟨ki_232_177, ⟨ki_232_178, ⟨kbad, ⟨kbad, ⟨ki_232_181, ⟨kbad, ⟨kbad, ⟨ki_232_184, ⟨ki_232_185, ⟨kbad, ⟨kbad, ⟨ki_232_188, ⟨ki_232_189, ⟨ki_232_190, ⟨ki_232_191, trivial⟩⟩⟩⟩⟩⟩⟩⟩⟩⟩⟩⟩⟩⟩⟩⟩, ⟨⟨ki_232_192, ⟨kbad, ⟨kbad, ⟨ki_232_195, ⟨ki_232_196, ⟨ki_232_197, ⟨kbad, ⟨kbad, ⟨ki_232_200, ⟨kbad, ⟨kbad, ⟨ki_232_203, ⟨ki_232_204, ⟨kbad, ⟨kbad, ⟨ki_232_207, trivial⟩⟩⟩⟩⟩⟩⟩⟩⟩⟩⟩⟩⟩⟩⟩⟩, ⟨⟨ki_232_208, ⟨ki_232_209, ⟨ki_232_210, ⟨ki_232_211, ⟨kbad, ⟨ki_232_213, ⟨kbad, ⟨kbad, ⟨ki_232_216, ⟨ki_232_217, ⟨ki_232_218, ⟨kbad, ⟨kbad, ⟨ki_232_221, ⟨ki_232_222, ⟨ki_232_223, trivial⟩⟩⟩⟩⟩⟩⟩⟩⟩⟩⟩⟩⟩⟩⟩⟩, ⟨⟨ki_232_224, ⟨ki_232_225, ⟨kbad, ⟨ki_232_227, ⟨kbad, ⟨kbad, ⟨ki_232_230, ⟨ki_232_231, ⟨kbad, ⟨kbad, ⟨ki_232_234, ⟨ki_232_235, ⟨kbad, ⟨ki_232_237, ⟨kbad, ⟨kbad, trivial⟩⟩⟩⟩⟩⟩⟩⟩⟩⟩⟩⟩⟩⟩⟩⟩, ⟨⟨ki_232_240, ⟨ki_232_241, ⟨ki_232_242, ⟨ki_232_243, ⟨kbad, ⟨kbad, ⟨ki_232_246, ⟨kbad, ⟨ki_232_248, ⟨kbad, ⟨kbad, ⟨ki_232_251, ⟨kbad, ⟨kbad, ⟨ki_232_254, ⟨kbad, trivial⟩⟩⟩⟩⟩⟩⟩⟩⟩⟩⟩⟩⟩⟩⟩⟩, ⟨⟨kbad, ⟨ki_232_257, ⟨kbad, ⟨kbad, ⟨ki_232_260, ⟨kbad, ⟨kbad, ⟨ki_232_263, ⟨ki_232_264, ⟨kbad, ⟨kbad, ⟨ki_232_267, ⟨ki_232_268, ⟨ki_232_269, ⟨ki_232_270, ⟨ki_232_271, trivial⟩⟩⟩⟩⟩⟩⟩⟩⟩⟩⟩⟩⟩⟩⟩⟩, ⟨⟨kbad, ⟨kbad, ⟨ki_232_274, ⟨ki_232_275, ⟨ki_232_276, ⟨kbad, ⟨kbad, ⟨ki_232_279, ⟨kbad, ⟨kbad, ⟨ki_232_282, ⟨ki_232_283, ⟨kbad, ⟨kbad, ⟨ki_232_286, ⟨ki_232_287, trivial⟩⟩⟩⟩⟩⟩⟩⟩⟩⟩⟩⟩⟩⟩⟩⟩, ⟨⟨ki_232_288, ⟨ki_232_289, ⟨ki_232_290, ⟨kbad, ⟨ki_232_292, ⟨kbad, ⟨kbad, ⟨ki_232_295, ⟨ki_232_296, ⟨kbad, ⟨kbad, ⟨ki_232_299, ⟨ki_232_300, ⟨kbad, ⟨ki_232_302, ⟨kbad, trivial⟩⟩⟩⟩⟩⟩⟩⟩⟩⟩⟩⟩⟩⟩⟩⟩, ⟨⟨kbad, ⟨ki_232_305, ⟨ki_232_306, ⟨kbad, ⟨kbad, ⟨ki_232_309, ⟨kbad, ⟨kbad, ⟨ki_232_312, ⟨ki_232_313, ⟨kbad, ⟨kbad, ⟨ki_232_316, ⟨ki_232_317, ⟨ki_232_318, ⟨ki_232_319, trivial⟩⟩⟩⟩⟩⟩⟩⟩⟩⟩⟩⟩⟩⟩⟩⟩, ⟨⟨ki_232_320, ⟨kbad, ⟨kbad, ⟨ki_232_323, ⟨ki_232_324, ⟨ki_232_325, ⟨kbad, ⟨kbad, ⟨ki_232_328, ⟨kbad, ⟨kbad, ⟨ki_232_331, ⟨ki_232_332, ⟨kbad, ⟨kbad, ⟨ki_232_335, trivial⟩⟩⟩⟩⟩⟩⟩⟩⟩⟩⟩⟩⟩⟩⟩⟩, ⟨⟨ki_232_336, ⟨ki_232_337, ⟨ki_232_338, ⟨ki_232_339, ⟨kbad, ⟨kbad, ⟨ki_232_342, ⟨ki_232_343, ⟨kbad, ⟨kbad, ⟨ki_232_346, ⟨ki_232_347, ⟨kbad, ⟨ki_232_349, ⟨kbad, ⟨kbad, trivial⟩⟩⟩⟩⟩⟩⟩⟩⟩⟩⟩⟩⟩⟩⟩⟩, ⟨⟨ki_232_352, ⟨ki_232_353, ⟨kbad, ⟨ki_232_355, ⟨kbad, ⟨kbad, ⟨ki_232_358, ⟨ki_232_359, ⟨ki_232_360, ⟨kbad, ⟨ki_232_362, ⟨kbad, ⟨kbad, ⟨ki_232_365, ⟨kbad, ⟨kbad, trivial⟩⟩⟩⟩⟩⟩⟩⟩⟩⟩⟩⟩⟩⟩⟩⟩, ⟨⟨ki_232_368, ⟨kbad, ⟨kbad, ⟨ki_232_371, ⟨kbad, ⟨kbad, ⟨ki_232_374, ⟨kbad, ⟨kbad, ⟨ki_232_377, ⟨ki_232_378, ⟨kbad, ⟨kbad, ⟨ki_232_381, ⟨ki_232_382, ⟨ki_232_383, trivial⟩⟩⟩⟩⟩⟩⟩⟩⟩⟩⟩⟩⟩⟩⟩⟩, ⟨⟨ki_232_384, ⟨ki_232_385, ⟨kbad, ⟨kbad, ⟨ki_232_388, ⟨ki_232_389, ⟨kbad, ⟨kbad, ⟨ki_232_392, ⟨ki_232_393, ⟨kbad, ⟨kbad, ⟨ki_232_396, ⟨kbad, ⟨kbad, ⟨ki_232_399, trivial⟩⟩⟩⟩⟩⟩⟩⟩⟩⟩⟩⟩⟩⟩⟩⟩, trivial⟩⟩⟩⟩⟩⟩⟩⟩⟩⟩⟩⟩⟩⟩⟩⟩⟩⟩⟩⟩⟩⟩⟩⟩⟩)⟩
set_option maxRecDepth 20000 in
theorem mk_233 : js_mok 233 := ⟨by decide +kernel, jk_tab (fun _ => js_St.ok st_bad) (show jk_all (js_Ok 233) 0 tb_233 from ⟨⟨ki_233_0, ⟨kbad, ⟨ki_233_2, ⟨ki_233_3, ⟨ki_233_4, ⟨ki_233_5, ⟨ki_233_6, ⟨kbad, ⟨kbad, ⟨ki_233_9, ⟨ki_233_10, ⟨ki_233_11, ⟨ki_233_12, ⟨ki_233_13, ⟨ki_233_14, ⟨ki_233_15, trivial⟩⟩⟩⟩⟩⟩⟩⟩⟩⟩⟩⟩⟩⟩⟩⟩, ⟨⟨kbad, ⟨kbad, ⟨ki_233_18, ⟨ki_233_19, ⟨ki_233_20, ⟨ki_233_21, ⟨ki_233_22, ⟨kbad, ⟨ki_233_24, ⟨ki_233_25, ⟨kbad, ⟨kbad, ⟨ki_233_28, ⟨ki_233_29, ⟨ki_233_30, ⟨ki_233_31, trivial⟩⟩⟩⟩⟩⟩⟩⟩⟩⟩⟩⟩⟩⟩⟩⟩, ⟨⟨ki_233_32, ⟨kbad, ⟨ki_233_34, ⟨ki_233_35, ⟨kbad, ⟨kbad, ⟨ki_233_38, ⟨ki_233_39, ⟨ki_233_40, ⟨kbad, ⟨kbad, ⟨kbad, ⟨kbad, ⟨kbad, ⟨kbad, ⟨kbad, trivial⟩⟩⟩⟩⟩⟩⟩⟩⟩⟩⟩⟩⟩⟩⟩⟩, ⟨⟨kbad, ⟨kbad, ⟨kbad, ⟨kbad, ⟨kbad, ⟨kbad, ⟨kbad, ⟨kbad, ⟨kbad, ⟨kbad, ⟨kbad, ⟨kbad, ⟨kbad, ⟨kbad, ⟨kbad, ⟨kbad, trivial⟩⟩⟩⟩⟩⟩⟩⟩⟩⟩⟩⟩⟩⟩⟩⟩, ⟨⟨kbad, ⟨kbad, ⟨kbad, ⟨kbad, ⟨kbad, ⟨kbad, ⟨kbad, ⟨kbad, ⟨kbad, ⟨kbad, ⟨kbad, ⟨kbad, ⟨kbad, ⟨kbad, ⟨kbad, ⟨kbad, trivial⟩⟩⟩⟩⟩⟩⟩⟩⟩⟩⟩⟩⟩⟩⟩⟩, ⟨⟨kbad, ⟨kbad, ⟨kbad, ⟨kbad, ⟨kbad, ⟨kbad, ⟨kbad, ⟨kbad, ⟨kbad, ⟨kbad, ⟨kbad, ⟨kbad, ⟨kbad, ⟨kbad, ⟨kbad, ⟨kbad, trivial⟩⟩⟩⟩⟩⟩⟩⟩⟩⟩⟩⟩⟩⟩⟩⟩, ⟨⟨kbad, ⟨kbad, ⟨kbad, ⟨kbad, ⟨kbad, ⟨kbad, ⟨kbad, ⟨kbad, ⟨kbad, ⟨kbad, ⟨kbad, ⟨kbad, ⟨kbad, ⟨kbad, ⟨kbad, ⟨kbad, trivial⟩⟩⟩⟩⟩⟩⟩⟩⟩⟩⟩⟩⟩⟩⟩⟩, ⟨⟨kbad, ⟨kbad, ⟨kbad, ⟨kbad, ⟨kbad, ⟨kbad, ⟨kbad, ⟨kbad, ⟨kbad, ⟨kbad, ⟨kbad, ⟨kbad, ⟨kbad, ⟨kbad, ⟨kbad, ⟨kbad, trivial⟩⟩⟩⟩⟩⟩⟩⟩⟩⟩⟩⟩⟩⟩⟩⟩, ⟨⟨ki_233_128, ⟨ki_233_129, ⟨ki_233_130, ⟨ki_233_131, ⟨kbad, ⟨ki_233_133, ⟨kbad, ⟨ki_233_135, ⟨ki_233_136, ⟨kbad, ⟨kbad, ⟨ki_233_139, ⟨ki_233_140, ⟨ki_233_141, ⟨ki_233_142, ⟨ki_233_143, trivial⟩⟩⟩⟩⟩⟩⟩⟩⟩⟩⟩⟩⟩⟩⟩⟩, ⟨⟨ki_233_144, ⟨kbad, ⟨kbad, ⟨ki_233_147, ⟨ki_233_148, ⟨ki_233_149, ⟨ki_233_150, ⟨ki_233_151, ⟨kbad, ⟨kbad, ⟨ki_233_154, ⟨kbad, ⟨ki_233_156, ⟨kbad, ⟨kbad, ⟨ki_233_159, trivial⟩⟩⟩⟩⟩⟩⟩⟩⟩⟩⟩⟩⟩⟩⟩⟩, ⟨⟨ki_233_160, ⟨ki_233_161, ⟨kbad, ⟨ki_233_163, ⟨kbad, ⟨ki_233_165, ⟨kbad, ⟨kbad, ⟨ki_233_168, ⟨kbad, ⟨ki_233_170, ⟨kbad, ⟨kbad, ⟨ki_233_173, ⟨ki_233_174, ⟨ki_233_175, trivial⟩⟩⟩⟩⟩⟩⟩⟩⟩⟩⟩⟩⟩⟩⟩⟩, ⟨⟨kbad, ⟨ki_233_177, ⟨kbad, ⟨kbad, ⟨ki_233_180, ⟨kbad, ⟨ki_233_182, ⟨kbad, ⟨kbad, ⟨ki_233_185, ⟨ki_233_186, ⟨ki_233_187, ⟨kbad, ⟨ki_233_189, ⟨kbad, ⟨kbad, trivial⟩⟩⟩⟩⟩⟩⟩⟩⟩⟩⟩⟩⟩⟩⟩⟩, ⟨⟨ki_233_192, ⟨kbad, ⟨ki_233_194, ⟨kbad, ⟨kbad, ⟨ki_233_197, ⟨ki_233_198, ⟨ki_233_199, ⟨kbad, ⟨kbad, ⟨ki_233_202, ⟨kbad, ⟨ki_233_204, ⟨kbad, ⟨kbad, ⟨ki_233_207, trivial⟩⟩⟩⟩⟩⟩⟩⟩⟩⟩⟩⟩⟩⟩⟩⟩, ⟨⟨ki_233_208, ⟨ki_233_209, ⟨kbad, ⟨kbad, ⟨ki_233_212, ⟨kbad, ⟨ki_233_214, ⟨kbad, ⟨kbad, ⟨ki_233_217, ⟨ki_233_218, ⟨kbad, ⟨kbad, ⟨ki_233_221, ⟨kbad, ⟨ki_233_223, trivial⟩⟩⟩⟩⟩⟩⟩⟩⟩⟩⟩⟩⟩⟩⟩⟩, trivial⟩⟩⟩⟩⟩⟩⟩⟩⟩⟩⟩⟩⟩⟩)⟩
set_option maxRecDepth 20000 in
theorem mk_234 : js_mok 234 := ⟨by decide +kernel, jk_tab (fun _ => js_St.ok st_bad) (show jk_all (js_Ok 234) 0 tb_234 from ⟨⟨ki_234_0, ⟨ki_234_1, ⟨ki_234_2, ⟨kbad, ⟨kbad, ⟨ki_234_5, ⟨ki_234_6, ⟨ki_234_7, ⟨kbad, ⟨kbad, ⟨ki_234_10, ⟨ki_234_11, ⟨ki_234_12, ⟨kbad, ⟨kbad, ⟨ki_234_15, trivial⟩⟩⟩⟩⟩⟩⟩⟩⟩⟩⟩⟩⟩⟩⟩⟩, ⟨⟨ki_234_16, ⟨kbad, ⟨kbad, ⟨ki_234_19, ⟨ki_234_20, ⟨kbad, ⟨kbad, ⟨ki_234_23, ⟨kbad, ⟨kbad, ⟨ki_234_26, ⟨ki_234_27, ⟨ki_234_28, ⟨kbad, ⟨kbad, ⟨ki_234_31, trivial⟩⟩⟩⟩⟩⟩⟩⟩⟩⟩⟩⟩⟩⟩⟩⟩, ⟨⟨kbad, ⟨ki_234_33, ⟨kbad, ⟨kbad, ⟨ki_234_36, ⟨ki_234_37, ⟨ki_234_38, ⟨kbad, ⟨kbad, ⟨ki_234_41, ⟨ki_234_42, ⟨ki_234_43, ⟨kbad, ⟨kbad, ⟨ki_234_46, ⟨ki_234_47, trivial⟩⟩⟩⟩⟩⟩⟩⟩⟩⟩⟩⟩⟩⟩⟩⟩, ⟨⟨kbad, ⟨kbad, ⟨ki_234_50, ⟨kbad, ⟨kbad, ⟨ki_234_53, ⟨ki_234_54, ⟨ki_234_55, ⟨kbad, ⟨kbad, ⟨ki_234_58, ⟨kbad, ⟨kbad, ⟨ki_234_61, ⟨ki_234_62, ⟨kbad, trivial⟩⟩⟩⟩⟩⟩⟩⟩⟩⟩⟩⟩⟩⟩⟩⟩, ⟨⟨kbad, ⟨ki_234_65, ⟨ki_234_66, ⟨kbad, ⟨kbad, ⟨ki_234_69, ⟨kbad, ⟨kbad, ⟨ki_234_72, ⟨ki_234_73, ⟨kbad, ⟨kbad, ⟨ki_234_76, ⟨ki_234_77, ⟨kbad, ⟨kbad, trivial⟩⟩⟩⟩⟩⟩⟩⟩⟩⟩⟩⟩⟩⟩⟩⟩, ⟨⟨ki_234_80, ⟨ki_234_81, ⟨ki_234_82, ⟨kbad, ⟨kbad, ⟨ki_234_85, ⟨kbad, ⟨kbad, ⟨ki_234_88, ⟨ki_234_89, ⟨kbad, ⟨kbad, ⟨ki_234_92, ⟨kbad, ⟨kbad, ⟨ki_234_95, trivial⟩⟩⟩⟩⟩⟩⟩⟩⟩⟩⟩⟩⟩⟩⟩⟩, ⟨⟨ki_234_96, ⟨kbad, ⟨kbad, ⟨ki_234_99, ⟨kbad, ⟨kbad, ⟨ki_234_102, ⟨ki_234_103, ⟨ki_234_104, ⟨kbad, ⟨kbad, ⟨ki_234_107, ⟨ki_234_108, ⟨kbad, ⟨kbad, ⟨ki_234_111, trivial⟩⟩⟩⟩⟩⟩⟩⟩⟩⟩⟩⟩⟩⟩⟩⟩, ⟨⟨kbad, ⟨kbad, ⟨ki_234_114, ⟨ki_234_115, ⟨ki_234_116, ⟨kbad, ⟨kbad, ⟨ki_234_119, ⟨ki_234_120, ⟨ki_234_121, ⟨kbad, ⟨kbad, ⟨ki_234_124, ⟨ki_234_125, ⟨ki_234_126, ⟨ki_234_127, trivial⟩⟩⟩⟩⟩⟩⟩⟩⟩⟩⟩⟩⟩⟩⟩⟩, ⟨⟨ki_234_128, ⟨kbad, ⟨kbad, ⟨ki_234_131, ⟨kbad, ⟨kbad, ⟨ki_234_134, ⟨ki_234_135, ⟨ki_234_136, ⟨kbad, ⟨kbad, ⟨ki_234_139, ⟨ki_234_140, ⟨kbad, ⟨kbad, ⟨ki_234_143, trivial⟩⟩⟩⟩⟩⟩⟩⟩⟩⟩⟩⟩⟩⟩⟩⟩, ⟨⟨kbad, ⟨kbad, ⟨ki_234_146, ⟨ki_234_147, ⟨ki_234_148, ⟨kbad, ⟨kbad, ⟨ki_234_151, ⟨ki_234_152, ⟨ki_234_153, ⟨ki_234_154, ⟨kbad, ⟨kbad, ⟨ki_234_157, ⟨kbad, ⟨kbad, trivial⟩⟩⟩⟩⟩⟩⟩⟩⟩⟩⟩⟩⟩⟩⟩⟩, ⟨⟨ki_234_160, ⟨ki_234_161, ⟨kbad, ⟨kbad, ⟨ki_234_164, ⟨kbad, ⟨kbad, ⟨ki_234_167, ⟨ki_234_168, ⟨ki_234_169, ⟨kbad, ⟨kbad, ⟨ki_234_172, ⟨kbad, ⟨kbad, ⟨ki_234_175, trivial⟩⟩⟩⟩⟩⟩⟩⟩⟩⟩⟩⟩⟩⟩⟩⟩, trivial⟩⟩⟩⟩⟩⟩⟩⟩⟩⟩⟩)⟩
set_option maxRecDepth 20000 in
theorem mk_235 : js_mok 235 := ⟨by decide +kernel, jk_tab (fun _ => js_St.ok st_bad) (show jk_all (js_Ok 235) 0 tb_235 from ⟨⟨ki_235_0, ⟨ki_235_1, ⟨ki_235_2, ⟨kbad, ⟨kbad, ⟨ki_235_5, ⟨kbad, ⟨kbad, ⟨ki_235_8, ⟨ki_235_9, ⟨kbad, ⟨kbad, ⟨ki_235_12, ⟨ki_235_13, ⟨kbad, ⟨kbad, trivial⟩⟩⟩⟩⟩⟩⟩⟩⟩⟩⟩⟩⟩⟩⟩⟩, ⟨⟨ki_235_16, ⟨kbad, ⟨kbad, ⟨ki_235_19, ⟨ki_235_20, ⟨kbad, ⟨kbad, ⟨ki_235_23, ⟨kbad, ⟨kbad, ⟨ki_235_26, ⟨ki_235_27, trivial⟩⟩⟩⟩⟩⟩⟩⟩⟩⟩⟩⟩, trivial⟩⟩)⟩
set_option maxRecDepth 20000 in
theorem mk_236 : js_mok 236 := ⟨by decide +kernel, jk_tab (fun _ => js_St.ok st_bad) (show jk_all (js_Ok 236) 0 tb_236 from ⟨⟨ki_236_0, ⟨ki_236_1, ⟨ki_236_2, ⟨kbad, ⟨kbad, ⟨ki_236_5, ⟨kbad, ⟨kbad, ⟨ki_236_8, ⟨ki_236_9, ⟨kbad, ⟨kbad, ⟨ki_236_12, ⟨ki_236_13, ⟨kbad, ⟨kbad, trivial⟩⟩⟩⟩⟩⟩⟩⟩⟩⟩⟩⟩⟩⟩⟩⟩, ⟨⟨ki_236_16, ⟨kbad, ⟨kbad, ⟨ki_236_19, ⟨ki_236_20, ⟨kbad, ⟨kbad, ⟨ki_236_23, ⟨kbad, ⟨kbad, ⟨ki_236_26, ⟨ki_236_27, trivial⟩⟩⟩⟩⟩⟩⟩⟩⟩⟩⟩⟩, trivial⟩⟩)⟩
set_option maxRecDepth 20000 in
theorem mk_237 : js_mok 237 := ⟨by decide +kernel, jk_tab (fun _ => js_St.ok st_bad) (show jk_all (js_Ok 237) 0 tb_237 from ⟨⟨ki_237_0, ⟨ki_237_1, ⟨ki_237_2, ⟨kbad, ⟨kbad, ⟨ki_237_5, ⟨kbad, ⟨kbad, ⟨ki_237_8, ⟨ki_237_9, ⟨kbad, ⟨kbad, ⟨ki_237_12, ⟨ki_237_13, ⟨kbad, ⟨kbad, trivial⟩⟩⟩⟩⟩⟩⟩⟩⟩⟩⟩⟩⟩⟩⟩⟩, ⟨⟨ki_237_16, ⟨ki_237_17, ⟨kbad, ⟨kbad, ⟨ki_237_20, ⟨kbad, ⟨kbad, ⟨ki_237_23, ⟨ki_237_24, ⟨ki_237_25, ⟨ki_237_26, ⟨ki_237_27, ⟨kbad, ⟨kbad, ⟨ki_237_30, ⟨ki_237_31, trivial⟩⟩⟩⟩⟩⟩⟩⟩⟩⟩⟩⟩⟩⟩⟩⟩, ⟨⟨ki_237_32, ⟨kbad, ⟨kbad, ⟨ki_237_35, ⟨ki_237_36, ⟨kbad, ⟨kbad, ⟨ki_237_39, ⟨kbad, ⟨kbad, ⟨ki_237_42, ⟨ki_237_43, ⟨kbad, ⟨kbad, ⟨ki_237_46, ⟨ki_237_47, trivial⟩⟩⟩⟩⟩⟩⟩⟩⟩⟩⟩⟩⟩⟩⟩⟩, ⟨⟨ki_237_48, ⟨kbad, ⟨kbad, ⟨ki_237_51, ⟨ki_237_52, ⟨kbad, ⟨kbad, ⟨ki_237_55, ⟨kbad, ⟨kbad, ⟨ki_237_58, ⟨ki_237_59, ⟨kbad, ⟨kbad, ⟨ki_237_62, trivial⟩⟩⟩⟩⟩⟩⟩⟩⟩⟩⟩⟩⟩⟩⟩, trivial⟩⟩⟩⟩)⟩
set_option maxRecDepth 20000 in
theorem mk_238 : js_mok 238 := ⟨by decide +kernel, jk_tab (fun _ => js_St.ok st_bad) (show jk_all (js_Ok 238) 0 tb_238 from ⟨⟨ki_238_0, ⟨ki_238_1, ⟨ki_238_2, ⟨kbad, ⟨kbad, ⟨ki_238_5, ⟨ki_238_6, ⟨kbad, ⟨kbad, ⟨ki_238_9, trivial⟩⟩⟩⟩⟩⟩⟩⟩⟩⟩, trivial⟩)⟩
set_option maxRecDepth 20000 in
theorem mk_239 : js_mok 239 := ⟨by decide +kernel, jk_tab (fun _ => js_St.ok st_bad) (show jk_all (js_Ok 239) 0 tb_239 from ⟨⟨ki_239_0, ⟨ki_239_1, ⟨ki_239_2, ⟨kbad, ⟨kbad, ⟨ki_239_5, ⟨ki_239_6, ⟨kbad, ⟨kbad, ⟨ki_239_9, ⟨ki_239_10, ⟨ki_239_11, ⟨kbad, ⟨kbad, ⟨ki_239_14, ⟨ki_239_15, trivial⟩⟩⟩⟩⟩⟩⟩⟩⟩⟩⟩⟩⟩⟩⟩⟩, ⟨⟨kbad, ⟨kbad, ⟨ki_239_18, ⟨kbad, ⟨kbad, ⟨ki_239_21, ⟨ki_239_22, ⟨ki_239_23, ⟨kbad, ⟨kbad, ⟨ki_239_26, ⟨ki_239_27, ⟨ki_239_28, ⟨kbad, ⟨kbad, ⟨ki_239_31, trivial⟩⟩⟩⟩⟩⟩⟩⟩⟩⟩⟩⟩⟩⟩⟩⟩, trivial⟩⟩)⟩
set_option maxRecDepth 20000 in
theorem mk_240 : js_mok 240 := ⟨by decide +kernel, jk_tab (fun _ => js_St.ok st_bad) (show jk_all (js_Ok 240) 0 tb_240 from ⟨⟨ki_240_0, ⟨ki_240_1, ⟨ki_240_2, ⟨kbad, ⟨kbad, ⟨ki_240_5, ⟨kbad, ⟨kbad, ⟨ki_240_8, ⟨ki_240_9, ⟨kbad, ⟨kbad, ⟨ki_240_12, ⟨ki_240_13, ⟨kbad, ⟨kbad, trivial⟩⟩⟩⟩⟩⟩⟩⟩⟩⟩⟩⟩⟩⟩⟩⟩, ⟨⟨ki_240_16, ⟨ki_240_17, ⟨kbad, ⟨kbad, ⟨ki_240_20, ⟨kbad, ⟨kbad, ⟨ki_240_23, ⟨ki_240_24, ⟨ki_240_25, ⟨ki_240_26, ⟨kbad, ⟨kbad, ⟨ki_240_29, ⟨ki_240_30, ⟨ki_240_31, trivial⟩⟩⟩⟩⟩⟩⟩⟩⟩⟩⟩⟩⟩⟩⟩⟩, ⟨⟨kbad, ⟨kbad, ⟨ki_240_34, ⟨ki_240_35, ⟨kbad, ⟨kbad, ⟨ki_240_38, ⟨kbad, ⟨kbad, ⟨ki_240_41, ⟨ki_240_42, ⟨ki_240_43, ⟨kbad, ⟨kbad, ⟨ki_240_46, ⟨ki_240_47, trivial⟩⟩⟩⟩⟩⟩⟩⟩⟩⟩⟩⟩⟩⟩⟩⟩, ⟨⟨ki_240_48, ⟨kbad, ⟨kbad, ⟨ki_240_51, trivial⟩⟩⟩⟩, trivial⟩⟩⟩⟩)⟩
set_option maxRecDepth 20000 in
theorem mk_241 : js_mok 241 := ⟨by decide +kernel, jk_tab (fun _ => js_St.ok st_bad) (show jk_all (js_Ok 241) 0 tb_241 from ⟨⟨ki_241_0, ⟨ki_241_1, ⟨kbad, ⟨kbad, ⟨ki_241_4, trivial⟩⟩⟩⟩⟩, trivial⟩)⟩
set_option maxRecDepth 20000 in
theorem mk_242 : js_mok 242 := ⟨by decide +kernel, jk_tab (fun _ => js_St.ok st_bad) (show jk_all (js_Ok 242) 0 tb_242 from ⟨⟨ki_242_0, ⟨ki_242_1, ⟨ki_242_2, ⟨ki_242_3, ⟨kbad, ⟨kbad, ⟨ki_242_6, ⟨ki_242_7, ⟨kbad, ⟨kbad, ⟨ki_242_10, ⟨ki_242_11, trivial⟩⟩⟩⟩⟩⟩⟩⟩⟩⟩⟩⟩, trivial⟩)⟩
set_option maxRecDepth 20000 in
theorem mk_243 : js_mok 243 := ⟨by decide +kernel, jk_tab (fun _ => js_St.ok st_bad) (show jk_all (js_Ok 243) 0 tb_243 from ⟨⟨ki_243_0, ⟨ki_243_1, ⟨kbad, ⟨kbad, ⟨ki_243_4, ⟨kbad, ⟨kbad, ⟨ki_243_7, ⟨ki_243_8, ⟨kbad, ⟨kbad, ⟨ki_243_11, ⟨ki_243_12, ⟨kbad, ⟨ki_243_14, trivial⟩⟩⟩⟩⟩⟩⟩⟩⟩⟩⟩⟩⟩⟩⟩, trivial⟩)⟩
set_option maxRecDepth 20000 in
theorem mk_244 : js_mok 244 := ⟨by decide +kernel, jk_tab (fun _ => js_St.ok st_bad) (show jk_all (js_Ok 244) 0 tb_244 from ⟨⟨ki_244_0, ⟨ki_244_1, ⟨ki_244_2, ⟨ki_244_3, ⟨ki_244_4, ⟨kbad, ⟨kbad, ⟨ki_244_7, ⟨ki_244_8, ⟨ki_244_9, ⟨ki_244_10, ⟨ki_244_11, ⟨kbad, ⟨kbad, ⟨ki_244_14, ⟨ki_244_15, trivial⟩⟩⟩⟩⟩⟩⟩⟩⟩⟩⟩⟩⟩⟩⟩⟩, ⟨⟨ki_244_16, ⟨ki_244_17, ⟨ki_244_18, ⟨kbad, ⟨kbad, ⟨ki_244_21, ⟨ki_244_22, ⟨ki_244_23, ⟨ki_244_24, ⟨ki_244_25, ⟨ki_244_26, ⟨ki_244_27, ⟨ki_244_28, ⟨ki_244_29, ⟨kbad, ⟨kbad, trivial⟩⟩⟩⟩⟩⟩⟩⟩⟩⟩⟩⟩⟩⟩⟩⟩, ⟨⟨ki_244_32, ⟨ki_244_33, ⟨ki_244_34, ⟨ki_244_35, ⟨ki_244_36, ⟨kbad, ⟨ki_244_38, ⟨ki_244_39, ⟨ki_244_40, ⟨ki_244_41, ⟨ki_244_42, ⟨ki_244_43, ⟨kbad, ⟨ki_244_45, ⟨ki_244_46, ⟨ki_244_47, trivial⟩⟩⟩⟩⟩⟩⟩⟩⟩⟩⟩⟩⟩⟩⟩⟩, ⟨⟨ki_244_48, ⟨ki_244_49, ⟨kbad, ⟨ki_244_51, ⟨ki_244_52, trivial⟩⟩⟩⟩⟩, trivial⟩⟩⟩⟩)⟩
set_option maxRecDepth 20000 in
theorem mk_245 : js_mok 245 := ⟨by decide +kernel, jk_tab (fun _ => js_St.ok st_bad) (show jk_all (js_Ok 245) 0 tb_245 from ⟨⟨ki_245_0, ⟨ki_245_1, ⟨ki_245_2, ⟨ki_245_3, ⟨ki_245_4, ⟨kbad, ⟨kbad, ⟨ki_245_7, ⟨ki_245_8, ⟨ki_245_9, ⟨ki_245_10, ⟨ki_245_11, ⟨kbad, ⟨kbad, ⟨ki_245_14, ⟨ki_245_15, trivial⟩⟩⟩⟩⟩⟩⟩⟩⟩⟩⟩⟩⟩⟩⟩⟩, ⟨⟨ki_245_16, ⟨ki_245_17, ⟨ki_245_18, ⟨kbad, ⟨kbad, ⟨ki_245_21, ⟨ki_245_22, ⟨ki_245_23, ⟨ki_245_24, ⟨ki_245_25, ⟨ki_245_26, ⟨ki_245_27, ⟨ki_245_28, ⟨ki_245_29, ⟨kbad, ⟨kbad, trivial⟩⟩⟩⟩⟩⟩⟩⟩⟩⟩⟩⟩⟩⟩⟩⟩, ⟨⟨ki_245_32, ⟨ki_245_33, ⟨ki_245_34, ⟨ki_245_35, ⟨ki_245_36, ⟨kbad, ⟨ki_245_38, ⟨ki_245_39, ⟨ki_245_40, ⟨ki_245_41, ⟨ki_245_42, ⟨ki_245_43, ⟨kbad, ⟨ki_245_45, ⟨ki_245_46, ⟨ki_245_47, trivial⟩⟩⟩⟩⟩⟩⟩⟩⟩⟩⟩⟩⟩⟩⟩⟩, ⟨⟨ki_245_48, ⟨ki_245_49, ⟨ki_245_50, ⟨kbad, ⟨ki_245_52, ⟨ki_245_53, ⟨ki_245_54, ⟨ki_245_55, ⟨ki_245_56, ⟨ki_245_57, ⟨kbad, ⟨ki_245_59, ⟨ki_245_60, trivial⟩⟩⟩⟩⟩⟩⟩⟩⟩⟩⟩⟩⟩, trivial⟩⟩⟩⟩)⟩
set_option maxRecDepth 20000 in
theorem mk_246 : js_mok 246 := ⟨by decide +kernel, jk_tab (fun _ => js_St.ok st_bad) (show jk_all (js_Ok 246) 0 tb_246 from ⟨⟨ki_246_0, ⟨ki_246_1, ⟨ki_246_2, ⟨kbad, ⟨kbad, ⟨ki_246_5, ⟨ki_246_6, ⟨kbad, ⟨kbad, ⟨ki_246_9, ⟨ki_246_10, trivial⟩⟩⟩⟩⟩⟩⟩⟩⟩⟩⟩, trivial⟩)⟩
set_option maxRecDepth 20000 in
theorem mk_247 : js_mok 247 := ⟨by decide +kernel, jk_tab (fun _ => js_St.ok st_bad) (show jk_all (js_Ok 247) 0 tb_247 from ⟨⟨ki_247_0, ⟨ki_247_1, ⟨ki_247_2, ⟨kbad, ⟨kbad, ⟨ki_247_5, ⟨ki_247_6, ⟨kbad, ⟨kbad, ⟨ki_247_9, ⟨ki_247_10, trivial⟩⟩⟩⟩⟩⟩⟩⟩⟩⟩⟩, trivial⟩)⟩
set_option maxRecDepth 20000 in
theorem mk_248 : js_mok 248 := ⟨by decide +kernel, jk_tab (fun _ => js_St.ok st_bad) (show jk_all (js_Ok 248) 0 tb_248 from ⟨⟨ki_248_0, ⟨ki_248_1, ⟨kbad, ⟨kbad, ⟨ki_248_4, ⟨ki_248_5, ⟨ki_248_6, ⟨kbad, ⟨kbad, ⟨ki_248_9, ⟨ki_248_10, trivial⟩⟩⟩⟩⟩⟩⟩⟩⟩⟩⟩, trivial⟩)⟩
set_option maxRecDepth 20000 in
theorem mk_249 : js_mok 249 := ⟨by decide +kernel, jk_tab (fun _ => js_St.ok st_bad) (show jk_all (js_Ok 249) 0 tb_249 from ⟨⟨ki_249_0, ⟨ki_249_1, ⟨kbad, ⟨kbad, ⟨ki_249_4, ⟨kbad, ⟨kbad, ⟨ki_249_7, ⟨ki_249_8, ⟨kbad, ⟨kbad, ⟨ki_249_11, ⟨ki_249_12, ⟨kbad, ⟨kbad, ⟨ki_249_15, trivial⟩⟩⟩⟩⟩⟩⟩⟩⟩⟩⟩⟩⟩⟩⟩⟩, ⟨⟨ki_249_16, ⟨ki_249_17, ⟨kbad, ⟨kbad, ⟨ki_249_20, ⟨ki_249_21, ⟨kbad, ⟨kbad, ⟨kbad, trivial⟩⟩⟩⟩⟩⟩⟩⟩⟩, trivial⟩⟩)⟩
set_option maxRecDepth 20000 in
theorem mk_250 : js_mok 250 := ⟨by decide +kernel, jk_tab (fun _ => js_St.ok st_bad) (show jk_all (js_Ok 250) 0 tb_250 from ⟨⟨ki_250_0, ⟨kbad, ⟨kbad, ⟨ki_250_3, ⟨kbad, ⟨kbad, ⟨ki_250_6, ⟨ki_250_7, ⟨kbad, ⟨kbad, ⟨ki_250_10, ⟨kbad, ⟨kbad, ⟨ki_250_13, ⟨ki_250_14, trivial⟩⟩⟩⟩⟩⟩⟩⟩⟩⟩⟩⟩⟩⟩⟩, trivial⟩)⟩
set_option maxRecDepth 20000 in
theorem mk_251 : js_mok 251 := ⟨by decide +kernel, jk_tab (fun _ => js_St.ok st_bad) (show jk_all (js_Ok 251) 0 tb_251 from ⟨⟨ki_251_0, ⟨kbad, ⟨kbad, ⟨ki_251_3, ⟨kbad, ⟨kbad, ⟨ki_251_6, ⟨ki_251_7, ⟨kbad, ⟨kbad, ⟨ki_251_10, ⟨kbad, ⟨kbad, ⟨ki_251_13, ⟨ki_251_14, ⟨kbad, trivial⟩⟩⟩⟩⟩⟩⟩⟩⟩⟩⟩⟩⟩⟩⟩⟩, ⟨⟨kbad, ⟨ki_251_17, ⟨ki_251_18, trivial⟩⟩⟩, trivial⟩⟩)⟩
set_option maxRecDepth 20000 in
theorem mk_252 : js_mok 252 := ⟨by decide +kernel, jk_tab (fun _ => js_St.ok st_bad) (show jk_all (js_Ok 252) 0 tb_252 from ⟨⟨ki_252_0, ⟨ki_252_1, ⟨ki_252_2, ⟨kbad, ⟨kbad, ⟨ki_252_5, ⟨kbad, ⟨kbad, ⟨ki_252_8, ⟨ki_252_9, trivial⟩⟩⟩⟩⟩⟩⟩⟩⟩⟩, trivial⟩)⟩
set_option maxRecDepth 20000 in
theorem mk_253 : js_mok 253 := ⟨by decide +kernel, jk_tab (fun _ => js_St.ok st_bad) (show jk_all (js_Ok 253) 0 tb_253 from ⟨⟨ki_253_0, ⟨ki_253_1, ⟨ki_253_2, ⟨ki_253_3, ⟨kbad, ⟨kbad, ⟨ki_253_6, ⟨ki_253_7, ⟨ki_253_8, ⟨ki_253_9, ⟨kbad, ⟨kbad, ⟨ki_253_12, ⟨ki_253_13, ⟨ki_253_14, trivial⟩⟩⟩⟩⟩⟩⟩⟩⟩⟩⟩⟩⟩⟩⟩, trivial⟩)⟩
set_option maxRecDepth 20000 in
theorem mk_254 : js_mok 254 := ⟨by decide +kernel, jk_tab (fun _ => js_St.ok st_bad) (show jk_all (js_Ok 254) 0 tb_254 from ⟨⟨ki_254_0, ⟨ki_254_1, ⟨kbad, ⟨kbad, ⟨ki_254_4, ⟨ki_254_5, ⟨ki_254_6, ⟨kbad, ⟨kbad, ⟨ki_254_9, ⟨ki_254_10, ⟨ki_254_11, ⟨ki_254_12, ⟨kbad, ⟨kbad, ⟨kbad, trivial⟩⟩⟩⟩⟩⟩⟩⟩⟩⟩⟩⟩⟩⟩⟩⟩, ⟨⟨ki_254_16, ⟨ki_254_17, trivial⟩⟩, trivial⟩⟩)⟩
end JS
