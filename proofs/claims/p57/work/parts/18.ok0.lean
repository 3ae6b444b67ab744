section JS
theorem d_0_0 : decode (js_b 0) 0 = .ok (.aload_n 0, 1) := by decide +kernel
theorem d_0_1 : decode (js_b 0) 1 = .ok (.invokespecial 3, 3) := by decide +kernel
theorem d_0_4 : decode (js_b 0) 4 = .ok (.aload_n 0, 1) := by decide +kernel
theorem d_0_5 : decode (js_b 0) 5 = .ok (.bipush 20, 2) := by decide +kernel
theorem d_0_7 : decode (js_b 0) 7 = .ok (.anewarray 9, 3) := by decide +kernel
theorem d_0_10 : decode (js_b 0) 10 = .ok (.putfield 11, 3) := by decide +kernel
theorem d_0_13 : decode (js_b 0) 13 = .ok (.aload_n 0, 1) := by decide +kernel
theorem d_0_14 : decode (js_b 0) 14 = .ok (.bipush 64, 2) := by decide +kernel
theorem d_0_16 : decode (js_b 0) 16 = .ok (.anewarray 9, 3) := by decide +kernel
theorem d_0_19 : decode (js_b 0) 19 = .ok (.putfield 17, 3) := by decide +kernel
theorem d_0_22 : decode (js_b 0) 22 = .ok (.iconst 0, 1) := by decide +kernel
theorem d_0_23 : decode (js_b 0) 23 = .ok (.istore_n 1, 1) := by decide +kernel
theorem d_0_24 : decode (js_b 0) 24 = .ok (.iload_n 1, 1) := by decide +kernel
theorem d_0_25 : decode (js_b 0) 25 = .ok (.bipush 20, 2) := by decide +kernel
theorem d_0_27 : decode (js_b 0) 27 = .ok (.if_icmp .ge 22, 3) := by decide +kernel
theorem d_0_30 : decode (js_b 0) 30 = .ok (.aload_n 0, 1) := by decide +kernel
theorem d_0_31 : decode (js_b 0) 31 = .ok (.getfield 11, 3) := by decide +kernel
theorem d_0_34 : decode (js_b 0) 34 = .ok (.iload_n 1, 1) := by decide +kernel
theorem d_0_35 : decode (js_b 0) 35 = .ok (.new 9, 3) := by decide +kernel
theorem d_0_38 : decode (js_b 0) 38 = .ok (.dup, 1) := by decide +kernel
theorem d_0_39 : decode (js_b 0) 39 = .ok (.invokespecial 20, 3) := by decide +kernel
theorem d_0_42 : decode (js_b 0) 42 = .ok (.aastore, 1) := by decide +kernel
theorem d_0_43 : decode (js_b 0) 43 = .ok (.iinc 1 1, 3) := by decide +kernel
theorem d_0_46 : decode (js_b 0) 46 = .ok (.goto (-22), 3) := by decide +kernel
theorem d_0_49 : decode (js_b 0) 49 = .ok (.return_, 1) := by decide +kernel
theorem ki_0_14 : js_Ok 0 14 (o_ic 64 16) := js_St.ok (st_bipush rfl d_0_14)
theorem ki_0_13 : js_Ok 0 13 (o_al 0 14) := js_St.ok (st_aloadn rfl d_0_13)
theorem ki_0_10 : js_Ok 0 10 (o_pA 0 0 111 13) := js_Si.ok (st_pAfin js_c0 (by decide) rfl rfl rfl kw_111 (Or.inr ⟨_, rfl⟩) (js_c0.2.2.1 0 (by decide)) d_0_10)
theorem ki_0_7 : js_Ok 0 7 (o_na 111 .null 10) := js_St.ok (st_ana (by decide) rfl rfl kw_74 kn_75 d_0_7)
theorem ki_0_5 : js_Ok 0 5 (o_ic 20 7) := js_St.ok (st_bipush rfl d_0_5)
theorem ki_0_4 : js_Ok 0 4 (o_al 0 5) := js_St.ok (st_aloadn rfl d_0_4)
theorem ki_0_1 : js_Ok 0 1 (o_obj 4) := js_St.ok (st_obj kw_73 kw_66 kw_67 d_0_1)
theorem ki_0_0 : js_Ok 0 0 (o_al 0 1) := js_St.ok (st_aloadn rfl d_0_0)
theorem ki_0_31 : js_Ok 0 31 (o_gA 0 0 34) := js_St.ok (st_gA js_c0 (by decide) (by decide) kw_111 d_0_31)
theorem ki_0_30 : js_Ok 0 30 (o_al 0 31) := js_St.ok (st_aloadn rfl d_0_30)
theorem ki_0_27 : js_Ok 0 27 (o_cge 49 30) := js_St.ok (st_icge (by decide) d_0_27)
theorem ki_0_25 : js_Ok 0 25 (o_ic 20 27) := js_St.ok (st_bipush rfl d_0_25)
theorem ki_0_24 : js_Ok 0 24 (o_il 1 25) := js_St.ok (st_iloadn rfl d_0_24)
theorem ki_0_23 : js_Ok 0 23 (o_is 1 24) := js_St.ok (st_istoren rfl (Nat.le_of_ble_eq_true rfl) d_0_23)
theorem ki_0_22 : js_Ok 0 22 (o_ic 0 23) := js_St.ok (st_iconst rfl d_0_22)
theorem ki_0_19 : js_Ok 0 19 (o_pA 0 1 111 22) := js_Si.ok (st_pAfin js_c0 (by decide) rfl rfl rfl kw_115 (Or.inr ⟨_, rfl⟩) (js_c0.2.2.1 1 (by decide)) d_0_19)
theorem ki_0_16 : js_Ok 0 16 (o_na 111 .null 19) := js_St.ok (st_ana (by decide) rfl rfl kw_74 kn_75 d_0_16)
theorem ki_0_46 : js_Ok 0 46 (o_go 24) := js_St.ok (st_goto (by decide) d_0_46)
theorem ki_0_43 : js_Ok 0 43 (o_inc 1 1 46) := js_St.ok (st_iinc rfl (Nat.le_of_ble_eq_true rfl) d_0_43)
theorem ki_0_42 : js_Ok 0 42 (o_sA 111 2 43) := js_St.ok (st_sA (q9 := (RX3, TX3, 5)) rfl (by decide) (by decide) rfl d_0_42)
theorem ki_0_39 : js_Ok 0 39 (o_cV 20 1 3 42) := ok_cV (site_IN kk_0_20 (by decide) rfl rfl kn_77 kw_78 d_0_39) rfl
theorem ki_0_38 : js_Ok 0 38 (o_dup 39) := js_St.ok (st_dup d_0_38)
theorem ki_0_35 : js_Ok 0 35 (o_new 2 [.int 0, .int 0, .null, .int 0, .int 0] 38) := js_St.ok (st_new js_c2 rfl (by decide +kernel) (fun _ => rfl) kw_74 kw_76 kw_24 d_0_35)
theorem ki_0_34 : js_Ok 0 34 (o_il 1 35) := js_St.ok (st_iloadn rfl d_0_34)
theorem ki_0_49 : js_Ok 0 49 (o_rV) := ok_rV rfl d_0_49
theorem d_1_0 : decode (js_b 1) 0 = .ok (.aload_n 0, 1) := by decide +kernel
theorem d_1_1 : decode (js_b 1) 1 = .ok (.aload_n 1, 1) := by decide +kernel
theorem d_1_2 : decode (js_b 1) 2 = .ok (.getfield 21, 3) := by decide +kernel
theorem d_1_5 : decode (js_b 1) 5 = .ok (.putfield 21, 3) := by decide +kernel
theorem d_1_8 : decode (js_b 1) 8 = .ok (.aload_n 0, 1) := by decide +kernel
theorem d_1_9 : decode (js_b 1) 9 = .ok (.aload_n 1, 1) := by decide +kernel
theorem d_1_10 : decode (js_b 1) 10 = .ok (.getfield 25, 3) := by decide +kernel
theorem d_1_13 : decode (js_b 1) 13 = .ok (.putfield 25, 3) := by decide +kernel
theorem d_1_16 : decode (js_b 1) 16 = .ok (.iconst 0, 1) := by decide +kernel
theorem d_1_17 : decode (js_b 1) 17 = .ok (.istore_n 2, 1) := by decide +kernel
theorem d_1_18 : decode (js_b 1) 18 = .ok (.iload_n 2, 1) := by decide +kernel
theorem d_1_19 : decode (js_b 1) 19 = .ok (.bipush 64, 2) := by decide +kernel
theorem d_1_21 : decode (js_b 1) 21 = .ok (.if_icmp .ge 16, 3) := by decide +kernel
theorem d_1_24 : decode (js_b 1) 24 = .ok (.aload_n 0, 1) := by decide +kernel
theorem d_1_25 : decode (js_b 1) 25 = .ok (.getfield 17, 3) := by decide +kernel
theorem d_1_28 : decode (js_b 1) 28 = .ok (.iload_n 2, 1) := by decide +kernel
theorem d_1_29 : decode (js_b 1) 29 = .ok (.aconst_null, 1) := by decide +kernel
theorem d_1_30 : decode (js_b 1) 30 = .ok (.aastore, 1) := by decide +kernel
theorem d_1_31 : decode (js_b 1) 31 = .ok (.iinc 2 1, 3) := by decide +kernel
theorem d_1_34 : decode (js_b 1) 34 = .ok (.goto (-16), 3) := by decide +kernel
theorem d_1_37 : decode (js_b 1) 37 = .ok (.iconst 0, 1) := by decide +kernel
theorem d_1_38 : decode (js_b 1) 38 = .ok (.istore_n 2, 1) := by decide +kernel
theorem d_1_39 : decode (js_b 1) 39 = .ok (.iload_n 2, 1) := by decide +kernel
theorem d_1_40 : decode (js_b 1) 40 = .ok (.aload_n 0, 1) := by decide +kernel
theorem d_1_41 : decode (js_b 1) 41 = .ok (.getfield 21, 3) := by decide +kernel
theorem d_1_44 : decode (js_b 1) 44 = .ok (.if_icmp .ge 43, 3) := by decide +kernel
theorem d_1_47 : decode (js_b 1) 47 = .ok (.aload_n 0, 1) := by decide +kernel
theorem d_1_48 : decode (js_b 1) 48 = .ok (.getfield 11, 3) := by decide +kernel
theorem d_1_51 : decode (js_b 1) 51 = .ok (.iload_n 2, 1) := by decide +kernel
theorem d_1_52 : decode (js_b 1) 52 = .ok (.aaload, 1) := by decide +kernel
theorem d_1_53 : decode (js_b 1) 53 = .ok (.astore_n 3, 1) := by decide +kernel
theorem d_1_54 : decode (js_b 1) 54 = .ok (.aload_n 3, 1) := by decide +kernel
theorem d_1_55 : decode (js_b 1) 55 = .ok (.aload_n 1, 1) := by decide +kernel
theorem d_1_56 : decode (js_b 1) 56 = .ok (.getfield 11, 3) := by decide +kernel
theorem d_1_59 : decode (js_b 1) 59 = .ok (.iload_n 2, 1) := by decide +kernel
theorem d_1_60 : decode (js_b 1) 60 = .ok (.aaload, 1) := by decide +kernel
theorem d_1_61 : decode (js_b 1) 61 = .ok (.invokevirtual 28, 3) := by decide +kernel
theorem d_1_64 : decode (js_b 1) 64 = .ok (.aload_n 3, 1) := by decide +kernel
theorem d_1_65 : decode (js_b 1) 65 = .ok (.invokevirtual 32, 3) := by decide +kernel
theorem d_1_68 : decode (js_b 1) 68 = .ok (.ifCond .eq 13, 3) := by decide +kernel
theorem d_1_71 : decode (js_b 1) 71 = .ok (.aload_n 0, 1) := by decide +kernel
theorem d_1_72 : decode (js_b 1) 72 = .ok (.getfield 17, 3) := by decide +kernel
theorem d_1_75 : decode (js_b 1) 75 = .ok (.aload_n 3, 1) := by decide +kernel
theorem d_1_76 : decode (js_b 1) 76 = .ok (.getfield 36, 3) := by decide +kernel
theorem d_1_79 : decode (js_b 1) 79 = .ok (.aload_n 3, 1) := by decide +kernel
theorem d_1_80 : decode (js_b 1) 80 = .ok (.aastore, 1) := by decide +kernel
theorem d_1_81 : decode (js_b 1) 81 = .ok (.iinc 2 1, 3) := by decide +kernel
theorem d_1_84 : decode (js_b 1) 84 = .ok (.goto (-45), 3) := by decide +kernel
theorem d_1_87 : decode (js_b 1) 87 = .ok (.return_, 1) := by decide +kernel
theorem ki_1_13 : js_Ok 1 13 (o_pI 0 3 16) := js_St.ok (st_pIown js_c0 (by decide) rfl kw_121 (js_c0.2.2.1 3 (by decide)) d_1_13)
theorem ki_1_10 : js_Ok 1 10 (o_gI 0 3 13) := js_St.ok (st_gI js_c0 (by decide) (by decide) kw_121 d_1_10)
theorem ki_1_9 : js_Ok 1 9 (o_al 1 10) := js_St.ok (st_aloadn rfl d_1_9)
theorem ki_1_8 : js_Ok 1 8 (o_al 0 9) := js_St.ok (st_aloadn rfl d_1_8)
theorem ki_1_5 : js_Ok 1 5 (o_pI 0 2 8) := js_St.ok (st_pIown js_c0 (by decide) rfl kw_117 (js_c0.2.2.1 2 (by decide)) d_1_5)
theorem ki_1_2 : js_Ok 1 2 (o_gI 0 2 5) := js_St.ok (st_gI js_c0 (by decide) (by decide) kw_117 d_1_2)
theorem ki_1_1 : js_Ok 1 1 (o_al 1 2) := js_St.ok (st_aloadn rfl d_1_1)
theorem ki_1_0 : js_Ok 1 0 (o_al 0 1) := js_St.ok (st_aloadn rfl d_1_0)
theorem ki_1_31 : js_Ok 1 31 (o_inc 2 1 34) := js_St.ok (st_iinc rfl (Nat.le_of_ble_eq_true rfl) d_1_31)
theorem ki_1_30 : js_Ok 1 30 (o_sA 111 2 31) := js_St.ok (st_sA (q9 := (RX3, TX3, 5)) rfl (by decide) (by decide) rfl d_1_30)
theorem ki_1_29 : js_Ok 1 29 (o_nc 30) := js_St.ok (st_null d_1_29)
theorem ki_1_28 : js_Ok 1 28 (o_il 2 29) := js_St.ok (st_iloadn rfl d_1_28)
theorem ki_1_25 : js_Ok 1 25 (o_gA 0 1 28) := js_St.ok (st_gA js_c0 (by decide) (by decide) kw_115 d_1_25)
theorem ki_1_24 : js_Ok 1 24 (o_al 0 25) := js_St.ok (st_aloadn rfl d_1_24)
theorem ki_1_21 : js_Ok 1 21 (o_cge 37 24) := js_St.ok (st_icge (by decide) d_1_21)
theorem ki_1_19 : js_Ok 1 19 (o_ic 64 21) := js_St.ok (st_bipush rfl d_1_19)
theorem ki_1_18 : js_Ok 1 18 (o_il 2 19) := js_St.ok (st_iloadn rfl d_1_18)
theorem ki_1_17 : js_Ok 1 17 (o_is 2 18) := js_St.ok (st_istoren rfl (Nat.le_of_ble_eq_true rfl) d_1_17)
theorem ki_1_16 : js_Ok 1 16 (o_ic 0 17) := js_St.ok (st_iconst rfl d_1_16)
theorem ki_1_47 : js_Ok 1 47 (o_al 0 48) := js_St.ok (st_aloadn rfl d_1_47)
theorem ki_1_44 : js_Ok 1 44 (o_cge 87 47) := js_St.ok (st_icge (by decide) d_1_44)
theorem ki_1_41 : js_Ok 1 41 (o_gI 0 2 44) := js_St.ok (st_gI js_c0 (by decide) (by decide) kw_117 d_1_41)
theorem ki_1_40 : js_Ok 1 40 (o_al 0 41) := js_St.ok (st_aloadn rfl d_1_40)
theorem ki_1_39 : js_Ok 1 39 (o_il 2 40) := js_St.ok (st_iloadn rfl d_1_39)
theorem ki_1_38 : js_Ok 1 38 (o_is 2 39) := js_St.ok (st_istoren rfl (Nat.le_of_ble_eq_true rfl) d_1_38)
theorem ki_1_37 : js_Ok 1 37 (o_ic 0 38) := js_St.ok (st_iconst rfl d_1_37)
theorem ki_1_34 : js_Ok 1 34 (o_go 18) := js_St.ok (st_goto (by decide) d_1_34)
theorem ki_1_61 : js_Ok 1 61 (o_cV 23 2 3 64) := ok_cV (site_V kk_1_23 (by decide) kw_291 kw_292 kw_293 (fun t ht => by cases ht; exact Or.inl ⟨by decide, _, rfl, rfl⟩) d_1_61) rfl
theorem ki_1_60 : js_Ok 1 60 (o_lA 111 61) := js_St.ok (st_lA (by decide) rfl d_1_60)
theorem ki_1_59 : js_Ok 1 59 (o_il 2 60) := js_St.ok (st_iloadn rfl d_1_59)
theorem ki_1_56 : js_Ok 1 56 (o_gA 0 0 59) := js_St.ok (st_gA js_c0 (by decide) (by decide) kw_111 d_1_56)
theorem ki_1_55 : js_Ok 1 55 (o_al 1 56) := js_St.ok (st_aloadn rfl d_1_55)
theorem ki_1_54 : js_Ok 1 54 (o_al 3 55) := js_St.ok (st_aloadn rfl d_1_54)
theorem ki_1_53 : js_Ok 1 53 (o_as 3 54) := js_St.ok (st_astoren rfl (Nat.le_of_ble_eq_true rfl) d_1_53)
theorem ki_1_52 : js_Ok 1 52 (o_lA 111 53) := js_St.ok (st_lA (by decide) rfl d_1_52)
theorem ki_1_51 : js_Ok 1 51 (o_il 2 52) := js_St.ok (st_iloadn rfl d_1_51)
theorem ki_1_48 : js_Ok 1 48 (o_gA 0 0 51) := js_St.ok (st_gA js_c0 (by decide) (by decide) kw_111 d_1_48)
theorem ki_1_79 : js_Ok 1 79 (o_al 3 80) := js_St.ok (st_aloadn rfl d_1_79)
theorem ki_1_76 : js_Ok 1 76 (o_gI 2 4 79) := js_St.ok (st_gIn js_c2 (by decide) (by decide) kn_97 d_1_76)
theorem ki_1_75 : js_Ok 1 75 (o_al 3 76) := js_St.ok (st_aloadn rfl d_1_75)
theorem ki_1_72 : js_Ok 1 72 (o_gA 0 1 75) := js_St.ok (st_gA js_c0 (by decide) (by decide) kw_115 d_1_72)
theorem ki_1_71 : js_Ok 1 71 (o_al 0 72) := js_St.ok (st_aloadn rfl d_1_71)
theorem ki_1_68 : js_Ok 1 68 (o_eq 81 71) := js_St.ok (st_ifeq (by decide) d_1_68)
theorem ki_1_65 : js_Ok 1 65 (o_cI 21 1 3 68) := ok_cI (site_V kk_1_21 (by decide) kw_298 kw_299 kw_300 (fun t ht => by cases ht; exact Or.inl ⟨by decide, _, rfl, rfl⟩) d_1_65) rfl
theorem ki_1_64 : js_Ok 1 64 (o_al 3 65) := js_St.ok (st_aloadn rfl d_1_64)
theorem ki_1_87 : js_Ok 1 87 (o_rV) := ok_rV rfl d_1_87
theorem ki_1_84 : js_Ok 1 84 (o_go 39) := js_St.ok (st_goto (by decide) d_1_84)
theorem ki_1_81 : js_Ok 1 81 (o_inc 2 1 84) := js_St.ok (st_iinc rfl (Nat.le_of_ble_eq_true rfl) d_1_81)
theorem ki_1_80 : js_Ok 1 80 (o_sA 111 2 81) := js_St.ok (st_sA (q9 := (RX3, TX3, 5)) rfl (by decide) (by decide) rfl d_1_80)
theorem d_2_0 : decode (js_b 2) 0 = .ok (.iconst 0, 1) := by decide +kernel
theorem d_2_1 : decode (js_b 2) 1 = .ok (.istore_n 2, 1) := by decide +kernel
theorem d_2_2 : decode (js_b 2) 2 = .ok (.iload_n 2, 1) := by decide +kernel
theorem d_2_3 : decode (js_b 2) 3 = .ok (.aload_n 0, 1) := by decide +kernel
theorem d_2_4 : decode (js_b 2) 4 = .ok (.getfield 21, 3) := by decide +kernel
theorem d_2_7 : decode (js_b 2) 7 = .ok (.if_icmp .ge 24, 3) := by decide +kernel
theorem d_2_10 : decode (js_b 2) 10 = .ok (.aload_n 0, 1) := by decide +kernel
theorem d_2_11 : decode (js_b 2) 11 = .ok (.getfield 11, 3) := by decide +kernel
theorem d_2_14 : decode (js_b 2) 14 = .ok (.iload_n 2, 1) := by decide +kernel
theorem d_2_15 : decode (js_b 2) 15 = .ok (.aaload, 1) := by decide +kernel
theorem d_2_16 : decode (js_b 2) 16 = .ok (.getfield 39, 3) := by decide +kernel
theorem d_2_19 : decode (js_b 2) 19 = .ok (.iload_n 1, 1) := by decide +kernel
theorem d_2_20 : decode (js_b 2) 20 = .ok (.if_icmp .ne 5, 3) := by decide +kernel
theorem d_2_23 : decode (js_b 2) 23 = .ok (.iload_n 2, 1) := by decide +kernel
theorem d_2_24 : decode (js_b 2) 24 = .ok (.ireturn, 1) := by decide +kernel
theorem d_2_25 : decode (js_b 2) 25 = .ok (.iinc 2 1, 3) := by decide +kernel
theorem d_2_28 : decode (js_b 2) 28 = .ok (.goto (-26), 3) := by decide +kernel
theorem d_2_31 : decode (js_b 2) 31 = .ok (.iconst (-1), 1) := by decide +kernel
theorem d_2_32 : decode (js_b 2) 32 = .ok (.ireturn, 1) := by decide +kernel
theorem ki_2_15 : js_Ok 2 15 (o_lA 111 16) := js_St.ok (st_lA (by decide) rfl d_2_15)
theorem ki_2_14 : js_Ok 2 14 (o_il 2 15) := js_St.ok (st_iloadn rfl d_2_14)
theorem ki_2_11 : js_Ok 2 11 (o_gA 0 0 14) := js_St.ok (st_gA js_c0 (by decide) (by decide) kw_111 d_2_11)
theorem ki_2_10 : js_Ok 2 10 (o_al 0 11) := js_St.ok (st_aloadn rfl d_2_10)
theorem ki_2_7 : js_Ok 2 7 (o_cge 31 10) := js_St.ok (st_icge (by decide) d_2_7)
theorem ki_2_4 : js_Ok 2 4 (o_gI 0 2 7) := js_St.ok (st_gI js_c0 (by decide) (by decide) kw_117 d_2_4)
theorem ki_2_3 : js_Ok 2 3 (o_al 0 4) := js_St.ok (st_aloadn rfl d_2_3)
theorem ki_2_2 : js_Ok 2 2 (o_il 2 3) := js_St.ok (st_iloadn rfl d_2_2)
theorem ki_2_1 : js_Ok 2 1 (o_is 2 2) := js_St.ok (st_istoren rfl (Nat.le_of_ble_eq_true rfl) d_2_1)
theorem ki_2_0 : js_Ok 2 0 (o_ic 0 1) := js_St.ok (st_iconst rfl d_2_0)
theorem ki_2_31 : js_Ok 2 31 (o_ic (-1) 32) := js_St.ok (st_iconst rfl d_2_31)
theorem ki_2_28 : js_Ok 2 28 (o_go 2) := js_St.ok (st_goto (by decide) d_2_28)
theorem ki_2_25 : js_Ok 2 25 (o_inc 2 1 28) := js_St.ok (st_iinc rfl (Nat.le_of_ble_eq_true rfl) d_2_25)
theorem ki_2_24 : js_Ok 2 24 (o_rI) := ok_rI rfl d_2_24
theorem ki_2_23 : js_Ok 2 23 (o_il 2 24) := js_St.ok (st_iloadn rfl d_2_23)
theorem ki_2_20 : js_Ok 2 20 (o_cne 25 23) := js_St.ok (st_icne (by decide) d_2_20)
theorem ki_2_19 : js_Ok 2 19 (o_il 1 20) := js_St.ok (st_iloadn rfl d_2_19)
theorem ki_2_16 : js_Ok 2 16 (o_gI 2 0 19) := js_St.ok (st_gIn js_c2 (by decide) (by decide) kn_81 d_2_16)
theorem ki_2_32 : js_Ok 2 32 (o_rI) := ok_rI rfl d_2_32
theorem d_3_0 : decode (js_b 3) 0 = .ok (.aload_n 0, 1) := by decide +kernel
theorem d_3_1 : decode (js_b 3) 1 = .ok (.iload_n 1, 1) := by decide +kernel
theorem d_3_2 : decode (js_b 3) 2 = .ok (.invokevirtual 42, 3) := by decide +kernel
theorem d_3_5 : decode (js_b 3) 5 = .ok (.istore_n 2, 1) := by decide +kernel
theorem d_3_6 : decode (js_b 3) 6 = .ok (.iload_n 2, 1) := by decide +kernel
theorem d_3_7 : decode (js_b 3) 7 = .ok (.iconst (-1), 1) := by decide +kernel
theorem d_3_8 : decode (js_b 3) 8 = .ok (.if_icmp .ne 7, 3) := by decide +kernel
theorem d_3_11 : decode (js_b 3) 11 = .ok (.aconst_null, 1) := by decide +kernel
theorem d_3_12 : decode (js_b 3) 12 = .ok (.goto 9, 3) := by decide +kernel
theorem d_3_15 : decode (js_b 3) 15 = .ok (.aload_n 0, 1) := by decide +kernel
theorem d_3_16 : decode (js_b 3) 16 = .ok (.getfield 11, 3) := by decide +kernel
theorem d_3_19 : decode (js_b 3) 19 = .ok (.iload_n 2, 1) := by decide +kernel
theorem d_3_20 : decode (js_b 3) 20 = .ok (.aaload, 1) := by decide +kernel
theorem d_3_21 : decode (js_b 3) 21 = .ok (.areturn, 1) := by decide +kernel
theorem ki_3_15 : js_Ok 3 15 (o_al 0 16) := js_St.ok (st_aloadn rfl d_3_15)
theorem ki_3_12 : js_Ok 3 12 (o_go 21) := js_St.ok (st_goto (by decide) d_3_12)
theorem ki_3_11 : js_Ok 3 11 (o_nc 12) := js_St.ok (st_null d_3_11)
theorem ki_3_8 : js_Ok 3 8 (o_cne 15 11) := js_St.ok (st_icne (by decide) d_3_8)
theorem ki_3_7 : js_Ok 3 7 (o_ic (-1) 8) := js_St.ok (st_iconst rfl d_3_7)
theorem ki_3_6 : js_Ok 3 6 (o_il 2 7) := js_St.ok (st_iloadn rfl d_3_6)
theorem ki_3_5 : js_Ok 3 5 (o_is 2 6) := js_St.ok (st_istoren rfl (Nat.le_of_ble_eq_true rfl) d_3_5)
theorem ki_3_2 : js_Ok 3 2 (o_cI 2 2 1 5) := ok_cI (site_V kk_3_2 (by decide) kw_462 kw_464 ks_2 (fun t ht => by cases ht; exact Or.inl ⟨by decide, _, rfl, rfl⟩) d_3_2) rfl
theorem ki_3_1 : js_Ok 3 1 (o_il 1 2) := js_St.ok (st_iloadn rfl d_3_1)
theorem ki_3_0 : js_Ok 3 0 (o_al 0 1) := js_St.ok (st_aloadn rfl d_3_0)
theorem ki_3_21 : js_Ok 3 21 (o_rA) := ok_rA (Or.inl ⟨_, rfl⟩) rfl d_3_21
theorem ki_3_20 : js_Ok 3 20 (o_lA 111 21) := js_St.ok (st_lA (by decide) rfl d_3_20)
theorem ki_3_19 : js_Ok 3 19 (o_il 2 20) := js_St.ok (st_iloadn rfl d_3_19)
theorem ki_3_16 : js_Ok 3 16 (o_gA 0 0 19) := js_St.ok (st_gA js_c0 (by decide) (by decide) kw_111 d_3_16)
theorem d_4_0 : decode (js_b 4) 0 = .ok (.iconst 0, 1) := by decide +kernel
theorem d_4_1 : decode (js_b 4) 1 = .ok (.istore_n 1, 1) := by decide +kernel
theorem d_4_2 : decode (js_b 4) 2 = .ok (.iconst 0, 1) := by decide +kernel
theorem d_4_3 : decode (js_b 4) 3 = .ok (.istore_n 2, 1) := by decide +kernel
theorem d_4_4 : decode (js_b 4) 4 = .ok (.iload_n 2, 1) := by decide +kernel
theorem d_4_5 : decode (js_b 4) 5 = .ok (.aload_n 0, 1) := by decide +kernel
theorem d_4_6 : decode (js_b 4) 6 = .ok (.getfield 21, 3) := by decide +kernel
theorem d_4_9 : decode (js_b 4) 9 = .ok (.if_icmp .ge 24, 3) := by decide +kernel
theorem d_4_12 : decode (js_b 4) 12 = .ok (.aload_n 0, 1) := by decide +kernel
theorem d_4_13 : decode (js_b 4) 13 = .ok (.getfield 11, 3) := by decide +kernel
theorem d_4_16 : decode (js_b 4) 16 = .ok (.iload_n 2, 1) := by decide +kernel
theorem d_4_17 : decode (js_b 4) 17 = .ok (.aaload, 1) := by decide +kernel
theorem d_4_18 : decode (js_b 4) 18 = .ok (.invokevirtual 32, 3) := by decide +kernel
theorem d_4_21 : decode (js_b 4) 21 = .ok (.ifCond .eq 6, 3) := by decide +kernel
theorem d_4_24 : decode (js_b 4) 24 = .ok (.iinc 1 1, 3) := by decide +kernel
theorem d_4_27 : decode (js_b 4) 27 = .ok (.iinc 2 1, 3) := by decide +kernel
theorem d_4_30 : decode (js_b 4) 30 = .ok (.goto (-26), 3) := by decide +kernel
theorem d_4_33 : decode (js_b 4) 33 = .ok (.iload_n 1, 1) := by decide +kernel
theorem d_4_34 : decode (js_b 4) 34 = .ok (.ireturn, 1) := by decide +kernel
theorem ki_4_13 : js_Ok 4 13 (o_gA 0 0 16) := js_St.ok (st_gA js_c0 (by decide) (by decide) kw_111 d_4_13)
theorem ki_4_12 : js_Ok 4 12 (o_al 0 13) := js_St.ok (st_aloadn rfl d_4_12)
theorem ki_4_9 : js_Ok 4 9 (o_cge 33 12) := js_St.ok (st_icge (by decide) d_4_9)
theorem ki_4_6 : js_Ok 4 6 (o_gI 0 2 9) := js_St.ok (st_gI js_c0 (by decide) (by decide) kw_117 d_4_6)
theorem ki_4_5 : js_Ok 4 5 (o_al 0 6) := js_St.ok (st_aloadn rfl d_4_5)
theorem ki_4_4 : js_Ok 4 4 (o_il 2 5) := js_St.ok (st_iloadn rfl d_4_4)
theorem ki_4_3 : js_Ok 4 3 (o_is 2 4) := js_St.ok (st_istoren rfl (Nat.le_of_ble_eq_true rfl) d_4_3)
theorem ki_4_2 : js_Ok 4 2 (o_ic 0 3) := js_St.ok (st_iconst rfl d_4_2)
theorem ki_4_1 : js_Ok 4 1 (o_is 1 2) := js_St.ok (st_istoren rfl (Nat.le_of_ble_eq_true rfl) d_4_1)
theorem ki_4_0 : js_Ok 4 0 (o_ic 0 1) := js_St.ok (st_iconst rfl d_4_0)
theorem ki_4_30 : js_Ok 4 30 (o_go 4) := js_St.ok (st_goto (by decide) d_4_30)
theorem ki_4_27 : js_Ok 4 27 (o_inc 2 1 30) := js_St.ok (st_iinc rfl (Nat.le_of_ble_eq_true rfl) d_4_27)
theorem ki_4_24 : js_Ok 4 24 (o_inc 1 1 27) := js_St.ok (st_iinc rfl (Nat.le_of_ble_eq_true rfl) d_4_24)
theorem ki_4_21 : js_Ok 4 21 (o_eq 27 24) := js_St.ok (st_ifeq (by decide) d_4_21)
theorem ki_4_18 : js_Ok 4 18 (o_cI 21 1 3 21) := ok_cI (site_V kk_4_21 (by decide) kw_298 kw_299 kw_300 (fun t ht => by cases ht; exact Or.inl ⟨by decide, _, rfl, rfl⟩) d_4_18) rfl
theorem ki_4_17 : js_Ok 4 17 (o_lA 111 18) := js_St.ok (st_lA (by decide) rfl d_4_17)
theorem ki_4_16 : js_Ok 4 16 (o_il 2 17) := js_St.ok (st_iloadn rfl d_4_16)
theorem ki_4_34 : js_Ok 4 34 (o_rI) := ok_rI rfl d_4_34
theorem ki_4_33 : js_Ok 4 33 (o_il 1 34) := js_St.ok (st_iloadn rfl d_4_33)
theorem d_5_0 : decode (js_b 5) 0 = .ok (.iconst 0, 1) := by decide +kernel
theorem d_5_1 : decode (js_b 5) 1 = .ok (.istore_n 2, 1) := by decide +kernel
theorem d_5_2 : decode (js_b 5) 2 = .ok (.iconst 0, 1) := by decide +kernel
theorem d_5_3 : decode (js_b 5) 3 = .ok (.istore_n 3, 1) := by decide +kernel
theorem d_5_4 : decode (js_b 5) 4 = .ok (.iload_n 3, 1) := by decide +kernel
theorem d_5_5 : decode (js_b 5) 5 = .ok (.aload_n 0, 1) := by decide +kernel
theorem d_5_6 : decode (js_b 5) 6 = .ok (.getfield 21, 3) := by decide +kernel
theorem d_5_9 : decode (js_b 5) 9 = .ok (.if_icmp .ge 39, 3) := by decide +kernel
theorem d_5_12 : decode (js_b 5) 12 = .ok (.aload_n 0, 1) := by decide +kernel
theorem d_5_13 : decode (js_b 5) 13 = .ok (.getfield 11, 3) := by decide +kernel
theorem d_5_16 : decode (js_b 5) 16 = .ok (.iload_n 3, 1) := by decide +kernel
theorem d_5_17 : decode (js_b 5) 17 = .ok (.aaload, 1) := by decide +kernel
theorem d_5_18 : decode (js_b 5) 18 = .ok (.invokevirtual 32, 3) := by decide +kernel
theorem d_5_21 : decode (js_b 5) 21 = .ok (.ifCond .eq 6, 3) := by decide +kernel
theorem d_5_24 : decode (js_b 5) 24 = .ok (.goto 18, 3) := by decide +kernel
theorem d_5_27 : decode (js_b 5) 27 = .ok (.iload_n 2, 1) := by decide +kernel
theorem d_5_28 : decode (js_b 5) 28 = .ok (.iload_n 1, 1) := by decide +kernel
theorem d_5_29 : decode (js_b 5) 29 = .ok (.if_icmp .ne 10, 3) := by decide +kernel
theorem d_5_32 : decode (js_b 5) 32 = .ok (.aload_n 0, 1) := by decide +kernel
theorem d_5_33 : decode (js_b 5) 33 = .ok (.getfield 11, 3) := by decide +kernel
theorem d_5_36 : decode (js_b 5) 36 = .ok (.iload_n 3, 1) := by decide +kernel
theorem d_5_37 : decode (js_b 5) 37 = .ok (.aaload, 1) := by decide +kernel
theorem d_5_38 : decode (js_b 5) 38 = .ok (.areturn, 1) := by decide +kernel
theorem d_5_39 : decode (js_b 5) 39 = .ok (.iinc 2 1, 3) := by decide +kernel
theorem d_5_42 : decode (js_b 5) 42 = .ok (.iinc 3 1, 3) := by decide +kernel
theorem d_5_45 : decode (js_b 5) 45 = .ok (.goto (-41), 3) := by decide +kernel
theorem d_5_48 : decode (js_b 5) 48 = .ok (.aconst_null, 1) := by decide +kernel
theorem d_5_49 : decode (js_b 5) 49 = .ok (.areturn, 1) := by decide +kernel
theorem ki_5_13 : js_Ok 5 13 (o_gA 0 0 16) := js_St.ok (st_gA js_c0 (by decide) (by decide) kw_111 d_5_13)
theorem ki_5_12 : js_Ok 5 12 (o_al 0 13) := js_St.ok (st_aloadn rfl d_5_12)
theorem ki_5_9 : js_Ok 5 9 (o_cge 48 12) := js_St.ok (st_icge (by decide) d_5_9)
theorem ki_5_6 : js_Ok 5 6 (o_gI 0 2 9) := js_St.ok (st_gI js_c0 (by decide) (by decide) kw_117 d_5_6)
theorem ki_5_5 : js_Ok 5 5 (o_al 0 6) := js_St.ok (st_aloadn rfl d_5_5)
theorem ki_5_4 : js_Ok 5 4 (o_il 3 5) := js_St.ok (st_iloadn rfl d_5_4)
theorem ki_5_3 : js_Ok 5 3 (o_is 3 4) := js_St.ok (st_istoren rfl (Nat.le_of_ble_eq_true rfl) d_5_3)
theorem ki_5_2 : js_Ok 5 2 (o_ic 0 3) := js_St.ok (st_iconst rfl d_5_2)
theorem ki_5_1 : js_Ok 5 1 (o_is 2 2) := js_St.ok (st_istoren rfl (Nat.le_of_ble_eq_true rfl) d_5_1)
theorem ki_5_0 : js_Ok 5 0 (o_ic 0 1) := js_St.ok (st_iconst rfl d_5_0)
theorem ki_5_29 : js_Ok 5 29 (o_cne 39 32) := js_St.ok (st_icne (by decide) d_5_29)
theorem ki_5_28 : js_Ok 5 28 (o_il 1 29) := js_St.ok (st_iloadn rfl d_5_28)
theorem ki_5_27 : js_Ok 5 27 (o_il 2 28) := js_St.ok (st_iloadn rfl d_5_27)
theorem ki_5_24 : js_Ok 5 24 (o_go 42) := js_St.ok (st_goto (by decide) d_5_24)
theorem ki_5_21 : js_Ok 5 21 (o_eq 27 24) := js_St.ok (st_ifeq (by decide) d_5_21)
theorem ki_5_18 : js_Ok 5 18 (o_cI 21 1 3 21) := ok_cI (site_V kk_5_21 (by decide) kw_298 kw_299 kw_300 (fun t ht => by cases ht; exact Or.inl ⟨by decide, _, rfl, rfl⟩) d_5_18) rfl
theorem ki_5_17 : js_Ok 5 17 (o_lA 111 18) := js_St.ok (st_lA (by decide) rfl d_5_17)
theorem ki_5_16 : js_Ok 5 16 (o_il 3 17) := js_St.ok (st_iloadn rfl d_5_16)
theorem ki_5_45 : js_Ok 5 45 (o_go 4) := js_St.ok (st_goto (by decide) d_5_45)
theorem ki_5_42 : js_Ok 5 42 (o_inc 3 1 45) := js_St.ok (st_iinc rfl (Nat.le_of_ble_eq_true rfl) d_5_42)
theorem ki_5_39 : js_Ok 5 39 (o_inc 2 1 42) := js_St.ok (st_iinc rfl (Nat.le_of_ble_eq_true rfl) d_5_39)
theorem ki_5_38 : js_Ok 5 38 (o_rA) := ok_rA (Or.inl ⟨_, rfl⟩) rfl d_5_38
theorem ki_5_37 : js_Ok 5 37 (o_lA 111 38) := js_St.ok (st_lA (by decide) rfl d_5_37)
theorem ki_5_36 : js_Ok 5 36 (o_il 3 37) := js_St.ok (st_iloadn rfl d_5_36)
theorem ki_5_33 : js_Ok 5 33 (o_gA 0 0 36) := js_St.ok (st_gA js_c0 (by decide) (by decide) kw_111 d_5_33)
theorem ki_5_32 : js_Ok 5 32 (o_al 0 33) := js_St.ok (st_aloadn rfl d_5_32)
theorem ki_5_49 : js_Ok 5 49 (o_rA) := ok_rA (Or.inl ⟨_, rfl⟩) rfl d_5_49
theorem ki_5_48 : js_Ok 5 48 (o_nc 49) := js_St.ok (st_null d_5_48)
theorem d_6_0 : decode (js_b 6) 0 = .ok (.iload_n 1, 1) := by decide +kernel
theorem d_6_1 : decode (js_b 6) 1 = .ok (.invokestatic 46, 3) := by decide +kernel
theorem d_6_4 : decode (js_b 6) 4 = .ok (.ifCond .eq 41, 3) := by decide +kernel
theorem d_6_7 : decode (js_b 6) 7 = .ok (.iload_n 2, 1) := by decide +kernel
theorem d_6_8 : decode (js_b 6) 8 = .ok (.bipush 15, 2) := by decide +kernel
theorem d_6_10 : decode (js_b 6) 10 = .ok (.invokestatic 50, 3) := by decide +kernel
theorem d_6_13 : decode (js_b 6) 13 = .ok (.ifCond .eq 32, 3) := by decide +kernel
theorem d_6_16 : decode (js_b 6) 16 = .ok (.iload_n 3, 1) := by decide +kernel
theorem d_6_17 : decode (js_b 6) 17 = .ok (.bipush 15, 2) := by decide +kernel
theorem d_6_19 : decode (js_b 6) 19 = .ok (.invokestatic 50, 3) := by decide +kernel
theorem d_6_22 : decode (js_b 6) 22 = .ok (.ifCond .eq 23, 3) := by decide +kernel
theorem d_6_25 : decode (js_b 6) 25 = .ok (.iload 4, 2) := by decide +kernel
theorem d_6_27 : decode (js_b 6) 27 = .ok (.bipush 15, 2) := by decide +kernel
theorem d_6_29 : decode (js_b 6) 29 = .ok (.invokestatic 50, 3) := by decide +kernel
theorem d_6_32 : decode (js_b 6) 32 = .ok (.ifCond .eq 13, 3) := by decide +kernel
theorem d_6_35 : decode (js_b 6) 35 = .ok (.iload 5, 2) := by decide +kernel
theorem d_6_37 : decode (js_b 6) 37 = .ok (.bipush 15, 2) := by decide +kernel
theorem d_6_39 : decode (js_b 6) 39 = .ok (.invokestatic 50, 3) := by decide +kernel
theorem d_6_42 : decode (js_b 6) 42 = .ok (.ifCond .ne 6, 3) := by decide +kernel
theorem d_6_45 : decode (js_b 6) 45 = .ok (.bipush (-3), 2) := by decide +kernel
theorem d_6_47 : decode (js_b 6) 47 = .ok (.ireturn, 1) := by decide +kernel
theorem d_6_48 : decode (js_b 6) 48 = .ok (.aload_n 0, 1) := by decide +kernel
theorem d_6_49 : decode (js_b 6) 49 = .ok (.getfield 21, 3) := by decide +kernel
theorem d_6_52 : decode (js_b 6) 52 = .ok (.bipush 20, 2) := by decide +kernel
theorem d_6_54 : decode (js_b 6) 54 = .ok (.if_icmp .lt 6, 3) := by decide +kernel
theorem d_6_57 : decode (js_b 6) 57 = .ok (.bipush (-4), 2) := by decide +kernel
theorem d_6_59 : decode (js_b 6) 59 = .ok (.ireturn, 1) := by decide +kernel
theorem d_6_60 : decode (js_b 6) 60 = .ok (.aload_n 0, 1) := by decide +kernel
theorem d_6_61 : decode (js_b 6) 61 = .ok (.getfield 11, 3) := by decide +kernel
theorem d_6_64 : decode (js_b 6) 64 = .ok (.aload_n 0, 1) := by decide +kernel
theorem d_6_65 : decode (js_b 6) 65 = .ok (.getfield 21, 3) := by decide +kernel
theorem d_6_68 : decode (js_b 6) 68 = .ok (.aaload, 1) := by decide +kernel
theorem d_6_69 : decode (js_b 6) 69 = .ok (.astore 6, 2) := by decide +kernel
theorem d_6_71 : decode (js_b 6) 71 = .ok (.aload 6, 2) := by decide +kernel
theorem d_6_73 : decode (js_b 6) 73 = .ok (.aload_n 0, 1) := by decide +kernel
theorem d_6_74 : decode (js_b 6) 74 = .ok (.getfield 25, 3) := by decide +kernel
theorem d_6_77 : decode (js_b 6) 77 = .ok (.putfield 39, 3) := by decide +kernel
theorem d_6_80 : decode (js_b 6) 80 = .ok (.aload 6, 2) := by decide +kernel
theorem d_6_82 : decode (js_b 6) 82 = .ok (.iload_n 1, 1) := by decide +kernel
theorem d_6_83 : decode (js_b 6) 83 = .ok (.putfield 54, 3) := by decide +kernel
theorem d_6_86 : decode (js_b 6) 86 = .ok (.aload 6, 2) := by decide +kernel
theorem d_6_88 : decode (js_b 6) 88 = .ok (.getfield 58, 3) := by decide +kernel
theorem d_6_91 : decode (js_b 6) 91 = .ok (.iconst 0, 1) := by decide +kernel
theorem d_6_92 : decode (js_b 6) 92 = .ok (.iload_n 2, 1) := by decide +kernel
theorem d_6_93 : decode (js_b 6) 93 = .ok (.iastore, 1) := by decide +kernel
theorem d_6_94 : decode (js_b 6) 94 = .ok (.aload 6, 2) := by decide +kernel
theorem d_6_96 : decode (js_b 6) 96 = .ok (.getfield 58, 3) := by decide +kernel
theorem d_6_99 : decode (js_b 6) 99 = .ok (.iconst 1, 1) := by decide +kernel
theorem d_6_100 : decode (js_b 6) 100 = .ok (.iload_n 3, 1) := by decide +kernel
theorem d_6_101 : decode (js_b 6) 101 = .ok (.iastore, 1) := by decide +kernel
theorem d_6_102 : decode (js_b 6) 102 = .ok (.aload 6, 2) := by decide +kernel
theorem d_6_104 : decode (js_b 6) 104 = .ok (.getfield 58, 3) := by decide +kernel
theorem d_6_107 : decode (js_b 6) 107 = .ok (.iconst 2, 1) := by decide +kernel
theorem d_6_108 : decode (js_b 6) 108 = .ok (.iload 4, 2) := by decide +kernel
theorem d_6_110 : decode (js_b 6) 110 = .ok (.iastore, 1) := by decide +kernel
theorem d_6_111 : decode (js_b 6) 111 = .ok (.aload 6, 2) := by decide +kernel
theorem d_6_113 : decode (js_b 6) 113 = .ok (.getfield 58, 3) := by decide +kernel
theorem d_6_116 : decode (js_b 6) 116 = .ok (.iconst 3, 1) := by decide +kernel
theorem d_6_117 : decode (js_b 6) 117 = .ok (.iload 5, 2) := by decide +kernel
theorem d_6_119 : decode (js_b 6) 119 = .ok (.iastore, 1) := by decide +kernel
theorem d_6_120 : decode (js_b 6) 120 = .ok (.aload 6, 2) := by decide +kernel
theorem d_6_122 : decode (js_b 6) 122 = .ok (.iconst 0, 1) := by decide +kernel
theorem d_6_123 : decode (js_b 6) 123 = .ok (.putfield 62, 3) := by decide +kernel
theorem d_6_126 : decode (js_b 6) 126 = .ok (.aload 6, 2) := by decide +kernel
theorem d_6_128 : decode (js_b 6) 128 = .ok (.iconst (-1), 1) := by decide +kernel
theorem d_6_129 : decode (js_b 6) 129 = .ok (.putfield 36, 3) := by decide +kernel
theorem d_6_132 : decode (js_b 6) 132 = .ok (.aload_n 0, 1) := by decide +kernel
theorem d_6_133 : decode (js_b 6) 133 = .ok (.dup, 1) := by decide +kernel
theorem d_6_134 : decode (js_b 6) 134 = .ok (.getfield 21, 3) := by decide +kernel
theorem d_6_137 : decode (js_b 6) 137 = .ok (.iconst 1, 1) := by decide +kernel
theorem d_6_138 : decode (js_b 6) 138 = .ok (.iadd, 1) := by decide +kernel
theorem d_6_139 : decode (js_b 6) 139 = .ok (.putfield 21, 3) := by decide +kernel
theorem d_6_142 : decode (js_b 6) 142 = .ok (.aload_n 0, 1) := by decide +kernel
theorem d_6_143 : decode (js_b 6) 143 = .ok (.dup, 1) := by decide +kernel
theorem d_6_144 : decode (js_b 6) 144 = .ok (.getfield 25, 3) := by decide +kernel
theorem d_6_147 : decode (js_b 6) 147 = .ok (.iconst 1, 1) := by decide +kernel
theorem d_6_148 : decode (js_b 6) 148 = .ok (.iadd, 1) := by decide +kernel
theorem d_6_149 : decode (js_b 6) 149 = .ok (.putfield 25, 3) := by decide +kernel
theorem d_6_152 : decode (js_b 6) 152 = .ok (.aload 6, 2) := by decide +kernel
theorem d_6_154 : decode (js_b 6) 154 = .ok (.getfield 39, 3) := by decide +kernel
theorem d_6_157 : decode (js_b 6) 157 = .ok (.ireturn, 1) := by decide +kernel
theorem ki_6_13 : js_Ok 6 13 (o_eq 45 16) := js_St.ok (st_ifeq (by decide) d_6_13)
theorem ki_6_10 : js_Ok 6 10 (o_cI 126 2 0 13) := ok_cI (site_SN kk_6_126 kn_309 kw_310 d_6_10) rfl
theorem ki_6_8 : js_Ok 6 8 (o_ic 15 10) := js_St.ok (st_bipush rfl d_6_8)
theorem ki_6_7 : js_Ok 6 7 (o_il 2 8) := js_St.ok (st_iloadn rfl d_6_7)
theorem ki_6_4 : js_Ok 6 4 (o_eq 45 7) := js_St.ok (st_ifeq (by decide) d_6_4)
theorem ki_6_1 : js_Ok 6 1 (o_cI 127 1 0 4) := ok_cI (site_SN kk_6_127 kn_306 kw_307 d_6_1) rfl
theorem ki_6_0 : js_Ok 6 0 (o_il 1 1) := js_St.ok (st_iloadn rfl d_6_0)
theorem ki_6_29 : js_Ok 6 29 (o_cI 126 2 0 32) := ok_cI (site_SN kk_6_126 kn_309 kw_310 d_6_29) rfl
theorem ki_6_27 : js_Ok 6 27 (o_ic 15 29) := js_St.ok (st_bipush rfl d_6_27)
theorem ki_6_25 : js_Ok 6 25 (o_il 4 27) := js_St.ok (st_iload d_6_25)
theorem ki_6_22 : js_Ok 6 22 (o_eq 45 25) := js_St.ok (st_ifeq (by decide) d_6_22)
theorem ki_6_19 : js_Ok 6 19 (o_cI 126 2 0 22) := ok_cI (site_SN kk_6_126 kn_309 kw_310 d_6_19) rfl
theorem ki_6_17 : js_Ok 6 17 (o_ic 15 19) := js_St.ok (st_bipush rfl d_6_17)
theorem ki_6_16 : js_Ok 6 16 (o_il 3 17) := js_St.ok (st_iloadn rfl d_6_16)
theorem ki_6_47 : js_Ok 6 47 (o_rI) := ok_rI rfl d_6_47
theorem ki_6_45 : js_Ok 6 45 (o_ic (-3) 47) := js_St.ok (st_bipush rfl d_6_45)
theorem ki_6_42 : js_Ok 6 42 (o_ne 48 45) := js_St.ok (st_ifne (by decide) d_6_42)
theorem ki_6_39 : js_Ok 6 39 (o_cI 126 2 0 42) := ok_cI (site_SN kk_6_126 kn_309 kw_310 d_6_39) rfl
theorem ki_6_37 : js_Ok 6 37 (o_ic 15 39) := js_St.ok (st_bipush rfl d_6_37)
theorem ki_6_35 : js_Ok 6 35 (o_il 5 37) := js_St.ok (st_iload d_6_35)
theorem ki_6_32 : js_Ok 6 32 (o_eq 45 35) := js_St.ok (st_ifeq (by decide) d_6_32)
theorem ki_6_61 : js_Ok 6 61 (o_gA 0 0 64) := js_St.ok (st_gA js_c0 (by decide) (by decide) kw_111 d_6_61)
theorem ki_6_60 : js_Ok 6 60 (o_al 0 61) := js_St.ok (st_aloadn rfl d_6_60)
theorem ki_6_59 : js_Ok 6 59 (o_rI) := ok_rI rfl d_6_59
theorem ki_6_57 : js_Ok 6 57 (o_ic (-4) 59) := js_St.ok (st_bipush rfl d_6_57)
theorem ki_6_54 : js_Ok 6 54 (o_clt 60 57) := js_St.ok (st_iclt (by decide) d_6_54)
theorem ki_6_52 : js_Ok 6 52 (o_ic 20 54) := js_St.ok (st_bipush rfl d_6_52)
theorem ki_6_49 : js_Ok 6 49 (o_gI 0 2 52) := js_St.ok (st_gI js_c0 (by decide) (by decide) kw_117 d_6_49)
theorem ki_6_48 : js_Ok 6 48 (o_al 0 49) := js_St.ok (st_aloadn rfl d_6_48)
theorem ki_6_77 : js_Ok 6 77 (o_pI 2 0 80) := js_St.ok (st_pInst js_c2 (by decide) rfl kn_81 (js_c2.2.2.1 0 (by decide)) d_6_77)
theorem ki_6_74 : js_Ok 6 74 (o_gI 0 3 77) := js_St.ok (st_gI js_c0 (by decide) (by decide) kw_121 d_6_74)
theorem ki_6_73 : js_Ok 6 73 (o_al 0 74) := js_St.ok (st_aloadn rfl d_6_73)
theorem ki_6_71 : js_Ok 6 71 (o_al 6 73) := js_St.ok (st_aload d_6_71)
theorem ki_6_69 : js_Ok 6 69 (o_as 6 71) := js_St.ok (st_astore (Nat.le_of_ble_eq_true rfl) d_6_69)
theorem ki_6_68 : js_Ok 6 68 (o_lA 111 69) := js_St.ok (st_lA (by decide) rfl d_6_68)
theorem ki_6_65 : js_Ok 6 65 (o_gI 0 2 68) := js_St.ok (st_gI js_c0 (by decide) (by decide) kw_117 d_6_65)
theorem ki_6_64 : js_Ok 6 64 (o_al 0 65) := js_St.ok (st_aloadn rfl d_6_64)
theorem ki_6_94 : js_Ok 6 94 (o_al 6 96) := js_St.ok (st_aload d_6_94)
theorem ki_6_93 : js_Ok 6 93 (o_sI 100 94) := js_St.ok (st_sI d_6_93)
theorem ki_6_92 : js_Ok 6 92 (o_il 2 93) := js_St.ok (st_iloadn rfl d_6_92)
theorem ki_6_91 : js_Ok 6 91 (o_ic 0 92) := js_St.ok (st_iconst rfl d_6_91)
theorem ki_6_88 : js_Ok 6 88 (o_gA 2 2 91) := js_St.ok (st_gAn js_c2 (by decide) (by decide) kn_90 d_6_88)
theorem ki_6_86 : js_Ok 6 86 (o_al 6 88) := js_St.ok (st_aload d_6_86)
theorem ki_6_83 : js_Ok 6 83 (o_pC 2 1 86) := js_St.ok (st_pCnst js_c2 (by decide) rfl kn_86 (js_c2.2.2.1 1 (by decide)) d_6_83)
theorem ki_6_82 : js_Ok 6 82 (o_il 1 83) := js_St.ok (st_iloadn rfl d_6_82)
theorem ki_6_80 : js_Ok 6 80 (o_al 6 82) := js_St.ok (st_aload d_6_80)
theorem ki_6_111 : js_Ok 6 111 (o_al 6 113) := js_St.ok (st_aload d_6_111)
theorem ki_6_110 : js_Ok 6 110 (o_sI 100 111) := js_St.ok (st_sI d_6_110)
theorem ki_6_108 : js_Ok 6 108 (o_il 4 110) := js_St.ok (st_iload d_6_108)
theorem ki_6_107 : js_Ok 6 107 (o_ic 2 108) := js_St.ok (st_iconst rfl d_6_107)
theorem ki_6_104 : js_Ok 6 104 (o_gA 2 2 107) := js_St.ok (st_gAn js_c2 (by decide) (by decide) kn_90 d_6_104)
theorem ki_6_102 : js_Ok 6 102 (o_al 6 104) := js_St.ok (st_aload d_6_102)
theorem ki_6_101 : js_Ok 6 101 (o_sI 100 102) := js_St.ok (st_sI d_6_101)
theorem ki_6_100 : js_Ok 6 100 (o_il 3 101) := js_St.ok (st_iloadn rfl d_6_100)
theorem ki_6_99 : js_Ok 6 99 (o_ic 1 100) := js_St.ok (st_iconst rfl d_6_99)
theorem ki_6_96 : js_Ok 6 96 (o_gA 2 2 99) := js_St.ok (st_gAn js_c2 (by decide) (by decide) kn_90 d_6_96)
theorem ki_6_126 : js_Ok 6 126 (o_al 6 128) := js_St.ok (st_aload d_6_126)
theorem ki_6_123 : js_Ok 6 123 (o_pI 2 3 126) := js_St.ok (st_pInst js_c2 (by decide) rfl kn_92 (js_c2.2.2.1 3 (by decide)) d_6_123)
theorem ki_6_122 : js_Ok 6 122 (o_ic 0 123) := js_St.ok (st_iconst rfl d_6_122)
theorem ki_6_120 : js_Ok 6 120 (o_al 6 122) := js_St.ok (st_aload d_6_120)
theorem ki_6_119 : js_Ok 6 119 (o_sI 100 120) := js_St.ok (st_sI d_6_119)
theorem ki_6_117 : js_Ok 6 117 (o_il 5 119) := js_St.ok (st_iload d_6_117)
theorem ki_6_116 : js_Ok 6 116 (o_ic 3 117) := js_St.ok (st_iconst rfl d_6_116)
theorem ki_6_113 : js_Ok 6 113 (o_gA 2 2 116) := js_St.ok (st_gAn js_c2 (by decide) (by decide) kn_90 d_6_113)
theorem ki_6_143 : js_Ok 6 143 (o_dup 144) := js_St.ok (st_dup d_6_143)
theorem ki_6_142 : js_Ok 6 142 (o_al 0 143) := js_St.ok (st_aloadn rfl d_6_142)
theorem ki_6_139 : js_Ok 6 139 (o_pI 0 2 142) := js_St.ok (st_pIown js_c0 (by decide) rfl kw_117 (js_c0.2.2.1 2 (by decide)) d_6_139)
theorem ki_6_138 : js_Ok 6 138 (o_b2 (fun x y => x + y) 139) := js_St.ok (st_iadd d_6_138)
theorem ki_6_137 : js_Ok 6 137 (o_ic 1 138) := js_St.ok (st_iconst rfl d_6_137)
theorem ki_6_134 : js_Ok 6 134 (o_gI 0 2 137) := js_St.ok (st_gI js_c0 (by decide) (by decide) kw_117 d_6_134)
theorem ki_6_133 : js_Ok 6 133 (o_dup 134) := js_St.ok (st_dup d_6_133)
theorem ki_6_132 : js_Ok 6 132 (o_al 0 133) := js_St.ok (st_aloadn rfl d_6_132)
theorem ki_6_129 : js_Ok 6 129 (o_pI 2 4 132) := js_St.ok (st_pInst js_c2 (by decide) rfl kn_97 (js_c2.2.2.1 4 (by decide)) d_6_129)
theorem ki_6_128 : js_Ok 6 128 (o_ic (-1) 129) := js_St.ok (st_iconst rfl d_6_128)
theorem ki_6_157 : js_Ok 6 157 (o_rI) := ok_rI rfl d_6_157
theorem ki_6_154 : js_Ok 6 154 (o_gI 2 0 157) := js_St.ok (st_gIn js_c2 (by decide) (by decide) kn_81 d_6_154)
theorem ki_6_152 : js_Ok 6 152 (o_al 6 154) := js_St.ok (st_aload d_6_152)
theorem ki_6_149 : js_Ok 6 149 (o_pI 0 3 152) := js_St.ok (st_pIown js_c0 (by decide) rfl kw_121 (js_c0.2.2.1 3 (by decide)) d_6_149)
theorem ki_6_148 : js_Ok 6 148 (o_b2 (fun x y => x + y) 149) := js_St.ok (st_iadd d_6_148)
theorem ki_6_147 : js_Ok 6 147 (o_ic 1 148) := js_St.ok (st_iconst rfl d_6_147)
theorem ki_6_144 : js_Ok 6 144 (o_gI 0 3 147) := js_St.ok (st_gI js_c0 (by decide) (by decide) kw_121 d_6_144)
theorem d_7_0 : decode (js_b 7) 0 = .ok (.aload_n 0, 1) := by decide +kernel
theorem d_7_1 : decode (js_b 7) 1 = .ok (.iload_n 1, 1) := by decide +kernel
theorem d_7_2 : decode (js_b 7) 2 = .ok (.invokevirtual 42, 3) := by decide +kernel
theorem d_7_5 : decode (js_b 7) 5 = .ok (.istore_n 2, 1) := by decide +kernel
theorem d_7_6 : decode (js_b 7) 6 = .ok (.iload_n 2, 1) := by decide +kernel
theorem d_7_7 : decode (js_b 7) 7 = .ok (.iconst (-1), 1) := by decide +kernel
theorem d_7_8 : decode (js_b 7) 8 = .ok (.if_icmp .ne 5, 3) := by decide +kernel
theorem d_7_11 : decode (js_b 7) 11 = .ok (.iconst (-1), 1) := by decide +kernel
theorem d_7_12 : decode (js_b 7) 12 = .ok (.ireturn, 1) := by decide +kernel
theorem d_7_13 : decode (js_b 7) 13 = .ok (.aload_n 0, 1) := by decide +kernel
theorem d_7_14 : decode (js_b 7) 14 = .ok (.getfield 11, 3) := by decide +kernel
theorem d_7_17 : decode (js_b 7) 17 = .ok (.iload_n 2, 1) := by decide +kernel
theorem d_7_18 : decode (js_b 7) 18 = .ok (.aaload, 1) := by decide +kernel
theorem d_7_19 : decode (js_b 7) 19 = .ok (.astore_n 3, 1) := by decide +kernel
theorem d_7_20 : decode (js_b 7) 20 = .ok (.aload_n 3, 1) := by decide +kernel
theorem d_7_21 : decode (js_b 7) 21 = .ok (.invokevirtual 32, 3) := by decide +kernel
theorem d_7_24 : decode (js_b 7) 24 = .ok (.ifCond .eq 6, 3) := by decide +kernel
theorem d_7_27 : decode (js_b 7) 27 = .ok (.bipush (-4), 2) := by decide +kernel
theorem d_7_29 : decode (js_b 7) 29 = .ok (.ireturn, 1) := by decide +kernel
theorem d_7_30 : decode (js_b 7) 30 = .ok (.aload_n 0, 1) := by decide +kernel
theorem d_7_31 : decode (js_b 7) 31 = .ok (.dup, 1) := by decide +kernel
theorem d_7_32 : decode (js_b 7) 32 = .ok (.getfield 21, 3) := by decide +kernel
theorem d_7_35 : decode (js_b 7) 35 = .ok (.iconst 1, 1) := by decide +kernel
theorem d_7_36 : decode (js_b 7) 36 = .ok (.isub, 1) := by decide +kernel
theorem d_7_37 : decode (js_b 7) 37 = .ok (.putfield 21, 3) := by decide +kernel
theorem d_7_40 : decode (js_b 7) 40 = .ok (.iload_n 2, 1) := by decide +kernel
theorem d_7_41 : decode (js_b 7) 41 = .ok (.istore 4, 2) := by decide +kernel
theorem d_7_43 : decode (js_b 7) 43 = .ok (.iload 4, 2) := by decide +kernel
theorem d_7_45 : decode (js_b 7) 45 = .ok (.aload_n 0, 1) := by decide +kernel
theorem d_7_46 : decode (js_b 7) 46 = .ok (.getfield 21, 3) := by decide +kernel
theorem d_7_49 : decode (js_b 7) 49 = .ok (.if_icmp .ge 25, 3) := by decide +kernel
theorem d_7_52 : decode (js_b 7) 52 = .ok (.aload_n 0, 1) := by decide +kernel
theorem d_7_53 : decode (js_b 7) 53 = .ok (.getfield 11, 3) := by decide +kernel
theorem d_7_56 : decode (js_b 7) 56 = .ok (.iload 4, 2) := by decide +kernel
theorem d_7_58 : decode (js_b 7) 58 = .ok (.aload_n 0, 1) := by decide +kernel
theorem d_7_59 : decode (js_b 7) 59 = .ok (.getfield 11, 3) := by decide +kernel
theorem d_7_62 : decode (js_b 7) 62 = .ok (.iload 4, 2) := by decide +kernel
theorem d_7_64 : decode (js_b 7) 64 = .ok (.iconst 1, 1) := by decide +kernel
theorem d_7_65 : decode (js_b 7) 65 = .ok (.iadd, 1) := by decide +kernel
theorem d_7_66 : decode (js_b 7) 66 = .ok (.aaload, 1) := by decide +kernel
theorem d_7_67 : decode (js_b 7) 67 = .ok (.aastore, 1) := by decide +kernel
theorem d_7_68 : decode (js_b 7) 68 = .ok (.iinc 4 1, 3) := by decide +kernel
theorem d_7_71 : decode (js_b 7) 71 = .ok (.goto (-28), 3) := by decide +kernel
theorem d_7_74 : decode (js_b 7) 74 = .ok (.aload_n 0, 1) := by decide +kernel
theorem d_7_75 : decode (js_b 7) 75 = .ok (.getfield 11, 3) := by decide +kernel
theorem d_7_78 : decode (js_b 7) 78 = .ok (.aload_n 0, 1) := by decide +kernel
theorem d_7_79 : decode (js_b 7) 79 = .ok (.getfield 21, 3) := by decide +kernel
theorem d_7_82 : decode (js_b 7) 82 = .ok (.aload_n 3, 1) := by decide +kernel
theorem d_7_83 : decode (js_b 7) 83 = .ok (.aastore, 1) := by decide +kernel
theorem d_7_84 : decode (js_b 7) 84 = .ok (.aload_n 0, 1) := by decide +kernel
theorem d_7_85 : decode (js_b 7) 85 = .ok (.getfield 21, 3) := by decide +kernel
theorem d_7_88 : decode (js_b 7) 88 = .ok (.ireturn, 1) := by decide +kernel
theorem ki_7_14 : js_Ok 7 14 (o_gA 0 0 17) := js_St.ok (st_gA js_c0 (by decide) (by decide) kw_111 d_7_14)
theorem ki_7_13 : js_Ok 7 13 (o_al 0 14) := js_St.ok (st_aloadn rfl d_7_13)
theorem ki_7_12 : js_Ok 7 12 (o_rI) := ok_rI rfl d_7_12
theorem ki_7_11 : js_Ok 7 11 (o_ic (-1) 12) := js_St.ok (st_iconst rfl d_7_11)
theorem ki_7_8 : js_Ok 7 8 (o_cne 13 11) := js_St.ok (st_icne (by decide) d_7_8)
theorem ki_7_7 : js_Ok 7 7 (o_ic (-1) 8) := js_St.ok (st_iconst rfl d_7_7)
theorem ki_7_6 : js_Ok 7 6 (o_il 2 7) := js_St.ok (st_iloadn rfl d_7_6)
theorem ki_7_5 : js_Ok 7 5 (o_is 2 6) := js_St.ok (st_istoren rfl (Nat.le_of_ble_eq_true rfl) d_7_5)
theorem ki_7_2 : js_Ok 7 2 (o_cI 2 2 1 5) := ok_cI (site_V kk_7_2 (by decide) kw_462 kw_464 ks_2 (fun t ht => by cases ht; exact Or.inl ⟨by decide, _, rfl, rfl⟩) d_7_2) rfl
theorem ki_7_1 : js_Ok 7 1 (o_il 1 2) := js_St.ok (st_iloadn rfl d_7_1)
theorem ki_7_0 : js_Ok 7 0 (o_al 0 1) := js_St.ok (st_aloadn rfl d_7_0)
theorem ki_7_31 : js_Ok 7 31 (o_dup 32) := js_St.ok (st_dup d_7_31)
theorem ki_7_30 : js_Ok 7 30 (o_al 0 31) := js_St.ok (st_aloadn rfl d_7_30)
theorem ki_7_29 : js_Ok 7 29 (o_rI) := ok_rI rfl d_7_29
theorem ki_7_27 : js_Ok 7 27 (o_ic (-4) 29) := js_St.ok (st_bipush rfl d_7_27)
theorem ki_7_24 : js_Ok 7 24 (o_eq 30 27) := js_St.ok (st_ifeq (by decide) d_7_24)
theorem ki_7_21 : js_Ok 7 21 (o_cI 21 1 3 24) := ok_cI (site_V kk_7_21 (by decide) kw_298 kw_299 kw_300 (fun t ht => by cases ht; exact Or.inl ⟨by decide, _, rfl, rfl⟩) d_7_21) rfl
theorem ki_7_20 : js_Ok 7 20 (o_al 3 21) := js_St.ok (st_aloadn rfl d_7_20)
theorem ki_7_19 : js_Ok 7 19 (o_as 3 20) := js_St.ok (st_astoren rfl (Nat.le_of_ble_eq_true rfl) d_7_19)
theorem ki_7_18 : js_Ok 7 18 (o_lA 111 19) := js_St.ok (st_lA (by decide) rfl d_7_18)
theorem ki_7_17 : js_Ok 7 17 (o_il 2 18) := js_St.ok (st_iloadn rfl d_7_17)
theorem ki_7_46 : js_Ok 7 46 (o_gI 0 2 49) := js_St.ok (st_gI js_c0 (by decide) (by decide) kw_117 d_7_46)
theorem ki_7_45 : js_Ok 7 45 (o_al 0 46) := js_St.ok (st_aloadn rfl d_7_45)
theorem ki_7_43 : js_Ok 7 43 (o_il 4 45) := js_St.ok (st_iload d_7_43)
theorem ki_7_41 : js_Ok 7 41 (o_is 4 43) := js_St.ok (st_istore (Nat.le_of_ble_eq_true rfl) d_7_41)
theorem ki_7_40 : js_Ok 7 40 (o_il 2 41) := js_St.ok (st_iloadn rfl d_7_40)
theorem ki_7_37 : js_Ok 7 37 (o_pI 0 2 40) := js_St.ok (st_pIown js_c0 (by decide) rfl kw_117 (js_c0.2.2.1 2 (by decide)) d_7_37)
theorem ki_7_36 : js_Ok 7 36 (o_b2 (fun x y => x - y) 37) := js_St.ok (st_isub d_7_36)
theorem ki_7_35 : js_Ok 7 35 (o_ic 1 36) := js_St.ok (st_iconst rfl d_7_35)
theorem ki_7_32 : js_Ok 7 32 (o_gI 0 2 35) := js_St.ok (st_gI js_c0 (by decide) (by decide) kw_117 d_7_32)
theorem ki_7_62 : js_Ok 7 62 (o_il 4 64) := js_St.ok (st_iload d_7_62)
theorem ki_7_59 : js_Ok 7 59 (o_gA 0 0 62) := js_St.ok (st_gA js_c0 (by decide) (by decide) kw_111 d_7_59)
theorem ki_7_58 : js_Ok 7 58 (o_al 0 59) := js_St.ok (st_aloadn rfl d_7_58)
theorem ki_7_56 : js_Ok 7 56 (o_il 4 58) := js_St.ok (st_iload d_7_56)
theorem ki_7_53 : js_Ok 7 53 (o_gA 0 0 56) := js_St.ok (st_gA js_c0 (by decide) (by decide) kw_111 d_7_53)
theorem ki_7_52 : js_Ok 7 52 (o_al 0 53) := js_St.ok (st_aloadn rfl d_7_52)
theorem ki_7_49 : js_Ok 7 49 (o_cge 74 52) := js_St.ok (st_icge (by decide) d_7_49)
theorem ki_7_79 : js_Ok 7 79 (o_gI 0 2 82) := js_St.ok (st_gI js_c0 (by decide) (by decide) kw_117 d_7_79)
theorem ki_7_78 : js_Ok 7 78 (o_al 0 79) := js_St.ok (st_aloadn rfl d_7_78)
theorem ki_7_75 : js_Ok 7 75 (o_gA 0 0 78) := js_St.ok (st_gA js_c0 (by decide) (by decide) kw_111 d_7_75)
theorem ki_7_74 : js_Ok 7 74 (o_al 0 75) := js_St.ok (st_aloadn rfl d_7_74)
theorem ki_7_71 : js_Ok 7 71 (o_go 43) := js_St.ok (st_goto (by decide) d_7_71)
theorem ki_7_68 : js_Ok 7 68 (o_inc 4 1 71) := js_St.ok (st_iinc rfl (Nat.le_of_ble_eq_true rfl) d_7_68)
theorem ki_7_67 : js_Ok 7 67 (o_sA 111 2 68) := js_St.ok (st_sA (q9 := (RX3, TX3, 5)) rfl (by decide) (by decide) rfl d_7_67)
theorem ki_7_66 : js_Ok 7 66 (o_lA 111 67) := js_St.ok (st_lA (by decide) rfl d_7_66)
theorem ki_7_65 : js_Ok 7 65 (o_b2 (fun x y => x + y) 66) := js_St.ok (st_iadd d_7_65)
theorem ki_7_64 : js_Ok 7 64 (o_ic 1 65) := js_St.ok (st_iconst rfl d_7_64)
theorem ki_7_88 : js_Ok 7 88 (o_rI) := ok_rI rfl d_7_88
theorem ki_7_85 : js_Ok 7 85 (o_gI 0 2 88) := js_St.ok (st_gI js_c0 (by decide) (by decide) kw_117 d_7_85)
theorem ki_7_84 : js_Ok 7 84 (o_al 0 85) := js_St.ok (st_aloadn rfl d_7_84)
theorem ki_7_83 : js_Ok 7 83 (o_sA 111 2 84) := js_St.ok (st_sA (q9 := (RX3, TX3, 5)) rfl (by decide) (by decide) rfl d_7_83)
theorem ki_7_82 : js_Ok 7 82 (o_al 3 83) := js_St.ok (st_aloadn rfl d_7_82)
theorem d_8_0 : decode (js_b 8) 0 = .ok (.aload_n 0, 1) := by decide +kernel
theorem d_8_1 : decode (js_b 8) 1 = .ok (.iload_n 1, 1) := by decide +kernel
theorem d_8_2 : decode (js_b 8) 2 = .ok (.invokevirtual 65, 3) := by decide +kernel
theorem d_8_5 : decode (js_b 8) 5 = .ok (.astore 4, 2) := by decide +kernel
theorem d_8_7 : decode (js_b 8) 7 = .ok (.aload 4, 2) := by decide +kernel
theorem d_8_9 : decode (js_b 8) 9 = .ok (.ifnonnull 5, 3) := by decide +kernel
theorem d_8_12 : decode (js_b 8) 12 = .ok (.iconst (-1), 1) := by decide +kernel
theorem d_8_13 : decode (js_b 8) 13 = .ok (.ireturn, 1) := by decide +kernel
theorem d_8_14 : decode (js_b 8) 14 = .ok (.iload_n 2, 1) := by decide +kernel
theorem d_8_15 : decode (js_b 8) 15 = .ok (.bipush 7, 2) := by decide +kernel
theorem d_8_17 : decode (js_b 8) 17 = .ok (.invokestatic 50, 3) := by decide +kernel
theorem d_8_20 : decode (js_b 8) 20 = .ok (.ifCond .eq 12, 3) := by decide +kernel
theorem d_8_23 : decode (js_b 8) 23 = .ok (.iload_n 3, 1) := by decide +kernel
theorem d_8_24 : decode (js_b 8) 24 = .ok (.bipush 7, 2) := by decide +kernel
theorem d_8_26 : decode (js_b 8) 26 = .ok (.invokestatic 50, 3) := by decide +kernel
theorem d_8_29 : decode (js_b 8) 29 = .ok (.ifCond .ne 6, 3) := by decide +kernel
theorem d_8_32 : decode (js_b 8) 32 = .ok (.bipush (-2), 2) := by decide +kernel
theorem d_8_34 : decode (js_b 8) 34 = .ok (.ireturn, 1) := by decide +kernel
theorem d_8_35 : decode (js_b 8) 35 = .ok (.bipush 8, 2) := by decide +kernel
theorem d_8_37 : decode (js_b 8) 37 = .ok (.iload_n 2, 1) := by decide +kernel
theorem d_8_38 : decode (js_b 8) 38 = .ok (.imul, 1) := by decide +kernel
theorem d_8_39 : decode (js_b 8) 39 = .ok (.iload_n 3, 1) := by decide +kernel
theorem d_8_40 : decode (js_b 8) 40 = .ok (.iadd, 1) := by decide +kernel
theorem d_8_41 : decode (js_b 8) 41 = .ok (.istore 5, 2) := by decide +kernel
theorem d_8_43 : decode (js_b 8) 43 = .ok (.aload 4, 2) := by decide +kernel
theorem d_8_45 : decode (js_b 8) 45 = .ok (.invokevirtual 32, 3) := by decide +kernel
theorem d_8_48 : decode (js_b 8) 48 = .ok (.ifCond .ne 13, 3) := by decide +kernel
theorem d_8_51 : decode (js_b 8) 51 = .ok (.aload_n 0, 1) := by decide +kernel
theorem d_8_52 : decode (js_b 8) 52 = .ok (.getfield 17, 3) := by decide +kernel
theorem d_8_55 : decode (js_b 8) 55 = .ok (.iload 5, 2) := by decide +kernel
theorem d_8_57 : decode (js_b 8) 57 = .ok (.aaload, 1) := by decide +kernel
theorem d_8_58 : decode (js_b 8) 58 = .ok (.ifnull 6, 3) := by decide +kernel
theorem d_8_61 : decode (js_b 8) 61 = .ok (.bipush (-4), 2) := by decide +kernel
theorem d_8_63 : decode (js_b 8) 63 = .ok (.ireturn, 1) := by decide +kernel
theorem d_8_64 : decode (js_b 8) 64 = .ok (.aload_n 0, 1) := by decide +kernel
theorem d_8_65 : decode (js_b 8) 65 = .ok (.aload 4, 2) := by decide +kernel
theorem d_8_67 : decode (js_b 8) 67 = .ok (.iload 5, 2) := by decide +kernel
theorem d_8_69 : decode (js_b 8) 69 = .ok (.invokevirtual 69, 3) := by decide +kernel
theorem d_8_72 : decode (js_b 8) 72 = .ok (.aload_n 0, 1) := by decide +kernel
theorem d_8_73 : decode (js_b 8) 73 = .ok (.aload 4, 2) := by decide +kernel
theorem d_8_75 : decode (js_b 8) 75 = .ok (.iconst 1, 1) := by decide +kernel
theorem d_8_76 : decode (js_b 8) 76 = .ok (.invokevirtual 73, 3) := by decide +kernel
theorem d_8_79 : decode (js_b 8) 79 = .ok (.ireturn, 1) := by decide +kernel
theorem ki_8_15 : js_Ok 8 15 (o_ic 7 17) := js_St.ok (st_bipush rfl d_8_15)
theorem ki_8_14 : js_Ok 8 14 (o_il 2 15) := js_St.ok (st_iloadn rfl d_8_14)
theorem ki_8_13 : js_Ok 8 13 (o_rI) := ok_rI rfl d_8_13
theorem ki_8_12 : js_Ok 8 12 (o_ic (-1) 13) := js_St.ok (st_iconst rfl d_8_12)
theorem ki_8_9 : js_Ok 8 9 (o_nnl 14 12) := js_St.ok (st_ifnonnull (by decide) d_8_9)
theorem ki_8_7 : js_Ok 8 7 (o_al 4 9) := js_St.ok (st_aload d_8_7)
theorem ki_8_5 : js_Ok 8 5 (o_as 4 7) := js_St.ok (st_astore (Nat.le_of_ble_eq_true rfl) d_8_5)
theorem ki_8_2 : js_Ok 8 2 (o_cN 3 2 1 5) := ok_cN (site_V kk_8_3 (by decide) kw_458 kw_459 kw_460 (fun t ht => by cases ht; exact Or.inl ⟨by decide, _, rfl, rfl⟩) d_8_2) rfl
theorem ki_8_1 : js_Ok 8 1 (o_il 1 2) := js_St.ok (st_iloadn rfl d_8_1)
theorem ki_8_0 : js_Ok 8 0 (o_al 0 1) := js_St.ok (st_aloadn rfl d_8_0)
theorem ki_8_29 : js_Ok 8 29 (o_ne 35 32) := js_St.ok (st_ifne (by decide) d_8_29)
theorem ki_8_26 : js_Ok 8 26 (o_cI 126 2 0 29) := ok_cI (site_SN kk_8_126 kn_309 kw_310 d_8_26) rfl
theorem ki_8_24 : js_Ok 8 24 (o_ic 7 26) := js_St.ok (st_bipush rfl d_8_24)
theorem ki_8_23 : js_Ok 8 23 (o_il 3 24) := js_St.ok (st_iloadn rfl d_8_23)
theorem ki_8_20 : js_Ok 8 20 (o_eq 32 23) := js_St.ok (st_ifeq (by decide) d_8_20)
theorem ki_8_17 : js_Ok 8 17 (o_cI 126 2 0 20) := ok_cI (site_SN kk_8_126 kn_309 kw_310 d_8_17) rfl
theorem ki_8_45 : js_Ok 8 45 (o_cI 21 1 3 48) := ok_cI (site_V kk_8_21 (by decide) kw_298 kw_299 kw_300 (fun t ht => by cases ht; exact Or.inl ⟨by decide, _, rfl, rfl⟩) d_8_45) rfl
theorem ki_8_43 : js_Ok 8 43 (o_al 4 45) := js_St.ok (st_aload d_8_43)
theorem ki_8_41 : js_Ok 8 41 (o_is 5 43) := js_St.ok (st_istore (Nat.le_of_ble_eq_true rfl) d_8_41)
theorem ki_8_40 : js_Ok 8 40 (o_b2 (fun x y => x + y) 41) := js_St.ok (st_iadd d_8_40)
theorem ki_8_39 : js_Ok 8 39 (o_il 3 40) := js_St.ok (st_iloadn rfl d_8_39)
theorem ki_8_38 : js_Ok 8 38 (o_b2 (fun x y => x * y) 39) := js_St.ok (st_imul d_8_38)
theorem ki_8_37 : js_Ok 8 37 (o_il 2 38) := js_St.ok (st_iloadn rfl d_8_37)
theorem ki_8_35 : js_Ok 8 35 (o_ic 8 37) := js_St.ok (st_bipush rfl d_8_35)
theorem ki_8_34 : js_Ok 8 34 (o_rI) := ok_rI rfl d_8_34
theorem ki_8_32 : js_Ok 8 32 (o_ic (-2) 34) := js_St.ok (st_bipush rfl d_8_32)
theorem ki_8_63 : js_Ok 8 63 (o_rI) := ok_rI rfl d_8_63
theorem ki_8_61 : js_Ok 8 61 (o_ic (-4) 63) := js_St.ok (st_bipush rfl d_8_61)
theorem ki_8_58 : js_Ok 8 58 (o_nul 64 61) := js_St.ok (st_ifnull (by decide) d_8_58)
theorem ki_8_57 : js_Ok 8 57 (o_lN 111 58) := js_St.ok (st_lN (by decide) rfl d_8_57)
theorem ki_8_55 : js_Ok 8 55 (o_il 5 57) := js_St.ok (st_iload d_8_55)
theorem ki_8_52 : js_Ok 8 52 (o_gA 0 1 55) := js_St.ok (st_gA js_c0 (by decide) (by decide) kw_115 d_8_52)
theorem ki_8_51 : js_Ok 8 51 (o_al 0 52) := js_St.ok (st_aloadn rfl d_8_51)
theorem ki_8_48 : js_Ok 8 48 (o_ne 61 51) := js_St.ok (st_ifne (by decide) d_8_48)
theorem ki_8_79 : js_Ok 8 79 (o_rI) := ok_rI rfl d_8_79
theorem ki_8_76 : js_Ok 8 76 (o_cI 17 3 1 79) := ok_cI (site_V kk_8_17 (by decide) kw_600 kw_601 kw_602 (fun t ht => by cases ht; exact Or.inl ⟨by decide, _, rfl, rfl⟩) d_8_76) rfl
theorem ki_8_75 : js_Ok 8 75 (o_ic 1 76) := js_St.ok (st_iconst rfl d_8_75)
theorem ki_8_73 : js_Ok 8 73 (o_al 4 75) := js_St.ok (st_aload d_8_73)
theorem ki_8_72 : js_Ok 8 72 (o_al 0 73) := js_St.ok (st_aloadn rfl d_8_72)
theorem ki_8_69 : js_Ok 8 69 (o_cV 9 3 1 72) := ok_cV (site_V kk_8_9 (by decide) kw_599 kw_585 kw_586 (fun t ht => by cases ht; exact Or.inl ⟨by decide, _, rfl, rfl⟩) d_8_69) rfl
theorem ki_8_67 : js_Ok 8 67 (o_il 5 69) := js_St.ok (st_iload d_8_67)
theorem ki_8_65 : js_Ok 8 65 (o_al 4 67) := js_St.ok (st_aload d_8_65)
theorem ki_8_64 : js_Ok 8 64 (o_al 0 65) := js_St.ok (st_aloadn rfl d_8_64)
theorem d_9_0 : decode (js_b 9) 0 = .ok (.aload_n 1, 1) := by decide +kernel
theorem d_9_1 : decode (js_b 9) 1 = .ok (.iload_n 2, 1) := by decide +kernel
theorem d_9_2 : decode (js_b 9) 2 = .ok (.putfield 36, 3) := by decide +kernel
theorem d_9_5 : decode (js_b 9) 5 = .ok (.aload_n 0, 1) := by decide +kernel
theorem d_9_6 : decode (js_b 9) 6 = .ok (.getfield 17, 3) := by decide +kernel
theorem d_9_9 : decode (js_b 9) 9 = .ok (.iload_n 2, 1) := by decide +kernel
theorem d_9_10 : decode (js_b 9) 10 = .ok (.aload_n 1, 1) := by decide +kernel
theorem d_9_11 : decode (js_b 9) 11 = .ok (.aastore, 1) := by decide +kernel
theorem d_9_12 : decode (js_b 9) 12 = .ok (.return_, 1) := by decide +kernel
theorem ki_9_12 : js_Ok 9 12 (o_rV) := ok_rV rfl d_9_12
theorem ki_9_11 : js_Ok 9 11 (o_sA 111 2 12) := js_St.ok (st_sA (q9 := (RX3, TX3, 5)) rfl (by decide) (by decide) rfl d_9_11)
theorem ki_9_10 : js_Ok 9 10 (o_al 1 11) := js_St.ok (st_aloadn rfl d_9_10)
theorem ki_9_9 : js_Ok 9 9 (o_il 2 10) := js_St.ok (st_iloadn rfl d_9_9)
theorem ki_9_6 : js_Ok 9 6 (o_gA 0 1 9) := js_St.ok (st_gA js_c0 (by decide) (by decide) kw_115 d_9_6)
theorem ki_9_5 : js_Ok 9 5 (o_al 0 6) := js_St.ok (st_aloadn rfl d_9_5)
theorem ki_9_2 : js_Ok 9 2 (o_pI 2 4 5) := js_St.ok (st_pInst js_c2 (by decide) rfl kn_97 (js_c2.2.2.1 4 (by decide)) d_9_2)
theorem ki_9_1 : js_Ok 9 1 (o_il 2 2) := js_St.ok (st_iloadn rfl d_9_1)
theorem ki_9_0 : js_Ok 9 0 (o_al 1 1) := js_St.ok (st_aloadn rfl d_9_0)
theorem d_10_0 : decode (js_b 10) 0 = .ok (.aload_n 0, 1) := by decide +kernel
theorem d_10_1 : decode (js_b 10) 1 = .ok (.iload_n 1, 1) := by decide +kernel
theorem d_10_2 : decode (js_b 10) 2 = .ok (.invokevirtual 65, 3) := by decide +kernel
theorem d_10_5 : decode (js_b 10) 5 = .ok (.astore_n 2, 1) := by decide +kernel
theorem d_10_6 : decode (js_b 10) 6 = .ok (.aload_n 2, 1) := by decide +kernel
theorem d_10_7 : decode (js_b 10) 7 = .ok (.ifnonnull 5, 3) := by decide +kernel
theorem d_10_10 : decode (js_b 10) 10 = .ok (.iconst (-1), 1) := by decide +kernel
theorem d_10_11 : decode (js_b 10) 11 = .ok (.ireturn, 1) := by decide +kernel
theorem d_10_12 : decode (js_b 10) 12 = .ok (.aload_n 2, 1) := by decide +kernel
theorem d_10_13 : decode (js_b 10) 13 = .ok (.invokevirtual 32, 3) := by decide +kernel
theorem d_10_16 : decode (js_b 10) 16 = .ok (.ifCond .ne 6, 3) := by decide +kernel
theorem d_10_19 : decode (js_b 10) 19 = .ok (.bipush (-4), 2) := by decide +kernel
theorem d_10_21 : decode (js_b 10) 21 = .ok (.ireturn, 1) := by decide +kernel
theorem d_10_22 : decode (js_b 10) 22 = .ok (.aload_n 0, 1) := by decide +kernel
theorem d_10_23 : decode (js_b 10) 23 = .ok (.aload_n 2, 1) := by decide +kernel
theorem d_10_24 : decode (js_b 10) 24 = .ok (.iconst 1, 1) := by decide +kernel
theorem d_10_25 : decode (js_b 10) 25 = .ok (.invokevirtual 73, 3) := by decide +kernel
theorem d_10_28 : decode (js_b 10) 28 = .ok (.istore_n 3, 1) := by decide +kernel
theorem d_10_29 : decode (js_b 10) 29 = .ok (.aload_n 0, 1) := by decide +kernel
theorem d_10_30 : decode (js_b 10) 30 = .ok (.getfield 17, 3) := by decide +kernel
theorem d_10_33 : decode (js_b 10) 33 = .ok (.aload_n 2, 1) := by decide +kernel
theorem d_10_34 : decode (js_b 10) 34 = .ok (.getfield 36, 3) := by decide +kernel
theorem d_10_37 : decode (js_b 10) 37 = .ok (.aconst_null, 1) := by decide +kernel
theorem d_10_38 : decode (js_b 10) 38 = .ok (.aastore, 1) := by decide +kernel
theorem d_10_39 : decode (js_b 10) 39 = .ok (.aload_n 2, 1) := by decide +kernel
theorem d_10_40 : decode (js_b 10) 40 = .ok (.iconst (-1), 1) := by decide +kernel
theorem d_10_41 : decode (js_b 10) 41 = .ok (.putfield 36, 3) := by decide +kernel
theorem d_10_44 : decode (js_b 10) 44 = .ok (.iload_n 3, 1) := by decide +kernel
theorem d_10_45 : decode (js_b 10) 45 = .ok (.ireturn, 1) := by decide +kernel
theorem ki_10_13 : js_Ok 10 13 (o_cI 21 1 3 16) := ok_cI (site_V kk_10_21 (by decide) kw_298 kw_299 kw_300 (fun t ht => by cases ht; exact Or.inl ⟨by decide, _, rfl, rfl⟩) d_10_13) rfl
theorem ki_10_12 : js_Ok 10 12 (o_al 2 13) := js_St.ok (st_aloadn rfl d_10_12)
theorem ki_10_11 : js_Ok 10 11 (o_rI) := ok_rI rfl d_10_11
theorem ki_10_10 : js_Ok 10 10 (o_ic (-1) 11) := js_St.ok (st_iconst rfl d_10_10)
theorem ki_10_7 : js_Ok 10 7 (o_nnl 12 10) := js_St.ok (st_ifnonnull (by decide) d_10_7)
theorem ki_10_6 : js_Ok 10 6 (o_al 2 7) := js_St.ok (st_aloadn rfl d_10_6)
theorem ki_10_5 : js_Ok 10 5 (o_as 2 6) := js_St.ok (st_astoren rfl (Nat.le_of_ble_eq_true rfl) d_10_5)
theorem ki_10_2 : js_Ok 10 2 (o_cN 3 2 1 5) := ok_cN (site_V kk_10_3 (by decide) kw_458 kw_459 kw_460 (fun t ht => by cases ht; exact Or.inl ⟨by decide, _, rfl, rfl⟩) d_10_2) rfl
theorem ki_10_1 : js_Ok 10 1 (o_il 1 2) := js_St.ok (st_iloadn rfl d_10_1)
theorem ki_10_0 : js_Ok 10 0 (o_al 0 1) := js_St.ok (st_aloadn rfl d_10_0)
theorem ki_10_30 : js_Ok 10 30 (o_gA 0 1 33) := js_St.ok (st_gA js_c0 (by decide) (by decide) kw_115 d_10_30)
theorem ki_10_29 : js_Ok 10 29 (o_al 0 30) := js_St.ok (st_aloadn rfl d_10_29)
theorem ki_10_28 : js_Ok 10 28 (o_is 3 29) := js_St.ok (st_istoren rfl (Nat.le_of_ble_eq_true rfl) d_10_28)
theorem ki_10_25 : js_Ok 10 25 (o_cI 17 3 1 28) := ok_cI (site_V kk_10_17 (by decide) kw_600 kw_601 kw_602 (fun t ht => by cases ht; exact Or.inl ⟨by decide, _, rfl, rfl⟩) d_10_25) rfl
theorem ki_10_24 : js_Ok 10 24 (o_ic 1 25) := js_St.ok (st_iconst rfl d_10_24)
theorem ki_10_23 : js_Ok 10 23 (o_al 2 24) := js_St.ok (st_aloadn rfl d_10_23)
theorem ki_10_22 : js_Ok 10 22 (o_al 0 23) := js_St.ok (st_aloadn rfl d_10_22)
theorem ki_10_21 : js_Ok 10 21 (o_rI) := ok_rI rfl d_10_21
theorem ki_10_19 : js_Ok 10 19 (o_ic (-4) 21) := js_St.ok (st_bipush rfl d_10_19)
theorem ki_10_16 : js_Ok 10 16 (o_ne 22 19) := js_St.ok (st_ifne (by decide) d_10_16)
theorem ki_10_45 : js_Ok 10 45 (o_rI) := ok_rI rfl d_10_45
theorem ki_10_44 : js_Ok 10 44 (o_il 3 45) := js_St.ok (st_iloadn rfl d_10_44)
theorem ki_10_41 : js_Ok 10 41 (o_pI 2 4 44) := js_St.ok (st_pInst js_c2 (by decide) rfl kn_97 (js_c2.2.2.1 4 (by decide)) d_10_41)
theorem ki_10_40 : js_Ok 10 40 (o_ic (-1) 41) := js_St.ok (st_iconst rfl d_10_40)
theorem ki_10_39 : js_Ok 10 39 (o_al 2 40) := js_St.ok (st_aloadn rfl d_10_39)
theorem ki_10_38 : js_Ok 10 38 (o_sA 111 2 39) := js_St.ok (st_sA (q9 := (RX3, TX3, 5)) rfl (by decide) (by decide) rfl d_10_38)
theorem ki_10_37 : js_Ok 10 37 (o_nc 38) := js_St.ok (st_null d_10_37)
theorem ki_10_34 : js_Ok 10 34 (o_gI 2 4 37) := js_St.ok (st_gIn js_c2 (by decide) (by decide) kn_97 d_10_34)
theorem ki_10_33 : js_Ok 10 33 (o_al 2 34) := js_St.ok (st_aloadn rfl d_10_33)
theorem d_11_0 : decode (js_b 11) 0 = .ok (.aload_n 0, 1) := by decide +kernel
theorem d_11_1 : decode (js_b 11) 1 = .ok (.iload_n 1, 1) := by decide +kernel
theorem d_11_2 : decode (js_b 11) 2 = .ok (.invokevirtual 65, 3) := by decide +kernel
theorem d_11_5 : decode (js_b 11) 5 = .ok (.astore_n 3, 1) := by decide +kernel
theorem d_11_6 : decode (js_b 11) 6 = .ok (.aload_n 3, 1) := by decide +kernel
theorem d_11_7 : decode (js_b 11) 7 = .ok (.ifnonnull 5, 3) := by decide +kernel
theorem d_11_10 : decode (js_b 11) 10 = .ok (.iconst (-1), 1) := by decide +kernel
theorem d_11_11 : decode (js_b 11) 11 = .ok (.ireturn, 1) := by decide +kernel
theorem d_11_12 : decode (js_b 11) 12 = .ok (.iload_n 2, 1) := by decide +kernel
theorem d_11_13 : decode (js_b 11) 13 = .ok (.iconst 3, 1) := by decide +kernel
theorem d_11_14 : decode (js_b 11) 14 = .ok (.invokestatic 50, 3) := by decide +kernel
theorem d_11_17 : decode (js_b 11) 17 = .ok (.ifCond .ne 6, 3) := by decide +kernel
theorem d_11_20 : decode (js_b 11) 20 = .ok (.bipush (-3), 2) := by decide +kernel
theorem d_11_22 : decode (js_b 11) 22 = .ok (.ireturn, 1) := by decide +kernel
theorem d_11_23 : decode (js_b 11) 23 = .ok (.aload_n 3, 1) := by decide +kernel
theorem d_11_24 : decode (js_b 11) 24 = .ok (.getfield 62, 3) := by decide +kernel
theorem d_11_27 : decode (js_b 11) 27 = .ok (.istore 4, 2) := by decide +kernel
theorem d_11_29 : decode (js_b 11) 29 = .ok (.aload_n 3, 1) := by decide +kernel
theorem d_11_30 : decode (js_b 11) 30 = .ok (.iload_n 2, 1) := by decide +kernel
theorem d_11_31 : decode (js_b 11) 31 = .ok (.putfield 62, 3) := by decide +kernel
theorem d_11_34 : decode (js_b 11) 34 = .ok (.iload 4, 2) := by decide +kernel
theorem d_11_36 : decode (js_b 11) 36 = .ok (.ireturn, 1) := by decide +kernel
theorem ki_11_14 : js_Ok 11 14 (o_cI 126 2 0 17) := ok_cI (site_SN kk_11_126 kn_309 kw_310 d_11_14) rfl
theorem ki_11_13 : js_Ok 11 13 (o_ic 3 14) := js_St.ok (st_iconst rfl d_11_13)
theorem ki_11_12 : js_Ok 11 12 (o_il 2 13) := js_St.ok (st_iloadn rfl d_11_12)
theorem ki_11_11 : js_Ok 11 11 (o_rI) := ok_rI rfl d_11_11
theorem ki_11_10 : js_Ok 11 10 (o_ic (-1) 11) := js_St.ok (st_iconst rfl d_11_10)
theorem ki_11_7 : js_Ok 11 7 (o_nnl 12 10) := js_St.ok (st_ifnonnull (by decide) d_11_7)
theorem ki_11_6 : js_Ok 11 6 (o_al 3 7) := js_St.ok (st_aloadn rfl d_11_6)
theorem ki_11_5 : js_Ok 11 5 (o_as 3 6) := js_St.ok (st_astoren rfl (Nat.le_of_ble_eq_true rfl) d_11_5)
theorem ki_11_2 : js_Ok 11 2 (o_cN 3 2 1 5) := ok_cN (site_V kk_11_3 (by decide) kw_458 kw_459 kw_460 (fun t ht => by cases ht; exact Or.inl ⟨by decide, _, rfl, rfl⟩) d_11_2) rfl
theorem ki_11_1 : js_Ok 11 1 (o_il 1 2) := js_St.ok (st_iloadn rfl d_11_1)
theorem ki_11_0 : js_Ok 11 0 (o_al 0 1) := js_St.ok (st_aloadn rfl d_11_0)
theorem ki_11_31 : js_Ok 11 31 (o_pI 2 3 34) := js_St.ok (st_pInst js_c2 (by decide) rfl kn_92 (js_c2.2.2.1 3 (by decide)) d_11_31)
theorem ki_11_30 : js_Ok 11 30 (o_il 2 31) := js_St.ok (st_iloadn rfl d_11_30)
theorem ki_11_29 : js_Ok 11 29 (o_al 3 30) := js_St.ok (st_aloadn rfl d_11_29)
theorem ki_11_27 : js_Ok 11 27 (o_is 4 29) := js_St.ok (st_istore (Nat.le_of_ble_eq_true rfl) d_11_27)
theorem ki_11_24 : js_Ok 11 24 (o_gI 2 3 27) := js_St.ok (st_gIn js_c2 (by decide) (by decide) kn_92 d_11_24)
theorem ki_11_23 : js_Ok 11 23 (o_al 3 24) := js_St.ok (st_aloadn rfl d_11_23)
theorem ki_11_22 : js_Ok 11 22 (o_rI) := ok_rI rfl d_11_22
theorem ki_11_20 : js_Ok 11 20 (o_ic (-3) 22) := js_St.ok (st_bipush rfl d_11_20)
theorem ki_11_17 : js_Ok 11 17 (o_ne 23 20) := js_St.ok (st_ifne (by decide) d_11_17)
theorem ki_11_36 : js_Ok 11 36 (o_rI) := ok_rI rfl d_11_36
theorem ki_11_34 : js_Ok 11 34 (o_il 4 36) := js_St.ok (st_iload d_11_34)
theorem d_12_0 : decode (js_b 12) 0 = .ok (.aload_n 0, 1) := by decide +kernel
theorem d_12_1 : decode (js_b 12) 1 = .ok (.iload_n 1, 1) := by decide +kernel
theorem d_12_2 : decode (js_b 12) 2 = .ok (.invokevirtual 65, 3) := by decide +kernel
theorem d_12_5 : decode (js_b 12) 5 = .ok (.astore_n 3, 1) := by decide +kernel
theorem d_12_6 : decode (js_b 12) 6 = .ok (.aload_n 0, 1) := by decide +kernel
theorem d_12_7 : decode (js_b 12) 7 = .ok (.iload_n 2, 1) := by decide +kernel
theorem d_12_8 : decode (js_b 12) 8 = .ok (.invokevirtual 65, 3) := by decide +kernel
theorem d_12_11 : decode (js_b 12) 11 = .ok (.astore 4, 2) := by decide +kernel
theorem d_12_13 : decode (js_b 12) 13 = .ok (.aload_n 3, 1) := by decide +kernel
theorem d_12_14 : decode (js_b 12) 14 = .ok (.ifnull 8, 3) := by decide +kernel
theorem d_12_17 : decode (js_b 12) 17 = .ok (.aload 4, 2) := by decide +kernel
theorem d_12_19 : decode (js_b 12) 19 = .ok (.ifnonnull 5, 3) := by decide +kernel
theorem d_12_22 : decode (js_b 12) 22 = .ok (.iconst (-1), 1) := by decide +kernel
theorem d_12_23 : decode (js_b 12) 23 = .ok (.ireturn, 1) := by decide +kernel
theorem d_12_24 : decode (js_b 12) 24 = .ok (.aload_n 3, 1) := by decide +kernel
theorem d_12_25 : decode (js_b 12) 25 = .ok (.aload 4, 2) := by decide +kernel
theorem d_12_27 : decode (js_b 12) 27 = .ok (.if_acmp .ne 6, 3) := by decide +kernel
theorem d_12_30 : decode (js_b 12) 30 = .ok (.bipush (-3), 2) := by decide +kernel
theorem d_12_32 : decode (js_b 12) 32 = .ok (.ireturn, 1) := by decide +kernel
theorem d_12_33 : decode (js_b 12) 33 = .ok (.aload_n 3, 1) := by decide +kernel
theorem d_12_34 : decode (js_b 12) 34 = .ok (.invokevirtual 32, 3) := by decide +kernel
theorem d_12_37 : decode (js_b 12) 37 = .ok (.ifCond .eq 11, 3) := by decide +kernel
theorem d_12_40 : decode (js_b 12) 40 = .ok (.aload 4, 2) := by decide +kernel
theorem d_12_42 : decode (js_b 12) 42 = .ok (.invokevirtual 32, 3) := by decide +kernel
theorem d_12_45 : decode (js_b 12) 45 = .ok (.ifCond .ne 6, 3) := by decide +kernel
theorem d_12_48 : decode (js_b 12) 48 = .ok (.bipush (-4), 2) := by decide +kernel
theorem d_12_50 : decode (js_b 12) 50 = .ok (.ireturn, 1) := by decide +kernel
theorem d_12_51 : decode (js_b 12) 51 = .ok (.aload_n 3, 1) := by decide +kernel
theorem d_12_52 : decode (js_b 12) 52 = .ok (.getfield 36, 3) := by decide +kernel
theorem d_12_55 : decode (js_b 12) 55 = .ok (.istore 5, 2) := by decide +kernel
theorem d_12_57 : decode (js_b 12) 57 = .ok (.aload_n 0, 1) := by decide +kernel
theorem d_12_58 : decode (js_b 12) 58 = .ok (.aload_n 3, 1) := by decide +kernel
theorem d_12_59 : decode (js_b 12) 59 = .ok (.aload 4, 2) := by decide +kernel
theorem d_12_61 : decode (js_b 12) 61 = .ok (.getfield 36, 3) := by decide +kernel
theorem d_12_64 : decode (js_b 12) 64 = .ok (.invokevirtual 69, 3) := by decide +kernel
theorem d_12_67 : decode (js_b 12) 67 = .ok (.aload_n 0, 1) := by decide +kernel
theorem d_12_68 : decode (js_b 12) 68 = .ok (.aload 4, 2) := by decide +kernel
theorem d_12_70 : decode (js_b 12) 70 = .ok (.iload 5, 2) := by decide +kernel
theorem d_12_72 : decode (js_b 12) 72 = .ok (.invokevirtual 69, 3) := by decide +kernel
theorem d_12_75 : decode (js_b 12) 75 = .ok (.aload_n 0, 1) := by decide +kernel
theorem d_12_76 : decode (js_b 12) 76 = .ok (.iconst 1, 1) := by decide +kernel
theorem d_12_77 : decode (js_b 12) 77 = .ok (.invokevirtual 77, 3) := by decide +kernel
theorem d_12_80 : decode (js_b 12) 80 = .ok (.ireturn, 1) := by decide +kernel
theorem ki_12_14 : js_Ok 12 14 (o_nul 22 17) := js_St.ok (st_ifnull (by decide) d_12_14)
theorem ki_12_13 : js_Ok 12 13 (o_al 3 14) := js_St.ok (st_aloadn rfl d_12_13)
theorem ki_12_11 : js_Ok 12 11 (o_as 4 13) := js_St.ok (st_astore (Nat.le_of_ble_eq_true rfl) d_12_11)
theorem ki_12_8 : js_Ok 12 8 (o_cN 3 2 1 11) := ok_cN (site_V kk_12_3 (by decide) kw_458 kw_459 kw_460 (fun t ht => by cases ht; exact Or.inl ⟨by decide, _, rfl, rfl⟩) d_12_8) rfl
theorem ki_12_7 : js_Ok 12 7 (o_il 2 8) := js_St.ok (st_iloadn rfl d_12_7)
theorem ki_12_6 : js_Ok 12 6 (o_al 0 7) := js_St.ok (st_aloadn rfl d_12_6)
theorem ki_12_5 : js_Ok 12 5 (o_as 3 6) := js_St.ok (st_astoren rfl (Nat.le_of_ble_eq_true rfl) d_12_5)
theorem ki_12_2 : js_Ok 12 2 (o_cN 3 2 1 5) := ok_cN (site_V kk_12_3 (by decide) kw_458 kw_459 kw_460 (fun t ht => by cases ht; exact Or.inl ⟨by decide, _, rfl, rfl⟩) d_12_2) rfl
theorem ki_12_1 : js_Ok 12 1 (o_il 1 2) := js_St.ok (st_iloadn rfl d_12_1)
theorem ki_12_0 : js_Ok 12 0 (o_al 0 1) := js_St.ok (st_aloadn rfl d_12_0)
theorem ki_12_30 : js_Ok 12 30 (o_ic (-3) 32) := js_St.ok (st_bipush rfl d_12_30)
theorem ki_12_27 : js_Ok 12 27 (o_ane 33 30) := js_St.ok (st_acmpne (by decide) d_12_27)
theorem ki_12_25 : js_Ok 12 25 (o_al 4 27) := js_St.ok (st_aload d_12_25)
theorem ki_12_24 : js_Ok 12 24 (o_al 3 25) := js_St.ok (st_aloadn rfl d_12_24)
theorem ki_12_23 : js_Ok 12 23 (o_rI) := ok_rI rfl d_12_23
theorem ki_12_22 : js_Ok 12 22 (o_ic (-1) 23) := js_St.ok (st_iconst rfl d_12_22)
theorem ki_12_19 : js_Ok 12 19 (o_nnl 24 22) := js_St.ok (st_ifnonnull (by decide) d_12_19)
theorem ki_12_17 : js_Ok 12 17 (o_al 4 19) := js_St.ok (st_aload d_12_17)
theorem ki_12_45 : js_Ok 12 45 (o_ne 51 48) := js_St.ok (st_ifne (by decide) d_12_45)
theorem ki_12_42 : js_Ok 12 42 (o_cI 21 1 3 45) := ok_cI (site_V kk_12_21 (by decide) kw_298 kw_299 kw_300 (fun t ht => by cases ht; exact Or.inl ⟨by decide, _, rfl, rfl⟩) d_12_42) rfl
theorem ki_12_40 : js_Ok 12 40 (o_al 4 42) := js_St.ok (st_aload d_12_40)
theorem ki_12_37 : js_Ok 12 37 (o_eq 48 40) := js_St.ok (st_ifeq (by decide) d_12_37)
theorem ki_12_34 : js_Ok 12 34 (o_cI 21 1 3 37) := ok_cI (site_V kk_12_21 (by decide) kw_298 kw_299 kw_300 (fun t ht => by cases ht; exact Or.inl ⟨by decide, _, rfl, rfl⟩) d_12_34) rfl
theorem ki_12_33 : js_Ok 12 33 (o_al 3 34) := js_St.ok (st_aloadn rfl d_12_33)
theorem ki_12_32 : js_Ok 12 32 (o_rI) := ok_rI rfl d_12_32
theorem ki_12_61 : js_Ok 12 61 (o_gI 2 4 64) := js_St.ok (st_gIn js_c2 (by decide) (by decide) kn_97 d_12_61)
theorem ki_12_59 : js_Ok 12 59 (o_al 4 61) := js_St.ok (st_aload d_12_59)
theorem ki_12_58 : js_Ok 12 58 (o_al 3 59) := js_St.ok (st_aloadn rfl d_12_58)
theorem ki_12_57 : js_Ok 12 57 (o_al 0 58) := js_St.ok (st_aloadn rfl d_12_57)
theorem ki_12_55 : js_Ok 12 55 (o_is 5 57) := js_St.ok (st_istore (Nat.le_of_ble_eq_true rfl) d_12_55)
theorem ki_12_52 : js_Ok 12 52 (o_gI 2 4 55) := js_St.ok (st_gIn js_c2 (by decide) (by decide) kn_97 d_12_52)
theorem ki_12_51 : js_Ok 12 51 (o_al 3 52) := js_St.ok (st_aloadn rfl d_12_51)
theorem ki_12_50 : js_Ok 12 50 (o_rI) := ok_rI rfl d_12_50
theorem ki_12_48 : js_Ok 12 48 (o_ic (-4) 50) := js_St.ok (st_bipush rfl d_12_48)
theorem ki_12_77 : js_Ok 12 77 (o_cI 18 2 1 80) := ok_cI (site_V kk_12_18 (by decide) kw_1342 kw_817 kw_818 (fun t ht => by cases ht; exact Or.inl ⟨by decide, _, rfl, rfl⟩) d_12_77) rfl
theorem ki_12_76 : js_Ok 12 76 (o_ic 1 77) := js_St.ok (st_iconst rfl d_12_76)
theorem ki_12_75 : js_Ok 12 75 (o_al 0 76) := js_St.ok (st_aloadn rfl d_12_75)
theorem ki_12_72 : js_Ok 12 72 (o_cV 9 3 1 75) := ok_cV (site_V kk_12_9 (by decide) kw_599 kw_585 kw_586 (fun t ht => by cases ht; exact Or.inl ⟨by decide, _, rfl, rfl⟩) d_12_72) rfl
theorem ki_12_70 : js_Ok 12 70 (o_il 5 72) := js_St.ok (st_iload d_12_70)
theorem ki_12_68 : js_Ok 12 68 (o_al 4 70) := js_St.ok (st_aload d_12_68)
theorem ki_12_67 : js_Ok 12 67 (o_al 0 68) := js_St.ok (st_aloadn rfl d_12_67)
theorem ki_12_64 : js_Ok 12 64 (o_cV 9 3 1 67) := ok_cV (site_V kk_12_9 (by decide) kw_599 kw_585 kw_586 (fun t ht => by cases ht; exact Or.inl ⟨by decide, _, rfl, rfl⟩) d_12_64) rfl
theorem ki_12_80 : js_Ok 12 80 (o_rI) := ok_rI rfl d_12_80
theorem d_13_0 : decode (js_b 13) 0 = .ok (.iload_n 1, 1) := by decide +kernel
theorem d_13_1 : decode (js_b 13) 1 = .ok (.bipush 8, 2) := by decide +kernel
theorem d_13_3 : decode (js_b 13) 3 = .ok (.idiv, 1) := by decide +kernel
theorem d_13_4 : decode (js_b 13) 4 = .ok (.getstatic 81, 3) := by decide +kernel
theorem d_13_7 : decode (js_b 13) 7 = .ok (.iload_n 2, 1) := by decide +kernel
theorem d_13_8 : decode (js_b 13) 8 = .ok (.iaload, 1) := by decide +kernel
theorem d_13_9 : decode (js_b 13) 9 = .ok (.iadd, 1) := by decide +kernel
theorem d_13_10 : decode (js_b 13) 10 = .ok (.istore_n 3, 1) := by decide +kernel
theorem d_13_11 : decode (js_b 13) 11 = .ok (.iload_n 1, 1) := by decide +kernel
theorem d_13_12 : decode (js_b 13) 12 = .ok (.bipush 8, 2) := by decide +kernel
theorem d_13_14 : decode (js_b 13) 14 = .ok (.irem, 1) := by decide +kernel
theorem d_13_15 : decode (js_b 13) 15 = .ok (.getstatic 84, 3) := by decide +kernel
theorem d_13_18 : decode (js_b 13) 18 = .ok (.iload_n 2, 1) := by decide +kernel
theorem d_13_19 : decode (js_b 13) 19 = .ok (.iaload, 1) := by decide +kernel
theorem d_13_20 : decode (js_b 13) 20 = .ok (.iadd, 1) := by decide +kernel
theorem d_13_21 : decode (js_b 13) 21 = .ok (.istore 4, 2) := by decide +kernel
theorem d_13_23 : decode (js_b 13) 23 = .ok (.iload_n 3, 1) := by decide +kernel
theorem d_13_24 : decode (js_b 13) 24 = .ok (.ifCond .lt 21, 3) := by decide +kernel
theorem d_13_27 : decode (js_b 13) 27 = .ok (.iload_n 3, 1) := by decide +kernel
theorem d_13_28 : decode (js_b 13) 28 = .ok (.bipush 7, 2) := by decide +kernel
theorem d_13_30 : decode (js_b 13) 30 = .ok (.if_icmp .gt 15, 3) := by decide +kernel
theorem d_13_33 : decode (js_b 13) 33 = .ok (.iload 4, 2) := by decide +kernel
theorem d_13_35 : decode (js_b 13) 35 = .ok (.ifCond .lt 10, 3) := by decide +kernel
theorem d_13_38 : decode (js_b 13) 38 = .ok (.iload 4, 2) := by decide +kernel
theorem d_13_40 : decode (js_b 13) 40 = .ok (.bipush 7, 2) := by decide +kernel
theorem d_13_42 : decode (js_b 13) 42 = .ok (.if_icmp .le 7, 3) := by decide +kernel
theorem d_13_45 : decode (js_b 13) 45 = .ok (.iconst 1, 1) := by decide +kernel
theorem d_13_46 : decode (js_b 13) 46 = .ok (.goto 4, 3) := by decide +kernel
theorem d_13_49 : decode (js_b 13) 49 = .ok (.iconst 0, 1) := by decide +kernel
theorem d_13_50 : decode (js_b 13) 50 = .ok (.istore 5, 2) := by decide +kernel
theorem d_13_52 : decode (js_b 13) 52 = .ok (.iload 5, 2) := by decide +kernel
theorem d_13_54 : decode (js_b 13) 54 = .ok (.ifCond .eq 7, 3) := by decide +kernel
theorem d_13_57 : decode (js_b 13) 57 = .ok (.aconst_null, 1) := by decide +kernel
theorem d_13_58 : decode (js_b 13) 58 = .ok (.goto 15, 3) := by decide +kernel
theorem d_13_61 : decode (js_b 13) 61 = .ok (.aload_n 0, 1) := by decide +kernel
theorem d_13_62 : decode (js_b 13) 62 = .ok (.getfield 17, 3) := by decide +kernel
theorem d_13_65 : decode (js_b 13) 65 = .ok (.bipush 8, 2) := by decide +kernel
theorem d_13_67 : decode (js_b 13) 67 = .ok (.iload_n 3, 1) := by decide +kernel
theorem d_13_68 : decode (js_b 13) 68 = .ok (.imul, 1) := by decide +kernel
theorem d_13_69 : decode (js_b 13) 69 = .ok (.iload 4, 2) := by decide +kernel
theorem d_13_71 : decode (js_b 13) 71 = .ok (.iadd, 1) := by decide +kernel
theorem d_13_72 : decode (js_b 13) 72 = .ok (.aaload, 1) := by decide +kernel
theorem d_13_73 : decode (js_b 13) 73 = .ok (.areturn, 1) := by decide +kernel
theorem ki_13_15 : js_Ok 13 15 (o_rc 2 18) := js_St.ok (st_gsRn (by decide +kernel) kn_521 d_13_15)
theorem ki_13_14 : js_Ok 13 14 (o_rem 15) := js_St.ok (st_irem d_13_14)
theorem ki_13_12 : js_Ok 13 12 (o_ic 8 14) := js_St.ok (st_bipush rfl d_13_12)
theorem ki_13_11 : js_Ok 13 11 (o_il 1 12) := js_St.ok (st_iloadn rfl d_13_11)
theorem ki_13_10 : js_Ok 13 10 (o_is 3 11) := js_St.ok (st_istoren rfl (Nat.le_of_ble_eq_true rfl) d_13_10)
theorem ki_13_9 : js_Ok 13 9 (o_b2 (fun x y => x + y) 10) := js_St.ok (st_iadd d_13_9)
theorem ki_13_8 : js_Ok 13 8 (o_lI 100 9) := js_St.ok (st_lI d_13_8)
theorem ki_13_7 : js_Ok 13 7 (o_il 2 8) := js_St.ok (st_iloadn rfl d_13_7)
theorem ki_13_4 : js_Ok 13 4 (o_rc 1 7) := js_St.ok (st_gsRn (by decide +kernel) kn_519 d_13_4)
theorem ki_13_3 : js_Ok 13 3 (o_div 4) := js_St.ok (st_idiv d_13_3)
theorem ki_13_1 : js_Ok 13 1 (o_ic 8 3) := js_St.ok (st_bipush rfl d_13_1)
theorem ki_13_0 : js_Ok 13 0 (o_il 1 1) := js_St.ok (st_iloadn rfl d_13_0)
theorem ki_13_30 : js_Ok 13 30 (o_cgt 45 33) := js_St.ok (st_icgt (by decide) d_13_30)
theorem ki_13_28 : js_Ok 13 28 (o_ic 7 30) := js_St.ok (st_bipush rfl d_13_28)
theorem ki_13_27 : js_Ok 13 27 (o_il 3 28) := js_St.ok (st_iloadn rfl d_13_27)
theorem ki_13_24 : js_Ok 13 24 (o_lt 45 27) := js_St.ok (st_iflt (by decide) d_13_24)
theorem ki_13_23 : js_Ok 13 23 (o_il 3 24) := js_St.ok (st_iloadn rfl d_13_23)
theorem ki_13_21 : js_Ok 13 21 (o_is 4 23) := js_St.ok (st_istore (Nat.le_of_ble_eq_true rfl) d_13_21)
theorem ki_13_20 : js_Ok 13 20 (o_b2 (fun x y => x + y) 21) := js_St.ok (st_iadd d_13_20)
theorem ki_13_19 : js_Ok 13 19 (o_lI 100 20) := js_St.ok (st_lI d_13_19)
theorem ki_13_18 : js_Ok 13 18 (o_il 2 19) := js_St.ok (st_iloadn rfl d_13_18)
theorem ki_13_46 : js_Ok 13 46 (o_go 50) := js_St.ok (st_goto (by decide) d_13_46)
theorem ki_13_45 : js_Ok 13 45 (o_ic 1 46) := js_St.ok (st_iconst rfl d_13_45)
theorem ki_13_42 : js_Ok 13 42 (o_cle 49 45) := js_St.ok (st_icle (by decide) d_13_42)
theorem ki_13_40 : js_Ok 13 40 (o_ic 7 42) := js_St.ok (st_bipush rfl d_13_40)
theorem ki_13_38 : js_Ok 13 38 (o_il 4 40) := js_St.ok (st_iload d_13_38)
theorem ki_13_35 : js_Ok 13 35 (o_lt 45 38) := js_St.ok (st_iflt (by decide) d_13_35)
theorem ki_13_33 : js_Ok 13 33 (o_il 4 35) := js_St.ok (st_iload d_13_33)
theorem ki_13_62 : js_Ok 13 62 (o_gA 0 1 65) := js_St.ok (st_gA js_c0 (by decide) (by decide) kw_115 d_13_62)
theorem ki_13_61 : js_Ok 13 61 (o_al 0 62) := js_St.ok (st_aloadn rfl d_13_61)
theorem ki_13_58 : js_Ok 13 58 (o_go 73) := js_St.ok (st_goto (by decide) d_13_58)
theorem ki_13_57 : js_Ok 13 57 (o_nc 58) := js_St.ok (st_null d_13_57)
theorem ki_13_54 : js_Ok 13 54 (o_eq 61 57) := js_St.ok (st_ifeq (by decide) d_13_54)
theorem ki_13_52 : js_Ok 13 52 (o_il 5 54) := js_St.ok (st_iload d_13_52)
theorem ki_13_50 : js_Ok 13 50 (o_is 5 52) := js_St.ok (st_istore (Nat.le_of_ble_eq_true rfl) d_13_50)
theorem ki_13_49 : js_Ok 13 49 (o_ic 0 50) := js_St.ok (st_iconst rfl d_13_49)
theorem ki_13_73 : js_Ok 13 73 (o_rA) := ok_rA (Or.inl ⟨_, rfl⟩) rfl d_13_73
theorem ki_13_72 : js_Ok 13 72 (o_lN 111 73) := js_St.ok (st_lN (by decide) rfl d_13_72)
theorem ki_13_71 : js_Ok 13 71 (o_b2 (fun x y => x + y) 72) := js_St.ok (st_iadd d_13_71)
theorem ki_13_69 : js_Ok 13 69 (o_il 4 71) := js_St.ok (st_iload d_13_69)
theorem ki_13_68 : js_Ok 13 68 (o_b2 (fun x y => x * y) 69) := js_St.ok (st_imul d_13_68)
theorem ki_13_67 : js_Ok 13 67 (o_il 3 68) := js_St.ok (st_iloadn rfl d_13_67)
theorem ki_13_65 : js_Ok 13 65 (o_ic 8 67) := js_St.ok (st_bipush rfl d_13_65)
theorem d_14_0 : decode (js_b 14) 0 = .ok (.iconst 0, 1) := by decide +kernel
theorem d_14_1 : decode (js_b 14) 1 = .ok (.istore_n 2, 1) := by decide +kernel
theorem d_14_2 : decode (js_b 14) 2 = .ok (.iconst 0, 1) := by decide +kernel
theorem d_14_3 : decode (js_b 14) 3 = .ok (.istore_n 3, 1) := by decide +kernel
theorem d_14_4 : decode (js_b 14) 4 = .ok (.iload_n 3, 1) := by decide +kernel
theorem d_14_5 : decode (js_b 14) 5 = .ok (.iconst 4, 1) := by decide +kernel
theorem d_14_6 : decode (js_b 14) 6 = .ok (.if_icmp .ge 21, 3) := by decide +kernel
theorem d_14_9 : decode (js_b 14) 9 = .ok (.aload_n 0, 1) := by decide +kernel
theorem d_14_10 : decode (js_b 14) 10 = .ok (.iload_n 1, 1) := by decide +kernel
theorem d_14_11 : decode (js_b 14) 11 = .ok (.iload_n 3, 1) := by decide +kernel
theorem d_14_12 : decode (js_b 14) 12 = .ok (.invokevirtual 87, 3) := by decide +kernel
theorem d_14_15 : decode (js_b 14) 15 = .ok (.ifnull 6, 3) := by decide +kernel
theorem d_14_18 : decode (js_b 14) 18 = .ok (.iinc 2 1, 3) := by decide +kernel
theorem d_14_21 : decode (js_b 14) 21 = .ok (.iinc 3 1, 3) := by decide +kernel
theorem d_14_24 : decode (js_b 14) 24 = .ok (.goto (-20), 3) := by decide +kernel
theorem d_14_27 : decode (js_b 14) 27 = .ok (.iload_n 2, 1) := by decide +kernel
theorem d_14_28 : decode (js_b 14) 28 = .ok (.ireturn, 1) := by decide +kernel
theorem ki_14_15 : js_Ok 14 15 (o_nul 21 18) := js_St.ok (st_ifnull (by decide) d_14_15)
theorem ki_14_12 : js_Ok 14 12 (o_cN 13 3 1 15) := ok_cN (site_V kk_14_13 (by decide) kw_515 kw_516 kw_517 (fun t ht => by cases ht; exact Or.inl ⟨by decide, _, rfl, rfl⟩) d_14_12) rfl
theorem ki_14_11 : js_Ok 14 11 (o_il 3 12) := js_St.ok (st_iloadn rfl d_14_11)
theorem ki_14_10 : js_Ok 14 10 (o_il 1 11) := js_St.ok (st_iloadn rfl d_14_10)
theorem ki_14_9 : js_Ok 14 9 (o_al 0 10) := js_St.ok (st_aloadn rfl d_14_9)
theorem ki_14_6 : js_Ok 14 6 (o_cge 27 9) := js_St.ok (st_icge (by decide) d_14_6)
theorem ki_14_5 : js_Ok 14 5 (o_ic 4 6) := js_St.ok (st_iconst rfl d_14_5)
theorem ki_14_4 : js_Ok 14 4 (o_il 3 5) := js_St.ok (st_iloadn rfl d_14_4)
theorem ki_14_3 : js_Ok 14 3 (o_is 3 4) := js_St.ok (st_istoren rfl (Nat.le_of_ble_eq_true rfl) d_14_3)
theorem ki_14_2 : js_Ok 14 2 (o_ic 0 3) := js_St.ok (st_iconst rfl d_14_2)
theorem ki_14_1 : js_Ok 14 1 (o_is 2 2) := js_St.ok (st_istoren rfl (Nat.le_of_ble_eq_true rfl) d_14_1)
theorem ki_14_0 : js_Ok 14 0 (o_ic 0 1) := js_St.ok (st_iconst rfl d_14_0)
theorem ki_14_28 : js_Ok 14 28 (o_rI) := ok_rI rfl d_14_28
theorem ki_14_27 : js_Ok 14 27 (o_il 2 28) := js_St.ok (st_iloadn rfl d_14_27)
theorem ki_14_24 : js_Ok 14 24 (o_go 4) := js_St.ok (st_goto (by decide) d_14_24)
theorem ki_14_21 : js_Ok 14 21 (o_inc 3 1 24) := js_St.ok (st_iinc rfl (Nat.le_of_ble_eq_true rfl) d_14_21)
theorem ki_14_18 : js_Ok 14 18 (o_inc 2 1 21) := js_St.ok (st_iinc rfl (Nat.le_of_ble_eq_true rfl) d_14_18)
theorem d_15_0 : decode (js_b 15) 0 = .ok (.aload_n 0, 1) := by decide +kernel
theorem d_15_1 : decode (js_b 15) 1 = .ok (.getfield 17, 3) := by decide +kernel
theorem d_15_4 : decode (js_b 15) 4 = .ok (.iload_n 1, 1) := by decide +kernel
theorem d_15_5 : decode (js_b 15) 5 = .ok (.aaload, 1) := by decide +kernel
theorem d_15_6 : decode (js_b 15) 6 = .ok (.ifnonnull 15, 3) := by decide +kernel
theorem d_15_9 : decode (js_b 15) 9 = .ok (.aload_n 0, 1) := by decide +kernel
theorem d_15_10 : decode (js_b 15) 10 = .ok (.iload_n 1, 1) := by decide +kernel
theorem d_15_11 : decode (js_b 15) 11 = .ok (.invokevirtual 91, 3) := by decide +kernel
theorem d_15_14 : decode (js_b 15) 14 = .ok (.ifCond .le 7, 3) := by decide +kernel
theorem d_15_17 : decode (js_b 15) 17 = .ok (.iconst 1, 1) := by decide +kernel
theorem d_15_18 : decode (js_b 15) 18 = .ok (.goto 4, 3) := by decide +kernel
theorem d_15_21 : decode (js_b 15) 21 = .ok (.iconst 0, 1) := by decide +kernel
theorem d_15_22 : decode (js_b 15) 22 = .ok (.ireturn, 1) := by decide +kernel
theorem ki_15_14 : js_Ok 15 14 (o_le 21 17) := js_St.ok (st_ifle (by decide) d_15_14)
theorem ki_15_11 : js_Ok 15 11 (o_cI 14 2 1 14) := ok_cI (site_V kk_15_14 (by decide) kw_511 kw_512 kw_513 (fun t ht => by cases ht; exact Or.inl ⟨by decide, _, rfl, rfl⟩) d_15_11) rfl
theorem ki_15_10 : js_Ok 15 10 (o_il 1 11) := js_St.ok (st_iloadn rfl d_15_10)
theorem ki_15_9 : js_Ok 15 9 (o_al 0 10) := js_St.ok (st_aloadn rfl d_15_9)
theorem ki_15_6 : js_Ok 15 6 (o_nnl 21 9) := js_St.ok (st_ifnonnull (by decide) d_15_6)
theorem ki_15_5 : js_Ok 15 5 (o_lN 111 6) := js_St.ok (st_lN (by decide) rfl d_15_5)
theorem ki_15_4 : js_Ok 15 4 (o_il 1 5) := js_St.ok (st_iloadn rfl d_15_4)
theorem ki_15_1 : js_Ok 15 1 (o_gA 0 1 4) := js_St.ok (st_gA js_c0 (by decide) (by decide) kw_115 d_15_1)
theorem ki_15_0 : js_Ok 15 0 (o_al 0 1) := js_St.ok (st_aloadn rfl d_15_0)
theorem ki_15_22 : js_Ok 15 22 (o_rZ) := ok_rZ rfl d_15_22
theorem ki_15_21 : js_Ok 15 21 (o_ic 0 22) := js_St.ok (st_iconst rfl d_15_21)
theorem ki_15_18 : js_Ok 15 18 (o_go 22) := js_St.ok (st_goto (by decide) d_15_18)
theorem ki_15_17 : js_Ok 15 17 (o_ic 1 18) := js_St.ok (st_iconst rfl d_15_17)
theorem d_16_0 : decode (js_b 16) 0 = .ok (.aload_n 0, 1) := by decide +kernel
theorem d_16_1 : decode (js_b 16) 1 = .ok (.aload_n 1, 1) := by decide +kernel
theorem d_16_2 : decode (js_b 16) 2 = .ok (.getfield 36, 3) := by decide +kernel
theorem d_16_5 : decode (js_b 16) 5 = .ok (.iload_n 2, 1) := by decide +kernel
theorem d_16_6 : decode (js_b 16) 6 = .ok (.invokevirtual 87, 3) := by decide +kernel
theorem d_16_9 : decode (js_b 16) 9 = .ok (.astore 4, 2) := by decide +kernel
theorem d_16_11 : decode (js_b 16) 11 = .ok (.aload 4, 2) := by decide +kernel
theorem d_16_13 : decode (js_b 16) 13 = .ok (.ifnonnull 5, 3) := by decide +kernel
theorem d_16_16 : decode (js_b 16) 16 = .ok (.iconst 0, 1) := by decide +kernel
theorem d_16_17 : decode (js_b 16) 17 = .ok (.ireturn, 1) := by decide +kernel
theorem d_16_18 : decode (js_b 16) 18 = .ok (.aload_n 1, 1) := by decide +kernel
theorem d_16_19 : decode (js_b 16) 19 = .ok (.iload_n 2, 1) := by decide +kernel
theorem d_16_20 : decode (js_b 16) 20 = .ok (.invokevirtual 94, 3) := by decide +kernel
theorem d_16_23 : decode (js_b 16) 23 = .ok (.bipush 15, 2) := by decide +kernel
theorem d_16_25 : decode (js_b 16) 25 = .ok (.aload 4, 2) := by decide +kernel
theorem d_16_27 : decode (js_b 16) 27 = .ok (.iload_n 2, 1) := by decide +kernel
theorem d_16_28 : decode (js_b 16) 28 = .ok (.invokestatic 97, 3) := by decide +kernel
theorem d_16_31 : decode (js_b 16) 31 = .ok (.invokevirtual 94, 3) := by decide +kernel
theorem d_16_34 : decode (js_b 16) 34 = .ok (.isub, 1) := by decide +kernel
theorem d_16_35 : decode (js_b 16) 35 = .ok (.if_icmp .ne 7, 3) := by decide +kernel
theorem d_16_38 : decode (js_b 16) 38 = .ok (.iconst 1, 1) := by decide +kernel
theorem d_16_39 : decode (js_b 16) 39 = .ok (.goto 4, 3) := by decide +kernel
theorem d_16_42 : decode (js_b 16) 42 = .ok (.iconst 0, 1) := by decide +kernel
theorem d_16_43 : decode (js_b 16) 43 = .ok (.istore 5, 2) := by decide +kernel
theorem d_16_45 : decode (js_b 16) 45 = .ok (.iload 5, 2) := by decide +kernel
theorem d_16_47 : decode (js_b 16) 47 = .ok (.iload_n 3, 1) := by decide +kernel
theorem d_16_48 : decode (js_b 16) 48 = .ok (.if_icmp .ne 7, 3) := by decide +kernel
theorem d_16_51 : decode (js_b 16) 51 = .ok (.iconst 1, 1) := by decide +kernel
theorem d_16_52 : decode (js_b 16) 52 = .ok (.goto 4, 3) := by decide +kernel
theorem d_16_55 : decode (js_b 16) 55 = .ok (.iconst 0, 1) := by decide +kernel
theorem d_16_56 : decode (js_b 16) 56 = .ok (.ireturn, 1) := by decide +kernel
theorem ki_16_13 : js_Ok 16 13 (o_nnl 18 16) := js_St.ok (st_ifnonnull (by decide) d_16_13)
theorem ki_16_11 : js_Ok 16 11 (o_al 4 13) := js_St.ok (st_aload d_16_11)
theorem ki_16_9 : js_Ok 16 9 (o_as 4 11) := js_St.ok (st_astore (Nat.le_of_ble_eq_true rfl) d_16_9)
theorem ki_16_6 : js_Ok 16 6 (o_cN 13 3 1 9) := ok_cN (site_V kk_16_13 (by decide) kw_515 kw_516 kw_517 (fun t ht => by cases ht; exact Or.inl ⟨by decide, _, rfl, rfl⟩) d_16_6) rfl
theorem ki_16_5 : js_Ok 16 5 (o_il 2 6) := js_St.ok (st_iloadn rfl d_16_5)
theorem ki_16_2 : js_Ok 16 2 (o_gI 2 4 5) := js_St.ok (st_gIn js_c2 (by decide) (by decide) kn_97 d_16_2)
theorem ki_16_1 : js_Ok 16 1 (o_al 1 2) := js_St.ok (st_aloadn rfl d_16_1)
theorem ki_16_0 : js_Ok 16 0 (o_al 0 1) := js_St.ok (st_aloadn rfl d_16_0)
theorem ki_16_31 : js_Ok 16 31 (o_cI 22 2 3 34) := ok_cI (site_V kk_16_22 (by decide) kw_608 kw_552 kw_553 (fun t ht => by cases ht; exact Or.inl ⟨by decide, _, rfl, rfl⟩) d_16_31) rfl
theorem ki_16_28 : js_Ok 16 28 (o_cI 128 1 0 31) := ok_cI (site_SN kk_16_128 kn_609 kw_549 d_16_28) rfl
theorem ki_16_27 : js_Ok 16 27 (o_il 2 28) := js_St.ok (st_iloadn rfl d_16_27)
theorem ki_16_25 : js_Ok 16 25 (o_al 4 27) := js_St.ok (st_aload d_16_25)
theorem ki_16_23 : js_Ok 16 23 (o_ic 15 25) := js_St.ok (st_bipush rfl d_16_23)
theorem ki_16_20 : js_Ok 16 20 (o_cI 22 2 3 23) := ok_cI (site_V kk_16_22 (by decide) kw_608 kw_552 kw_553 (fun t ht => by cases ht; exact Or.inl ⟨by decide, _, rfl, rfl⟩) d_16_20) rfl
theorem ki_16_19 : js_Ok 16 19 (o_il 2 20) := js_St.ok (st_iloadn rfl d_16_19)
theorem ki_16_18 : js_Ok 16 18 (o_al 1 19) := js_St.ok (st_aloadn rfl d_16_18)
theorem ki_16_17 : js_Ok 16 17 (o_rZ) := ok_rZ rfl d_16_17
theorem ki_16_16 : js_Ok 16 16 (o_ic 0 17) := js_St.ok (st_iconst rfl d_16_16)
theorem ki_16_47 : js_Ok 16 47 (o_il 3 48) := js_St.ok (st_iloadn rfl d_16_47)
theorem ki_16_45 : js_Ok 16 45 (o_il 5 47) := js_St.ok (st_iload d_16_45)
theorem ki_16_43 : js_Ok 16 43 (o_is 5 45) := js_St.ok (st_istore (Nat.le_of_ble_eq_true rfl) d_16_43)
theorem ki_16_42 : js_Ok 16 42 (o_ic 0 43) := js_St.ok (st_iconst rfl d_16_42)
theorem ki_16_39 : js_Ok 16 39 (o_go 43) := js_St.ok (st_goto (by decide) d_16_39)
theorem ki_16_38 : js_Ok 16 38 (o_ic 1 39) := js_St.ok (st_iconst rfl d_16_38)
theorem ki_16_35 : js_Ok 16 35 (o_cne 42 38) := js_St.ok (st_icne (by decide) d_16_35)
theorem ki_16_34 : js_Ok 16 34 (o_b2 (fun x y => x - y) 35) := js_St.ok (st_isub d_16_34)
theorem ki_16_56 : js_Ok 16 56 (o_rZ) := ok_rZ rfl d_16_56
theorem ki_16_55 : js_Ok 16 55 (o_ic 0 56) := js_St.ok (st_iconst rfl d_16_55)
theorem ki_16_52 : js_Ok 16 52 (o_go 56) := js_St.ok (st_goto (by decide) d_16_52)
theorem ki_16_51 : js_Ok 16 51 (o_ic 1 52) := js_St.ok (st_iconst rfl d_16_51)
theorem ki_16_48 : js_Ok 16 48 (o_cne 55 51) := js_St.ok (st_icne (by decide) d_16_48)
theorem d_17_0 : decode (js_b 17) 0 = .ok (.iconst 0, 1) := by decide +kernel
theorem d_17_1 : decode (js_b 17) 1 = .ok (.istore_n 3, 1) := by decide +kernel
theorem d_17_2 : decode (js_b 17) 2 = .ok (.iconst 0, 1) := by decide +kernel
theorem d_17_3 : decode (js_b 17) 3 = .ok (.istore 4, 2) := by decide +kernel
theorem d_17_5 : decode (js_b 17) 5 = .ok (.iload 4, 2) := by decide +kernel
theorem d_17_7 : decode (js_b 17) 7 = .ok (.iconst 4, 1) := by decide +kernel
theorem d_17_8 : decode (js_b 17) 8 = .ok (.if_icmp .ge 23, 3) := by decide +kernel
theorem d_17_11 : decode (js_b 17) 11 = .ok (.aload_n 0, 1) := by decide +kernel
theorem d_17_12 : decode (js_b 17) 12 = .ok (.aload_n 1, 1) := by decide +kernel
theorem d_17_13 : decode (js_b 17) 13 = .ok (.iload 4, 2) := by decide +kernel
theorem d_17_15 : decode (js_b 17) 15 = .ok (.iload_n 2, 1) := by decide +kernel
theorem d_17_16 : decode (js_b 17) 16 = .ok (.invokevirtual 100, 3) := by decide +kernel
theorem d_17_19 : decode (js_b 17) 19 = .ok (.ifCond .eq 6, 3) := by decide +kernel
theorem d_17_22 : decode (js_b 17) 22 = .ok (.iinc 3 1, 3) := by decide +kernel
theorem d_17_25 : decode (js_b 17) 25 = .ok (.iinc 4 1, 3) := by decide +kernel
theorem d_17_28 : decode (js_b 17) 28 = .ok (.goto (-23), 3) := by decide +kernel
theorem d_17_31 : decode (js_b 17) 31 = .ok (.iload_n 3, 1) := by decide +kernel
theorem d_17_32 : decode (js_b 17) 32 = .ok (.ireturn, 1) := by decide +kernel
theorem ki_17_15 : js_Ok 17 15 (o_il 2 16) := js_St.ok (st_iloadn rfl d_17_15)
theorem ki_17_13 : js_Ok 17 13 (o_il 4 15) := js_St.ok (st_iload d_17_13)
theorem ki_17_12 : js_Ok 17 12 (o_al 1 13) := js_St.ok (st_aloadn rfl d_17_12)
theorem ki_17_11 : js_Ok 17 11 (o_al 0 12) := js_St.ok (st_aloadn rfl d_17_11)
theorem ki_17_8 : js_Ok 17 8 (o_cge 31 11) := js_St.ok (st_icge (by decide) d_17_8)
theorem ki_17_7 : js_Ok 17 7 (o_ic 4 8) := js_St.ok (st_iconst rfl d_17_7)
theorem ki_17_5 : js_Ok 17 5 (o_il 4 7) := js_St.ok (st_iload d_17_5)
theorem ki_17_3 : js_Ok 17 3 (o_is 4 5) := js_St.ok (st_istore (Nat.le_of_ble_eq_true rfl) d_17_3)
theorem ki_17_2 : js_Ok 17 2 (o_ic 0 3) := js_St.ok (st_iconst rfl d_17_2)
theorem ki_17_1 : js_Ok 17 1 (o_is 3 2) := js_St.ok (st_istoren rfl (Nat.le_of_ble_eq_true rfl) d_17_1)
theorem ki_17_0 : js_Ok 17 0 (o_ic 0 1) := js_St.ok (st_iconst rfl d_17_0)
theorem ki_17_31 : js_Ok 17 31 (o_il 3 32) := js_St.ok (st_iloadn rfl d_17_31)
theorem ki_17_28 : js_Ok 17 28 (o_go 5) := js_St.ok (st_goto (by decide) d_17_28)
theorem ki_17_25 : js_Ok 17 25 (o_inc 4 1 28) := js_St.ok (st_iinc rfl (Nat.le_of_ble_eq_true rfl) d_17_25)
theorem ki_17_22 : js_Ok 17 22 (o_inc 3 1 25) := js_St.ok (st_iinc rfl (Nat.le_of_ble_eq_true rfl) d_17_22)
theorem ki_17_19 : js_Ok 17 19 (o_eq 25 22) := js_St.ok (st_ifeq (by decide) d_17_19)
theorem ki_17_16 : js_Ok 17 16 (o_cI 16 4 1 19) := ok_cI (site_V kk_17_16 (by decide) kw_604 kw_605 kw_606 (fun t ht => by cases ht; exact Or.inl ⟨by decide, _, rfl, rfl⟩) d_17_16) rfl
theorem ki_17_32 : js_Ok 17 32 (o_rI) := ok_rI rfl d_17_32
theorem d_18_0 : decode (js_b 18) 0 = .ok (.iconst 0, 1) := by decide +kernel
theorem d_18_1 : decode (js_b 18) 1 = .ok (.istore_n 2, 1) := by decide +kernel
theorem d_18_2 : decode (js_b 18) 2 = .ok (.iconst 0, 1) := by decide +kernel
theorem d_18_3 : decode (js_b 18) 3 = .ok (.istore_n 3, 1) := by decide +kernel
theorem d_18_4 : decode (js_b 18) 4 = .ok (.iload_n 3, 1) := by decide +kernel
theorem d_18_5 : decode (js_b 18) 5 = .ok (.aload_n 0, 1) := by decide +kernel
theorem d_18_6 : decode (js_b 18) 6 = .ok (.getfield 21, 3) := by decide +kernel
theorem d_18_9 : decode (js_b 18) 9 = .ok (.if_icmp .ge 56, 3) := by decide +kernel
theorem d_18_12 : decode (js_b 18) 12 = .ok (.aload_n 0, 1) := by decide +kernel
theorem d_18_13 : decode (js_b 18) 13 = .ok (.getfield 11, 3) := by decide +kernel
theorem d_18_16 : decode (js_b 18) 16 = .ok (.iload_n 3, 1) := by decide +kernel
theorem d_18_17 : decode (js_b 18) 17 = .ok (.aaload, 1) := by decide +kernel
theorem d_18_18 : decode (js_b 18) 18 = .ok (.astore 4, 2) := by decide +kernel
theorem d_18_20 : decode (js_b 18) 20 = .ok (.aload 4, 2) := by decide +kernel
theorem d_18_22 : decode (js_b 18) 22 = .ok (.invokevirtual 32, 3) := by decide +kernel
theorem d_18_25 : decode (js_b 18) 25 = .ok (.ifCond .ne 6, 3) := by decide +kernel
theorem d_18_28 : decode (js_b 18) 28 = .ok (.goto 31, 3) := by decide +kernel
theorem d_18_31 : decode (js_b 18) 31 = .ok (.aload_n 0, 1) := by decide +kernel
theorem d_18_32 : decode (js_b 18) 32 = .ok (.aload 4, 2) := by decide +kernel
theorem d_18_34 : decode (js_b 18) 34 = .ok (.iconst 1, 1) := by decide +kernel
theorem d_18_35 : decode (js_b 18) 35 = .ok (.iload_n 1, 1) := by decide +kernel
theorem d_18_36 : decode (js_b 18) 36 = .ok (.invokevirtual 100, 3) := by decide +kernel
theorem d_18_39 : decode (js_b 18) 39 = .ok (.ifCond .eq 6, 3) := by decide +kernel
theorem d_18_42 : decode (js_b 18) 42 = .ok (.iinc 2 1, 3) := by decide +kernel
theorem d_18_45 : decode (js_b 18) 45 = .ok (.aload_n 0, 1) := by decide +kernel
theorem d_18_46 : decode (js_b 18) 46 = .ok (.aload 4, 2) := by decide +kernel
theorem d_18_48 : decode (js_b 18) 48 = .ok (.iconst 2, 1) := by decide +kernel
theorem d_18_49 : decode (js_b 18) 49 = .ok (.iload_n 1, 1) := by decide +kernel
theorem d_18_50 : decode (js_b 18) 50 = .ok (.invokevirtual 100, 3) := by decide +kernel
theorem d_18_53 : decode (js_b 18) 53 = .ok (.ifCond .eq 6, 3) := by decide +kernel
theorem d_18_56 : decode (js_b 18) 56 = .ok (.iinc 2 1, 3) := by decide +kernel
theorem d_18_59 : decode (js_b 18) 59 = .ok (.iinc 3 1, 3) := by decide +kernel
theorem d_18_62 : decode (js_b 18) 62 = .ok (.goto (-58), 3) := by decide +kernel
theorem d_18_65 : decode (js_b 18) 65 = .ok (.iload_n 2, 1) := by decide +kernel
theorem d_18_66 : decode (js_b 18) 66 = .ok (.ireturn, 1) := by decide +kernel
theorem ki_18_13 : js_Ok 18 13 (o_gA 0 0 16) := js_St.ok (st_gA js_c0 (by decide) (by decide) kw_111 d_18_13)
theorem ki_18_12 : js_Ok 18 12 (o_al 0 13) := js_St.ok (st_aloadn rfl d_18_12)
theorem ki_18_9 : js_Ok 18 9 (o_cge 65 12) := js_St.ok (st_icge (by decide) d_18_9)
theorem ki_18_6 : js_Ok 18 6 (o_gI 0 2 9) := js_St.ok (st_gI js_c0 (by decide) (by decide) kw_117 d_18_6)
theorem ki_18_5 : js_Ok 18 5 (o_al 0 6) := js_St.ok (st_aloadn rfl d_18_5)
theorem ki_18_4 : js_Ok 18 4 (o_il 3 5) := js_St.ok (st_iloadn rfl d_18_4)
theorem ki_18_3 : js_Ok 18 3 (o_is 3 4) := js_St.ok (st_istoren rfl (Nat.le_of_ble_eq_true rfl) d_18_3)
theorem ki_18_2 : js_Ok 18 2 (o_ic 0 3) := js_St.ok (st_iconst rfl d_18_2)
theorem ki_18_1 : js_Ok 18 1 (o_is 2 2) := js_St.ok (st_istoren rfl (Nat.le_of_ble_eq_true rfl) d_18_1)
theorem ki_18_0 : js_Ok 18 0 (o_ic 0 1) := js_St.ok (st_iconst rfl d_18_0)
theorem ki_18_31 : js_Ok 18 31 (o_al 0 32) := js_St.ok (st_aloadn rfl d_18_31)
theorem ki_18_28 : js_Ok 18 28 (o_go 59) := js_St.ok (st_goto (by decide) d_18_28)
theorem ki_18_25 : js_Ok 18 25 (o_ne 31 28) := js_St.ok (st_ifne (by decide) d_18_25)
theorem ki_18_22 : js_Ok 18 22 (o_cI 21 1 3 25) := ok_cI (site_V kk_18_21 (by decide) kw_298 kw_299 kw_300 (fun t ht => by cases ht; exact Or.inl ⟨by decide, _, rfl, rfl⟩) d_18_22) rfl
theorem ki_18_20 : js_Ok 18 20 (o_al 4 22) := js_St.ok (st_aload d_18_20)
theorem ki_18_18 : js_Ok 18 18 (o_as 4 20) := js_St.ok (st_astore (Nat.le_of_ble_eq_true rfl) d_18_18)
theorem ki_18_17 : js_Ok 18 17 (o_lA 111 18) := js_St.ok (st_lA (by decide) rfl d_18_17)
theorem ki_18_16 : js_Ok 18 16 (o_il 3 17) := js_St.ok (st_iloadn rfl d_18_16)
theorem ki_18_46 : js_Ok 18 46 (o_al 4 48) := js_St.ok (st_aload d_18_46)
theorem ki_18_45 : js_Ok 18 45 (o_al 0 46) := js_St.ok (st_aloadn rfl d_18_45)
theorem ki_18_42 : js_Ok 18 42 (o_inc 2 1 45) := js_St.ok (st_iinc rfl (Nat.le_of_ble_eq_true rfl) d_18_42)
theorem ki_18_39 : js_Ok 18 39 (o_eq 45 42) := js_St.ok (st_ifeq (by decide) d_18_39)
theorem ki_18_36 : js_Ok 18 36 (o_cI 16 4 1 39) := ok_cI (site_V kk_18_16 (by decide) kw_604 kw_605 kw_606 (fun t ht => by cases ht; exact Or.inl ⟨by decide, _, rfl, rfl⟩) d_18_36) rfl
theorem ki_18_35 : js_Ok 18 35 (o_il 1 36) := js_St.ok (st_iloadn rfl d_18_35)
theorem ki_18_34 : js_Ok 18 34 (o_ic 1 35) := js_St.ok (st_iconst rfl d_18_34)
theorem ki_18_32 : js_Ok 18 32 (o_al 4 34) := js_St.ok (st_aload d_18_32)
theorem ki_18_62 : js_Ok 18 62 (o_go 4) := js_St.ok (st_goto (by decide) d_18_62)
theorem ki_18_59 : js_Ok 18 59 (o_inc 3 1 62) := js_St.ok (st_iinc rfl (Nat.le_of_ble_eq_true rfl) d_18_59)
theorem ki_18_56 : js_Ok 18 56 (o_inc 2 1 59) := js_St.ok (st_iinc rfl (Nat.le_of_ble_eq_true rfl) d_18_56)
theorem ki_18_53 : js_Ok 18 53 (o_eq 59 56) := js_St.ok (st_ifeq (by decide) d_18_53)
theorem ki_18_50 : js_Ok 18 50 (o_cI 16 4 1 53) := ok_cI (site_V kk_18_16 (by decide) kw_604 kw_605 kw_606 (fun t ht => by cases ht; exact Or.inl ⟨by decide, _, rfl, rfl⟩) d_18_50) rfl
theorem ki_18_49 : js_Ok 18 49 (o_il 1 50) := js_St.ok (st_iloadn rfl d_18_49)
theorem ki_18_48 : js_Ok 18 48 (o_ic 2 49) := js_St.ok (st_iconst rfl d_18_48)
theorem ki_18_66 : js_Ok 18 66 (o_rI) := ok_rI rfl d_18_66
theorem ki_18_65 : js_Ok 18 65 (o_il 2 66) := js_St.ok (st_iloadn rfl d_18_65)
theorem d_19_0 : decode (js_b 19) 0 = .ok (.aload_n 0, 1) := by decide +kernel
theorem d_19_1 : decode (js_b 19) 1 = .ok (.invokespecial 1, 3) := by decide +kernel
theorem d_19_4 : decode (js_b 19) 4 = .ok (.aload_n 0, 1) := by decide +kernel
theorem d_19_5 : decode (js_b 19) 5 = .ok (.getstatic 7, 3) := by decide +kernel
theorem d_19_8 : decode (js_b 19) 8 = .ok (.putfield 13, 3) := by decide +kernel
theorem d_19_11 : decode (js_b 19) 11 = .ok (.aload_n 0, 1) := by decide +kernel
theorem d_19_12 : decode (js_b 19) 12 = .ok (.iconst 5, 1) := by decide +kernel
theorem d_19_13 : decode (js_b 19) 13 = .ok (.newarray .int, 2) := by decide +kernel
theorem d_19_15 : decode (js_b 19) 15 = .ok (.putfield 18, 3) := by decide +kernel
theorem d_19_18 : decode (js_b 19) 18 = .ok (.return_, 1) := by decide +kernel
theorem ki_19_15 : js_Ok 19 15 (o_pA 1 1 100 18) := js_Si.ok (st_pAfin js_c1 (by decide) rfl rfl rfl kw_203 (Or.inr ⟨_, rfl⟩) (js_c1.2.2.1 1 (by decide)) d_19_15)
theorem ki_19_13 : js_Ok 19 13 (o_na 100 (.int 0) 15) := js_St.ok (st_na (by decide) rfl (fun _ h => by cases h) (by decide) (fun _ => rfl) kw_110 d_19_13)
theorem ki_19_12 : js_Ok 19 12 (o_ic 5 13) := js_St.ok (st_iconst rfl d_19_12)
theorem ki_19_11 : js_Ok 19 11 (o_al 0 12) := js_St.ok (st_aloadn rfl d_19_11)
theorem ki_19_8 : js_Ok 19 8 (o_pA 1 0 21 11) := js_St.ok (st_pAown js_c1 (by decide) rfl kw_200 (Or.inl ⟨_, rfl⟩) (js_c1.2.2.1 0 (by decide)) d_19_8)
theorem ki_19_5 : js_Ok 19 5 (o_rc 9 8) := js_St.ok (st_gsR (by decide +kernel) kw_198 d_19_5)
theorem ki_19_4 : js_Ok 19 4 (o_al 0 5) := js_St.ok (st_aloadn rfl d_19_4)
theorem ki_19_1 : js_Ok 19 1 (o_obj 4) := js_St.ok (st_obj kw_197 kw_66 kw_67 d_19_1)
theorem ki_19_0 : js_Ok 19 0 (o_al 0 1) := js_St.ok (st_aloadn rfl d_19_0)
theorem ki_19_18 : js_Ok 19 18 (o_rV) := ok_rV rfl d_19_18
theorem d_20_0 : decode (js_b 20) 0 = .ok (.aload_n 0, 1) := by decide +kernel
theorem d_20_1 : decode (js_b 20) 1 = .ok (.invokespecial 3, 3) := by decide +kernel
theorem d_20_4 : decode (js_b 20) 4 = .ok (.aload_n 0, 1) := by decide +kernel
theorem d_20_5 : decode (js_b 20) 5 = .ok (.iconst 4, 1) := by decide +kernel
theorem d_20_6 : decode (js_b 20) 6 = .ok (.newarray .int, 2) := by decide +kernel
theorem d_20_8 : decode (js_b 20) 8 = .ok (.putfield 9, 3) := by decide +kernel
theorem d_20_11 : decode (js_b 20) 11 = .ok (.aload_n 0, 1) := by decide +kernel
theorem d_20_12 : decode (js_b 20) 12 = .ok (.iconst (-1), 1) := by decide +kernel
theorem d_20_13 : decode (js_b 20) 13 = .ok (.putfield 15, 3) := by decide +kernel
theorem d_20_16 : decode (js_b 20) 16 = .ok (.return_, 1) := by decide +kernel
theorem ki_20_13 : js_Ok 20 13 (o_pI 2 4 16) := js_St.ok (st_pIown js_c2 (by decide) rfl kw_95 (js_c2.2.2.1 4 (by decide)) d_20_13)
theorem ki_20_12 : js_Ok 20 12 (o_ic (-1) 13) := js_St.ok (st_iconst rfl d_20_12)
theorem ki_20_11 : js_Ok 20 11 (o_al 0 12) := js_St.ok (st_aloadn rfl d_20_11)
theorem ki_20_8 : js_Ok 20 8 (o_pA 2 2 100 11) := js_Si.ok (st_pAfin js_c2 (by decide) rfl rfl rfl kw_88 (Or.inr ⟨_, rfl⟩) (js_c2.2.2.1 2 (by decide)) d_20_8)
theorem ki_20_6 : js_Ok 20 6 (o_na 100 (.int 0) 8) := js_St.ok (st_na (by decide) rfl (fun _ h => by cases h) (by decide) (fun _ => rfl) kw_110 d_20_6)
theorem ki_20_5 : js_Ok 20 5 (o_ic 4 6) := js_St.ok (st_iconst rfl d_20_5)
theorem ki_20_4 : js_Ok 20 4 (o_al 0 5) := js_St.ok (st_aloadn rfl d_20_4)
theorem ki_20_1 : js_Ok 20 1 (o_obj 4) := js_St.ok (st_obj kw_80 kw_66 kw_67 d_20_1)
theorem ki_20_0 : js_Ok 20 0 (o_al 0 1) := js_St.ok (st_aloadn rfl d_20_0)
theorem ki_20_16 : js_Ok 20 16 (o_rV) := ok_rV rfl d_20_16
theorem d_21_0 : decode (js_b 21) 0 = .ok (.aload_n 0, 1) := by decide +kernel
theorem d_21_1 : decode (js_b 21) 1 = .ok (.getfield 15, 3) := by decide +kernel
theorem d_21_4 : decode (js_b 21) 4 = .ok (.iconst (-1), 1) := by decide +kernel
theorem d_21_5 : decode (js_b 21) 5 = .ok (.if_icmp .eq 7, 3) := by decide +kernel
theorem d_21_8 : decode (js_b 21) 8 = .ok (.iconst 1, 1) := by decide +kernel
theorem d_21_9 : decode (js_b 21) 9 = .ok (.goto 4, 3) := by decide +kernel
theorem d_21_12 : decode (js_b 21) 12 = .ok (.iconst 0, 1) := by decide +kernel
theorem d_21_13 : decode (js_b 21) 13 = .ok (.ireturn, 1) := by decide +kernel
theorem ki_21_13 : js_Ok 21 13 (o_rZ) := ok_rZ rfl d_21_13
theorem ki_21_12 : js_Ok 21 12 (o_ic 0 13) := js_St.ok (st_iconst rfl d_21_12)
theorem ki_21_9 : js_Ok 21 9 (o_go 13) := js_St.ok (st_goto (by decide) d_21_9)
theorem ki_21_8 : js_Ok 21 8 (o_ic 1 9) := js_St.ok (st_iconst rfl d_21_8)
theorem ki_21_5 : js_Ok 21 5 (o_ceq 12 8) := js_St.ok (st_iceq (by decide) d_21_5)
theorem ki_21_4 : js_Ok 21 4 (o_ic (-1) 5) := js_St.ok (st_iconst rfl d_21_4)
theorem ki_21_1 : js_Ok 21 1 (o_gI 2 4 4) := js_St.ok (st_gI js_c2 (by decide) (by decide) kw_95 d_21_1)
theorem ki_21_0 : js_Ok 21 0 (o_al 0 1) := js_St.ok (st_aloadn rfl d_21_0)
theorem d_22_0 : decode (js_b 22) 0 = .ok (.aload_n 0, 1) := by decide +kernel
theorem d_22_1 : decode (js_b 22) 1 = .ok (.getfield 9, 3) := by decide +kernel
theorem d_22_4 : decode (js_b 22) 4 = .ok (.iload_n 1, 1) := by decide +kernel
theorem d_22_5 : decode (js_b 22) 5 = .ok (.aload_n 0, 1) := by decide +kernel
theorem d_22_6 : decode (js_b 22) 6 = .ok (.getfield 19, 3) := by decide +kernel
theorem d_22_9 : decode (js_b 22) 9 = .ok (.isub, 1) := by decide +kernel
theorem d_22_10 : decode (js_b 22) 10 = .ok (.iconst 3, 1) := by decide +kernel
theorem d_22_11 : decode (js_b 22) 11 = .ok (.iand, 1) := by decide +kernel
theorem d_22_12 : decode (js_b 22) 12 = .ok (.iaload, 1) := by decide +kernel
theorem d_22_13 : decode (js_b 22) 13 = .ok (.ireturn, 1) := by decide +kernel
theorem ki_22_13 : js_Ok 22 13 (o_rI) := ok_rI rfl d_22_13
theorem ki_22_12 : js_Ok 22 12 (o_lI 100 13) := js_St.ok (st_lI d_22_12)
theorem ki_22_11 : js_Ok 22 11 (o_b2 (fun x y => x &&& y) 12) := js_St.ok (st_iand d_22_11)
theorem ki_22_10 : js_Ok 22 10 (o_ic 3 11) := js_St.ok (st_iconst rfl d_22_10)
theorem ki_22_9 : js_Ok 22 9 (o_b2 (fun x y => x - y) 10) := js_St.ok (st_isub d_22_9)
theorem ki_22_6 : js_Ok 22 6 (o_gI 2 3 9) := js_St.ok (st_gI js_c2 (by decide) (by decide) kw_91 d_22_6)
theorem ki_22_5 : js_Ok 22 5 (o_al 0 6) := js_St.ok (st_aloadn rfl d_22_5)
theorem ki_22_4 : js_Ok 22 4 (o_il 1 5) := js_St.ok (st_iloadn rfl d_22_4)
theorem ki_22_1 : js_Ok 22 1 (o_gA 2 2 4) := js_St.ok (st_gA js_c2 (by decide) (by decide) kw_88 d_22_1)
theorem ki_22_0 : js_Ok 22 0 (o_al 0 1) := js_St.ok (st_aloadn rfl d_22_0)
theorem d_23_0 : decode (js_b 23) 0 = .ok (.aload_n 0, 1) := by decide +kernel
theorem d_23_1 : decode (js_b 23) 1 = .ok (.aload_n 1, 1) := by decide +kernel
theorem d_23_2 : decode (js_b 23) 2 = .ok (.getfield 22, 3) := by decide +kernel
theorem d_23_5 : decode (js_b 23) 5 = .ok (.putfield 22, 3) := by decide +kernel
theorem d_23_8 : decode (js_b 23) 8 = .ok (.aload_n 0, 1) := by decide +kernel
theorem d_23_9 : decode (js_b 23) 9 = .ok (.aload_n 1, 1) := by decide +kernel
theorem d_23_10 : decode (js_b 23) 10 = .ok (.getfield 25, 3) := by decide +kernel
theorem d_23_13 : decode (js_b 23) 13 = .ok (.putfield 25, 3) := by decide +kernel
theorem d_23_16 : decode (js_b 23) 16 = .ok (.aload_n 1, 1) := by decide +kernel
theorem d_23_17 : decode (js_b 23) 17 = .ok (.getfield 9, 3) := by decide +kernel
theorem d_23_20 : decode (js_b 23) 20 = .ok (.iconst 0, 1) := by decide +kernel
theorem d_23_21 : decode (js_b 23) 21 = .ok (.aload_n 0, 1) := by decide +kernel
theorem d_23_22 : decode (js_b 23) 22 = .ok (.getfield 9, 3) := by decide +kernel
theorem d_23_25 : decode (js_b 23) 25 = .ok (.iconst 0, 1) := by decide +kernel
theorem d_23_26 : decode (js_b 23) 26 = .ok (.iconst 4, 1) := by decide +kernel
theorem d_23_27 : decode (js_b 23) 27 = .ok (.invokestatic 29, 3) := by decide +kernel
theorem d_23_30 : decode (js_b 23) 30 = .ok (.aload_n 0, 1) := by decide +kernel
theorem d_23_31 : decode (js_b 23) 31 = .ok (.aload_n 1, 1) := by decide +kernel
theorem d_23_32 : decode (js_b 23) 32 = .ok (.getfield 19, 3) := by decide +kernel
theorem d_23_35 : decode (js_b 23) 35 = .ok (.putfield 19, 3) := by decide +kernel
theorem d_23_38 : decode (js_b 23) 38 = .ok (.aload_n 0, 1) := by decide +kernel
theorem d_23_39 : decode (js_b 23) 39 = .ok (.aload_n 1, 1) := by decide +kernel
theorem d_23_40 : decode (js_b 23) 40 = .ok (.getfield 15, 3) := by decide +kernel
theorem d_23_43 : decode (js_b 23) 43 = .ok (.putfield 15, 3) := by decide +kernel
theorem d_23_46 : decode (js_b 23) 46 = .ok (.return_, 1) := by decide +kernel
theorem ki_23_13 : js_Ok 23 13 (o_pC 2 1 16) := js_St.ok (st_pCown js_c2 (by decide) rfl kw_85 (js_c2.2.2.1 1 (by decide)) d_23_13)
theorem ki_23_10 : js_Ok 23 10 (o_gI 2 1 13) := js_St.ok (st_gI js_c2 (by decide) (by decide) kw_85 d_23_10)
theorem ki_23_9 : js_Ok 23 9 (o_al 1 10) := js_St.ok (st_aloadn rfl d_23_9)
theorem ki_23_8 : js_Ok 23 8 (o_al 0 9) := js_St.ok (st_aloadn rfl d_23_8)
theorem ki_23_5 : js_Ok 23 5 (o_pI 2 0 8) := js_St.ok (st_pIown js_c2 (by decide) rfl kw_82 (js_c2.2.2.1 0 (by decide)) d_23_5)
theorem ki_23_2 : js_Ok 23 2 (o_gI 2 0 5) := js_St.ok (st_gI js_c2 (by decide) (by decide) kw_82 d_23_2)
theorem ki_23_1 : js_Ok 23 1 (o_al 1 2) := js_St.ok (st_aloadn rfl d_23_1)
theorem ki_23_0 : js_Ok 23 0 (o_al 0 1) := js_St.ok (st_aloadn rfl d_23_0)
theorem ki_23_31 : js_Ok 23 31 (o_al 1 32) := js_St.ok (st_aloadn rfl d_23_31)
theorem ki_23_30 : js_Ok 23 30 (o_al 0 31) := js_St.ok (st_aloadn rfl d_23_30)
theorem ki_23_27 : js_Ok 23 27 (o_cp 100 30) := js_St.ok (st_cp kw_295 kw_297 kw_296 kw_32 d_23_27)
theorem ki_23_26 : js_Ok 23 26 (o_ic 4 27) := js_St.ok (st_iconst rfl d_23_26)
theorem ki_23_25 : js_Ok 23 25 (o_ic 0 26) := js_St.ok (st_iconst rfl d_23_25)
theorem ki_23_22 : js_Ok 23 22 (o_gA 2 2 25) := js_St.ok (st_gA js_c2 (by decide) (by decide) kw_88 d_23_22)
theorem ki_23_21 : js_Ok 23 21 (o_al 0 22) := js_St.ok (st_aloadn rfl d_23_21)
theorem ki_23_20 : js_Ok 23 20 (o_ic 0 21) := js_St.ok (st_iconst rfl d_23_20)
theorem ki_23_17 : js_Ok 23 17 (o_gA 2 2 20) := js_St.ok (st_gA js_c2 (by decide) (by decide) kw_88 d_23_17)
theorem ki_23_16 : js_Ok 23 16 (o_al 1 17) := js_St.ok (st_aloadn rfl d_23_16)
theorem ki_23_46 : js_Ok 23 46 (o_rV) := ok_rV rfl d_23_46
theorem ki_23_43 : js_Ok 23 43 (o_pI 2 4 46) := js_St.ok (st_pIown js_c2 (by decide) rfl kw_95 (js_c2.2.2.1 4 (by decide)) d_23_43)
theorem ki_23_40 : js_Ok 23 40 (o_gI 2 4 43) := js_St.ok (st_gI js_c2 (by decide) (by decide) kw_95 d_23_40)
theorem ki_23_39 : js_Ok 23 39 (o_al 1 40) := js_St.ok (st_aloadn rfl d_23_39)
theorem ki_23_38 : js_Ok 23 38 (o_al 0 39) := js_St.ok (st_aloadn rfl d_23_38)
theorem ki_23_35 : js_Ok 23 35 (o_pI 2 3 38) := js_St.ok (st_pIown js_c2 (by decide) rfl kw_91 (js_c2.2.2.1 3 (by decide)) d_23_35)
theorem ki_23_32 : js_Ok 23 32 (o_gI 2 3 35) := js_St.ok (st_gI js_c2 (by decide) (by decide) kw_91 d_23_32)
theorem d_24_0 : decode (js_b 24) 0 = .ok (.aload_n 0, 1) := by decide +kernel
theorem d_24_1 : decode (js_b 24) 1 = .ok (.invokespecial 3, 3) := by decide +kernel
theorem d_24_4 : decode (js_b 24) 4 = .ok (.aload_n 0, 1) := by decide +kernel
theorem d_24_5 : decode (js_b 24) 5 = .ok (.bipush 20, 2) := by decide +kernel
theorem d_24_7 : decode (js_b 24) 7 = .ok (.anewarray 9, 3) := by decide +kernel
theorem d_24_10 : decode (js_b 24) 10 = .ok (.putfield 11, 3) := by decide +kernel
theorem d_24_13 : decode (js_b 24) 13 = .ok (.aload_n 0, 1) := by decide +kernel
theorem d_24_14 : decode (js_b 24) 14 = .ok (.bipush 64, 2) := by decide +kernel
theorem d_24_16 : decode (js_b 24) 16 = .ok (.newarray .int, 2) := by decide +kernel
theorem d_24_18 : decode (js_b 24) 18 = .ok (.putfield 17, 3) := by decide +kernel
theorem d_24_21 : decode (js_b 24) 21 = .ok (.return_, 1) := by decide +kernel
theorem ki_24_14 : js_Ok 24 14 (o_ic 64 16) := js_St.ok (st_bipush rfl d_24_14)
theorem ki_24_13 : js_Ok 24 13 (o_al 0 14) := js_St.ok (st_aloadn rfl d_24_13)
theorem ki_24_10 : js_Ok 24 10 (o_pA 3 0 111 13) := js_Si.ok (st_pAfin js_c3 (by decide) rfl rfl rfl kw_178 (Or.inr ⟨_, rfl⟩) (js_c3.2.2.1 0 (by decide)) d_24_10)
theorem ki_24_7 : js_Ok 24 7 (o_na 111 .null 10) := js_St.ok (st_ana (by decide) rfl rfl kw_177 kn_75 d_24_7)
theorem ki_24_5 : js_Ok 24 5 (o_ic 20 7) := js_St.ok (st_bipush rfl d_24_5)
theorem ki_24_4 : js_Ok 24 4 (o_al 0 5) := js_St.ok (st_aloadn rfl d_24_4)
theorem ki_24_1 : js_Ok 24 1 (o_obj 4) := js_St.ok (st_obj kw_176 kw_66 kw_67 d_24_1)
theorem ki_24_0 : js_Ok 24 0 (o_al 0 1) := js_St.ok (st_aloadn rfl d_24_0)
theorem ki_24_21 : js_Ok 24 21 (o_rV) := ok_rV rfl d_24_21
theorem ki_24_18 : js_Ok 24 18 (o_pA 3 1 100 21) := js_Si.ok (st_pAfin js_c3 (by decide) rfl rfl rfl kw_179 (Or.inr ⟨_, rfl⟩) (js_c3.2.2.1 1 (by decide)) d_24_18)
theorem ki_24_16 : js_Ok 24 16 (o_na 100 (.int 0) 18) := js_St.ok (st_na (by decide) rfl (fun _ h => by cases h) (by decide) (fun _ => rfl) kw_110 d_24_16)
theorem d_25_0 : decode (js_b 25) 0 = .ok (.aload_n 2, 1) := by decide +kernel
theorem d_25_1 : decode (js_b 25) 1 = .ok (.getfield 21, 3) := by decide +kernel
theorem d_25_4 : decode (js_b 25) 4 = .ok (.invokestatic 25, 3) := by decide +kernel
theorem d_25_7 : decode (js_b 25) 7 = .ok (.lstore_n 3, 1) := by decide +kernel
theorem d_25_8 : decode (js_b 25) 8 = .ok (.aload_n 0, 1) := by decide +kernel
theorem d_25_9 : decode (js_b 25) 9 = .ok (.getfield 11, 3) := by decide +kernel
theorem d_25_12 : decode (js_b 25) 12 = .ok (.iconst 0, 1) := by decide +kernel
theorem d_25_13 : decode (js_b 25) 13 = .ok (.aload_n 2, 1) := by decide +kernel
theorem d_25_14 : decode (js_b 25) 14 = .ok (.aastore, 1) := by decide +kernel
theorem d_25_15 : decode (js_b 25) 15 = .ok (.iconst 1, 1) := by decide +kernel
theorem d_25_16 : decode (js_b 25) 16 = .ok (.istore 5, 2) := by decide +kernel
theorem d_25_18 : decode (js_b 25) 18 = .ok (.iconst 0, 1) := by decide +kernel
theorem d_25_19 : decode (js_b 25) 19 = .ok (.istore 6, 2) := by decide +kernel
theorem d_25_21 : decode (js_b 25) 21 = .ok (.iload 6, 2) := by decide +kernel
theorem d_25_23 : decode (js_b 25) 23 = .ok (.iload 5, 2) := by decide +kernel
theorem d_25_25 : decode (js_b 25) 25 = .ok (.if_icmp .ge 111, 3) := by decide +kernel
theorem d_25_28 : decode (js_b 25) 28 = .ok (.aload_n 0, 1) := by decide +kernel
theorem d_25_29 : decode (js_b 25) 29 = .ok (.getfield 11, 3) := by decide +kernel
theorem d_25_32 : decode (js_b 25) 32 = .ok (.iload 6, 2) := by decide +kernel
theorem d_25_34 : decode (js_b 25) 34 = .ok (.aaload, 1) := by decide +kernel
theorem d_25_35 : decode (js_b 25) 35 = .ok (.astore 7, 2) := by decide +kernel
theorem d_25_37 : decode (js_b 25) 37 = .ok (.iconst 0, 1) := by decide +kernel
theorem d_25_38 : decode (js_b 25) 38 = .ok (.istore 8, 2) := by decide +kernel
theorem d_25_40 : decode (js_b 25) 40 = .ok (.iload 8, 2) := by decide +kernel
theorem d_25_42 : decode (js_b 25) 42 = .ok (.iconst 4, 1) := by decide +kernel
theorem d_25_43 : decode (js_b 25) 43 = .ok (.if_icmp .ge 87, 3) := by decide +kernel
theorem d_25_46 : decode (js_b 25) 46 = .ok (.aload_n 1, 1) := by decide +kernel
theorem d_25_47 : decode (js_b 25) 47 = .ok (.aload 7, 2) := by decide +kernel
theorem d_25_49 : decode (js_b 25) 49 = .ok (.getfield 21, 3) := by decide +kernel
theorem d_25_52 : decode (js_b 25) 52 = .ok (.iload 8, 2) := by decide +kernel
theorem d_25_54 : decode (js_b 25) 54 = .ok (.invokevirtual 29, 3) := by decide +kernel
theorem d_25_57 : decode (js_b 25) 57 = .ok (.astore 9, 2) := by decide +kernel
theorem d_25_59 : decode (js_b 25) 59 = .ok (.aload 9, 2) := by decide +kernel
theorem d_25_61 : decode (js_b 25) 61 = .ok (.ifnull 63, 3) := by decide +kernel
theorem d_25_64 : decode (js_b 25) 64 = .ok (.aload_n 1, 1) := by decide +kernel
theorem d_25_65 : decode (js_b 25) 65 = .ok (.aload 7, 2) := by decide +kernel
theorem d_25_67 : decode (js_b 25) 67 = .ok (.iload 8, 2) := by decide +kernel
theorem d_25_69 : decode (js_b 25) 69 = .ok (.iconst 1, 1) := by decide +kernel
theorem d_25_70 : decode (js_b 25) 70 = .ok (.invokevirtual 35, 3) := by decide +kernel
theorem d_25_73 : decode (js_b 25) 73 = .ok (.ifCond .ne 6, 3) := by decide +kernel
theorem d_25_76 : decode (js_b 25) 76 = .ok (.goto 48, 3) := by decide +kernel
theorem d_25_79 : decode (js_b 25) 79 = .ok (.lload_n 3, 1) := by decide +kernel
theorem d_25_80 : decode (js_b 25) 80 = .ok (.aload 9, 2) := by decide +kernel
theorem d_25_82 : decode (js_b 25) 82 = .ok (.getfield 21, 3) := by decide +kernel
theorem d_25_85 : decode (js_b 25) 85 = .ok (.invokestatic 25, 3) := by decide +kernel
theorem d_25_88 : decode (js_b 25) 88 = .ok (.land, 1) := by decide +kernel
theorem d_25_89 : decode (js_b 25) 89 = .ok (.lconst 0, 1) := by decide +kernel
theorem d_25_90 : decode (js_b 25) 90 = .ok (.lcmp, 1) := by decide +kernel
theorem d_25_91 : decode (js_b 25) 91 = .ok (.ifCond .ne 33, 3) := by decide +kernel
theorem d_25_94 : decode (js_b 25) 94 = .ok (.iload 5, 2) := by decide +kernel
theorem d_25_96 : decode (js_b 25) 96 = .ok (.bipush 20, 2) := by decide +kernel
theorem d_25_98 : decode (js_b 25) 98 = .ok (.if_icmp .ge 26, 3) := by decide +kernel
theorem d_25_101 : decode (js_b 25) 101 = .ok (.lload_n 3, 1) := by decide +kernel
theorem d_25_102 : decode (js_b 25) 102 = .ok (.aload 9, 2) := by decide +kernel
theorem d_25_104 : decode (js_b 25) 104 = .ok (.getfield 21, 3) := by decide +kernel
theorem d_25_107 : decode (js_b 25) 107 = .ok (.invokestatic 25, 3) := by decide +kernel
theorem d_25_110 : decode (js_b 25) 110 = .ok (.lor, 1) := by decide +kernel
theorem d_25_111 : decode (js_b 25) 111 = .ok (.lstore_n 3, 1) := by decide +kernel
theorem d_25_112 : decode (js_b 25) 112 = .ok (.aload_n 0, 1) := by decide +kernel
theorem d_25_113 : decode (js_b 25) 113 = .ok (.getfield 11, 3) := by decide +kernel
theorem d_25_116 : decode (js_b 25) 116 = .ok (.iload 5, 2) := by decide +kernel
theorem d_25_118 : decode (js_b 25) 118 = .ok (.aload 9, 2) := by decide +kernel
theorem d_25_120 : decode (js_b 25) 120 = .ok (.aastore, 1) := by decide +kernel
theorem d_25_121 : decode (js_b 25) 121 = .ok (.iinc 5 1, 3) := by decide +kernel
theorem d_25_124 : decode (js_b 25) 124 = .ok (.iinc 8 1, 3) := by decide +kernel
theorem d_25_127 : decode (js_b 25) 127 = .ok (.goto (-87), 3) := by decide +kernel
theorem d_25_130 : decode (js_b 25) 130 = .ok (.iinc 6 1, 3) := by decide +kernel
theorem d_25_133 : decode (js_b 25) 133 = .ok (.goto (-112), 3) := by decide +kernel
theorem d_25_136 : decode (js_b 25) 136 = .ok (.lload_n 3, 1) := by decide +kernel
theorem d_25_137 : decode (js_b 25) 137 = .ok (.lreturn, 1) := by decide +kernel
theorem ki_25_15 : js_Ok 25 15 (o_ic 1 16) := js_St.ok (st_iconst rfl d_25_15)
theorem ki_25_14 : js_Ok 25 14 (o_sA 111 2 15) := js_St.ok (st_sA (q9 := (RX3, TX3, 5)) rfl (by decide) (by decide) rfl d_25_14)
theorem ki_25_13 : js_Ok 25 13 (o_al 2 14) := js_St.ok (st_aloadn rfl d_25_13)
theorem ki_25_12 : js_Ok 25 12 (o_ic 0 13) := js_St.ok (st_iconst rfl d_25_12)
theorem ki_25_9 : js_Ok 25 9 (o_gA 3 0 12) := js_St.ok (st_gA js_c3 (by decide) (by decide) kw_178 d_25_9)
theorem ki_25_8 : js_Ok 25 8 (o_al 0 9) := js_St.ok (st_aloadn rfl d_25_8)
theorem ki_25_7 : js_Ok 25 7 (o_ls 3 8) := js_St.ok (st_lstoren rfl (Nat.le_of_ble_eq_true rfl) d_25_7)
theorem ki_25_4 : js_Ok 25 4 (o_cL 129 1 0 7) := ok_cL (site_SN kk_25_129 kn_722 kw_723 d_25_4) rfl
theorem ki_25_1 : js_Ok 25 1 (o_gI 2 4 4) := js_St.ok (st_gIn js_c2 (by decide) (by decide) kn_96 d_25_1)
theorem ki_25_0 : js_Ok 25 0 (o_al 2 1) := js_St.ok (st_aloadn rfl d_25_0)
theorem ki_25_29 : js_Ok 25 29 (o_gA 3 0 32) := js_St.ok (st_gA js_c3 (by decide) (by decide) kw_178 d_25_29)
theorem ki_25_28 : js_Ok 25 28 (o_al 0 29) := js_St.ok (st_aloadn rfl d_25_28)
theorem ki_25_25 : js_Ok 25 25 (o_cge 136 28) := js_St.ok (st_icge (by decide) d_25_25)
theorem ki_25_23 : js_Ok 25 23 (o_il 5 25) := js_St.ok (st_iload d_25_23)
theorem ki_25_21 : js_Ok 25 21 (o_il 6 23) := js_St.ok (st_iload d_25_21)
theorem ki_25_19 : js_Ok 25 19 (o_is 6 21) := js_St.ok (st_istore (Nat.le_of_ble_eq_true rfl) d_25_19)
theorem ki_25_18 : js_Ok 25 18 (o_ic 0 19) := js_St.ok (st_iconst rfl d_25_18)
theorem ki_25_16 : js_Ok 25 16 (o_is 5 18) := js_St.ok (st_istore (Nat.le_of_ble_eq_true rfl) d_25_16)
theorem ki_25_47 : js_Ok 25 47 (o_al 7 49) := js_St.ok (st_aload d_25_47)
theorem ki_25_46 : js_Ok 25 46 (o_al 1 47) := js_St.ok (st_aloadn rfl d_25_46)
theorem ki_25_43 : js_Ok 25 43 (o_cge 130 46) := js_St.ok (st_icge (by decide) d_25_43)
theorem ki_25_42 : js_Ok 25 42 (o_ic 4 43) := js_St.ok (st_iconst rfl d_25_42)
theorem ki_25_40 : js_Ok 25 40 (o_il 8 42) := js_St.ok (st_iload d_25_40)
theorem ki_25_38 : js_Ok 25 38 (o_is 8 40) := js_St.ok (st_istore (Nat.le_of_ble_eq_true rfl) d_25_38)
theorem ki_25_37 : js_Ok 25 37 (o_ic 0 38) := js_St.ok (st_iconst rfl d_25_37)
theorem ki_25_35 : js_Ok 25 35 (o_as 7 37) := js_St.ok (st_astore (Nat.le_of_ble_eq_true rfl) d_25_35)
theorem ki_25_34 : js_Ok 25 34 (o_lA 111 35) := js_St.ok (st_lA (by decide) rfl d_25_34)
theorem ki_25_32 : js_Ok 25 32 (o_il 6 34) := js_St.ok (st_iload d_25_32)
theorem ki_25_61 : js_Ok 25 61 (o_nul 124 64) := js_St.ok (st_ifnull (by decide) d_25_61)
theorem ki_25_59 : js_Ok 25 59 (o_al 9 61) := js_St.ok (st_aload d_25_59)
theorem ki_25_57 : js_Ok 25 57 (o_as 9 59) := js_St.ok (st_astore (Nat.le_of_ble_eq_true rfl) d_25_57)
theorem ki_25_54 : js_Ok 25 54 (o_cN 13 3 1 57) := ok_cN (site_V kk_25_13 (by decide) kw_725 kw_516 kw_517 (fun t ht => by cases ht; exact Or.inl ⟨by decide, _, rfl, rfl⟩) d_25_54) rfl
theorem ki_25_52 : js_Ok 25 52 (o_il 8 54) := js_St.ok (st_iload d_25_52)
theorem ki_25_49 : js_Ok 25 49 (o_gI 2 4 52) := js_St.ok (st_gIn js_c2 (by decide) (by decide) kn_96 d_25_49)
theorem ki_25_79 : js_Ok 25 79 (o_ll 3 80) := js_St.ok (st_lloadn rfl d_25_79)
theorem ki_25_76 : js_Ok 25 76 (o_go 124) := js_St.ok (st_goto (by decide) d_25_76)
theorem ki_25_73 : js_Ok 25 73 (o_ne 79 76) := js_St.ok (st_ifne (by decide) d_25_73)
theorem ki_25_70 : js_Ok 25 70 (o_cI 16 4 1 73) := ok_cI (site_V kk_25_16 (by decide) kw_726 kw_605 kw_606 (fun t ht => by cases ht; exact Or.inl ⟨by decide, _, rfl, rfl⟩) d_25_70) rfl
theorem ki_25_69 : js_Ok 25 69 (o_ic 1 70) := js_St.ok (st_iconst rfl d_25_69)
theorem ki_25_67 : js_Ok 25 67 (o_il 8 69) := js_St.ok (st_iload d_25_67)
theorem ki_25_65 : js_Ok 25 65 (o_al 7 67) := js_St.ok (st_aload d_25_65)
theorem ki_25_64 : js_Ok 25 64 (o_al 1 65) := js_St.ok (st_aloadn rfl d_25_64)
theorem ki_25_94 : js_Ok 25 94 (o_il 5 96) := js_St.ok (st_iload d_25_94)
theorem ki_25_91 : js_Ok 25 91 (o_ne 124 94) := js_St.ok (st_ifne (by decide) d_25_91)
theorem ki_25_90 : js_Ok 25 90 (o_lcmp 91) := js_St.ok (st_lcmp d_25_90)
theorem ki_25_89 : js_Ok 25 89 (o_lc 0 90) := js_St.ok (st_lconst rfl d_25_89)
theorem ki_25_88 : js_Ok 25 88 (o_B2 (fun x y => x &&& y) 89) := js_St.ok (st_land d_25_88)
theorem ki_25_85 : js_Ok 25 85 (o_cL 129 1 0 88) := ok_cL (site_SN kk_25_129 kn_722 kw_723 d_25_85) rfl
theorem ki_25_82 : js_Ok 25 82 (o_gI 2 4 85) := js_St.ok (st_gIn js_c2 (by decide) (by decide) kn_96 d_25_82)
theorem ki_25_80 : js_Ok 25 80 (o_al 9 82) := js_St.ok (st_aload d_25_80)
theorem ki_25_111 : js_Ok 25 111 (o_ls 3 112) := js_St.ok (st_lstoren rfl (Nat.le_of_ble_eq_true rfl) d_25_111)
theorem ki_25_110 : js_Ok 25 110 (o_B2 (fun x y => x ||| y) 111) := js_St.ok (st_lor d_25_110)
theorem ki_25_107 : js_Ok 25 107 (o_cL 129 1 0 110) := ok_cL (site_SN kk_25_129 kn_722 kw_723 d_25_107) rfl
theorem ki_25_104 : js_Ok 25 104 (o_gI 2 4 107) := js_St.ok (st_gIn js_c2 (by decide) (by decide) kn_96 d_25_104)
theorem ki_25_102 : js_Ok 25 102 (o_al 9 104) := js_St.ok (st_aload d_25_102)
theorem ki_25_101 : js_Ok 25 101 (o_ll 3 102) := js_St.ok (st_lloadn rfl d_25_101)
theorem ki_25_98 : js_Ok 25 98 (o_cge 124 101) := js_St.ok (st_icge (by decide) d_25_98)
theorem ki_25_96 : js_Ok 25 96 (o_ic 20 98) := js_St.ok (st_bipush rfl d_25_96)
theorem ki_25_127 : js_Ok 25 127 (o_go 40) := js_St.ok (st_goto (by decide) d_25_127)
theorem ki_25_124 : js_Ok 25 124 (o_inc 8 1 127) := js_St.ok (st_iinc rfl (Nat.le_of_ble_eq_true rfl) d_25_124)
theorem ki_25_121 : js_Ok 25 121 (o_inc 5 1 124) := js_St.ok (st_iinc rfl (Nat.le_of_ble_eq_true rfl) d_25_121)
theorem ki_25_120 : js_Ok 25 120 (o_sA 111 2 121) := js_St.ok (st_sA (q9 := (RX3, TX3, 5)) rfl (by decide) (by decide) rfl d_25_120)
theorem ki_25_118 : js_Ok 25 118 (o_al 9 120) := js_St.ok (st_aload d_25_118)
theorem ki_25_116 : js_Ok 25 116 (o_il 5 118) := js_St.ok (st_iload d_25_116)
theorem ki_25_113 : js_Ok 25 113 (o_gA 3 0 116) := js_St.ok (st_gA js_c3 (by decide) (by decide) kw_178 d_25_113)
theorem ki_25_112 : js_Ok 25 112 (o_al 0 113) := js_St.ok (st_aloadn rfl d_25_112)
theorem ki_25_137 : js_Ok 25 137 (o_rL) := ok_rL rfl d_25_137
theorem ki_25_136 : js_Ok 25 136 (o_ll 3 137) := js_St.ok (st_lloadn rfl d_25_136)
theorem ki_25_133 : js_Ok 25 133 (o_go 21) := js_St.ok (st_goto (by decide) d_25_133)
theorem ki_25_130 : js_Ok 25 130 (o_inc 6 1 133) := js_St.ok (st_iinc rfl (Nat.le_of_ble_eq_true rfl) d_25_130)
theorem d_26_0 : decode (js_b 26) 0 = .ok (.lconst 0, 1) := by decide +kernel
theorem d_26_1 : decode (js_b 26) 1 = .ok (.lstore_n 2, 1) := by decide +kernel
theorem d_26_2 : decode (js_b 26) 2 = .ok (.iconst 0, 1) := by decide +kernel
theorem d_26_3 : decode (js_b 26) 3 = .ok (.istore 4, 2) := by decide +kernel
theorem d_26_5 : decode (js_b 26) 5 = .ok (.iconst 0, 1) := by decide +kernel
theorem d_26_6 : decode (js_b 26) 6 = .ok (.istore 5, 2) := by decide +kernel
theorem d_26_8 : decode (js_b 26) 8 = .ok (.iload 5, 2) := by decide +kernel
theorem d_26_10 : decode (js_b 26) 10 = .ok (.aload_n 1, 1) := by decide +kernel
theorem d_26_11 : decode (js_b 26) 11 = .ok (.getfield 39, 3) := by decide +kernel
theorem d_26_14 : decode (js_b 26) 14 = .ok (.if_icmp .ge 54, 3) := by decide +kernel
theorem d_26_17 : decode (js_b 26) 17 = .ok (.aload_n 1, 1) := by decide +kernel
theorem d_26_18 : decode (js_b 26) 18 = .ok (.getfield 42, 3) := by decide +kernel
theorem d_26_21 : decode (js_b 26) 21 = .ok (.iload 5, 2) := by decide +kernel
theorem d_26_23 : decode (js_b 26) 23 = .ok (.aaload, 1) := by decide +kernel
theorem d_26_24 : decode (js_b 26) 24 = .ok (.astore 6, 2) := by decide +kernel
theorem d_26_26 : decode (js_b 26) 26 = .ok (.aload 6, 2) := by decide +kernel
theorem d_26_28 : decode (js_b 26) 28 = .ok (.invokevirtual 45, 3) := by decide +kernel
theorem d_26_31 : decode (js_b 26) 31 = .ok (.ifCond .eq 31, 3) := by decide +kernel
theorem d_26_34 : decode (js_b 26) 34 = .ok (.lload_n 2, 1) := by decide +kernel
theorem d_26_35 : decode (js_b 26) 35 = .ok (.aload 6, 2) := by decide +kernel
theorem d_26_37 : decode (js_b 26) 37 = .ok (.getfield 21, 3) := by decide +kernel
theorem d_26_40 : decode (js_b 26) 40 = .ok (.invokestatic 25, 3) := by decide +kernel
theorem d_26_43 : decode (js_b 26) 43 = .ok (.land, 1) := by decide +kernel
theorem d_26_44 : decode (js_b 26) 44 = .ok (.lconst 0, 1) := by decide +kernel
theorem d_26_45 : decode (js_b 26) 45 = .ok (.lcmp, 1) := by decide +kernel
theorem d_26_46 : decode (js_b 26) 46 = .ok (.ifCond .ne 16, 3) := by decide +kernel
theorem d_26_49 : decode (js_b 26) 49 = .ok (.lload_n 2, 1) := by decide +kernel
theorem d_26_50 : decode (js_b 26) 50 = .ok (.aload_n 0, 1) := by decide +kernel
theorem d_26_51 : decode (js_b 26) 51 = .ok (.aload_n 1, 1) := by decide +kernel
theorem d_26_52 : decode (js_b 26) 52 = .ok (.aload 6, 2) := by decide +kernel
theorem d_26_54 : decode (js_b 26) 54 = .ok (.invokevirtual 49, 3) := by decide +kernel
theorem d_26_57 : decode (js_b 26) 57 = .ok (.lor, 1) := by decide +kernel
theorem d_26_58 : decode (js_b 26) 58 = .ok (.lstore_n 2, 1) := by decide +kernel
theorem d_26_59 : decode (js_b 26) 59 = .ok (.iinc 4 1, 3) := by decide +kernel
theorem d_26_62 : decode (js_b 26) 62 = .ok (.iinc 5 1, 3) := by decide +kernel
theorem d_26_65 : decode (js_b 26) 65 = .ok (.goto (-57), 3) := by decide +kernel
theorem d_26_68 : decode (js_b 26) 68 = .ok (.iload 4, 2) := by decide +kernel
theorem d_26_70 : decode (js_b 26) 70 = .ok (.ireturn, 1) := by decide +kernel
theorem ki_26_14 : js_Ok 26 14 (o_cge 68 17) := js_St.ok (st_icge (by decide) d_26_14)
theorem ki_26_11 : js_Ok 26 11 (o_gI 0 2 14) := js_St.ok (st_gIn js_c0 (by decide) (by decide) kn_118 d_26_11)
theorem ki_26_10 : js_Ok 26 10 (o_al 1 11) := js_St.ok (st_aloadn rfl d_26_10)
theorem ki_26_8 : js_Ok 26 8 (o_il 5 10) := js_St.ok (st_iload d_26_8)
theorem ki_26_6 : js_Ok 26 6 (o_is 5 8) := js_St.ok (st_istore (Nat.le_of_ble_eq_true rfl) d_26_6)
theorem ki_26_5 : js_Ok 26 5 (o_ic 0 6) := js_St.ok (st_iconst rfl d_26_5)
theorem ki_26_3 : js_Ok 26 3 (o_is 4 5) := js_St.ok (st_istore (Nat.le_of_ble_eq_true rfl) d_26_3)
theorem ki_26_2 : js_Ok 26 2 (o_ic 0 3) := js_St.ok (st_iconst rfl d_26_2)
theorem ki_26_1 : js_Ok 26 1 (o_ls 2 2) := js_St.ok (st_lstoren rfl (Nat.le_of_ble_eq_true rfl) d_26_1)
theorem ki_26_0 : js_Ok 26 0 (o_lc 0 1) := js_St.ok (st_lconst rfl d_26_0)
theorem ki_26_31 : js_Ok 26 31 (o_eq 62 34) := js_St.ok (st_ifeq (by decide) d_26_31)
theorem ki_26_28 : js_Ok 26 28 (o_cI 21 1 3 31) := ok_cI (site_V kk_26_21 (by decide) kw_962 kw_299 kw_300 (fun t ht => by cases ht; exact Or.inl ⟨by decide, _, rfl, rfl⟩) d_26_28) rfl
theorem ki_26_26 : js_Ok 26 26 (o_al 6 28) := js_St.ok (st_aload d_26_26)
theorem ki_26_24 : js_Ok 26 24 (o_as 6 26) := js_St.ok (st_astore (Nat.le_of_ble_eq_true rfl) d_26_24)
theorem ki_26_23 : js_Ok 26 23 (o_lA 111 24) := js_St.ok (st_lA (by decide) rfl d_26_23)
theorem ki_26_21 : js_Ok 26 21 (o_il 5 23) := js_St.ok (st_iload d_26_21)
theorem ki_26_18 : js_Ok 26 18 (o_gA 0 0 21) := js_St.ok (st_gAn js_c0 (by decide) (by decide) kn_112 d_26_18)
theorem ki_26_17 : js_Ok 26 17 (o_al 1 18) := js_St.ok (st_aloadn rfl d_26_17)
theorem ki_26_46 : js_Ok 26 46 (o_ne 62 49) := js_St.ok (st_ifne (by decide) d_26_46)
theorem ki_26_45 : js_Ok 26 45 (o_lcmp 46) := js_St.ok (st_lcmp d_26_45)
theorem ki_26_44 : js_Ok 26 44 (o_lc 0 45) := js_St.ok (st_lconst rfl d_26_44)
theorem ki_26_43 : js_Ok 26 43 (o_B2 (fun x y => x &&& y) 44) := js_St.ok (st_land d_26_43)
theorem ki_26_40 : js_Ok 26 40 (o_cL 129 1 0 43) := ok_cL (site_SN kk_26_129 kn_722 kw_723 d_26_40) rfl
theorem ki_26_37 : js_Ok 26 37 (o_gI 2 4 40) := js_St.ok (st_gIn js_c2 (by decide) (by decide) kn_96 d_26_37)
theorem ki_26_35 : js_Ok 26 35 (o_al 6 37) := js_St.ok (st_aload d_26_35)
theorem ki_26_34 : js_Ok 26 34 (o_ll 2 35) := js_St.ok (st_lloadn rfl d_26_34)
theorem ki_26_62 : js_Ok 26 62 (o_inc 5 1 65) := js_St.ok (st_iinc rfl (Nat.le_of_ble_eq_true rfl) d_26_62)
theorem ki_26_59 : js_Ok 26 59 (o_inc 4 1 62) := js_St.ok (st_iinc rfl (Nat.le_of_ble_eq_true rfl) d_26_59)
theorem ki_26_58 : js_Ok 26 58 (o_ls 2 59) := js_St.ok (st_lstoren rfl (Nat.le_of_ble_eq_true rfl) d_26_58)
theorem ki_26_57 : js_Ok 26 57 (o_B2 (fun x y => x ||| y) 58) := js_St.ok (st_lor d_26_57)
theorem ki_26_54 : js_Ok 26 54 (o_cL 25 3 4 57) := ok_cL (site_V kk_26_25 (by decide) kw_963 kw_719 kw_720 (fun t ht => by cases ht; exact Or.inl ⟨by decide, _, rfl, rfl⟩) d_26_54) rfl
theorem ki_26_52 : js_Ok 26 52 (o_al 6 54) := js_St.ok (st_aload d_26_52)
theorem ki_26_51 : js_Ok 26 51 (o_al 1 52) := js_St.ok (st_aloadn rfl d_26_51)
theorem ki_26_50 : js_Ok 26 50 (o_al 0 51) := js_St.ok (st_aloadn rfl d_26_50)
theorem ki_26_49 : js_Ok 26 49 (o_ll 2 50) := js_St.ok (st_lloadn rfl d_26_49)
theorem ki_26_70 : js_Ok 26 70 (o_rI) := ok_rI rfl d_26_70
theorem ki_26_68 : js_Ok 26 68 (o_il 4 70) := js_St.ok (st_iload d_26_68)
theorem ki_26_65 : js_Ok 26 65 (o_go 8) := js_St.ok (st_goto (by decide) d_26_65)
theorem d_27_0 : decode (js_b 27) 0 = .ok (.iconst 0, 1) := by decide +kernel
theorem d_27_1 : decode (js_b 27) 1 = .ok (.istore_n 2, 1) := by decide +kernel
theorem d_27_2 : decode (js_b 27) 2 = .ok (.iconst 0, 1) := by decide +kernel
theorem d_27_3 : decode (js_b 27) 3 = .ok (.istore_n 3, 1) := by decide +kernel
theorem d_27_4 : decode (js_b 27) 4 = .ok (.iload_n 3, 1) := by decide +kernel
theorem d_27_5 : decode (js_b 27) 5 = .ok (.aload_n 1, 1) := by decide +kernel
theorem d_27_6 : decode (js_b 27) 6 = .ok (.getfield 39, 3) := by decide +kernel
theorem d_27_9 : decode (js_b 27) 9 = .ok (.if_icmp .ge 40, 3) := by decide +kernel
theorem d_27_12 : decode (js_b 27) 12 = .ok (.aload_n 1, 1) := by decide +kernel
theorem d_27_13 : decode (js_b 27) 13 = .ok (.getfield 42, 3) := by decide +kernel
theorem d_27_16 : decode (js_b 27) 16 = .ok (.iload_n 3, 1) := by decide +kernel
theorem d_27_17 : decode (js_b 27) 17 = .ok (.aaload, 1) := by decide +kernel
theorem d_27_18 : decode (js_b 27) 18 = .ok (.astore 4, 2) := by decide +kernel
theorem d_27_20 : decode (js_b 27) 20 = .ok (.aload 4, 2) := by decide +kernel
theorem d_27_22 : decode (js_b 27) 22 = .ok (.invokevirtual 45, 3) := by decide +kernel
theorem d_27_25 : decode (js_b 27) 25 = .ok (.ifCond .eq 18, 3) := by decide +kernel
theorem d_27_28 : decode (js_b 27) 28 = .ok (.iload_n 2, 1) := by decide +kernel
theorem d_27_29 : decode (js_b 27) 29 = .ok (.aload_n 0, 1) := by decide +kernel
theorem d_27_30 : decode (js_b 27) 30 = .ok (.aload_n 1, 1) := by decide +kernel
theorem d_27_31 : decode (js_b 27) 31 = .ok (.aload 4, 2) := by decide +kernel
theorem d_27_33 : decode (js_b 27) 33 = .ok (.invokevirtual 49, 3) := by decide +kernel
theorem d_27_36 : decode (js_b 27) 36 = .ok (.invokestatic 53, 3) := by decide +kernel
theorem d_27_39 : decode (js_b 27) 39 = .ok (.invokestatic 59, 3) := by decide +kernel
theorem d_27_42 : decode (js_b 27) 42 = .ok (.istore_n 2, 1) := by decide +kernel
theorem d_27_43 : decode (js_b 27) 43 = .ok (.iinc 3 1, 3) := by decide +kernel
theorem d_27_46 : decode (js_b 27) 46 = .ok (.goto (-42), 3) := by decide +kernel
theorem d_27_49 : decode (js_b 27) 49 = .ok (.iload_n 2, 1) := by decide +kernel
theorem d_27_50 : decode (js_b 27) 50 = .ok (.ireturn, 1) := by decide +kernel
theorem ki_27_13 : js_Ok 27 13 (o_gA 0 0 16) := js_St.ok (st_gAn js_c0 (by decide) (by decide) kn_112 d_27_13)
theorem ki_27_12 : js_Ok 27 12 (o_al 1 13) := js_St.ok (st_aloadn rfl d_27_12)
theorem ki_27_9 : js_Ok 27 9 (o_cge 49 12) := js_St.ok (st_icge (by decide) d_27_9)
theorem ki_27_6 : js_Ok 27 6 (o_gI 0 2 9) := js_St.ok (st_gIn js_c0 (by decide) (by decide) kn_118 d_27_6)
theorem ki_27_5 : js_Ok 27 5 (o_al 1 6) := js_St.ok (st_aloadn rfl d_27_5)
theorem ki_27_4 : js_Ok 27 4 (o_il 3 5) := js_St.ok (st_iloadn rfl d_27_4)
theorem ki_27_3 : js_Ok 27 3 (o_is 3 4) := js_St.ok (st_istoren rfl (Nat.le_of_ble_eq_true rfl) d_27_3)
theorem ki_27_2 : js_Ok 27 2 (o_ic 0 3) := js_St.ok (st_iconst rfl d_27_2)
theorem ki_27_1 : js_Ok 27 1 (o_is 2 2) := js_St.ok (st_istoren rfl (Nat.le_of_ble_eq_true rfl) d_27_1)
theorem ki_27_0 : js_Ok 27 0 (o_ic 0 1) := js_St.ok (st_iconst rfl d_27_0)
theorem ki_27_31 : js_Ok 27 31 (o_al 4 33) := js_St.ok (st_aload d_27_31)
theorem ki_27_30 : js_Ok 27 30 (o_al 1 31) := js_St.ok (st_aloadn rfl d_27_30)
theorem ki_27_29 : js_Ok 27 29 (o_al 0 30) := js_St.ok (st_aloadn rfl d_27_29)
theorem ki_27_28 : js_Ok 27 28 (o_il 2 29) := js_St.ok (st_iloadn rfl d_27_28)
theorem ki_27_25 : js_Ok 27 25 (o_eq 43 28) := js_St.ok (st_ifeq (by decide) d_27_25)
theorem ki_27_22 : js_Ok 27 22 (o_cI 21 1 3 25) := ok_cI (site_V kk_27_21 (by decide) kw_962 kw_299 kw_300 (fun t ht => by cases ht; exact Or.inl ⟨by decide, _, rfl, rfl⟩) d_27_22) rfl
theorem ki_27_20 : js_Ok 27 20 (o_al 4 22) := js_St.ok (st_aload d_27_20)
theorem ki_27_18 : js_Ok 27 18 (o_as 4 20) := js_St.ok (st_astore (Nat.le_of_ble_eq_true rfl) d_27_18)
theorem ki_27_17 : js_Ok 27 17 (o_lA 111 18) := js_St.ok (st_lA (by decide) rfl d_27_17)
theorem ki_27_16 : js_Ok 27 16 (o_il 3 17) := js_St.ok (st_iloadn rfl d_27_16)
theorem ki_27_46 : js_Ok 27 46 (o_go 4) := js_St.ok (st_goto (by decide) d_27_46)
theorem ki_27_43 : js_Ok 27 43 (o_inc 3 1 46) := js_St.ok (st_iinc rfl (Nat.le_of_ble_eq_true rfl) d_27_43)
theorem ki_27_42 : js_Ok 27 42 (o_is 2 43) := js_St.ok (st_istoren rfl (Nat.le_of_ble_eq_true rfl) d_27_42)
theorem ki_27_39 : js_Ok 27 39 (o_cI 246 2 0 42) := ok_cI (site_S kk_27_246 kw_993 kw_568 d_27_39) rfl
theorem ki_27_36 : js_Ok 27 36 (o_cI 245 1 0 39) := ok_cI (site_S kk_27_245 kw_992 kw_728 d_27_36) rfl
theorem ki_27_33 : js_Ok 27 33 (o_cL 25 3 4 36) := ok_cL (site_V kk_27_25 (by decide) kw_963 kw_719 kw_720 (fun t ht => by cases ht; exact Or.inl ⟨by decide, _, rfl, rfl⟩) d_27_33) rfl
theorem ki_27_50 : js_Ok 27 50 (o_rI) := ok_rI rfl d_27_50
theorem ki_27_49 : js_Ok 27 49 (o_il 2 50) := js_St.ok (st_iloadn rfl d_27_49)
theorem d_28_0 : decode (js_b 28) 0 = .ok (.iconst 0, 1) := by decide +kernel
theorem d_28_1 : decode (js_b 28) 1 = .ok (.istore_n 2, 1) := by decide +kernel
theorem d_28_2 : decode (js_b 28) 2 = .ok (.iload_n 2, 1) := by decide +kernel
theorem d_28_3 : decode (js_b 28) 3 = .ok (.bipush 64, 2) := by decide +kernel
theorem d_28_5 : decode (js_b 28) 5 = .ok (.if_icmp .ge 16, 3) := by decide +kernel
theorem d_28_8 : decode (js_b 28) 8 = .ok (.aload_n 0, 1) := by decide +kernel
theorem d_28_9 : decode (js_b 28) 9 = .ok (.getfield 17, 3) := by decide +kernel
theorem d_28_12 : decode (js_b 28) 12 = .ok (.iload_n 2, 1) := by decide +kernel
theorem d_28_13 : decode (js_b 28) 13 = .ok (.iload_n 2, 1) := by decide +kernel
theorem d_28_14 : decode (js_b 28) 14 = .ok (.iastore, 1) := by decide +kernel
theorem d_28_15 : decode (js_b 28) 15 = .ok (.iinc 2 1, 3) := by decide +kernel
theorem d_28_18 : decode (js_b 28) 18 = .ok (.goto (-16), 3) := by decide +kernel
theorem d_28_21 : decode (js_b 28) 21 = .ok (.aload_n 1, 1) := by decide +kernel
theorem d_28_22 : decode (js_b 28) 22 = .ok (.invokevirtual 65, 3) := by decide +kernel
theorem d_28_25 : decode (js_b 28) 25 = .ok (.istore_n 2, 1) := by decide +kernel
theorem d_28_26 : decode (js_b 28) 26 = .ok (.iconst 0, 1) := by decide +kernel
theorem d_28_27 : decode (js_b 28) 27 = .ok (.istore_n 3, 1) := by decide +kernel
theorem d_28_28 : decode (js_b 28) 28 = .ok (.iload_n 3, 1) := by decide +kernel
theorem d_28_29 : decode (js_b 28) 29 = .ok (.aload_n 1, 1) := by decide +kernel
theorem d_28_30 : decode (js_b 28) 30 = .ok (.getfield 39, 3) := by decide +kernel
theorem d_28_33 : decode (js_b 28) 33 = .ok (.if_icmp .ge 45, 3) := by decide +kernel
theorem d_28_36 : decode (js_b 28) 36 = .ok (.aload_n 1, 1) := by decide +kernel
theorem d_28_37 : decode (js_b 28) 37 = .ok (.getfield 42, 3) := by decide +kernel
theorem d_28_40 : decode (js_b 28) 40 = .ok (.iload_n 3, 1) := by decide +kernel
theorem d_28_41 : decode (js_b 28) 41 = .ok (.aaload, 1) := by decide +kernel
theorem d_28_42 : decode (js_b 28) 42 = .ok (.astore 4, 2) := by decide +kernel
theorem d_28_44 : decode (js_b 28) 44 = .ok (.aload 4, 2) := by decide +kernel
theorem d_28_46 : decode (js_b 28) 46 = .ok (.invokevirtual 45, 3) := by decide +kernel
theorem d_28_49 : decode (js_b 28) 49 = .ok (.ifCond .eq 23, 3) := by decide +kernel
theorem d_28_52 : decode (js_b 28) 52 = .ok (.iload_n 2, 1) := by decide +kernel
theorem d_28_53 : decode (js_b 28) 53 = .ok (.aload_n 0, 1) := by decide +kernel
theorem d_28_54 : decode (js_b 28) 54 = .ok (.aload_n 1, 1) := by decide +kernel
theorem d_28_55 : decode (js_b 28) 55 = .ok (.aload 4, 2) := by decide +kernel
theorem d_28_57 : decode (js_b 28) 57 = .ok (.iconst 1, 1) := by decide +kernel
theorem d_28_58 : decode (js_b 28) 58 = .ok (.invokevirtual 69, 3) := by decide +kernel
theorem d_28_61 : decode (js_b 28) 61 = .ok (.aload_n 0, 1) := by decide +kernel
theorem d_28_62 : decode (js_b 28) 62 = .ok (.aload_n 1, 1) := by decide +kernel
theorem d_28_63 : decode (js_b 28) 63 = .ok (.aload 4, 2) := by decide +kernel
theorem d_28_65 : decode (js_b 28) 65 = .ok (.iconst 2, 1) := by decide +kernel
theorem d_28_66 : decode (js_b 28) 66 = .ok (.invokevirtual 69, 3) := by decide +kernel
theorem d_28_69 : decode (js_b 28) 69 = .ok (.iadd, 1) := by decide +kernel
theorem d_28_70 : decode (js_b 28) 70 = .ok (.isub, 1) := by decide +kernel
theorem d_28_71 : decode (js_b 28) 71 = .ok (.istore_n 2, 1) := by decide +kernel
theorem d_28_72 : decode (js_b 28) 72 = .ok (.iinc 3 1, 3) := by decide +kernel
theorem d_28_75 : decode (js_b 28) 75 = .ok (.goto (-47), 3) := by decide +kernel
theorem d_28_78 : decode (js_b 28) 78 = .ok (.iload_n 2, 1) := by decide +kernel
theorem d_28_79 : decode (js_b 28) 79 = .ok (.ireturn, 1) := by decide +kernel
theorem ki_28_15 : js_Ok 28 15 (o_inc 2 1 18) := js_St.ok (st_iinc rfl (Nat.le_of_ble_eq_true rfl) d_28_15)
theorem ki_28_14 : js_Ok 28 14 (o_sI 100 15) := js_St.ok (st_sI d_28_14)
theorem ki_28_13 : js_Ok 28 13 (o_il 2 14) := js_St.ok (st_iloadn rfl d_28_13)
theorem ki_28_12 : js_Ok 28 12 (o_il 2 13) := js_St.ok (st_iloadn rfl d_28_12)
theorem ki_28_9 : js_Ok 28 9 (o_gA 3 1 12) := js_St.ok (st_gA js_c3 (by decide) (by decide) kw_179 d_28_9)
theorem ki_28_8 : js_Ok 28 8 (o_al 0 9) := js_St.ok (st_aloadn rfl d_28_8)
theorem ki_28_5 : js_Ok 28 5 (o_cge 21 8) := js_St.ok (st_icge (by decide) d_28_5)
theorem ki_28_3 : js_Ok 28 3 (o_ic 64 5) := js_St.ok (st_bipush rfl d_28_3)
theorem ki_28_2 : js_Ok 28 2 (o_il 2 3) := js_St.ok (st_iloadn rfl d_28_2)
theorem ki_28_1 : js_Ok 28 1 (o_is 2 2) := js_St.ok (st_istoren rfl (Nat.le_of_ble_eq_true rfl) d_28_1)
theorem ki_28_0 : js_Ok 28 0 (o_ic 0 1) := js_St.ok (st_iconst rfl d_28_0)
theorem ki_28_30 : js_Ok 28 30 (o_gI 0 2 33) := js_St.ok (st_gIn js_c0 (by decide) (by decide) kn_118 d_28_30)
theorem ki_28_29 : js_Ok 28 29 (o_al 1 30) := js_St.ok (st_aloadn rfl d_28_29)
theorem ki_28_28 : js_Ok 28 28 (o_il 3 29) := js_St.ok (st_iloadn rfl d_28_28)
theorem ki_28_27 : js_Ok 28 27 (o_is 3 28) := js_St.ok (st_istoren rfl (Nat.le_of_ble_eq_true rfl) d_28_27)
theorem ki_28_26 : js_Ok 28 26 (o_ic 0 27) := js_St.ok (st_iconst rfl d_28_26)
theorem ki_28_25 : js_Ok 28 25 (o_is 2 26) := js_St.ok (st_istoren rfl (Nat.le_of_ble_eq_true rfl) d_28_25)
theorem ki_28_22 : js_Ok 28 22 (o_cI 4 1 1 25) := ok_cI (site_V kk_28_4 (by decide) kw_972 kw_755 kw_756 (fun t ht => by cases ht; exact Or.inl ⟨by decide, _, rfl, rfl⟩) d_28_22) rfl
theorem ki_28_21 : js_Ok 28 21 (o_al 1 22) := js_St.ok (st_aloadn rfl d_28_21)
theorem ki_28_18 : js_Ok 28 18 (o_go 2) := js_St.ok (st_goto (by decide) d_28_18)
theorem ki_28_46 : js_Ok 28 46 (o_cI 21 1 3 49) := ok_cI (site_V kk_28_21 (by decide) kw_962 kw_299 kw_300 (fun t ht => by cases ht; exact Or.inl ⟨by decide, _, rfl, rfl⟩) d_28_46) rfl
theorem ki_28_44 : js_Ok 28 44 (o_al 4 46) := js_St.ok (st_aload d_28_44)
theorem ki_28_42 : js_Ok 28 42 (o_as 4 44) := js_St.ok (st_astore (Nat.le_of_ble_eq_true rfl) d_28_42)
theorem ki_28_41 : js_Ok 28 41 (o_lA 111 42) := js_St.ok (st_lA (by decide) rfl d_28_41)
theorem ki_28_40 : js_Ok 28 40 (o_il 3 41) := js_St.ok (st_iloadn rfl d_28_40)
theorem ki_28_37 : js_Ok 28 37 (o_gA 0 0 40) := js_St.ok (st_gAn js_c0 (by decide) (by decide) kn_112 d_28_37)
theorem ki_28_36 : js_Ok 28 36 (o_al 1 37) := js_St.ok (st_aloadn rfl d_28_36)
theorem ki_28_33 : js_Ok 28 33 (o_cge 78 36) := js_St.ok (st_icge (by decide) d_28_33)
theorem ki_28_63 : js_Ok 28 63 (o_al 4 65) := js_St.ok (st_aload d_28_63)
theorem ki_28_62 : js_Ok 28 62 (o_al 1 63) := js_St.ok (st_aloadn rfl d_28_62)
theorem ki_28_61 : js_Ok 28 61 (o_al 0 62) := js_St.ok (st_aloadn rfl d_28_61)
theorem ki_28_58 : js_Ok 28 58 (o_cI 29 4 4 61) := ok_cI (site_V kk_28_29 (by decide) kw_973 kw_975 ks_10 (fun t ht => by cases ht; exact Or.inl ⟨by decide, _, rfl, rfl⟩) d_28_58) rfl
theorem ki_28_57 : js_Ok 28 57 (o_ic 1 58) := js_St.ok (st_iconst rfl d_28_57)
theorem ki_28_55 : js_Ok 28 55 (o_al 4 57) := js_St.ok (st_aload d_28_55)
theorem ki_28_54 : js_Ok 28 54 (o_al 1 55) := js_St.ok (st_aloadn rfl d_28_54)
theorem ki_28_53 : js_Ok 28 53 (o_al 0 54) := js_St.ok (st_aloadn rfl d_28_53)
theorem ki_28_52 : js_Ok 28 52 (o_il 2 53) := js_St.ok (st_iloadn rfl d_28_52)
theorem ki_28_49 : js_Ok 28 49 (o_eq 72 52) := js_St.ok (st_ifeq (by decide) d_28_49)
theorem ki_28_79 : js_Ok 28 79 (o_rI) := ok_rI rfl d_28_79
theorem ki_28_78 : js_Ok 28 78 (o_il 2 79) := js_St.ok (st_iloadn rfl d_28_78)
theorem ki_28_75 : js_Ok 28 75 (o_go 28) := js_St.ok (st_goto (by decide) d_28_75)
theorem ki_28_72 : js_Ok 28 72 (o_inc 3 1 75) := js_St.ok (st_iinc rfl (Nat.le_of_ble_eq_true rfl) d_28_72)
theorem ki_28_71 : js_Ok 28 71 (o_is 2 72) := js_St.ok (st_istoren rfl (Nat.le_of_ble_eq_true rfl) d_28_71)
theorem ki_28_70 : js_Ok 28 70 (o_b2 (fun x y => x - y) 71) := js_St.ok (st_isub d_28_70)
theorem ki_28_69 : js_Ok 28 69 (o_b2 (fun x y => x + y) 70) := js_St.ok (st_iadd d_28_69)
theorem ki_28_66 : js_Ok 28 66 (o_cI 29 4 4 69) := ok_cI (site_V kk_28_29 (by decide) kw_973 kw_975 ks_10 (fun t ht => by cases ht; exact Or.inl ⟨by decide, _, rfl, rfl⟩) d_28_66) rfl
theorem ki_28_65 : js_Ok 28 65 (o_ic 2 66) := js_St.ok (st_iconst rfl d_28_65)
theorem d_29_0 : decode (js_b 29) 0 = .ok (.aload_n 1, 1) := by decide +kernel
theorem d_29_1 : decode (js_b 29) 1 = .ok (.aload_n 2, 1) := by decide +kernel
theorem d_29_2 : decode (js_b 29) 2 = .ok (.getfield 21, 3) := by decide +kernel
theorem d_29_5 : decode (js_b 29) 5 = .ok (.iload_n 3, 1) := by decide +kernel
theorem d_29_6 : decode (js_b 29) 6 = .ok (.invokevirtual 29, 3) := by decide +kernel
theorem d_29_9 : decode (js_b 29) 9 = .ok (.astore 4, 2) := by decide +kernel
theorem d_29_11 : decode (js_b 29) 11 = .ok (.aload 4, 2) := by decide +kernel
theorem d_29_13 : decode (js_b 29) 13 = .ok (.ifnull 13, 3) := by decide +kernel
theorem d_29_16 : decode (js_b 29) 16 = .ok (.aload_n 1, 1) := by decide +kernel
theorem d_29_17 : decode (js_b 29) 17 = .ok (.aload_n 2, 1) := by decide +kernel
theorem d_29_18 : decode (js_b 29) 18 = .ok (.iload_n 3, 1) := by decide +kernel
theorem d_29_19 : decode (js_b 29) 19 = .ok (.iconst 1, 1) := by decide +kernel
theorem d_29_20 : decode (js_b 29) 20 = .ok (.invokevirtual 35, 3) := by decide +kernel
theorem d_29_23 : decode (js_b 29) 23 = .ok (.ifCond .ne 5, 3) := by decide +kernel
theorem d_29_26 : decode (js_b 29) 26 = .ok (.iconst 0, 1) := by decide +kernel
theorem d_29_27 : decode (js_b 29) 27 = .ok (.ireturn, 1) := by decide +kernel
theorem d_29_28 : decode (js_b 29) 28 = .ok (.aload_n 0, 1) := by decide +kernel
theorem d_29_29 : decode (js_b 29) 29 = .ok (.aload_n 2, 1) := by decide +kernel
theorem d_29_30 : decode (js_b 29) 30 = .ok (.getfield 21, 3) := by decide +kernel
theorem d_29_33 : decode (js_b 29) 33 = .ok (.invokevirtual 73, 3) := by decide +kernel
theorem d_29_36 : decode (js_b 29) 36 = .ok (.istore 5, 2) := by decide +kernel
theorem d_29_38 : decode (js_b 29) 38 = .ok (.aload_n 0, 1) := by decide +kernel
theorem d_29_39 : decode (js_b 29) 39 = .ok (.aload 4, 2) := by decide +kernel
theorem d_29_41 : decode (js_b 29) 41 = .ok (.getfield 21, 3) := by decide +kernel
theorem d_29_44 : decode (js_b 29) 44 = .ok (.invokevirtual 73, 3) := by decide +kernel
theorem d_29_47 : decode (js_b 29) 47 = .ok (.istore 6, 2) := by decide +kernel
theorem d_29_49 : decode (js_b 29) 49 = .ok (.aload_n 0, 1) := by decide +kernel
theorem d_29_50 : decode (js_b 29) 50 = .ok (.getfield 17, 3) := by decide +kernel
theorem d_29_53 : decode (js_b 29) 53 = .ok (.iload 6, 2) := by decide +kernel
theorem d_29_55 : decode (js_b 29) 55 = .ok (.iload 5, 2) := by decide +kernel
theorem d_29_57 : decode (js_b 29) 57 = .ok (.iastore, 1) := by decide +kernel
theorem d_29_58 : decode (js_b 29) 58 = .ok (.iload 5, 2) := by decide +kernel
theorem d_29_60 : decode (js_b 29) 60 = .ok (.iload 6, 2) := by decide +kernel
theorem d_29_62 : decode (js_b 29) 62 = .ok (.if_icmp .ne 7, 3) := by decide +kernel
theorem d_29_65 : decode (js_b 29) 65 = .ok (.iconst 0, 1) := by decide +kernel
theorem d_29_66 : decode (js_b 29) 66 = .ok (.goto 4, 3) := by decide +kernel
theorem d_29_69 : decode (js_b 29) 69 = .ok (.iconst 1, 1) := by decide +kernel
theorem d_29_70 : decode (js_b 29) 70 = .ok (.ireturn, 1) := by decide +kernel
theorem ki_29_13 : js_Ok 29 13 (o_nul 26 16) := js_St.ok (st_ifnull (by decide) d_29_13)
theorem ki_29_11 : js_Ok 29 11 (o_al 4 13) := js_St.ok (st_aload d_29_11)
theorem ki_29_9 : js_Ok 29 9 (o_as 4 11) := js_St.ok (st_astore (Nat.le_of_ble_eq_true rfl) d_29_9)
theorem ki_29_6 : js_Ok 29 6 (o_cN 13 3 1 9) := ok_cN (site_V kk_29_13 (by decide) kw_725 kw_516 kw_517 (fun t ht => by cases ht; exact Or.inl ⟨by decide, _, rfl, rfl⟩) d_29_6) rfl
theorem ki_29_5 : js_Ok 29 5 (o_il 3 6) := js_St.ok (st_iloadn rfl d_29_5)
theorem ki_29_2 : js_Ok 29 2 (o_gI 2 4 5) := js_St.ok (st_gIn js_c2 (by decide) (by decide) kn_96 d_29_2)
theorem ki_29_1 : js_Ok 29 1 (o_al 2 2) := js_St.ok (st_aloadn rfl d_29_1)
theorem ki_29_0 : js_Ok 29 0 (o_al 1 1) := js_St.ok (st_aloadn rfl d_29_0)
theorem ki_29_30 : js_Ok 29 30 (o_gI 2 4 33) := js_St.ok (st_gIn js_c2 (by decide) (by decide) kn_96 d_29_30)
theorem ki_29_29 : js_Ok 29 29 (o_al 2 30) := js_St.ok (st_aloadn rfl d_29_29)
theorem ki_29_28 : js_Ok 29 28 (o_al 0 29) := js_St.ok (st_aloadn rfl d_29_28)
theorem ki_29_27 : js_Ok 29 27 (o_rI) := ok_rI rfl d_29_27
theorem ki_29_26 : js_Ok 29 26 (o_ic 0 27) := js_St.ok (st_iconst rfl d_29_26)
theorem ki_29_23 : js_Ok 29 23 (o_ne 28 26) := js_St.ok (st_ifne (by decide) d_29_23)
theorem ki_29_20 : js_Ok 29 20 (o_cI 16 4 1 23) := ok_cI (site_V kk_29_16 (by decide) kw_726 kw_605 kw_606 (fun t ht => by cases ht; exact Or.inl ⟨by decide, _, rfl, rfl⟩) d_29_20) rfl
theorem ki_29_19 : js_Ok 29 19 (o_ic 1 20) := js_St.ok (st_iconst rfl d_29_19)
theorem ki_29_18 : js_Ok 29 18 (o_il 3 19) := js_St.ok (st_iloadn rfl d_29_18)
theorem ki_29_17 : js_Ok 29 17 (o_al 2 18) := js_St.ok (st_aloadn rfl d_29_17)
theorem ki_29_16 : js_Ok 29 16 (o_al 1 17) := js_St.ok (st_aloadn rfl d_29_16)
theorem ki_29_47 : js_Ok 29 47 (o_is 6 49) := js_St.ok (st_istore (Nat.le_of_ble_eq_true rfl) d_29_47)
theorem ki_29_44 : js_Ok 29 44 (o_cI 30 2 4 47) := ok_cI (site_V kk_29_30 (by decide) kw_977 kw_979 ks_11 (fun t ht => by cases ht; exact Or.inl ⟨by decide, _, rfl, rfl⟩) d_29_44) rfl
theorem ki_29_41 : js_Ok 29 41 (o_gI 2 4 44) := js_St.ok (st_gIn js_c2 (by decide) (by decide) kn_96 d_29_41)
theorem ki_29_39 : js_Ok 29 39 (o_al 4 41) := js_St.ok (st_aload d_29_39)
theorem ki_29_38 : js_Ok 29 38 (o_al 0 39) := js_St.ok (st_aloadn rfl d_29_38)
theorem ki_29_36 : js_Ok 29 36 (o_is 5 38) := js_St.ok (st_istore (Nat.le_of_ble_eq_true rfl) d_29_36)
theorem ki_29_33 : js_Ok 29 33 (o_cI 30 2 4 36) := ok_cI (site_V kk_29_30 (by decide) kw_977 kw_979 ks_11 (fun t ht => by cases ht; exact Or.inl ⟨by decide, _, rfl, rfl⟩) d_29_33) rfl
theorem ki_29_62 : js_Ok 29 62 (o_cne 69 65) := js_St.ok (st_icne (by decide) d_29_62)
theorem ki_29_60 : js_Ok 29 60 (o_il 6 62) := js_St.ok (st_iload d_29_60)
theorem ki_29_58 : js_Ok 29 58 (o_il 5 60) := js_St.ok (st_iload d_29_58)
theorem ki_29_57 : js_Ok 29 57 (o_sI 100 58) := js_St.ok (st_sI d_29_57)
theorem ki_29_55 : js_Ok 29 55 (o_il 5 57) := js_St.ok (st_iload d_29_55)
theorem ki_29_53 : js_Ok 29 53 (o_il 6 55) := js_St.ok (st_iload d_29_53)
theorem ki_29_50 : js_Ok 29 50 (o_gA 3 1 53) := js_St.ok (st_gA js_c3 (by decide) (by decide) kw_179 d_29_50)
theorem ki_29_49 : js_Ok 29 49 (o_al 0 50) := js_St.ok (st_aloadn rfl d_29_49)
theorem ki_29_70 : js_Ok 29 70 (o_rI) := ok_rI rfl d_29_70
theorem ki_29_69 : js_Ok 29 69 (o_ic 1 70) := js_St.ok (st_iconst rfl d_29_69)
theorem ki_29_66 : js_Ok 29 66 (o_go 70) := js_St.ok (st_goto (by decide) d_29_66)
theorem ki_29_65 : js_Ok 29 65 (o_ic 0 66) := js_St.ok (st_iconst rfl d_29_65)
theorem d_30_0 : decode (js_b 30) 0 = .ok (.iload_n 1, 1) := by decide +kernel
theorem d_30_1 : decode (js_b 30) 1 = .ok (.istore_n 2, 1) := by decide +kernel
theorem d_30_2 : decode (js_b 30) 2 = .ok (.iconst 0, 1) := by decide +kernel
theorem d_30_3 : decode (js_b 30) 3 = .ok (.istore_n 3, 1) := by decide +kernel
theorem d_30_4 : decode (js_b 30) 4 = .ok (.iload_n 3, 1) := by decide +kernel
theorem d_30_5 : decode (js_b 30) 5 = .ok (.bipush 64, 2) := by decide +kernel
theorem d_30_7 : decode (js_b 30) 7 = .ok (.if_icmp .ge 26, 3) := by decide +kernel
theorem d_30_10 : decode (js_b 30) 10 = .ok (.aload_n 0, 1) := by decide +kernel
theorem d_30_11 : decode (js_b 30) 11 = .ok (.getfield 17, 3) := by decide +kernel
theorem d_30_14 : decode (js_b 30) 14 = .ok (.iload_n 2, 1) := by decide +kernel
theorem d_30_15 : decode (js_b 30) 15 = .ok (.iaload, 1) := by decide +kernel
theorem d_30_16 : decode (js_b 30) 16 = .ok (.iload_n 2, 1) := by decide +kernel
theorem d_30_17 : decode (js_b 30) 17 = .ok (.if_icmp .eq 16, 3) := by decide +kernel
theorem d_30_20 : decode (js_b 30) 20 = .ok (.aload_n 0, 1) := by decide +kernel
theorem d_30_21 : decode (js_b 30) 21 = .ok (.getfield 17, 3) := by decide +kernel
theorem d_30_24 : decode (js_b 30) 24 = .ok (.iload_n 2, 1) := by decide +kernel
theorem d_30_25 : decode (js_b 30) 25 = .ok (.iaload, 1) := by decide +kernel
theorem d_30_26 : decode (js_b 30) 26 = .ok (.istore_n 2, 1) := by decide +kernel
theorem d_30_27 : decode (js_b 30) 27 = .ok (.iinc 3 1, 3) := by decide +kernel
theorem d_30_30 : decode (js_b 30) 30 = .ok (.goto (-26), 3) := by decide +kernel
theorem d_30_33 : decode (js_b 30) 33 = .ok (.iload_n 2, 1) := by decide +kernel
theorem d_30_34 : decode (js_b 30) 34 = .ok (.ireturn, 1) := by decide +kernel
theorem ki_30_15 : js_Ok 30 15 (o_lI 100 16) := js_St.ok (st_lI d_30_15)
theorem ki_30_14 : js_Ok 30 14 (o_il 2 15) := js_St.ok (st_iloadn rfl d_30_14)
theorem ki_30_11 : js_Ok 30 11 (o_gA 3 1 14) := js_St.ok (st_gA js_c3 (by decide) (by decide) kw_179 d_30_11)
theorem ki_30_10 : js_Ok 30 10 (o_al 0 11) := js_St.ok (st_aloadn rfl d_30_10)
theorem ki_30_7 : js_Ok 30 7 (o_cge 33 10) := js_St.ok (st_icge (by decide) d_30_7)
theorem ki_30_5 : js_Ok 30 5 (o_ic 64 7) := js_St.ok (st_bipush rfl d_30_5)
theorem ki_30_4 : js_Ok 30 4 (o_il 3 5) := js_St.ok (st_iloadn rfl d_30_4)
theorem ki_30_3 : js_Ok 30 3 (o_is 3 4) := js_St.ok (st_istoren rfl (Nat.le_of_ble_eq_true rfl) d_30_3)
theorem ki_30_2 : js_Ok 30 2 (o_ic 0 3) := js_St.ok (st_iconst rfl d_30_2)
theorem ki_30_1 : js_Ok 30 1 (o_is 2 2) := js_St.ok (st_istoren rfl (Nat.le_of_ble_eq_true rfl) d_30_1)
theorem ki_30_0 : js_Ok 30 0 (o_il 1 1) := js_St.ok (st_iloadn rfl d_30_0)
theorem ki_30_30 : js_Ok 30 30 (o_go 4) := js_St.ok (st_goto (by decide) d_30_30)
theorem ki_30_27 : js_Ok 30 27 (o_inc 3 1 30) := js_St.ok (st_iinc rfl (Nat.le_of_ble_eq_true rfl) d_30_27)
theorem ki_30_26 : js_Ok 30 26 (o_is 2 27) := js_St.ok (st_istoren rfl (Nat.le_of_ble_eq_true rfl) d_30_26)
theorem ki_30_25 : js_Ok 30 25 (o_lI 100 26) := js_St.ok (st_lI d_30_25)
theorem ki_30_24 : js_Ok 30 24 (o_il 2 25) := js_St.ok (st_iloadn rfl d_30_24)
theorem ki_30_21 : js_Ok 30 21 (o_gA 3 1 24) := js_St.ok (st_gA js_c3 (by decide) (by decide) kw_179 d_30_21)
theorem ki_30_20 : js_Ok 30 20 (o_al 0 21) := js_St.ok (st_aloadn rfl d_30_20)
theorem ki_30_17 : js_Ok 30 17 (o_ceq 33 20) := js_St.ok (st_iceq (by decide) d_30_17)
theorem ki_30_16 : js_Ok 30 16 (o_il 2 17) := js_St.ok (st_iloadn rfl d_30_16)
theorem ki_30_34 : js_Ok 30 34 (o_rI) := ok_rI rfl d_30_34
theorem ki_30_33 : js_Ok 30 33 (o_il 2 34) := js_St.ok (st_iloadn rfl d_30_33)
theorem d_31_0 : decode (js_b 31) 0 = .ok (.aload_n 0, 1) := by decide +kernel
theorem d_31_1 : decode (js_b 31) 1 = .ok (.invokespecial 3, 3) := by decide +kernel
theorem d_31_4 : decode (js_b 31) 4 = .ok (.aload_n 0, 1) := by decide +kernel
theorem d_31_5 : decode (js_b 31) 5 = .ok (.iconst 4, 1) := by decide +kernel
theorem d_31_6 : decode (js_b 31) 6 = .ok (.newarray .int, 2) := by decide +kernel
theorem d_31_8 : decode (js_b 31) 8 = .ok (.putfield 9, 3) := by decide +kernel
theorem d_31_11 : decode (js_b 31) 11 = .ok (.aload_n 0, 1) := by decide +kernel
theorem d_31_12 : decode (js_b 31) 12 = .ok (.iconst 4, 1) := by decide +kernel
theorem d_31_13 : decode (js_b 31) 13 = .ok (.newarray .char, 2) := by decide +kernel
theorem d_31_15 : decode (js_b 31) 15 = .ok (.putfield 15, 3) := by decide +kernel
theorem d_31_18 : decode (js_b 31) 18 = .ok (.aload_n 0, 1) := by decide +kernel
theorem d_31_19 : decode (js_b 31) 19 = .ok (.bipush 20, 2) := by decide +kernel
theorem d_31_21 : decode (js_b 31) 21 = .ok (.newarray .int, 2) := by decide +kernel
theorem d_31_23 : decode (js_b 31) 23 = .ok (.putfield 19, 3) := by decide +kernel
theorem d_31_26 : decode (js_b 31) 26 = .ok (.return_, 1) := by decide +kernel
theorem ki_31_15 : js_Ok 31 15 (o_pA 4 1 101 18) := js_Si.ok (st_pAfin js_c4 (by decide) rfl rfl rfl kw_158 (Or.inr ⟨_, rfl⟩) (js_c4.2.2.1 1 (by decide)) d_31_15)
theorem ki_31_13 : js_Ok 31 13 (o_na 101 (.int 0) 15) := js_St.ok (st_na (by decide) rfl (fun _ h => by cases h) (by decide) (fun _ => rfl) kw_170 d_31_13)
theorem ki_31_12 : js_Ok 31 12 (o_ic 4 13) := js_St.ok (st_iconst rfl d_31_12)
theorem ki_31_11 : js_Ok 31 11 (o_al 0 12) := js_St.ok (st_aloadn rfl d_31_11)
theorem ki_31_8 : js_Ok 31 8 (o_pA 4 0 100 11) := js_Si.ok (st_pAfin js_c4 (by decide) rfl rfl rfl kw_157 (Or.inr ⟨_, rfl⟩) (js_c4.2.2.1 0 (by decide)) d_31_8)
theorem ki_31_6 : js_Ok 31 6 (o_na 100 (.int 0) 8) := js_St.ok (st_na (by decide) rfl (fun _ h => by cases h) (by decide) (fun _ => rfl) kw_110 d_31_6)
theorem ki_31_5 : js_Ok 31 5 (o_ic 4 6) := js_St.ok (st_iconst rfl d_31_5)
theorem ki_31_4 : js_Ok 31 4 (o_al 0 5) := js_St.ok (st_aloadn rfl d_31_4)
theorem ki_31_1 : js_Ok 31 1 (o_obj 4) := js_St.ok (st_obj kw_156 kw_66 kw_67 d_31_1)
theorem ki_31_0 : js_Ok 31 0 (o_al 0 1) := js_St.ok (st_aloadn rfl d_31_0)
theorem ki_31_26 : js_Ok 31 26 (o_rV) := ok_rV rfl d_31_26
theorem ki_31_23 : js_Ok 31 23 (o_pA 4 2 100 26) := js_Si.ok (st_pAfin js_c4 (by decide) rfl rfl rfl kw_159 (Or.inr ⟨_, rfl⟩) (js_c4.2.2.1 2 (by decide)) d_31_23)
theorem ki_31_21 : js_Ok 31 21 (o_na 100 (.int 0) 23) := js_St.ok (st_na (by decide) rfl (fun _ h => by cases h) (by decide) (fun _ => rfl) kw_110 d_31_21)
theorem ki_31_19 : js_Ok 31 19 (o_ic 20 21) := js_St.ok (st_bipush rfl d_31_19)
theorem ki_31_18 : js_Ok 31 18 (o_al 0 19) := js_St.ok (st_aloadn rfl d_31_18)
theorem d_32_0 : decode (js_b 32) 0 = .ok (.aload_n 0, 1) := by decide +kernel
theorem d_32_1 : decode (js_b 32) 1 = .ok (.iload_n 2, 1) := by decide +kernel
theorem d_32_2 : decode (js_b 32) 2 = .ok (.putfield 22, 3) := by decide +kernel
theorem d_32_5 : decode (js_b 32) 5 = .ok (.iconst 0, 1) := by decide +kernel
theorem d_32_6 : decode (js_b 32) 6 = .ok (.istore_n 3, 1) := by decide +kernel
theorem d_32_7 : decode (js_b 32) 7 = .ok (.iload_n 3, 1) := by decide +kernel
theorem d_32_8 : decode (js_b 32) 8 = .ok (.iconst 4, 1) := by decide +kernel
theorem d_32_9 : decode (js_b 32) 9 = .ok (.if_icmp .ge 61, 3) := by decide +kernel
theorem d_32_12 : decode (js_b 32) 12 = .ok (.aload_n 1, 1) := by decide +kernel
theorem d_32_13 : decode (js_b 32) 13 = .ok (.iload_n 2, 1) := by decide +kernel
theorem d_32_14 : decode (js_b 32) 14 = .ok (.iload_n 3, 1) := by decide +kernel
theorem d_32_15 : decode (js_b 32) 15 = .ok (.invokevirtual 26, 3) := by decide +kernel
theorem d_32_18 : decode (js_b 32) 18 = .ok (.astore 4, 2) := by decide +kernel
theorem d_32_20 : decode (js_b 32) 20 = .ok (.aload 4, 2) := by decide +kernel
theorem d_32_22 : decode (js_b 32) 22 = .ok (.ifnonnull 13, 3) := by decide +kernel
theorem d_32_25 : decode (js_b 32) 25 = .ok (.aload_n 0, 1) := by decide +kernel
theorem d_32_26 : decode (js_b 32) 26 = .ok (.getfield 9, 3) := by decide +kernel
theorem d_32_29 : decode (js_b 32) 29 = .ok (.iload_n 3, 1) := by decide +kernel
theorem d_32_30 : decode (js_b 32) 30 = .ok (.iconst (-1), 1) := by decide +kernel
theorem d_32_31 : decode (js_b 32) 31 = .ok (.iastore, 1) := by decide +kernel
theorem d_32_32 : decode (js_b 32) 32 = .ok (.goto 32, 3) := by decide +kernel
theorem d_32_35 : decode (js_b 32) 35 = .ok (.aload_n 0, 1) := by decide +kernel
theorem d_32_36 : decode (js_b 32) 36 = .ok (.getfield 9, 3) := by decide +kernel
theorem d_32_39 : decode (js_b 32) 39 = .ok (.iload_n 3, 1) := by decide +kernel
theorem d_32_40 : decode (js_b 32) 40 = .ok (.bipush 15, 2) := by decide +kernel
theorem d_32_42 : decode (js_b 32) 42 = .ok (.aload 4, 2) := by decide +kernel
theorem d_32_44 : decode (js_b 32) 44 = .ok (.iload_n 3, 1) := by decide +kernel
theorem d_32_45 : decode (js_b 32) 45 = .ok (.invokestatic 32, 3) := by decide +kernel
theorem d_32_48 : decode (js_b 32) 48 = .ok (.invokevirtual 36, 3) := by decide +kernel
theorem d_32_51 : decode (js_b 32) 51 = .ok (.isub, 1) := by decide +kernel
theorem d_32_52 : decode (js_b 32) 52 = .ok (.iastore, 1) := by decide +kernel
theorem d_32_53 : decode (js_b 32) 53 = .ok (.aload_n 0, 1) := by decide +kernel
theorem d_32_54 : decode (js_b 32) 54 = .ok (.getfield 15, 3) := by decide +kernel
theorem d_32_57 : decode (js_b 32) 57 = .ok (.iload_n 3, 1) := by decide +kernel
theorem d_32_58 : decode (js_b 32) 58 = .ok (.aload 4, 2) := by decide +kernel
theorem d_32_60 : decode (js_b 32) 60 = .ok (.getfield 41, 3) := by decide +kernel
theorem d_32_63 : decode (js_b 32) 63 = .ok (.castore, 1) := by decide +kernel
theorem d_32_64 : decode (js_b 32) 64 = .ok (.iinc 3 1, 3) := by decide +kernel
theorem d_32_67 : decode (js_b 32) 67 = .ok (.goto (-60), 3) := by decide +kernel
theorem d_32_70 : decode (js_b 32) 70 = .ok (.return_, 1) := by decide +kernel
theorem ki_32_15 : js_Ok 32 15 (o_cN 13 3 1 18) := ok_cN (site_V kk_32_13 (by decide) kw_547 kw_516 kw_517 (fun t ht => by cases ht; exact Or.inl ⟨by decide, _, rfl, rfl⟩) d_32_15) rfl
theorem ki_32_14 : js_Ok 32 14 (o_il 3 15) := js_St.ok (st_iloadn rfl d_32_14)
theorem ki_32_13 : js_Ok 32 13 (o_il 2 14) := js_St.ok (st_iloadn rfl d_32_13)
theorem ki_32_12 : js_Ok 32 12 (o_al 1 13) := js_St.ok (st_aloadn rfl d_32_12)
theorem ki_32_9 : js_Ok 32 9 (o_cge 70 12) := js_St.ok (st_icge (by decide) d_32_9)
theorem ki_32_8 : js_Ok 32 8 (o_ic 4 9) := js_St.ok (st_iconst rfl d_32_8)
theorem ki_32_7 : js_Ok 32 7 (o_il 3 8) := js_St.ok (st_iloadn rfl d_32_7)
theorem ki_32_6 : js_Ok 32 6 (o_is 3 7) := js_St.ok (st_istoren rfl (Nat.le_of_ble_eq_true rfl) d_32_6)
theorem ki_32_5 : js_Ok 32 5 (o_ic 0 6) := js_St.ok (st_iconst rfl d_32_5)
theorem ki_32_2 : js_Ok 32 2 (o_pI 4 3 5) := js_St.ok (st_pIown js_c4 (by decide) rfl kw_160 (js_c4.2.2.1 3 (by decide)) d_32_2)
theorem ki_32_1 : js_Ok 32 1 (o_il 2 2) := js_St.ok (st_iloadn rfl d_32_1)
theorem ki_32_0 : js_Ok 32 0 (o_al 0 1) := js_St.ok (st_aloadn rfl d_32_0)
theorem ki_32_31 : js_Ok 32 31 (o_sI 100 32) := js_St.ok (st_sI d_32_31)
theorem ki_32_30 : js_Ok 32 30 (o_ic (-1) 31) := js_St.ok (st_iconst rfl d_32_30)
theorem ki_32_29 : js_Ok 32 29 (o_il 3 30) := js_St.ok (st_iloadn rfl d_32_29)
theorem ki_32_26 : js_Ok 32 26 (o_gA 4 0 29) := js_St.ok (st_gA js_c4 (by decide) (by decide) kw_157 d_32_26)
theorem ki_32_25 : js_Ok 32 25 (o_al 0 26) := js_St.ok (st_aloadn rfl d_32_25)
theorem ki_32_22 : js_Ok 32 22 (o_nnl 35 25) := js_St.ok (st_ifnonnull (by decide) d_32_22)
theorem ki_32_20 : js_Ok 32 20 (o_al 4 22) := js_St.ok (st_aload d_32_20)
theorem ki_32_18 : js_Ok 32 18 (o_as 4 20) := js_St.ok (st_astore (Nat.le_of_ble_eq_true rfl) d_32_18)
theorem ki_32_45 : js_Ok 32 45 (o_cI 128 1 0 48) := ok_cI (site_SN kk_32_128 kn_548 kw_549 d_32_45) rfl
theorem ki_32_44 : js_Ok 32 44 (o_il 3 45) := js_St.ok (st_iloadn rfl d_32_44)
theorem ki_32_42 : js_Ok 32 42 (o_al 4 44) := js_St.ok (st_aload d_32_42)
theorem ki_32_40 : js_Ok 32 40 (o_ic 15 42) := js_St.ok (st_bipush rfl d_32_40)
theorem ki_32_39 : js_Ok 32 39 (o_il 3 40) := js_St.ok (st_iloadn rfl d_32_39)
theorem ki_32_36 : js_Ok 32 36 (o_gA 4 0 39) := js_St.ok (st_gA js_c4 (by decide) (by decide) kw_157 d_32_36)
theorem ki_32_35 : js_Ok 32 35 (o_al 0 36) := js_St.ok (st_aloadn rfl d_32_35)
theorem ki_32_32 : js_Ok 32 32 (o_go 64) := js_St.ok (st_goto (by decide) d_32_32)
theorem ki_32_63 : js_Ok 32 63 (o_sC 101 64) := js_St.ok (st_sC d_32_63)
theorem ki_32_60 : js_Ok 32 60 (o_gI 2 1 63) := js_St.ok (st_gIn js_c2 (by decide) (by decide) kn_84 d_32_60)
theorem ki_32_58 : js_Ok 32 58 (o_al 4 60) := js_St.ok (st_aload d_32_58)
theorem ki_32_57 : js_Ok 32 57 (o_il 3 58) := js_St.ok (st_iloadn rfl d_32_57)
theorem ki_32_54 : js_Ok 32 54 (o_gA 4 1 57) := js_St.ok (st_gA js_c4 (by decide) (by decide) kw_158 d_32_54)
theorem ki_32_53 : js_Ok 32 53 (o_al 0 54) := js_St.ok (st_aloadn rfl d_32_53)
theorem ki_32_52 : js_Ok 32 52 (o_sI 100 53) := js_St.ok (st_sI d_32_52)
theorem ki_32_51 : js_Ok 32 51 (o_b2 (fun x y => x - y) 52) := js_St.ok (st_isub d_32_51)
theorem ki_32_48 : js_Ok 32 48 (o_cI 22 2 3 51) := ok_cI (site_V kk_32_22 (by decide) kw_551 kw_552 kw_553 (fun t ht => by cases ht; exact Or.inl ⟨by decide, _, rfl, rfl⟩) d_32_48) rfl
theorem ki_32_70 : js_Ok 32 70 (o_rV) := ok_rV rfl d_32_70
theorem ki_32_67 : js_Ok 32 67 (o_go 7) := js_St.ok (st_goto (by decide) d_32_67)
theorem ki_32_64 : js_Ok 32 64 (o_inc 3 1 67) := js_St.ok (st_iinc rfl (Nat.le_of_ble_eq_true rfl) d_32_64)
theorem d_33_0 : decode (js_b 33) 0 = .ok (.iconst 0, 1) := by decide +kernel
theorem d_33_1 : decode (js_b 33) 1 = .ok (.istore_n 3, 1) := by decide +kernel
theorem d_33_2 : decode (js_b 33) 2 = .ok (.iconst 0, 1) := by decide +kernel
theorem d_33_3 : decode (js_b 33) 3 = .ok (.istore 4, 2) := by decide +kernel
theorem d_33_5 : decode (js_b 33) 5 = .ok (.iload 4, 2) := by decide +kernel
theorem d_33_7 : decode (js_b 33) 7 = .ok (.iconst 4, 1) := by decide +kernel
theorem d_33_8 : decode (js_b 33) 8 = .ok (.if_icmp .ge 70, 3) := by decide +kernel
theorem d_33_11 : decode (js_b 33) 11 = .ok (.aload_n 0, 1) := by decide +kernel
theorem d_33_12 : decode (js_b 33) 12 = .ok (.getfield 9, 3) := by decide +kernel
theorem d_33_15 : decode (js_b 33) 15 = .ok (.iload 4, 2) := by decide +kernel
theorem d_33_17 : decode (js_b 33) 17 = .ok (.iaload, 1) := by decide +kernel
theorem d_33_18 : decode (js_b 33) 18 = .ok (.iconst (-1), 1) := by decide +kernel
theorem d_33_19 : decode (js_b 33) 19 = .ok (.if_icmp .ne 6, 3) := by decide +kernel
theorem d_33_22 : decode (js_b 33) 22 = .ok (.goto 50, 3) := by decide +kernel
theorem d_33_25 : decode (js_b 33) 25 = .ok (.iload_n 3, 1) := by decide +kernel
theorem d_33_26 : decode (js_b 33) 26 = .ok (.aload_n 1, 1) := by decide +kernel
theorem d_33_27 : decode (js_b 33) 27 = .ok (.getfield 45, 3) := by decide +kernel
theorem d_33_30 : decode (js_b 33) 30 = .ok (.iload 4, 2) := by decide +kernel
theorem d_33_32 : decode (js_b 33) 32 = .ok (.iload_n 2, 1) := by decide +kernel
theorem d_33_33 : decode (js_b 33) 33 = .ok (.isub, 1) := by decide +kernel
theorem d_33_34 : decode (js_b 33) 34 = .ok (.iconst 3, 1) := by decide +kernel
theorem d_33_35 : decode (js_b 33) 35 = .ok (.iand, 1) := by decide +kernel
theorem d_33_36 : decode (js_b 33) 36 = .ok (.iaload, 1) := by decide +kernel
theorem d_33_37 : decode (js_b 33) 37 = .ok (.aload_n 0, 1) := by decide +kernel
theorem d_33_38 : decode (js_b 33) 38 = .ok (.getfield 9, 3) := by decide +kernel
theorem d_33_41 : decode (js_b 33) 41 = .ok (.iload 4, 2) := by decide +kernel
theorem d_33_43 : decode (js_b 33) 43 = .ok (.iaload, 1) := by decide +kernel
theorem d_33_44 : decode (js_b 33) 44 = .ok (.if_icmp .ne 7, 3) := by decide +kernel
theorem d_33_47 : decode (js_b 33) 47 = .ok (.iconst 4, 1) := by decide +kernel
theorem d_33_48 : decode (js_b 33) 48 = .ok (.goto 5, 3) := by decide +kernel
theorem d_33_51 : decode (js_b 33) 51 = .ok (.bipush (-3), 2) := by decide +kernel
theorem d_33_53 : decode (js_b 33) 53 = .ok (.iadd, 1) := by decide +kernel
theorem d_33_54 : decode (js_b 33) 54 = .ok (.istore_n 3, 1) := by decide +kernel
theorem d_33_55 : decode (js_b 33) 55 = .ok (.aload_n 1, 1) := by decide +kernel
theorem d_33_56 : decode (js_b 33) 56 = .ok (.getfield 41, 3) := by decide +kernel
theorem d_33_59 : decode (js_b 33) 59 = .ok (.aload_n 0, 1) := by decide +kernel
theorem d_33_60 : decode (js_b 33) 60 = .ok (.getfield 15, 3) := by decide +kernel
theorem d_33_63 : decode (js_b 33) 63 = .ok (.iload 4, 2) := by decide +kernel
theorem d_33_65 : decode (js_b 33) 65 = .ok (.caload, 1) := by decide +kernel
theorem d_33_66 : decode (js_b 33) 66 = .ok (.if_icmp .ne 6, 3) := by decide +kernel
theorem d_33_69 : decode (js_b 33) 69 = .ok (.iinc 3 1, 3) := by decide +kernel
theorem d_33_72 : decode (js_b 33) 72 = .ok (.iinc 4 1, 3) := by decide +kernel
theorem d_33_75 : decode (js_b 33) 75 = .ok (.goto (-70), 3) := by decide +kernel
theorem d_33_78 : decode (js_b 33) 78 = .ok (.iload_n 3, 1) := by decide +kernel
theorem d_33_79 : decode (js_b 33) 79 = .ok (.ireturn, 1) := by decide +kernel
theorem ki_33_15 : js_Ok 33 15 (o_il 4 17) := js_St.ok (st_iload d_33_15)
theorem ki_33_12 : js_Ok 33 12 (o_gA 4 0 15) := js_St.ok (st_gA js_c4 (by decide) (by decide) kw_157 d_33_12)
theorem ki_33_11 : js_Ok 33 11 (o_al 0 12) := js_St.ok (st_aloadn rfl d_33_11)
theorem ki_33_8 : js_Ok 33 8 (o_cge 78 11) := js_St.ok (st_icge (by decide) d_33_8)
theorem ki_33_7 : js_Ok 33 7 (o_ic 4 8) := js_St.ok (st_iconst rfl d_33_7)
theorem ki_33_5 : js_Ok 33 5 (o_il 4 7) := js_St.ok (st_iload d_33_5)
theorem ki_33_3 : js_Ok 33 3 (o_is 4 5) := js_St.ok (st_istore (Nat.le_of_ble_eq_true rfl) d_33_3)
theorem ki_33_2 : js_Ok 33 2 (o_ic 0 3) := js_St.ok (st_iconst rfl d_33_2)
theorem ki_33_1 : js_Ok 33 1 (o_is 3 2) := js_St.ok (st_istoren rfl (Nat.le_of_ble_eq_true rfl) d_33_1)
theorem ki_33_0 : js_Ok 33 0 (o_ic 0 1) := js_St.ok (st_iconst rfl d_33_0)
theorem ki_33_30 : js_Ok 33 30 (o_il 4 32) := js_St.ok (st_iload d_33_30)
theorem ki_33_27 : js_Ok 33 27 (o_gA 2 2 30) := js_St.ok (st_gAn js_c2 (by decide) (by decide) kn_89 d_33_27)
theorem ki_33_26 : js_Ok 33 26 (o_al 1 27) := js_St.ok (st_aloadn rfl d_33_26)
theorem ki_33_25 : js_Ok 33 25 (o_il 3 26) := js_St.ok (st_iloadn rfl d_33_25)
theorem ki_33_22 : js_Ok 33 22 (o_go 72) := js_St.ok (st_goto (by decide) d_33_22)
theorem ki_33_19 : js_Ok 33 19 (o_cne 25 22) := js_St.ok (st_icne (by decide) d_33_19)
theorem ki_33_18 : js_Ok 33 18 (o_ic (-1) 19) := js_St.ok (st_iconst rfl d_33_18)
theorem ki_33_17 : js_Ok 33 17 (o_lI 100 18) := js_St.ok (st_lI d_33_17)
theorem ki_33_47 : js_Ok 33 47 (o_ic 4 48) := js_St.ok (st_iconst rfl d_33_47)
theorem ki_33_44 : js_Ok 33 44 (o_cne 51 47) := js_St.ok (st_icne (by decide) d_33_44)
theorem ki_33_43 : js_Ok 33 43 (o_lI 100 44) := js_St.ok (st_lI d_33_43)
theorem ki_33_41 : js_Ok 33 41 (o_il 4 43) := js_St.ok (st_iload d_33_41)
theorem ki_33_38 : js_Ok 33 38 (o_gA 4 0 41) := js_St.ok (st_gA js_c4 (by decide) (by decide) kw_157 d_33_38)
theorem ki_33_37 : js_Ok 33 37 (o_al 0 38) := js_St.ok (st_aloadn rfl d_33_37)
theorem ki_33_36 : js_Ok 33 36 (o_lI 100 37) := js_St.ok (st_lI d_33_36)
theorem ki_33_35 : js_Ok 33 35 (o_b2 (fun x y => x &&& y) 36) := js_St.ok (st_iand d_33_35)
theorem ki_33_34 : js_Ok 33 34 (o_ic 3 35) := js_St.ok (st_iconst rfl d_33_34)
theorem ki_33_33 : js_Ok 33 33 (o_b2 (fun x y => x - y) 34) := js_St.ok (st_isub d_33_33)
theorem ki_33_32 : js_Ok 33 32 (o_il 2 33) := js_St.ok (st_iloadn rfl d_33_32)
theorem ki_33_63 : js_Ok 33 63 (o_il 4 65) := js_St.ok (st_iload d_33_63)
theorem ki_33_60 : js_Ok 33 60 (o_gA 4 1 63) := js_St.ok (st_gA js_c4 (by decide) (by decide) kw_158 d_33_60)
theorem ki_33_59 : js_Ok 33 59 (o_al 0 60) := js_St.ok (st_aloadn rfl d_33_59)
theorem ki_33_56 : js_Ok 33 56 (o_gI 2 1 59) := js_St.ok (st_gIn js_c2 (by decide) (by decide) kn_84 d_33_56)
theorem ki_33_55 : js_Ok 33 55 (o_al 1 56) := js_St.ok (st_aloadn rfl d_33_55)
theorem ki_33_54 : js_Ok 33 54 (o_is 3 55) := js_St.ok (st_istoren rfl (Nat.le_of_ble_eq_true rfl) d_33_54)
theorem ki_33_53 : js_Ok 33 53 (o_b2 (fun x y => x + y) 54) := js_St.ok (st_iadd d_33_53)
theorem ki_33_51 : js_Ok 33 51 (o_ic (-3) 53) := js_St.ok (st_bipush rfl d_33_51)
theorem ki_33_48 : js_Ok 33 48 (o_go 53) := js_St.ok (st_goto (by decide) d_33_48)
theorem ki_33_79 : js_Ok 33 79 (o_rI) := ok_rI rfl d_33_79
theorem ki_33_78 : js_Ok 33 78 (o_il 3 79) := js_St.ok (st_iloadn rfl d_33_78)
theorem ki_33_75 : js_Ok 33 75 (o_go 5) := js_St.ok (st_goto (by decide) d_33_75)
theorem ki_33_72 : js_Ok 33 72 (o_inc 4 1 75) := js_St.ok (st_iinc rfl (Nat.le_of_ble_eq_true rfl) d_33_72)
theorem ki_33_69 : js_Ok 33 69 (o_inc 3 1 72) := js_St.ok (st_iinc rfl (Nat.le_of_ble_eq_true rfl) d_33_69)
theorem ki_33_66 : js_Ok 33 66 (o_cne 72 69) := js_St.ok (st_icne (by decide) d_33_66)
theorem ki_33_65 : js_Ok 33 65 (o_lI 101 66) := js_St.ok (st_lIc d_33_65)
theorem d_34_0 : decode (js_b 34) 0 = .ok (.iconst 0, 1) := by decide +kernel
theorem d_34_1 : decode (js_b 34) 1 = .ok (.istore_n 2, 1) := by decide +kernel
theorem d_34_2 : decode (js_b 34) 2 = .ok (.aload_n 0, 1) := by decide +kernel
theorem d_34_3 : decode (js_b 34) 3 = .ok (.aload_n 1, 1) := by decide +kernel
theorem d_34_4 : decode (js_b 34) 4 = .ok (.iconst 0, 1) := by decide +kernel
theorem d_34_5 : decode (js_b 34) 5 = .ok (.invokevirtual 48, 3) := by decide +kernel
theorem d_34_8 : decode (js_b 34) 8 = .ok (.istore_n 3, 1) := by decide +kernel
theorem d_34_9 : decode (js_b 34) 9 = .ok (.iconst 1, 1) := by decide +kernel
theorem d_34_10 : decode (js_b 34) 10 = .ok (.istore 4, 2) := by decide +kernel
theorem d_34_12 : decode (js_b 34) 12 = .ok (.iload 4, 2) := by decide +kernel
theorem d_34_14 : decode (js_b 34) 14 = .ok (.iconst 3, 1) := by decide +kernel
theorem d_34_15 : decode (js_b 34) 15 = .ok (.if_icmp .gt 30, 3) := by decide +kernel
theorem d_34_18 : decode (js_b 34) 18 = .ok (.aload_n 0, 1) := by decide +kernel
theorem d_34_19 : decode (js_b 34) 19 = .ok (.aload_n 1, 1) := by decide +kernel
theorem d_34_20 : decode (js_b 34) 20 = .ok (.iload 4, 2) := by decide +kernel
theorem d_34_22 : decode (js_b 34) 22 = .ok (.invokevirtual 48, 3) := by decide +kernel
theorem d_34_25 : decode (js_b 34) 25 = .ok (.istore 5, 2) := by decide +kernel
theorem d_34_27 : decode (js_b 34) 27 = .ok (.iload 5, 2) := by decide +kernel
theorem d_34_29 : decode (js_b 34) 29 = .ok (.iload_n 3, 1) := by decide +kernel
theorem d_34_30 : decode (js_b 34) 30 = .ok (.if_icmp .le 9, 3) := by decide +kernel
theorem d_34_33 : decode (js_b 34) 33 = .ok (.iload 4, 2) := by decide +kernel
theorem d_34_35 : decode (js_b 34) 35 = .ok (.istore_n 2, 1) := by decide +kernel
theorem d_34_36 : decode (js_b 34) 36 = .ok (.iload 5, 2) := by decide +kernel
theorem d_34_38 : decode (js_b 34) 38 = .ok (.istore_n 3, 1) := by decide +kernel
theorem d_34_39 : decode (js_b 34) 39 = .ok (.iinc 4 1, 3) := by decide +kernel
theorem d_34_42 : decode (js_b 34) 42 = .ok (.goto (-30), 3) := by decide +kernel
theorem d_34_45 : decode (js_b 34) 45 = .ok (.iload_n 2, 1) := by decide +kernel
theorem d_34_46 : decode (js_b 34) 46 = .ok (.ireturn, 1) := by decide +kernel
theorem ki_34_15 : js_Ok 34 15 (o_cgt 45 18) := js_St.ok (st_icgt (by decide) d_34_15)
theorem ki_34_14 : js_Ok 34 14 (o_ic 3 15) := js_St.ok (st_iconst rfl d_34_14)
theorem ki_34_12 : js_Ok 34 12 (o_il 4 14) := js_St.ok (st_iload d_34_12)
theorem ki_34_10 : js_Ok 34 10 (o_is 4 12) := js_St.ok (st_istore (Nat.le_of_ble_eq_true rfl) d_34_10)
theorem ki_34_9 : js_Ok 34 9 (o_ic 1 10) := js_St.ok (st_iconst rfl d_34_9)
theorem ki_34_8 : js_Ok 34 8 (o_is 3 9) := js_St.ok (st_istoren rfl (Nat.le_of_ble_eq_true rfl) d_34_8)
theorem ki_34_5 : js_Ok 34 5 (o_cI 33 3 5 8) := ok_cI (site_V kk_34_33 (by decide) kw_563 kw_564 kw_565 (fun t ht => by cases ht; exact Or.inl ⟨by decide, _, rfl, rfl⟩) d_34_5) rfl
theorem ki_34_4 : js_Ok 34 4 (o_ic 0 5) := js_St.ok (st_iconst rfl d_34_4)
theorem ki_34_3 : js_Ok 34 3 (o_al 1 4) := js_St.ok (st_aloadn rfl d_34_3)
theorem ki_34_2 : js_Ok 34 2 (o_al 0 3) := js_St.ok (st_aloadn rfl d_34_2)
theorem ki_34_1 : js_Ok 34 1 (o_is 2 2) := js_St.ok (st_istoren rfl (Nat.le_of_ble_eq_true rfl) d_34_1)
theorem ki_34_0 : js_Ok 34 0 (o_ic 0 1) := js_St.ok (st_iconst rfl d_34_0)
theorem ki_34_30 : js_Ok 34 30 (o_cle 39 33) := js_St.ok (st_icle (by decide) d_34_30)
theorem ki_34_29 : js_Ok 34 29 (o_il 3 30) := js_St.ok (st_iloadn rfl d_34_29)
theorem ki_34_27 : js_Ok 34 27 (o_il 5 29) := js_St.ok (st_iload d_34_27)
theorem ki_34_25 : js_Ok 34 25 (o_is 5 27) := js_St.ok (st_istore (Nat.le_of_ble_eq_true rfl) d_34_25)
theorem ki_34_22 : js_Ok 34 22 (o_cI 33 3 5 25) := ok_cI (site_V kk_34_33 (by decide) kw_563 kw_564 kw_565 (fun t ht => by cases ht; exact Or.inl ⟨by decide, _, rfl, rfl⟩) d_34_22) rfl
theorem ki_34_20 : js_Ok 34 20 (o_il 4 22) := js_St.ok (st_iload d_34_20)
theorem ki_34_19 : js_Ok 34 19 (o_al 1 20) := js_St.ok (st_aloadn rfl d_34_19)
theorem ki_34_18 : js_Ok 34 18 (o_al 0 19) := js_St.ok (st_aloadn rfl d_34_18)
theorem ki_34_46 : js_Ok 34 46 (o_rI) := ok_rI rfl d_34_46
theorem ki_34_45 : js_Ok 34 45 (o_il 2 46) := js_St.ok (st_iloadn rfl d_34_45)
theorem ki_34_42 : js_Ok 34 42 (o_go 12) := js_St.ok (st_goto (by decide) d_34_42)
theorem ki_34_39 : js_Ok 34 39 (o_inc 4 1 42) := js_St.ok (st_iinc rfl (Nat.le_of_ble_eq_true rfl) d_34_39)
theorem ki_34_38 : js_Ok 34 38 (o_is 3 39) := js_St.ok (st_istoren rfl (Nat.le_of_ble_eq_true rfl) d_34_38)
theorem ki_34_36 : js_Ok 34 36 (o_il 5 38) := js_St.ok (st_iload d_34_36)
theorem ki_34_35 : js_Ok 34 35 (o_is 2 36) := js_St.ok (st_istoren rfl (Nat.le_of_ble_eq_true rfl) d_34_35)
theorem ki_34_33 : js_Ok 34 33 (o_il 4 35) := js_St.ok (st_iload d_34_33)
theorem d_35_0 : decode (js_b 35) 0 = .ok (.aload_n 0, 1) := by decide +kernel
theorem d_35_1 : decode (js_b 35) 1 = .ok (.aload_n 1, 1) := by decide +kernel
theorem d_35_2 : decode (js_b 35) 2 = .ok (.iconst 0, 1) := by decide +kernel
theorem d_35_3 : decode (js_b 35) 3 = .ok (.invokevirtual 48, 3) := by decide +kernel
theorem d_35_6 : decode (js_b 35) 6 = .ok (.istore_n 2, 1) := by decide +kernel
theorem d_35_7 : decode (js_b 35) 7 = .ok (.iconst 1, 1) := by decide +kernel
theorem d_35_8 : decode (js_b 35) 8 = .ok (.istore_n 3, 1) := by decide +kernel
theorem d_35_9 : decode (js_b 35) 9 = .ok (.iload_n 3, 1) := by decide +kernel
theorem d_35_10 : decode (js_b 35) 10 = .ok (.iconst 3, 1) := by decide +kernel
theorem d_35_11 : decode (js_b 35) 11 = .ok (.if_icmp .gt 20, 3) := by decide +kernel
theorem d_35_14 : decode (js_b 35) 14 = .ok (.iload_n 2, 1) := by decide +kernel
theorem d_35_15 : decode (js_b 35) 15 = .ok (.aload_n 0, 1) := by decide +kernel
theorem d_35_16 : decode (js_b 35) 16 = .ok (.aload_n 1, 1) := by decide +kernel
theorem d_35_17 : decode (js_b 35) 17 = .ok (.iload_n 3, 1) := by decide +kernel
theorem d_35_18 : decode (js_b 35) 18 = .ok (.invokevirtual 48, 3) := by decide +kernel
theorem d_35_21 : decode (js_b 35) 21 = .ok (.invokestatic 52, 3) := by decide +kernel
theorem d_35_24 : decode (js_b 35) 24 = .ok (.istore_n 2, 1) := by decide +kernel
theorem d_35_25 : decode (js_b 35) 25 = .ok (.iinc 3 1, 3) := by decide +kernel
theorem d_35_28 : decode (js_b 35) 28 = .ok (.goto (-19), 3) := by decide +kernel
theorem d_35_31 : decode (js_b 35) 31 = .ok (.iload_n 2, 1) := by decide +kernel
theorem d_35_32 : decode (js_b 35) 32 = .ok (.ireturn, 1) := by decide +kernel
theorem ki_35_15 : js_Ok 35 15 (o_al 0 16) := js_St.ok (st_aloadn rfl d_35_15)
theorem ki_35_14 : js_Ok 35 14 (o_il 2 15) := js_St.ok (st_iloadn rfl d_35_14)
theorem ki_35_11 : js_Ok 35 11 (o_cgt 31 14) := js_St.ok (st_icgt (by decide) d_35_11)
theorem ki_35_10 : js_Ok 35 10 (o_ic 3 11) := js_St.ok (st_iconst rfl d_35_10)
theorem ki_35_9 : js_Ok 35 9 (o_il 3 10) := js_St.ok (st_iloadn rfl d_35_9)
theorem ki_35_8 : js_Ok 35 8 (o_is 3 9) := js_St.ok (st_istoren rfl (Nat.le_of_ble_eq_true rfl) d_35_8)
theorem ki_35_7 : js_Ok 35 7 (o_ic 1 8) := js_St.ok (st_iconst rfl d_35_7)
theorem ki_35_6 : js_Ok 35 6 (o_is 2 7) := js_St.ok (st_istoren rfl (Nat.le_of_ble_eq_true rfl) d_35_6)
theorem ki_35_3 : js_Ok 35 3 (o_cI 33 3 5 6) := ok_cI (site_V kk_35_33 (by decide) kw_563 kw_564 kw_565 (fun t ht => by cases ht; exact Or.inl ⟨by decide, _, rfl, rfl⟩) d_35_3) rfl
theorem ki_35_2 : js_Ok 35 2 (o_ic 0 3) := js_St.ok (st_iconst rfl d_35_2)
theorem ki_35_1 : js_Ok 35 1 (o_al 1 2) := js_St.ok (st_aloadn rfl d_35_1)
theorem ki_35_0 : js_Ok 35 0 (o_al 0 1) := js_St.ok (st_aloadn rfl d_35_0)
theorem ki_35_31 : js_Ok 35 31 (o_il 2 32) := js_St.ok (st_iloadn rfl d_35_31)
theorem ki_35_28 : js_Ok 35 28 (o_go 9) := js_St.ok (st_goto (by decide) d_35_28)
theorem ki_35_25 : js_Ok 35 25 (o_inc 3 1 28) := js_St.ok (st_iinc rfl (Nat.le_of_ble_eq_true rfl) d_35_25)
theorem ki_35_24 : js_Ok 35 24 (o_is 2 25) := js_St.ok (st_istoren rfl (Nat.le_of_ble_eq_true rfl) d_35_24)
theorem ki_35_21 : js_Ok 35 21 (o_cI 246 2 0 24) := ok_cI (site_S kk_35_246 kw_567 kw_568 d_35_21) rfl
theorem ki_35_18 : js_Ok 35 18 (o_cI 33 3 5 21) := ok_cI (site_V kk_35_33 (by decide) kw_563 kw_564 kw_565 (fun t ht => by cases ht; exact Or.inl ⟨by decide, _, rfl, rfl⟩) d_35_18) rfl
theorem ki_35_17 : js_Ok 35 17 (o_il 3 18) := js_St.ok (st_iloadn rfl d_35_17)
theorem ki_35_16 : js_Ok 35 16 (o_al 1 17) := js_St.ok (st_aloadn rfl d_35_16)
theorem ki_35_32 : js_Ok 35 32 (o_rI) := ok_rI rfl d_35_32
theorem d_36_0 : decode (js_b 36) 0 = .ok (.iconst 0, 1) := by decide +kernel
theorem d_36_1 : decode (js_b 36) 1 = .ok (.istore_n 3, 1) := by decide +kernel
theorem d_36_2 : decode (js_b 36) 2 = .ok (.iload_n 3, 1) := by decide +kernel
theorem d_36_3 : decode (js_b 36) 3 = .ok (.aload_n 1, 1) := by decide +kernel
theorem d_36_4 : decode (js_b 36) 4 = .ok (.getfield 58, 3) := by decide +kernel
theorem d_36_7 : decode (js_b 36) 7 = .ok (.if_icmp .ge 25, 3) := by decide +kernel
theorem d_36_10 : decode (js_b 36) 10 = .ok (.aload_n 0, 1) := by decide +kernel
theorem d_36_11 : decode (js_b 36) 11 = .ok (.getfield 19, 3) := by decide +kernel
theorem d_36_14 : decode (js_b 36) 14 = .ok (.iload_n 3, 1) := by decide +kernel
theorem d_36_15 : decode (js_b 36) 15 = .ok (.aload_n 0, 1) := by decide +kernel
theorem d_36_16 : decode (js_b 36) 16 = .ok (.aload_n 1, 1) := by decide +kernel
theorem d_36_17 : decode (js_b 36) 17 = .ok (.getfield 61, 3) := by decide +kernel
theorem d_36_20 : decode (js_b 36) 20 = .ok (.iload_n 3, 1) := by decide +kernel
theorem d_36_21 : decode (js_b 36) 21 = .ok (.aaload, 1) := by decide +kernel
theorem d_36_22 : decode (js_b 36) 22 = .ok (.invokevirtual 65, 3) := by decide +kernel
theorem d_36_25 : decode (js_b 36) 25 = .ok (.iastore, 1) := by decide +kernel
theorem d_36_26 : decode (js_b 36) 26 = .ok (.iinc 3 1, 3) := by decide +kernel
theorem d_36_29 : decode (js_b 36) 29 = .ok (.goto (-27), 3) := by decide +kernel
theorem d_36_32 : decode (js_b 36) 32 = .ok (.iconst 0, 1) := by decide +kernel
theorem d_36_33 : decode (js_b 36) 33 = .ok (.istore_n 3, 1) := by decide +kernel
theorem d_36_34 : decode (js_b 36) 34 = .ok (.iload_n 3, 1) := by decide +kernel
theorem d_36_35 : decode (js_b 36) 35 = .ok (.aload_n 1, 1) := by decide +kernel
theorem d_36_36 : decode (js_b 36) 36 = .ok (.getfield 58, 3) := by decide +kernel
theorem d_36_39 : decode (js_b 36) 39 = .ok (.if_icmp .ge 38, 3) := by decide +kernel
theorem d_36_42 : decode (js_b 36) 42 = .ok (.aload_n 1, 1) := by decide +kernel
theorem d_36_43 : decode (js_b 36) 43 = .ok (.getfield 61, 3) := by decide +kernel
theorem d_36_46 : decode (js_b 36) 46 = .ok (.iload_n 3, 1) := by decide +kernel
theorem d_36_47 : decode (js_b 36) 47 = .ok (.aaload, 1) := by decide +kernel
theorem d_36_48 : decode (js_b 36) 48 = .ok (.invokevirtual 69, 3) := by decide +kernel
theorem d_36_51 : decode (js_b 36) 51 = .ok (.ifCond .ne 20, 3) := by decide +kernel
theorem d_36_54 : decode (js_b 36) 54 = .ok (.aload_n 0, 1) := by decide +kernel
theorem d_36_55 : decode (js_b 36) 55 = .ok (.aload_n 1, 1) := by decide +kernel
theorem d_36_56 : decode (js_b 36) 56 = .ok (.iload_n 3, 1) := by decide +kernel
theorem d_36_57 : decode (js_b 36) 57 = .ok (.invokevirtual 73, 3) := by decide +kernel
theorem d_36_60 : decode (js_b 36) 60 = .ok (.iload_n 2, 1) := by decide +kernel
theorem d_36_61 : decode (js_b 36) 61 = .ok (.if_icmp .ne 10, 3) := by decide +kernel
theorem d_36_64 : decode (js_b 36) 64 = .ok (.aload_n 1, 1) := by decide +kernel
theorem d_36_65 : decode (js_b 36) 65 = .ok (.getfield 61, 3) := by decide +kernel
theorem d_36_68 : decode (js_b 36) 68 = .ok (.iload_n 3, 1) := by decide +kernel
theorem d_36_69 : decode (js_b 36) 69 = .ok (.aaload, 1) := by decide +kernel
theorem d_36_70 : decode (js_b 36) 70 = .ok (.areturn, 1) := by decide +kernel
theorem d_36_71 : decode (js_b 36) 71 = .ok (.iinc 3 1, 3) := by decide +kernel
theorem d_36_74 : decode (js_b 36) 74 = .ok (.goto (-40), 3) := by decide +kernel
theorem d_36_77 : decode (js_b 36) 77 = .ok (.aconst_null, 1) := by decide +kernel
theorem d_36_78 : decode (js_b 36) 78 = .ok (.areturn, 1) := by decide +kernel
theorem ki_36_15 : js_Ok 36 15 (o_al 0 16) := js_St.ok (st_aloadn rfl d_36_15)
theorem ki_36_14 : js_Ok 36 14 (o_il 3 15) := js_St.ok (st_iloadn rfl d_36_14)
theorem ki_36_11 : js_Ok 36 11 (o_gA 4 2 14) := js_St.ok (st_gA js_c4 (by decide) (by decide) kw_159 d_36_11)
theorem ki_36_10 : js_Ok 36 10 (o_al 0 11) := js_St.ok (st_aloadn rfl d_36_10)
theorem ki_36_7 : js_Ok 36 7 (o_cge 32 10) := js_St.ok (st_icge (by decide) d_36_7)
theorem ki_36_4 : js_Ok 36 4 (o_gI 0 2 7) := js_St.ok (st_gIn js_c0 (by decide) (by decide) kn_120 d_36_4)
theorem ki_36_3 : js_Ok 36 3 (o_al 1 4) := js_St.ok (st_aloadn rfl d_36_3)
theorem ki_36_2 : js_Ok 36 2 (o_il 3 3) := js_St.ok (st_iloadn rfl d_36_2)
theorem ki_36_1 : js_Ok 36 1 (o_is 3 2) := js_St.ok (st_istoren rfl (Nat.le_of_ble_eq_true rfl) d_36_1)
theorem ki_36_0 : js_Ok 36 0 (o_ic 0 1) := js_St.ok (st_iconst rfl d_36_0)
theorem ki_36_29 : js_Ok 36 29 (o_go 2) := js_St.ok (st_goto (by decide) d_36_29)
theorem ki_36_26 : js_Ok 36 26 (o_inc 3 1 29) := js_St.ok (st_iinc rfl (Nat.le_of_ble_eq_true rfl) d_36_26)
theorem ki_36_25 : js_Ok 36 25 (o_sI 100 26) := js_St.ok (st_sI d_36_25)
theorem ki_36_22 : js_Ok 36 22 (o_cI 35 2 5 25) := ok_cI (site_V kk_36_35 (by decide) kw_559 kw_561 ks_6 (fun t ht => by cases ht; exact Or.inl ⟨by decide, _, rfl, rfl⟩) d_36_22) rfl
theorem ki_36_21 : js_Ok 36 21 (o_lA 111 22) := js_St.ok (st_lA (by decide) rfl d_36_21)
theorem ki_36_20 : js_Ok 36 20 (o_il 3 21) := js_St.ok (st_iloadn rfl d_36_20)
theorem ki_36_17 : js_Ok 36 17 (o_gA 0 0 20) := js_St.ok (st_gAn js_c0 (by decide) (by decide) kn_113 d_36_17)
theorem ki_36_16 : js_Ok 36 16 (o_al 1 17) := js_St.ok (st_aloadn rfl d_36_16)
theorem ki_36_47 : js_Ok 36 47 (o_lA 111 48) := js_St.ok (st_lA (by decide) rfl d_36_47)
theorem ki_36_46 : js_Ok 36 46 (o_il 3 47) := js_St.ok (st_iloadn rfl d_36_46)
theorem ki_36_43 : js_Ok 36 43 (o_gA 0 0 46) := js_St.ok (st_gAn js_c0 (by decide) (by decide) kn_113 d_36_43)
theorem ki_36_42 : js_Ok 36 42 (o_al 1 43) := js_St.ok (st_aloadn rfl d_36_42)
theorem ki_36_39 : js_Ok 36 39 (o_cge 77 42) := js_St.ok (st_icge (by decide) d_36_39)
theorem ki_36_36 : js_Ok 36 36 (o_gI 0 2 39) := js_St.ok (st_gIn js_c0 (by decide) (by decide) kn_120 d_36_36)
theorem ki_36_35 : js_Ok 36 35 (o_al 1 36) := js_St.ok (st_aloadn rfl d_36_35)
theorem ki_36_34 : js_Ok 36 34 (o_il 3 35) := js_St.ok (st_iloadn rfl d_36_34)
theorem ki_36_33 : js_Ok 36 33 (o_is 3 34) := js_St.ok (st_istoren rfl (Nat.le_of_ble_eq_true rfl) d_36_33)
theorem ki_36_32 : js_Ok 36 32 (o_ic 0 33) := js_St.ok (st_iconst rfl d_36_32)
theorem ki_36_61 : js_Ok 36 61 (o_cne 71 64) := js_St.ok (st_icne (by decide) d_36_61)
theorem ki_36_60 : js_Ok 36 60 (o_il 2 61) := js_St.ok (st_iloadn rfl d_36_60)
theorem ki_36_57 : js_Ok 36 57 (o_cI 37 3 5 60) := ok_cI (site_V kk_36_37 (by decide) kw_571 kw_573 ks_7 (fun t ht => by cases ht; exact Or.inl ⟨by decide, _, rfl, rfl⟩) d_36_57) rfl
theorem ki_36_56 : js_Ok 36 56 (o_il 3 57) := js_St.ok (st_iloadn rfl d_36_56)
theorem ki_36_55 : js_Ok 36 55 (o_al 1 56) := js_St.ok (st_aloadn rfl d_36_55)
theorem ki_36_54 : js_Ok 36 54 (o_al 0 55) := js_St.ok (st_aloadn rfl d_36_54)
theorem ki_36_51 : js_Ok 36 51 (o_ne 71 54) := js_St.ok (st_ifne (by decide) d_36_51)
theorem ki_36_48 : js_Ok 36 48 (o_cI 21 1 3 51) := ok_cI (site_V kk_36_21 (by decide) kw_570 kw_299 kw_300 (fun t ht => by cases ht; exact Or.inl ⟨by decide, _, rfl, rfl⟩) d_36_48) rfl
theorem ki_36_78 : js_Ok 36 78 (o_rA) := ok_rA (Or.inl ⟨_, rfl⟩) rfl d_36_78
theorem ki_36_77 : js_Ok 36 77 (o_nc 78) := js_St.ok (st_null d_36_77)
theorem ki_36_74 : js_Ok 36 74 (o_go 34) := js_St.ok (st_goto (by decide) d_36_74)
theorem ki_36_71 : js_Ok 36 71 (o_inc 3 1 74) := js_St.ok (st_iinc rfl (Nat.le_of_ble_eq_true rfl) d_36_71)
theorem ki_36_70 : js_Ok 36 70 (o_rA) := ok_rA (Or.inl ⟨_, rfl⟩) rfl d_36_70
theorem ki_36_69 : js_Ok 36 69 (o_lA 111 70) := js_St.ok (st_lA (by decide) rfl d_36_69)
theorem ki_36_68 : js_Ok 36 68 (o_il 3 69) := js_St.ok (st_iloadn rfl d_36_68)
theorem ki_36_65 : js_Ok 36 65 (o_gA 0 0 68) := js_St.ok (st_gAn js_c0 (by decide) (by decide) kn_113 d_36_65)
theorem ki_36_64 : js_Ok 36 64 (o_al 1 65) := js_St.ok (st_aloadn rfl d_36_64)
theorem d_37_0 : decode (js_b 37) 0 = .ok (.iconst 0, 1) := by decide +kernel
theorem d_37_1 : decode (js_b 37) 1 = .ok (.istore_n 3, 1) := by decide +kernel
theorem d_37_2 : decode (js_b 37) 2 = .ok (.iconst 0, 1) := by decide +kernel
theorem d_37_3 : decode (js_b 37) 3 = .ok (.istore 4, 2) := by decide +kernel
theorem d_37_5 : decode (js_b 37) 5 = .ok (.iload 4, 2) := by decide +kernel
theorem d_37_7 : decode (js_b 37) 7 = .ok (.aload_n 1, 1) := by decide +kernel
theorem d_37_8 : decode (js_b 37) 8 = .ok (.getfield 58, 3) := by decide +kernel
theorem d_37_11 : decode (js_b 37) 11 = .ok (.if_icmp .ge 75, 3) := by decide +kernel
theorem d_37_14 : decode (js_b 37) 14 = .ok (.aload_n 0, 1) := by decide +kernel
theorem d_37_15 : decode (js_b 37) 15 = .ok (.getfield 19, 3) := by decide +kernel
theorem d_37_18 : decode (js_b 37) 18 = .ok (.iload 4, 2) := by decide +kernel
theorem d_37_20 : decode (js_b 37) 20 = .ok (.iaload, 1) := by decide +kernel
theorem d_37_21 : decode (js_b 37) 21 = .ok (.aload_n 0, 1) := by decide +kernel
theorem d_37_22 : decode (js_b 37) 22 = .ok (.getfield 19, 3) := by decide +kernel
theorem d_37_25 : decode (js_b 37) 25 = .ok (.iload_n 2, 1) := by decide +kernel
theorem d_37_26 : decode (js_b 37) 26 = .ok (.iaload, 1) := by decide +kernel
theorem d_37_27 : decode (js_b 37) 27 = .ok (.if_icmp .gt 25, 3) := by decide +kernel
theorem d_37_30 : decode (js_b 37) 30 = .ok (.aload_n 0, 1) := by decide +kernel
theorem d_37_31 : decode (js_b 37) 31 = .ok (.getfield 19, 3) := by decide +kernel
theorem d_37_34 : decode (js_b 37) 34 = .ok (.iload 4, 2) := by decide +kernel
theorem d_37_36 : decode (js_b 37) 36 = .ok (.iaload, 1) := by decide +kernel
theorem d_37_37 : decode (js_b 37) 37 = .ok (.aload_n 0, 1) := by decide +kernel
theorem d_37_38 : decode (js_b 37) 38 = .ok (.getfield 19, 3) := by decide +kernel
theorem d_37_41 : decode (js_b 37) 41 = .ok (.iload_n 2, 1) := by decide +kernel
theorem d_37_42 : decode (js_b 37) 42 = .ok (.iaload, 1) := by decide +kernel
theorem d_37_43 : decode (js_b 37) 43 = .ok (.if_icmp .ne 13, 3) := by decide +kernel
theorem d_37_46 : decode (js_b 37) 46 = .ok (.iload 4, 2) := by decide +kernel
theorem d_37_48 : decode (js_b 37) 48 = .ok (.iload_n 2, 1) := by decide +kernel
theorem d_37_49 : decode (js_b 37) 49 = .ok (.if_icmp .ge 7, 3) := by decide +kernel
theorem d_37_52 : decode (js_b 37) 52 = .ok (.iconst 1, 1) := by decide +kernel
theorem d_37_53 : decode (js_b 37) 53 = .ok (.goto 4, 3) := by decide +kernel
theorem d_37_56 : decode (js_b 37) 56 = .ok (.iconst 0, 1) := by decide +kernel
theorem d_37_57 : decode (js_b 37) 57 = .ok (.istore 5, 2) := by decide +kernel
theorem d_37_59 : decode (js_b 37) 59 = .ok (.iload 5, 2) := by decide +kernel
theorem d_37_61 : decode (js_b 37) 61 = .ok (.ifCond .eq 19, 3) := by decide +kernel
theorem d_37_64 : decode (js_b 37) 64 = .ok (.aload_n 1, 1) := by decide +kernel
theorem d_37_65 : decode (js_b 37) 65 = .ok (.getfield 61, 3) := by decide +kernel
theorem d_37_68 : decode (js_b 37) 68 = .ok (.iload 4, 2) := by decide +kernel
theorem d_37_70 : decode (js_b 37) 70 = .ok (.aaload, 1) := by decide +kernel
theorem d_37_71 : decode (js_b 37) 71 = .ok (.invokevirtual 69, 3) := by decide +kernel
theorem d_37_74 : decode (js_b 37) 74 = .ok (.ifCond .ne 6, 3) := by decide +kernel
theorem d_37_77 : decode (js_b 37) 77 = .ok (.iinc 3 1, 3) := by decide +kernel
theorem d_37_80 : decode (js_b 37) 80 = .ok (.iinc 4 1, 3) := by decide +kernel
theorem d_37_83 : decode (js_b 37) 83 = .ok (.goto (-78), 3) := by decide +kernel
theorem d_37_86 : decode (js_b 37) 86 = .ok (.iload_n 3, 1) := by decide +kernel
theorem d_37_87 : decode (js_b 37) 87 = .ok (.ireturn, 1) := by decide +kernel
theorem ki_37_15 : js_Ok 37 15 (o_gA 4 2 18) := js_St.ok (st_gA js_c4 (by decide) (by decide) kw_159 d_37_15)
theorem ki_37_14 : js_Ok 37 14 (o_al 0 15) := js_St.ok (st_aloadn rfl d_37_14)
theorem ki_37_11 : js_Ok 37 11 (o_cge 86 14) := js_St.ok (st_icge (by decide) d_37_11)
theorem ki_37_8 : js_Ok 37 8 (o_gI 0 2 11) := js_St.ok (st_gIn js_c0 (by decide) (by decide) kn_120 d_37_8)
theorem ki_37_7 : js_Ok 37 7 (o_al 1 8) := js_St.ok (st_aloadn rfl d_37_7)
theorem ki_37_5 : js_Ok 37 5 (o_il 4 7) := js_St.ok (st_iload d_37_5)
theorem ki_37_3 : js_Ok 37 3 (o_is 4 5) := js_St.ok (st_istore (Nat.le_of_ble_eq_true rfl) d_37_3)
theorem ki_37_2 : js_Ok 37 2 (o_ic 0 3) := js_St.ok (st_iconst rfl d_37_2)
theorem ki_37_1 : js_Ok 37 1 (o_is 3 2) := js_St.ok (st_istoren rfl (Nat.le_of_ble_eq_true rfl) d_37_1)
theorem ki_37_0 : js_Ok 37 0 (o_ic 0 1) := js_St.ok (st_iconst rfl d_37_0)
theorem ki_37_31 : js_Ok 37 31 (o_gA 4 2 34) := js_St.ok (st_gA js_c4 (by decide) (by decide) kw_159 d_37_31)
theorem ki_37_30 : js_Ok 37 30 (o_al 0 31) := js_St.ok (st_aloadn rfl d_37_30)
theorem ki_37_27 : js_Ok 37 27 (o_cgt 52 30) := js_St.ok (st_icgt (by decide) d_37_27)
theorem ki_37_26 : js_Ok 37 26 (o_lI 100 27) := js_St.ok (st_lI d_37_26)
theorem ki_37_25 : js_Ok 37 25 (o_il 2 26) := js_St.ok (st_iloadn rfl d_37_25)
theorem ki_37_22 : js_Ok 37 22 (o_gA 4 2 25) := js_St.ok (st_gA js_c4 (by decide) (by decide) kw_159 d_37_22)
theorem ki_37_21 : js_Ok 37 21 (o_al 0 22) := js_St.ok (st_aloadn rfl d_37_21)
theorem ki_37_20 : js_Ok 37 20 (o_lI 100 21) := js_St.ok (st_lI d_37_20)
theorem ki_37_18 : js_Ok 37 18 (o_il 4 20) := js_St.ok (st_iload d_37_18)
theorem ki_37_46 : js_Ok 37 46 (o_il 4 48) := js_St.ok (st_iload d_37_46)
theorem ki_37_43 : js_Ok 37 43 (o_cne 56 46) := js_St.ok (st_icne (by decide) d_37_43)
theorem ki_37_42 : js_Ok 37 42 (o_lI 100 43) := js_St.ok (st_lI d_37_42)
theorem ki_37_41 : js_Ok 37 41 (o_il 2 42) := js_St.ok (st_iloadn rfl d_37_41)
theorem ki_37_38 : js_Ok 37 38 (o_gA 4 2 41) := js_St.ok (st_gA js_c4 (by decide) (by decide) kw_159 d_37_38)
theorem ki_37_37 : js_Ok 37 37 (o_al 0 38) := js_St.ok (st_aloadn rfl d_37_37)
theorem ki_37_36 : js_Ok 37 36 (o_lI 100 37) := js_St.ok (st_lI d_37_36)
theorem ki_37_34 : js_Ok 37 34 (o_il 4 36) := js_St.ok (st_iload d_37_34)
theorem ki_37_61 : js_Ok 37 61 (o_eq 80 64) := js_St.ok (st_ifeq (by decide) d_37_61)
theorem ki_37_59 : js_Ok 37 59 (o_il 5 61) := js_St.ok (st_iload d_37_59)
theorem ki_37_57 : js_Ok 37 57 (o_is 5 59) := js_St.ok (st_istore (Nat.le_of_ble_eq_true rfl) d_37_57)
theorem ki_37_56 : js_Ok 37 56 (o_ic 0 57) := js_St.ok (st_iconst rfl d_37_56)
theorem ki_37_53 : js_Ok 37 53 (o_go 57) := js_St.ok (st_goto (by decide) d_37_53)
theorem ki_37_52 : js_Ok 37 52 (o_ic 1 53) := js_St.ok (st_iconst rfl d_37_52)
theorem ki_37_49 : js_Ok 37 49 (o_cge 56 52) := js_St.ok (st_icge (by decide) d_37_49)
theorem ki_37_48 : js_Ok 37 48 (o_il 2 49) := js_St.ok (st_iloadn rfl d_37_48)
theorem ki_37_77 : js_Ok 37 77 (o_inc 3 1 80) := js_St.ok (st_iinc rfl (Nat.le_of_ble_eq_true rfl) d_37_77)
theorem ki_37_74 : js_Ok 37 74 (o_ne 80 77) := js_St.ok (st_ifne (by decide) d_37_74)
theorem ki_37_71 : js_Ok 37 71 (o_cI 21 1 3 74) := ok_cI (site_V kk_37_21 (by decide) kw_570 kw_299 kw_300 (fun t ht => by cases ht; exact Or.inl ⟨by decide, _, rfl, rfl⟩) d_37_71) rfl
theorem ki_37_70 : js_Ok 37 70 (o_lA 111 71) := js_St.ok (st_lA (by decide) rfl d_37_70)
theorem ki_37_68 : js_Ok 37 68 (o_il 4 70) := js_St.ok (st_iload d_37_68)
theorem ki_37_65 : js_Ok 37 65 (o_gA 0 0 68) := js_St.ok (st_gAn js_c0 (by decide) (by decide) kn_113 d_37_65)
theorem ki_37_64 : js_Ok 37 64 (o_al 1 65) := js_St.ok (st_aloadn rfl d_37_64)
theorem ki_37_87 : js_Ok 37 87 (o_rI) := ok_rI rfl d_37_87
theorem ki_37_86 : js_Ok 37 86 (o_il 3 87) := js_St.ok (st_iloadn rfl d_37_86)
theorem ki_37_83 : js_Ok 37 83 (o_go 5) := js_St.ok (st_goto (by decide) d_37_83)
theorem ki_37_80 : js_Ok 37 80 (o_inc 4 1 83) := js_St.ok (st_iinc rfl (Nat.le_of_ble_eq_true rfl) d_37_80)
theorem d_38_0 : decode (js_b 38) 0 = .ok (.aload_n 2, 1) := by decide +kernel
theorem d_38_1 : decode (js_b 38) 1 = .ok (.aload_n 0, 1) := by decide +kernel
theorem d_38_2 : decode (js_b 38) 2 = .ok (.aload_n 2, 1) := by decide +kernel
theorem d_38_3 : decode (js_b 38) 3 = .ok (.invokevirtual 77, 3) := by decide +kernel
theorem d_38_6 : decode (js_b 38) 6 = .ok (.putfield 80, 3) := by decide +kernel
theorem d_38_9 : decode (js_b 38) 9 = .ok (.aload_n 1, 1) := by decide +kernel
theorem d_38_10 : decode (js_b 38) 10 = .ok (.aload_n 2, 1) := by decide +kernel
theorem d_38_11 : decode (js_b 38) 11 = .ok (.aload_n 0, 1) := by decide +kernel
theorem d_38_12 : decode (js_b 38) 12 = .ok (.getfield 22, 3) := by decide +kernel
theorem d_38_15 : decode (js_b 38) 15 = .ok (.invokevirtual 83, 3) := by decide +kernel
theorem d_38_18 : decode (js_b 38) 18 = .ok (.return_, 1) := by decide +kernel
theorem ki_38_15 : js_Ok 38 15 (o_cV 9 3 1 18) := ok_cV (site_V kk_38_9 (by decide) kw_584 kw_585 kw_586 (fun t ht => by cases ht; exact Or.inl ⟨by decide, _, rfl, rfl⟩) d_38_15) rfl
theorem ki_38_12 : js_Ok 38 12 (o_gI 4 3 15) := js_St.ok (st_gI js_c4 (by decide) (by decide) kw_160 d_38_12)
theorem ki_38_11 : js_Ok 38 11 (o_al 0 12) := js_St.ok (st_aloadn rfl d_38_11)
theorem ki_38_10 : js_Ok 38 10 (o_al 2 11) := js_St.ok (st_aloadn rfl d_38_10)
theorem ki_38_9 : js_Ok 38 9 (o_al 1 10) := js_St.ok (st_aloadn rfl d_38_9)
theorem ki_38_6 : js_Ok 38 6 (o_pI 2 3 9) := js_St.ok (st_pInst js_c2 (by decide) rfl kn_93 (js_c2.2.2.1 3 (by decide)) d_38_6)
theorem ki_38_3 : js_Ok 38 3 (o_cI 34 2 5 6) := ok_cI (site_V kk_38_34 (by decide) kw_580 kw_581 kw_582 (fun t ht => by cases ht; exact Or.inl ⟨by decide, _, rfl, rfl⟩) d_38_3) rfl
theorem ki_38_2 : js_Ok 38 2 (o_al 2 3) := js_St.ok (st_aloadn rfl d_38_2)
theorem ki_38_1 : js_Ok 38 1 (o_al 0 2) := js_St.ok (st_aloadn rfl d_38_1)
theorem ki_38_0 : js_Ok 38 0 (o_al 2 1) := js_St.ok (st_aloadn rfl d_38_0)
theorem ki_38_18 : js_Ok 38 18 (o_rV) := ok_rV rfl d_38_18
theorem d_39_0 : decode (js_b 39) 0 = .ok (.iload_n 1, 1) := by decide +kernel
theorem d_39_1 : decode (js_b 39) 1 = .ok (.istore_n 3, 1) := by decide +kernel
theorem d_39_2 : decode (js_b 39) 2 = .ok (.iconst 0, 1) := by decide +kernel
theorem d_39_3 : decode (js_b 39) 3 = .ok (.istore 4, 2) := by decide +kernel
theorem d_39_5 : decode (js_b 39) 5 = .ok (.iload 4, 2) := by decide +kernel
theorem d_39_7 : decode (js_b 39) 7 = .ok (.aload_n 2, 1) := by decide +kernel
theorem d_39_8 : decode (js_b 39) 8 = .ok (.getfield 58, 3) := by decide +kernel
theorem d_39_11 : decode (js_b 39) 11 = .ok (.if_icmp .ge 38, 3) := by decide +kernel
theorem d_39_14 : decode (js_b 39) 14 = .ok (.aload_n 2, 1) := by decide +kernel
theorem d_39_15 : decode (js_b 39) 15 = .ok (.getfield 61, 3) := by decide +kernel
theorem d_39_18 : decode (js_b 39) 18 = .ok (.iload 4, 2) := by decide +kernel
theorem d_39_20 : decode (js_b 39) 20 = .ok (.aaload, 1) := by decide +kernel
theorem d_39_21 : decode (js_b 39) 21 = .ok (.invokevirtual 69, 3) := by decide +kernel
theorem d_39_24 : decode (js_b 39) 24 = .ok (.ifCond .ne 19, 3) := by decide +kernel
theorem d_39_27 : decode (js_b 39) 27 = .ok (.iload_n 3, 1) := by decide +kernel
theorem d_39_28 : decode (js_b 39) 28 = .ok (.aload_n 0, 1) := by decide +kernel
theorem d_39_29 : decode (js_b 39) 29 = .ok (.aload_n 2, 1) := by decide +kernel
theorem d_39_30 : decode (js_b 39) 30 = .ok (.getfield 61, 3) := by decide +kernel
theorem d_39_33 : decode (js_b 39) 33 = .ok (.iload 4, 2) := by decide +kernel
theorem d_39_35 : decode (js_b 39) 35 = .ok (.aaload, 1) := by decide +kernel
theorem d_39_36 : decode (js_b 39) 36 = .ok (.invokevirtual 65, 3) := by decide +kernel
theorem d_39_39 : decode (js_b 39) 39 = .ok (.invokestatic 52, 3) := by decide +kernel
theorem d_39_42 : decode (js_b 39) 42 = .ok (.istore_n 3, 1) := by decide +kernel
theorem d_39_43 : decode (js_b 39) 43 = .ok (.iinc 4 1, 3) := by decide +kernel
theorem d_39_46 : decode (js_b 39) 46 = .ok (.goto (-41), 3) := by decide +kernel
theorem d_39_49 : decode (js_b 39) 49 = .ok (.iload_n 3, 1) := by decide +kernel
theorem d_39_50 : decode (js_b 39) 50 = .ok (.ireturn, 1) := by decide +kernel
theorem ki_39_15 : js_Ok 39 15 (o_gA 0 0 18) := js_St.ok (st_gAn js_c0 (by decide) (by decide) kn_113 d_39_15)
theorem ki_39_14 : js_Ok 39 14 (o_al 2 15) := js_St.ok (st_aloadn rfl d_39_14)
theorem ki_39_11 : js_Ok 39 11 (o_cge 49 14) := js_St.ok (st_icge (by decide) d_39_11)
theorem ki_39_8 : js_Ok 39 8 (o_gI 0 2 11) := js_St.ok (st_gIn js_c0 (by decide) (by decide) kn_120 d_39_8)
theorem ki_39_7 : js_Ok 39 7 (o_al 2 8) := js_St.ok (st_aloadn rfl d_39_7)
theorem ki_39_5 : js_Ok 39 5 (o_il 4 7) := js_St.ok (st_iload d_39_5)
theorem ki_39_3 : js_Ok 39 3 (o_is 4 5) := js_St.ok (st_istore (Nat.le_of_ble_eq_true rfl) d_39_3)
theorem ki_39_2 : js_Ok 39 2 (o_ic 0 3) := js_St.ok (st_iconst rfl d_39_2)
theorem ki_39_1 : js_Ok 39 1 (o_is 3 2) := js_St.ok (st_istoren rfl (Nat.le_of_ble_eq_true rfl) d_39_1)
theorem ki_39_0 : js_Ok 39 0 (o_il 1 1) := js_St.ok (st_iloadn rfl d_39_0)
theorem ki_39_30 : js_Ok 39 30 (o_gA 0 0 33) := js_St.ok (st_gAn js_c0 (by decide) (by decide) kn_113 d_39_30)
theorem ki_39_29 : js_Ok 39 29 (o_al 2 30) := js_St.ok (st_aloadn rfl d_39_29)
theorem ki_39_28 : js_Ok 39 28 (o_al 0 29) := js_St.ok (st_aloadn rfl d_39_28)
theorem ki_39_27 : js_Ok 39 27 (o_il 3 28) := js_St.ok (st_iloadn rfl d_39_27)
theorem ki_39_24 : js_Ok 39 24 (o_ne 43 27) := js_St.ok (st_ifne (by decide) d_39_24)
theorem ki_39_21 : js_Ok 39 21 (o_cI 21 1 3 24) := ok_cI (site_V kk_39_21 (by decide) kw_570 kw_299 kw_300 (fun t ht => by cases ht; exact Or.inl ⟨by decide, _, rfl, rfl⟩) d_39_21) rfl
theorem ki_39_20 : js_Ok 39 20 (o_lA 111 21) := js_St.ok (st_lA (by decide) rfl d_39_20)
theorem ki_39_18 : js_Ok 39 18 (o_il 4 20) := js_St.ok (st_iload d_39_18)
theorem ki_39_46 : js_Ok 39 46 (o_go 5) := js_St.ok (st_goto (by decide) d_39_46)
theorem ki_39_43 : js_Ok 39 43 (o_inc 4 1 46) := js_St.ok (st_iinc rfl (Nat.le_of_ble_eq_true rfl) d_39_43)
theorem ki_39_42 : js_Ok 39 42 (o_is 3 43) := js_St.ok (st_istoren rfl (Nat.le_of_ble_eq_true rfl) d_39_42)
theorem ki_39_39 : js_Ok 39 39 (o_cI 246 2 0 42) := ok_cI (site_S kk_39_246 kw_567 kw_568 d_39_39) rfl
theorem ki_39_36 : js_Ok 39 36 (o_cI 35 2 5 39) := ok_cI (site_V kk_39_35 (by decide) kw_559 kw_561 ks_6 (fun t ht => by cases ht; exact Or.inl ⟨by decide, _, rfl, rfl⟩) d_39_36) rfl
theorem ki_39_35 : js_Ok 39 35 (o_lA 111 36) := js_St.ok (st_lA (by decide) rfl d_39_35)
theorem ki_39_33 : js_Ok 39 33 (o_il 4 35) := js_St.ok (st_iload d_39_33)
theorem ki_39_50 : js_Ok 39 50 (o_rI) := ok_rI rfl d_39_50
theorem ki_39_49 : js_Ok 39 49 (o_il 3 50) := js_St.ok (st_iloadn rfl d_39_49)
theorem d_40_0 : decode (js_b 40) 0 = .ok (.iconst (-1), 1) := by decide +kernel
theorem d_40_1 : decode (js_b 40) 1 = .ok (.istore_n 2, 1) := by decide +kernel
theorem d_40_2 : decode (js_b 40) 2 = .ok (.iconst 0, 1) := by decide +kernel
theorem d_40_3 : decode (js_b 40) 3 = .ok (.istore_n 3, 1) := by decide +kernel
theorem d_40_4 : decode (js_b 40) 4 = .ok (.iconst 0, 1) := by decide +kernel
theorem d_40_5 : decode (js_b 40) 5 = .ok (.istore 4, 2) := by decide +kernel
theorem d_40_7 : decode (js_b 40) 7 = .ok (.iload 4, 2) := by decide +kernel
theorem d_40_9 : decode (js_b 40) 9 = .ok (.bipush 64, 2) := by decide +kernel
theorem d_40_11 : decode (js_b 40) 11 = .ok (.if_icmp .ge 48, 3) := by decide +kernel
theorem d_40_14 : decode (js_b 40) 14 = .ok (.aload_n 1, 1) := by decide +kernel
theorem d_40_15 : decode (js_b 40) 15 = .ok (.iload 4, 2) := by decide +kernel
theorem d_40_17 : decode (js_b 40) 17 = .ok (.invokevirtual 87, 3) := by decide +kernel
theorem d_40_20 : decode (js_b 40) 20 = .ok (.ifCond .ne 6, 3) := by decide +kernel
theorem d_40_23 : decode (js_b 40) 23 = .ok (.goto 30, 3) := by decide +kernel
theorem d_40_26 : decode (js_b 40) 26 = .ok (.aload_n 0, 1) := by decide +kernel
theorem d_40_27 : decode (js_b 40) 27 = .ok (.aload_n 1, 1) := by decide +kernel
theorem d_40_28 : decode (js_b 40) 28 = .ok (.iload 4, 2) := by decide +kernel
theorem d_40_30 : decode (js_b 40) 30 = .ok (.invokevirtual 91, 3) := by decide +kernel
theorem d_40_33 : decode (js_b 40) 33 = .ok (.aload_n 0, 1) := by decide +kernel
theorem d_40_34 : decode (js_b 40) 34 = .ok (.iload_n 3, 1) := by decide +kernel
theorem d_40_35 : decode (js_b 40) 35 = .ok (.aload_n 1, 1) := by decide +kernel
theorem d_40_36 : decode (js_b 40) 36 = .ok (.invokevirtual 95, 3) := by decide +kernel
theorem d_40_39 : decode (js_b 40) 39 = .ok (.istore 5, 2) := by decide +kernel
theorem d_40_41 : decode (js_b 40) 41 = .ok (.iload 5, 2) := by decide +kernel
theorem d_40_43 : decode (js_b 40) 43 = .ok (.iload_n 3, 1) := by decide +kernel
theorem d_40_44 : decode (js_b 40) 44 = .ok (.if_icmp .le 9, 3) := by decide +kernel
theorem d_40_47 : decode (js_b 40) 47 = .ok (.iload 4, 2) := by decide +kernel
theorem d_40_49 : decode (js_b 40) 49 = .ok (.istore_n 2, 1) := by decide +kernel
theorem d_40_50 : decode (js_b 40) 50 = .ok (.iload 5, 2) := by decide +kernel
theorem d_40_52 : decode (js_b 40) 52 = .ok (.istore_n 3, 1) := by decide +kernel
theorem d_40_53 : decode (js_b 40) 53 = .ok (.iinc 4 1, 3) := by decide +kernel
theorem d_40_56 : decode (js_b 40) 56 = .ok (.goto (-49), 3) := by decide +kernel
theorem d_40_59 : decode (js_b 40) 59 = .ok (.iload_n 2, 1) := by decide +kernel
theorem d_40_60 : decode (js_b 40) 60 = .ok (.ireturn, 1) := by decide +kernel
theorem ki_40_15 : js_Ok 40 15 (o_il 4 17) := js_St.ok (st_iload d_40_15)
theorem ki_40_14 : js_Ok 40 14 (o_al 1 15) := js_St.ok (st_aloadn rfl d_40_14)
theorem ki_40_11 : js_Ok 40 11 (o_cge 59 14) := js_St.ok (st_icge (by decide) d_40_11)
theorem ki_40_9 : js_Ok 40 9 (o_ic 64 11) := js_St.ok (st_bipush rfl d_40_9)
theorem ki_40_7 : js_Ok 40 7 (o_il 4 9) := js_St.ok (st_iload d_40_7)
theorem ki_40_5 : js_Ok 40 5 (o_is 4 7) := js_St.ok (st_istore (Nat.le_of_ble_eq_true rfl) d_40_5)
theorem ki_40_4 : js_Ok 40 4 (o_ic 0 5) := js_St.ok (st_iconst rfl d_40_4)
theorem ki_40_3 : js_Ok 40 3 (o_is 3 4) := js_St.ok (st_istoren rfl (Nat.le_of_ble_eq_true rfl) d_40_3)
theorem ki_40_2 : js_Ok 40 2 (o_ic 0 3) := js_St.ok (st_iconst rfl d_40_2)
theorem ki_40_1 : js_Ok 40 1 (o_is 2 2) := js_St.ok (st_istoren rfl (Nat.le_of_ble_eq_true rfl) d_40_1)
theorem ki_40_0 : js_Ok 40 0 (o_ic (-1) 1) := js_St.ok (st_iconst rfl d_40_0)
theorem ki_40_30 : js_Ok 40 30 (o_cV 32 3 5 33) := ok_cV (site_V kk_40_32 (by decide) kw_1356 kw_544 kw_545 (fun t ht => by cases ht; exact Or.inl ⟨by decide, _, rfl, rfl⟩) d_40_30) rfl
theorem ki_40_28 : js_Ok 40 28 (o_il 4 30) := js_St.ok (st_iload d_40_28)
theorem ki_40_27 : js_Ok 40 27 (o_al 1 28) := js_St.ok (st_aloadn rfl d_40_27)
theorem ki_40_26 : js_Ok 40 26 (o_al 0 27) := js_St.ok (st_aloadn rfl d_40_26)
theorem ki_40_23 : js_Ok 40 23 (o_go 53) := js_St.ok (st_goto (by decide) d_40_23)
theorem ki_40_20 : js_Ok 40 20 (o_ne 26 23) := js_St.ok (st_ifne (by decide) d_40_20)
theorem ki_40_17 : js_Ok 40 17 (o_cI 15 2 1 20) := ok_cI (site_V kk_40_15 (by decide) kw_1355 kw_508 kw_509 (fun t ht => by cases ht; exact Or.inl ⟨by decide, _, rfl, rfl⟩) d_40_17) rfl
theorem ki_40_47 : js_Ok 40 47 (o_il 4 49) := js_St.ok (st_iload d_40_47)
theorem ki_40_44 : js_Ok 40 44 (o_cle 53 47) := js_St.ok (st_icle (by decide) d_40_44)
theorem ki_40_43 : js_Ok 40 43 (o_il 3 44) := js_St.ok (st_iloadn rfl d_40_43)
theorem ki_40_41 : js_Ok 40 41 (o_il 5 43) := js_St.ok (st_iload d_40_41)
theorem ki_40_39 : js_Ok 40 39 (o_is 5 41) := js_St.ok (st_istore (Nat.le_of_ble_eq_true rfl) d_40_39)
theorem ki_40_36 : js_Ok 40 36 (o_cI 39 3 5 39) := ok_cI (site_V kk_40_39 (by decide) kw_1357 kw_1359 ks_14 (fun t ht => by cases ht; exact Or.inl ⟨by decide, _, rfl, rfl⟩) d_40_36) rfl
theorem ki_40_35 : js_Ok 40 35 (o_al 1 36) := js_St.ok (st_aloadn rfl d_40_35)
theorem ki_40_34 : js_Ok 40 34 (o_il 3 35) := js_St.ok (st_iloadn rfl d_40_34)
theorem ki_40_33 : js_Ok 40 33 (o_al 0 34) := js_St.ok (st_aloadn rfl d_40_33)
theorem ki_40_60 : js_Ok 40 60 (o_rI) := ok_rI rfl d_40_60
theorem ki_40_59 : js_Ok 40 59 (o_il 2 60) := js_St.ok (st_iloadn rfl d_40_59)
theorem ki_40_56 : js_Ok 40 56 (o_go 7) := js_St.ok (st_goto (by decide) d_40_56)
theorem ki_40_53 : js_Ok 40 53 (o_inc 4 1 56) := js_St.ok (st_iinc rfl (Nat.le_of_ble_eq_true rfl) d_40_53)
theorem ki_40_52 : js_Ok 40 52 (o_is 3 53) := js_St.ok (st_istoren rfl (Nat.le_of_ble_eq_true rfl) d_40_52)
theorem ki_40_50 : js_Ok 40 50 (o_il 5 52) := js_St.ok (st_iload d_40_50)
theorem ki_40_49 : js_Ok 40 49 (o_is 2 50) := js_St.ok (st_istoren rfl (Nat.le_of_ble_eq_true rfl) d_40_49)
theorem d_41_0 : decode (js_b 41) 0 = .ok (.iconst 0, 1) := by decide +kernel
theorem d_41_1 : decode (js_b 41) 1 = .ok (.istore_n 2, 1) := by decide +kernel
theorem d_41_2 : decode (js_b 41) 2 = .ok (.iload_n 2, 1) := by decide +kernel
theorem d_41_3 : decode (js_b 41) 3 = .ok (.bipush 20, 2) := by decide +kernel
theorem d_41_5 : decode (js_b 41) 5 = .ok (.if_icmp .ge 50, 3) := by decide +kernel
theorem d_41_8 : decode (js_b 41) 8 = .ok (.aload_n 0, 1) := by decide +kernel
theorem d_41_9 : decode (js_b 41) 9 = .ok (.aload_n 1, 1) := by decide +kernel
theorem d_41_10 : decode (js_b 41) 10 = .ok (.invokevirtual 99, 3) := by decide +kernel
theorem d_41_13 : decode (js_b 41) 13 = .ok (.istore_n 3, 1) := by decide +kernel
theorem d_41_14 : decode (js_b 41) 14 = .ok (.iload_n 3, 1) := by decide +kernel
theorem d_41_15 : decode (js_b 41) 15 = .ok (.iconst (-1), 1) := by decide +kernel
theorem d_41_16 : decode (js_b 41) 16 = .ok (.if_icmp .ne 5, 3) := by decide +kernel
theorem d_41_19 : decode (js_b 41) 19 = .ok (.iload_n 2, 1) := by decide +kernel
theorem d_41_20 : decode (js_b 41) 20 = .ok (.ireturn, 1) := by decide +kernel
theorem d_41_21 : decode (js_b 41) 21 = .ok (.aload_n 0, 1) := by decide +kernel
theorem d_41_22 : decode (js_b 41) 22 = .ok (.aload_n 1, 1) := by decide +kernel
theorem d_41_23 : decode (js_b 41) 23 = .ok (.iload_n 3, 1) := by decide +kernel
theorem d_41_24 : decode (js_b 41) 24 = .ok (.invokevirtual 91, 3) := by decide +kernel
theorem d_41_27 : decode (js_b 41) 27 = .ok (.aload_n 0, 1) := by decide +kernel
theorem d_41_28 : decode (js_b 41) 28 = .ok (.aload_n 1, 1) := by decide +kernel
theorem d_41_29 : decode (js_b 41) 29 = .ok (.iconst 0, 1) := by decide +kernel
theorem d_41_30 : decode (js_b 41) 30 = .ok (.invokevirtual 103, 3) := by decide +kernel
theorem d_41_33 : decode (js_b 41) 33 = .ok (.astore 4, 2) := by decide +kernel
theorem d_41_35 : decode (js_b 41) 35 = .ok (.aload 4, 2) := by decide +kernel
theorem d_41_37 : decode (js_b 41) 37 = .ok (.ifnonnull 5, 3) := by decide +kernel
theorem d_41_40 : decode (js_b 41) 40 = .ok (.iload_n 2, 1) := by decide +kernel
theorem d_41_41 : decode (js_b 41) 41 = .ok (.ireturn, 1) := by decide +kernel
theorem d_41_42 : decode (js_b 41) 42 = .ok (.aload_n 0, 1) := by decide +kernel
theorem d_41_43 : decode (js_b 41) 43 = .ok (.aload_n 1, 1) := by decide +kernel
theorem d_41_44 : decode (js_b 41) 44 = .ok (.aload 4, 2) := by decide +kernel
theorem d_41_46 : decode (js_b 41) 46 = .ok (.invokevirtual 107, 3) := by decide +kernel
theorem d_41_49 : decode (js_b 41) 49 = .ok (.iinc 2 1, 3) := by decide +kernel
theorem d_41_52 : decode (js_b 41) 52 = .ok (.goto (-50), 3) := by decide +kernel
theorem d_41_55 : decode (js_b 41) 55 = .ok (.bipush 20, 2) := by decide +kernel
theorem d_41_57 : decode (js_b 41) 57 = .ok (.ireturn, 1) := by decide +kernel
theorem ki_41_15 : js_Ok 41 15 (o_ic (-1) 16) := js_St.ok (st_iconst rfl d_41_15)
theorem ki_41_14 : js_Ok 41 14 (o_il 3 15) := js_St.ok (st_iloadn rfl d_41_14)
theorem ki_41_13 : js_Ok 41 13 (o_is 3 14) := js_St.ok (st_istoren rfl (Nat.le_of_ble_eq_true rfl) d_41_13)
theorem ki_41_10 : js_Ok 41 10 (o_cI 40 2 5 13) := ok_cI (site_V kk_41_40 (by decide) kw_1351 kw_1353 ks_13 (fun t ht => by cases ht; exact Or.inl ⟨by decide, _, rfl, rfl⟩) d_41_10) rfl
theorem ki_41_9 : js_Ok 41 9 (o_al 1 10) := js_St.ok (st_aloadn rfl d_41_9)
theorem ki_41_8 : js_Ok 41 8 (o_al 0 9) := js_St.ok (st_aloadn rfl d_41_8)
theorem ki_41_5 : js_Ok 41 5 (o_cge 55 8) := js_St.ok (st_icge (by decide) d_41_5)
theorem ki_41_3 : js_Ok 41 3 (o_ic 20 5) := js_St.ok (st_bipush rfl d_41_3)
theorem ki_41_2 : js_Ok 41 2 (o_il 2 3) := js_St.ok (st_iloadn rfl d_41_2)
theorem ki_41_1 : js_Ok 41 1 (o_is 2 2) := js_St.ok (st_istoren rfl (Nat.le_of_ble_eq_true rfl) d_41_1)
theorem ki_41_0 : js_Ok 41 0 (o_ic 0 1) := js_St.ok (st_iconst rfl d_41_0)
theorem ki_41_30 : js_Ok 41 30 (o_cN 36 3 5 33) := ok_cN (site_V kk_41_36 (by decide) kw_1361 kw_556 kw_557 (fun t ht => by cases ht; exact Or.inl ⟨by decide, _, rfl, rfl⟩) d_41_30) rfl
theorem ki_41_29 : js_Ok 41 29 (o_ic 0 30) := js_St.ok (st_iconst rfl d_41_29)
theorem ki_41_28 : js_Ok 41 28 (o_al 1 29) := js_St.ok (st_aloadn rfl d_41_28)
theorem ki_41_27 : js_Ok 41 27 (o_al 0 28) := js_St.ok (st_aloadn rfl d_41_27)
theorem ki_41_24 : js_Ok 41 24 (o_cV 32 3 5 27) := ok_cV (site_V kk_41_32 (by decide) kw_1356 kw_544 kw_545 (fun t ht => by cases ht; exact Or.inl ⟨by decide, _, rfl, rfl⟩) d_41_24) rfl
theorem ki_41_23 : js_Ok 41 23 (o_il 3 24) := js_St.ok (st_iloadn rfl d_41_23)
theorem ki_41_22 : js_Ok 41 22 (o_al 1 23) := js_St.ok (st_aloadn rfl d_41_22)
theorem ki_41_21 : js_Ok 41 21 (o_al 0 22) := js_St.ok (st_aloadn rfl d_41_21)
theorem ki_41_20 : js_Ok 41 20 (o_rI) := ok_rI rfl d_41_20
theorem ki_41_19 : js_Ok 41 19 (o_il 2 20) := js_St.ok (st_iloadn rfl d_41_19)
theorem ki_41_16 : js_Ok 41 16 (o_cne 21 19) := js_St.ok (st_icne (by decide) d_41_16)
theorem ki_41_46 : js_Ok 41 46 (o_cV 38 3 5 49) := ok_cV (site_V kk_41_38 (by decide) kw_1362 kw_577 kw_578 (fun t ht => by cases ht; exact Or.inl ⟨by decide, _, rfl, rfl⟩) d_41_46) rfl
theorem ki_41_44 : js_Ok 41 44 (o_al 4 46) := js_St.ok (st_aload d_41_44)
theorem ki_41_43 : js_Ok 41 43 (o_al 1 44) := js_St.ok (st_aloadn rfl d_41_43)
theorem ki_41_42 : js_Ok 41 42 (o_al 0 43) := js_St.ok (st_aloadn rfl d_41_42)
theorem ki_41_41 : js_Ok 41 41 (o_rI) := ok_rI rfl d_41_41
theorem ki_41_40 : js_Ok 41 40 (o_il 2 41) := js_St.ok (st_iloadn rfl d_41_40)
theorem ki_41_37 : js_Ok 41 37 (o_nnl 42 40) := js_St.ok (st_ifnonnull (by decide) d_41_37)
theorem ki_41_35 : js_Ok 41 35 (o_al 4 37) := js_St.ok (st_aload d_41_35)
theorem ki_41_33 : js_Ok 41 33 (o_as 4 35) := js_St.ok (st_astore (Nat.le_of_ble_eq_true rfl) d_41_33)
theorem ki_41_57 : js_Ok 41 57 (o_rI) := ok_rI rfl d_41_57
theorem ki_41_55 : js_Ok 41 55 (o_ic 20 57) := js_St.ok (st_bipush rfl d_41_55)
theorem ki_41_52 : js_Ok 41 52 (o_go 2) := js_St.ok (st_goto (by decide) d_41_52)
theorem ki_41_49 : js_Ok 41 49 (o_inc 2 1 52) := js_St.ok (st_iinc rfl (Nat.le_of_ble_eq_true rfl) d_41_49)
theorem d_42_0 : decode (js_b 42) 0 = .ok (.aload_n 0, 1) := by decide +kernel
theorem d_42_1 : decode (js_b 42) 1 = .ok (.invokespecial 3, 3) := by decide +kernel
theorem d_42_4 : decode (js_b 42) 4 = .ok (.aload_n 0, 1) := by decide +kernel
theorem d_42_5 : decode (js_b 42) 5 = .ok (.bipush 9, 2) := by decide +kernel
theorem d_42_7 : decode (js_b 42) 7 = .ok (.anewarray 11, 3) := by decide +kernel
theorem d_42_10 : decode (js_b 42) 10 = .ok (.putfield 13, 3) := by decide +kernel
theorem d_42_13 : decode (js_b 42) 13 = .ok (.iconst 0, 1) := by decide +kernel
theorem d_42_14 : decode (js_b 42) 14 = .ok (.istore_n 1, 1) := by decide +kernel
theorem d_42_15 : decode (js_b 42) 15 = .ok (.iload_n 1, 1) := by decide +kernel
theorem d_42_16 : decode (js_b 42) 16 = .ok (.bipush 9, 2) := by decide +kernel
theorem d_42_18 : decode (js_b 42) 18 = .ok (.if_icmp .ge 22, 3) := by decide +kernel
theorem d_42_21 : decode (js_b 42) 21 = .ok (.aload_n 0, 1) := by decide +kernel
theorem d_42_22 : decode (js_b 42) 22 = .ok (.getfield 13, 3) := by decide +kernel
theorem d_42_25 : decode (js_b 42) 25 = .ok (.iload_n 1, 1) := by decide +kernel
theorem d_42_26 : decode (js_b 42) 26 = .ok (.new 11, 3) := by decide +kernel
theorem d_42_29 : decode (js_b 42) 29 = .ok (.dup, 1) := by decide +kernel
theorem d_42_30 : decode (js_b 42) 30 = .ok (.invokespecial 17, 3) := by decide +kernel
theorem d_42_33 : decode (js_b 42) 33 = .ok (.aastore, 1) := by decide +kernel
theorem d_42_34 : decode (js_b 42) 34 = .ok (.iinc 1 1, 3) := by decide +kernel
theorem d_42_37 : decode (js_b 42) 37 = .ok (.goto (-22), 3) := by decide +kernel
theorem d_42_40 : decode (js_b 42) 40 = .ok (.return_, 1) := by decide +kernel
theorem ki_42_15 : js_Ok 42 15 (o_il 1 16) := js_St.ok (st_iloadn rfl d_42_15)
theorem ki_42_14 : js_Ok 42 14 (o_is 1 15) := js_St.ok (st_istoren rfl (Nat.le_of_ble_eq_true rfl) d_42_14)
theorem ki_42_13 : js_Ok 42 13 (o_ic 0 14) := js_St.ok (st_iconst rfl d_42_13)
theorem ki_42_10 : js_Ok 42 10 (o_pA 5 0 110 13) := js_Si.ok (st_pAfin js_c5 (by decide) rfl rfl rfl kw_140 (Or.inr ⟨_, rfl⟩) (js_c5.2.2.1 0 (by decide)) d_42_10)
theorem ki_42_7 : js_Ok 42 7 (o_na 110 .null 10) := js_St.ok (st_ana (by decide) rfl rfl kw_137 kn_138 d_42_7)
theorem ki_42_5 : js_Ok 42 5 (o_ic 9 7) := js_St.ok (st_bipush rfl d_42_5)
theorem ki_42_4 : js_Ok 42 4 (o_al 0 5) := js_St.ok (st_aloadn rfl d_42_4)
theorem ki_42_1 : js_Ok 42 1 (o_obj 4) := js_St.ok (st_obj kw_136 kw_66 kw_67 d_42_1)
theorem ki_42_0 : js_Ok 42 0 (o_al 0 1) := js_St.ok (st_aloadn rfl d_42_0)
theorem ki_42_30 : js_Ok 42 30 (o_cV 0 1 1 33) := ok_cV (site_I kk_42_0 (by decide) rfl rfl kw_139 kw_71 d_42_30) rfl
theorem ki_42_29 : js_Ok 42 29 (o_dup 30) := js_St.ok (st_dup d_42_29)
theorem ki_42_26 : js_Ok 42 26 (o_new 0 [.null, .null, .int 0, .int 0] 29) := js_St.ok (st_new js_c0 rfl (by decide +kernel) (fun _ => rfl) kw_137 kw_69 kw_23 d_42_26)
theorem ki_42_25 : js_Ok 42 25 (o_il 1 26) := js_St.ok (st_iloadn rfl d_42_25)
theorem ki_42_22 : js_Ok 42 22 (o_gA 5 0 25) := js_St.ok (st_gA js_c5 (by decide) (by decide) kw_140 d_42_22)
theorem ki_42_21 : js_Ok 42 21 (o_al 0 22) := js_St.ok (st_aloadn rfl d_42_21)
theorem ki_42_18 : js_Ok 42 18 (o_cge 40 21) := js_St.ok (st_icge (by decide) d_42_18)
theorem ki_42_16 : js_Ok 42 16 (o_ic 9 18) := js_St.ok (st_bipush rfl d_42_16)
theorem ki_42_40 : js_Ok 42 40 (o_rV) := ok_rV rfl d_42_40
theorem ki_42_37 : js_Ok 42 37 (o_go 15) := js_St.ok (st_goto (by decide) d_42_37)
theorem ki_42_34 : js_Ok 42 34 (o_inc 1 1 37) := js_St.ok (st_iinc rfl (Nat.le_of_ble_eq_true rfl) d_42_34)
theorem ki_42_33 : js_Ok 42 33 (o_sA 110 0 34) := js_St.ok (st_sA (q9 := (RX1, TX1, 4)) rfl (by decide) (by decide) rfl d_42_33)
theorem d_43_0 : decode (js_b 43) 0 = .ok (.aload_n 0, 1) := by decide +kernel
theorem d_43_1 : decode (js_b 43) 1 = .ok (.invokevirtual 18, 3) := by decide +kernel
theorem d_43_4 : decode (js_b 43) 4 = .ok (.aload_n 1, 1) := by decide +kernel
theorem d_43_5 : decode (js_b 43) 5 = .ok (.invokevirtual 22, 3) := by decide +kernel
theorem d_43_8 : decode (js_b 43) 8 = .ok (.return_, 1) := by decide +kernel
theorem ki_43_8 : js_Ok 43 8 (o_rV) := ok_rV rfl d_43_8
theorem ki_43_5 : js_Ok 43 5 (o_cV 1 2 1 8) := ok_cV (site_V kk_43_1 (by decide) kw_287 kw_288 kw_289 (fun t ht => by cases ht; exact Or.inl ⟨by decide, _, rfl, rfl⟩) d_43_5) rfl
theorem ki_43_4 : js_Ok 43 4 (o_al 1 5) := js_St.ok (st_aloadn rfl d_43_4)
theorem ki_43_1 : js_Ok 43 1 (o_cA 44 1 6 4) := ok_cA (site_V kk_43_44 (by decide) kw_283 kw_284 kw_285 (fun t ht => by cases ht; exact Or.inl ⟨by decide, _, rfl, rfl⟩) d_43_1) rfl
theorem ki_43_0 : js_Ok 43 0 (o_al 0 1) := js_St.ok (st_aloadn rfl d_43_0)
theorem d_44_0 : decode (js_b 44) 0 = .ok (.aload_n 0, 1) := by decide +kernel
theorem d_44_1 : decode (js_b 44) 1 = .ok (.getfield 13, 3) := by decide +kernel
theorem d_44_4 : decode (js_b 44) 4 = .ok (.aload_n 0, 1) := by decide +kernel
theorem d_44_5 : decode (js_b 44) 5 = .ok (.getfield 26, 3) := by decide +kernel
theorem d_44_8 : decode (js_b 44) 8 = .ok (.aaload, 1) := by decide +kernel
theorem d_44_9 : decode (js_b 44) 9 = .ok (.areturn, 1) := by decide +kernel
theorem ki_44_9 : js_Ok 44 9 (o_rA) := ok_rA (Or.inl ⟨_, rfl⟩) rfl d_44_9
theorem ki_44_8 : js_Ok 44 8 (o_lA 110 9) := js_St.ok (st_lA (by decide) rfl d_44_8)
theorem ki_44_5 : js_Ok 44 5 (o_gI 5 1 8) := js_St.ok (st_gI js_c5 (by decide) (by decide) kw_141 d_44_5)
theorem ki_44_4 : js_Ok 44 4 (o_al 0 5) := js_St.ok (st_aloadn rfl d_44_4)
theorem ki_44_1 : js_Ok 44 1 (o_gA 5 0 4) := js_St.ok (st_gA js_c5 (by decide) (by decide) kw_140 d_44_1)
theorem ki_44_0 : js_Ok 44 0 (o_al 0 1) := js_St.ok (st_aloadn rfl d_44_0)
theorem d_45_0 : decode (js_b 45) 0 = .ok (.aload_n 0, 1) := by decide +kernel
theorem d_45_1 : decode (js_b 45) 1 = .ok (.aload_n 0, 1) := by decide +kernel
theorem d_45_2 : decode (js_b 45) 2 = .ok (.getfield 26, 3) := by decide +kernel
theorem d_45_5 : decode (js_b 45) 5 = .ok (.iconst 1, 1) := by decide +kernel
theorem d_45_6 : decode (js_b 45) 6 = .ok (.iadd, 1) := by decide +kernel
theorem d_45_7 : decode (js_b 45) 7 = .ok (.bipush 9, 2) := by decide +kernel
theorem d_45_9 : decode (js_b 45) 9 = .ok (.irem, 1) := by decide +kernel
theorem d_45_10 : decode (js_b 45) 10 = .ok (.putfield 26, 3) := by decide +kernel
theorem d_45_13 : decode (js_b 45) 13 = .ok (.aload_n 0, 1) := by decide +kernel
theorem d_45_14 : decode (js_b 45) 14 = .ok (.aload_n 0, 1) := by decide +kernel
theorem d_45_15 : decode (js_b 45) 15 = .ok (.getfield 30, 3) := by decide +kernel
theorem d_45_18 : decode (js_b 45) 18 = .ok (.iconst 1, 1) := by decide +kernel
theorem d_45_19 : decode (js_b 45) 19 = .ok (.iadd, 1) := by decide +kernel
theorem d_45_20 : decode (js_b 45) 20 = .ok (.bipush 8, 2) := by decide +kernel
theorem d_45_22 : decode (js_b 45) 22 = .ok (.invokestatic 33, 3) := by decide +kernel
theorem d_45_25 : decode (js_b 45) 25 = .ok (.putfield 30, 3) := by decide +kernel
theorem d_45_28 : decode (js_b 45) 28 = .ok (.return_, 1) := by decide +kernel
theorem ki_45_15 : js_Ok 45 15 (o_gI 5 2 18) := js_St.ok (st_gI js_c5 (by decide) (by decide) kw_142 d_45_15)
theorem ki_45_14 : js_Ok 45 14 (o_al 0 15) := js_St.ok (st_aloadn rfl d_45_14)
theorem ki_45_13 : js_Ok 45 13 (o_al 0 14) := js_St.ok (st_aloadn rfl d_45_13)
theorem ki_45_10 : js_Ok 45 10 (o_pI 5 1 13) := js_St.ok (st_pIown js_c5 (by decide) rfl kw_141 (js_c5.2.2.1 1 (by decide)) d_45_10)
theorem ki_45_9 : js_Ok 45 9 (o_rem 10) := js_St.ok (st_irem d_45_9)
theorem ki_45_7 : js_Ok 45 7 (o_ic 9 9) := js_St.ok (st_bipush rfl d_45_7)
theorem ki_45_6 : js_Ok 45 6 (o_b2 (fun x y => x + y) 7) := js_St.ok (st_iadd d_45_6)
theorem ki_45_5 : js_Ok 45 5 (o_ic 1 6) := js_St.ok (st_iconst rfl d_45_5)
theorem ki_45_2 : js_Ok 45 2 (o_gI 5 1 5) := js_St.ok (st_gI js_c5 (by decide) (by decide) kw_141 d_45_2)
theorem ki_45_1 : js_Ok 45 1 (o_al 0 2) := js_St.ok (st_aloadn rfl d_45_1)
theorem ki_45_0 : js_Ok 45 0 (o_al 0 1) := js_St.ok (st_aloadn rfl d_45_0)
theorem ki_45_28 : js_Ok 45 28 (o_rV) := ok_rV rfl d_45_28
theorem ki_45_25 : js_Ok 45 25 (o_pI 5 2 28) := js_St.ok (st_pIown js_c5 (by decide) rfl kw_142 (js_c5.2.2.1 2 (by decide)) d_45_25)
theorem ki_45_22 : js_Ok 45 22 (o_cI 247 2 0 25) := ok_cI (site_S kk_45_247 kw_443 kw_444 d_45_22) rfl
theorem ki_45_20 : js_Ok 45 20 (o_ic 8 22) := js_St.ok (st_bipush rfl d_45_20)
theorem ki_45_19 : js_Ok 45 19 (o_b2 (fun x y => x + y) 20) := js_St.ok (st_iadd d_45_19)
theorem ki_45_18 : js_Ok 45 18 (o_ic 1 19) := js_St.ok (st_iconst rfl d_45_18)
theorem d_46_0 : decode (js_b 46) 0 = .ok (.aload_n 0, 1) := by decide +kernel
theorem d_46_1 : decode (js_b 46) 1 = .ok (.aload_n 0, 1) := by decide +kernel
theorem d_46_2 : decode (js_b 46) 2 = .ok (.getfield 26, 3) := by decide +kernel
theorem d_46_5 : decode (js_b 46) 5 = .ok (.bipush 9, 2) := by decide +kernel
theorem d_46_7 : decode (js_b 46) 7 = .ok (.iadd, 1) := by decide +kernel
theorem d_46_8 : decode (js_b 46) 8 = .ok (.iconst 1, 1) := by decide +kernel
theorem d_46_9 : decode (js_b 46) 9 = .ok (.isub, 1) := by decide +kernel
theorem d_46_10 : decode (js_b 46) 10 = .ok (.bipush 9, 2) := by decide +kernel
theorem d_46_12 : decode (js_b 46) 12 = .ok (.irem, 1) := by decide +kernel
theorem d_46_13 : decode (js_b 46) 13 = .ok (.putfield 26, 3) := by decide +kernel
theorem d_46_16 : decode (js_b 46) 16 = .ok (.aload_n 0, 1) := by decide +kernel
theorem d_46_17 : decode (js_b 46) 17 = .ok (.dup, 1) := by decide +kernel
theorem d_46_18 : decode (js_b 46) 18 = .ok (.getfield 30, 3) := by decide +kernel
theorem d_46_21 : decode (js_b 46) 21 = .ok (.iconst 1, 1) := by decide +kernel
theorem d_46_22 : decode (js_b 46) 22 = .ok (.isub, 1) := by decide +kernel
theorem d_46_23 : decode (js_b 46) 23 = .ok (.putfield 30, 3) := by decide +kernel
theorem d_46_26 : decode (js_b 46) 26 = .ok (.aload_n 0, 1) := by decide +kernel
theorem d_46_27 : decode (js_b 46) 27 = .ok (.getfield 13, 3) := by decide +kernel
theorem d_46_30 : decode (js_b 46) 30 = .ok (.aload_n 0, 1) := by decide +kernel
theorem d_46_31 : decode (js_b 46) 31 = .ok (.getfield 26, 3) := by decide +kernel
theorem d_46_34 : decode (js_b 46) 34 = .ok (.aaload, 1) := by decide +kernel
theorem d_46_35 : decode (js_b 46) 35 = .ok (.areturn, 1) := by decide +kernel
theorem ki_46_13 : js_Ok 46 13 (o_pI 5 1 16) := js_St.ok (st_pIown js_c5 (by decide) rfl kw_141 (js_c5.2.2.1 1 (by decide)) d_46_13)
theorem ki_46_12 : js_Ok 46 12 (o_rem 13) := js_St.ok (st_irem d_46_12)
theorem ki_46_10 : js_Ok 46 10 (o_ic 9 12) := js_St.ok (st_bipush rfl d_46_10)
theorem ki_46_9 : js_Ok 46 9 (o_b2 (fun x y => x - y) 10) := js_St.ok (st_isub d_46_9)
theorem ki_46_8 : js_Ok 46 8 (o_ic 1 9) := js_St.ok (st_iconst rfl d_46_8)
theorem ki_46_7 : js_Ok 46 7 (o_b2 (fun x y => x + y) 8) := js_St.ok (st_iadd d_46_7)
theorem ki_46_5 : js_Ok 46 5 (o_ic 9 7) := js_St.ok (st_bipush rfl d_46_5)
theorem ki_46_2 : js_Ok 46 2 (o_gI 5 1 5) := js_St.ok (st_gI js_c5 (by decide) (by decide) kw_141 d_46_2)
theorem ki_46_1 : js_Ok 46 1 (o_al 0 2) := js_St.ok (st_aloadn rfl d_46_1)
theorem ki_46_0 : js_Ok 46 0 (o_al 0 1) := js_St.ok (st_aloadn rfl d_46_0)
theorem ki_46_31 : js_Ok 46 31 (o_gI 5 1 34) := js_St.ok (st_gI js_c5 (by decide) (by decide) kw_141 d_46_31)
theorem ki_46_30 : js_Ok 46 30 (o_al 0 31) := js_St.ok (st_aloadn rfl d_46_30)
theorem ki_46_27 : js_Ok 46 27 (o_gA 5 0 30) := js_St.ok (st_gA js_c5 (by decide) (by decide) kw_140 d_46_27)
theorem ki_46_26 : js_Ok 46 26 (o_al 0 27) := js_St.ok (st_aloadn rfl d_46_26)
theorem ki_46_23 : js_Ok 46 23 (o_pI 5 2 26) := js_St.ok (st_pIown js_c5 (by decide) rfl kw_142 (js_c5.2.2.1 2 (by decide)) d_46_23)
theorem ki_46_22 : js_Ok 46 22 (o_b2 (fun x y => x - y) 23) := js_St.ok (st_isub d_46_22)
theorem ki_46_21 : js_Ok 46 21 (o_ic 1 22) := js_St.ok (st_iconst rfl d_46_21)
theorem ki_46_18 : js_Ok 46 18 (o_gI 5 2 21) := js_St.ok (st_gI js_c5 (by decide) (by decide) kw_142 d_46_18)
theorem ki_46_17 : js_Ok 46 17 (o_dup 18) := js_St.ok (st_dup d_46_17)
theorem ki_46_16 : js_Ok 46 16 (o_al 0 17) := js_St.ok (st_aloadn rfl d_46_16)
theorem ki_46_35 : js_Ok 46 35 (o_rA) := ok_rA (Or.inl ⟨_, rfl⟩) rfl d_46_35
theorem ki_46_34 : js_Ok 46 34 (o_lA 110 35) := js_St.ok (st_lA (by decide) rfl d_46_34)
theorem d_48_0 : decode (js_b 48) 0 = .ok (.aload_n 0, 1) := by decide +kernel
theorem d_48_1 : decode (js_b 48) 1 = .ok (.invokespecial 3, 3) := by decide +kernel
theorem d_48_4 : decode (js_b 48) 4 = .ok (.aload_n 0, 1) := by decide +kernel
theorem d_48_5 : decode (js_b 48) 5 = .ok (.bipush 60, 2) := by decide +kernel
theorem d_48_7 : decode (js_b 48) 7 = .ok (.newarray .char, 2) := by decide +kernel
theorem d_48_9 : decode (js_b 48) 9 = .ok (.putfield 9, 3) := by decide +kernel
theorem d_48_12 : decode (js_b 48) 12 = .ok (.aload_n 0, 1) := by decide +kernel
theorem d_48_13 : decode (js_b 48) 13 = .ok (.bipush 12, 2) := by decide +kernel
theorem d_48_15 : decode (js_b 48) 15 = .ok (.anewarray 15, 3) := by decide +kernel
theorem d_48_18 : decode (js_b 48) 18 = .ok (.putfield 17, 3) := by decide +kernel
theorem d_48_21 : decode (js_b 48) 21 = .ok (.iconst 0, 1) := by decide +kernel
theorem d_48_22 : decode (js_b 48) 22 = .ok (.istore_n 1, 1) := by decide +kernel
theorem d_48_23 : decode (js_b 48) 23 = .ok (.iload_n 1, 1) := by decide +kernel
theorem d_48_24 : decode (js_b 48) 24 = .ok (.bipush 12, 2) := by decide +kernel
theorem d_48_26 : decode (js_b 48) 26 = .ok (.if_icmp .ge 22, 3) := by decide +kernel
theorem d_48_29 : decode (js_b 48) 29 = .ok (.aload_n 0, 1) := by decide +kernel
theorem d_48_30 : decode (js_b 48) 30 = .ok (.getfield 17, 3) := by decide +kernel
theorem d_48_33 : decode (js_b 48) 33 = .ok (.iload_n 1, 1) := by decide +kernel
theorem d_48_34 : decode (js_b 48) 34 = .ok (.new 15, 3) := by decide +kernel
theorem d_48_37 : decode (js_b 48) 37 = .ok (.dup, 1) := by decide +kernel
theorem d_48_38 : decode (js_b 48) 38 = .ok (.invokespecial 21, 3) := by decide +kernel
theorem d_48_41 : decode (js_b 48) 41 = .ok (.aastore, 1) := by decide +kernel
theorem d_48_42 : decode (js_b 48) 42 = .ok (.iinc 1 1, 3) := by decide +kernel
theorem d_48_45 : decode (js_b 48) 45 = .ok (.goto (-22), 3) := by decide +kernel
theorem d_48_48 : decode (js_b 48) 48 = .ok (.return_, 1) := by decide +kernel
theorem ki_48_15 : js_Ok 48 15 (o_na 112 .null 18) := js_St.ok (st_ana (by decide) rfl rfl kw_191 kn_192 d_48_15)
theorem ki_48_13 : js_Ok 48 13 (o_ic 12 15) := js_St.ok (st_bipush rfl d_48_13)
theorem ki_48_12 : js_Ok 48 12 (o_al 0 13) := js_St.ok (st_aloadn rfl d_48_12)
theorem ki_48_9 : js_Ok 48 9 (o_pA 6 0 101 12) := js_Si.ok (st_pAfin js_c6 (by decide) rfl rfl rfl kw_211 (Or.inr ⟨_, rfl⟩) (js_c6.2.2.1 0 (by decide)) d_48_9)
theorem ki_48_7 : js_Ok 48 7 (o_na 101 (.int 0) 9) := js_St.ok (st_na (by decide) rfl (fun _ h => by cases h) (by decide) (fun _ => rfl) kw_170 d_48_7)
theorem ki_48_5 : js_Ok 48 5 (o_ic 60 7) := js_St.ok (st_bipush rfl d_48_5)
theorem ki_48_4 : js_Ok 48 4 (o_al 0 5) := js_St.ok (st_aloadn rfl d_48_4)
theorem ki_48_1 : js_Ok 48 1 (o_obj 4) := js_St.ok (st_obj kw_190 kw_66 kw_67 d_48_1)
theorem ki_48_0 : js_Ok 48 0 (o_al 0 1) := js_St.ok (st_aloadn rfl d_48_0)
theorem ki_48_30 : js_Ok 48 30 (o_gA 6 3 33) := js_St.ok (st_gA js_c6 (by decide) (by decide) kw_215 d_48_30)
theorem ki_48_29 : js_Ok 48 29 (o_al 0 30) := js_St.ok (st_aloadn rfl d_48_29)
theorem ki_48_26 : js_Ok 48 26 (o_cge 48 29) := js_St.ok (st_icge (by decide) d_48_26)
theorem ki_48_24 : js_Ok 48 24 (o_ic 12 26) := js_St.ok (st_bipush rfl d_48_24)
theorem ki_48_23 : js_Ok 48 23 (o_il 1 24) := js_St.ok (st_iloadn rfl d_48_23)
theorem ki_48_22 : js_Ok 48 22 (o_is 1 23) := js_St.ok (st_istoren rfl (Nat.le_of_ble_eq_true rfl) d_48_22)
theorem ki_48_21 : js_Ok 48 21 (o_ic 0 22) := js_St.ok (st_iconst rfl d_48_21)
theorem ki_48_18 : js_Ok 48 18 (o_pA 6 3 112 21) := js_Si.ok (st_pAfin js_c6 (by decide) rfl rfl rfl kw_215 (Or.inr ⟨_, rfl⟩) (js_c6.2.2.1 3 (by decide)) d_48_18)
theorem ki_48_45 : js_Ok 48 45 (o_go 23) := js_St.ok (st_goto (by decide) d_48_45)
theorem ki_48_42 : js_Ok 48 42 (o_inc 1 1 45) := js_St.ok (st_iinc rfl (Nat.le_of_ble_eq_true rfl) d_48_42)
theorem ki_48_41 : js_Ok 48 41 (o_sA 112 1 42) := js_St.ok (st_sA (q9 := (RX2, TX2, 2)) rfl (by decide) (by decide) rfl d_48_41)
theorem ki_48_38 : js_Ok 48 38 (o_cV 19 1 2 41) := ok_cV (site_IN kk_48_19 (by decide) rfl rfl kn_194 kw_195 d_48_38) rfl
theorem ki_48_37 : js_Ok 48 37 (o_dup 38) := js_St.ok (st_dup d_48_37)
theorem ki_48_34 : js_Ok 48 34 (o_new 1 [.null, .null] 37) := js_St.ok (st_new js_c1 rfl (by decide +kernel) (fun _ => rfl) kw_191 kw_193 kw_29 d_48_34)
theorem ki_48_33 : js_Ok 48 33 (o_il 1 34) := js_St.ok (st_iloadn rfl d_48_33)
theorem ki_48_48 : js_Ok 48 48 (o_rV) := ok_rV rfl d_48_48
theorem d_49_0 : decode (js_b 49) 0 = .ok (.aload_n 0, 1) := by decide +kernel
theorem d_49_1 : decode (js_b 49) 1 = .ok (.getfield 22, 3) := by decide +kernel
theorem d_49_4 : decode (js_b 49) 4 = .ok (.bipush 60, 2) := by decide +kernel
theorem d_49_6 : decode (js_b 49) 6 = .ok (.if_icmp .lt 7, 3) := by decide +kernel
theorem d_49_9 : decode (js_b 49) 9 = .ok (.iconst 1, 1) := by decide +kernel
theorem d_49_10 : decode (js_b 49) 10 = .ok (.goto 4, 3) := by decide +kernel
theorem d_49_13 : decode (js_b 49) 13 = .ok (.iconst 0, 1) := by decide +kernel
theorem d_49_14 : decode (js_b 49) 14 = .ok (.ireturn, 1) := by decide +kernel
theorem ki_49_14 : js_Ok 49 14 (o_rZ) := ok_rZ rfl d_49_14
theorem ki_49_13 : js_Ok 49 13 (o_ic 0 14) := js_St.ok (st_iconst rfl d_49_13)
theorem ki_49_10 : js_Ok 49 10 (o_go 14) := js_St.ok (st_goto (by decide) d_49_10)
theorem ki_49_9 : js_Ok 49 9 (o_ic 1 10) := js_St.ok (st_iconst rfl d_49_9)
theorem ki_49_6 : js_Ok 49 6 (o_clt 13 9) := js_St.ok (st_iclt (by decide) d_49_6)
theorem ki_49_4 : js_Ok 49 4 (o_ic 60 6) := js_St.ok (st_bipush rfl d_49_4)
theorem ki_49_1 : js_Ok 49 1 (o_gI 6 1 4) := js_St.ok (st_gI js_c6 (by decide) (by decide) kw_212 d_49_1)
theorem ki_49_0 : js_Ok 49 0 (o_al 0 1) := js_St.ok (st_aloadn rfl d_49_0)
theorem d_50_0 : decode (js_b 50) 0 = .ok (.aload_n 0, 1) := by decide +kernel
theorem d_50_1 : decode (js_b 50) 1 = .ok (.getfield 9, 3) := by decide +kernel
theorem d_50_4 : decode (js_b 50) 4 = .ok (.aload_n 0, 1) := by decide +kernel
theorem d_50_5 : decode (js_b 50) 5 = .ok (.getfield 22, 3) := by decide +kernel
theorem d_50_8 : decode (js_b 50) 8 = .ok (.iload_n 1, 1) := by decide +kernel
theorem d_50_9 : decode (js_b 50) 9 = .ok (.castore, 1) := by decide +kernel
theorem d_50_10 : decode (js_b 50) 10 = .ok (.aload_n 0, 1) := by decide +kernel
theorem d_50_11 : decode (js_b 50) 11 = .ok (.dup, 1) := by decide +kernel
theorem d_50_12 : decode (js_b 50) 12 = .ok (.getfield 22, 3) := by decide +kernel
theorem d_50_15 : decode (js_b 50) 15 = .ok (.iconst 1, 1) := by decide +kernel
theorem d_50_16 : decode (js_b 50) 16 = .ok (.iadd, 1) := by decide +kernel
theorem d_50_17 : decode (js_b 50) 17 = .ok (.putfield 22, 3) := by decide +kernel
theorem d_50_20 : decode (js_b 50) 20 = .ok (.aload_n 0, 1) := by decide +kernel
theorem d_50_21 : decode (js_b 50) 21 = .ok (.getfield 22, 3) := by decide +kernel
theorem d_50_24 : decode (js_b 50) 24 = .ok (.ireturn, 1) := by decide +kernel
theorem ki_50_15 : js_Ok 50 15 (o_ic 1 16) := js_St.ok (st_iconst rfl d_50_15)
theorem ki_50_12 : js_Ok 50 12 (o_gI 6 1 15) := js_St.ok (st_gI js_c6 (by decide) (by decide) kw_212 d_50_12)
theorem ki_50_11 : js_Ok 50 11 (o_dup 12) := js_St.ok (st_dup d_50_11)
theorem ki_50_10 : js_Ok 50 10 (o_al 0 11) := js_St.ok (st_aloadn rfl d_50_10)
theorem ki_50_9 : js_Ok 50 9 (o_sC 101 10) := js_St.ok (st_sC d_50_9)
theorem ki_50_8 : js_Ok 50 8 (o_il 1 9) := js_St.ok (st_iloadn rfl d_50_8)
theorem ki_50_5 : js_Ok 50 5 (o_gI 6 1 8) := js_St.ok (st_gI js_c6 (by decide) (by decide) kw_212 d_50_5)
theorem ki_50_4 : js_Ok 50 4 (o_al 0 5) := js_St.ok (st_aloadn rfl d_50_4)
theorem ki_50_1 : js_Ok 50 1 (o_gA 6 0 4) := js_St.ok (st_gA js_c6 (by decide) (by decide) kw_211 d_50_1)
theorem ki_50_0 : js_Ok 50 0 (o_al 0 1) := js_St.ok (st_aloadn rfl d_50_0)
theorem ki_50_24 : js_Ok 50 24 (o_rI) := ok_rI rfl d_50_24
theorem ki_50_21 : js_Ok 50 21 (o_gI 6 1 24) := js_St.ok (st_gI js_c6 (by decide) (by decide) kw_212 d_50_21)
theorem ki_50_20 : js_Ok 50 20 (o_al 0 21) := js_St.ok (st_aloadn rfl d_50_20)
theorem ki_50_17 : js_Ok 50 17 (o_pI 6 1 20) := js_St.ok (st_pIown js_c6 (by decide) rfl kw_212 (js_c6.2.2.1 1 (by decide)) d_50_17)
theorem ki_50_16 : js_Ok 50 16 (o_b2 (fun x y => x + y) 17) := js_St.ok (st_iadd d_50_16)
theorem d_51_0 : decode (js_b 51) 0 = .ok (.aload_n 0, 1) := by decide +kernel
theorem d_51_1 : decode (js_b 51) 1 = .ok (.iconst 0, 1) := by decide +kernel
theorem d_51_2 : decode (js_b 51) 2 = .ok (.putfield 22, 3) := by decide +kernel
theorem d_51_5 : decode (js_b 51) 5 = .ok (.return_, 1) := by decide +kernel
theorem ki_51_5 : js_Ok 51 5 (o_rV) := ok_rV rfl d_51_5
theorem ki_51_2 : js_Ok 51 2 (o_pI 6 1 5) := js_St.ok (st_pIown js_c6 (by decide) rfl kw_212 (js_c6.2.2.1 1 (by decide)) d_51_2)
theorem ki_51_1 : js_Ok 51 1 (o_ic 0 2) := js_St.ok (st_iconst rfl d_51_1)
theorem ki_51_0 : js_Ok 51 0 (o_al 0 1) := js_St.ok (st_aloadn rfl d_51_0)
theorem d_52_0 : decode (js_b 52) 0 = .ok (.aload_n 0, 1) := by decide +kernel
theorem d_52_1 : decode (js_b 52) 1 = .ok (.iconst 0, 1) := by decide +kernel
theorem d_52_2 : decode (js_b 52) 2 = .ok (.putfield 26, 3) := by decide +kernel
theorem d_52_5 : decode (js_b 52) 5 = .ok (.iconst 0, 1) := by decide +kernel
theorem d_52_6 : decode (js_b 52) 6 = .ok (.istore_n 1, 1) := by decide +kernel
theorem d_52_7 : decode (js_b 52) 7 = .ok (.iload_n 1, 1) := by decide +kernel
theorem d_52_8 : decode (js_b 52) 8 = .ok (.bipush 12, 2) := by decide +kernel
theorem d_52_10 : decode (js_b 52) 10 = .ok (.if_icmp .ge 56, 3) := by decide +kernel
theorem d_52_13 : decode (js_b 52) 13 = .ok (.aload_n 0, 1) := by decide +kernel
theorem d_52_14 : decode (js_b 52) 14 = .ok (.aload_n 0, 1) := by decide +kernel
theorem d_52_15 : decode (js_b 52) 15 = .ok (.getfield 17, 3) := by decide +kernel
theorem d_52_18 : decode (js_b 52) 18 = .ok (.iload_n 1, 1) := by decide +kernel
theorem d_52_19 : decode (js_b 52) 19 = .ok (.aaload, 1) := by decide +kernel
theorem d_52_20 : decode (js_b 52) 20 = .ok (.invokevirtual 29, 3) := by decide +kernel
theorem d_52_23 : decode (js_b 52) 23 = .ok (.ifCond .ne 5, 3) := by decide +kernel
theorem d_52_26 : decode (js_b 52) 26 = .ok (.iconst 0, 1) := by decide +kernel
theorem d_52_27 : decode (js_b 52) 27 = .ok (.ireturn, 1) := by decide +kernel
theorem d_52_28 : decode (js_b 52) 28 = .ok (.aload_n 0, 1) := by decide +kernel
theorem d_52_29 : decode (js_b 52) 29 = .ok (.getfield 26, 3) := by decide +kernel
theorem d_52_32 : decode (js_b 52) 32 = .ok (.aload_n 0, 1) := by decide +kernel
theorem d_52_33 : decode (js_b 52) 33 = .ok (.getfield 22, 3) := by decide +kernel
theorem d_52_36 : decode (js_b 52) 36 = .ok (.if_icmp .ne 12, 3) := by decide +kernel
theorem d_52_39 : decode (js_b 52) 39 = .ok (.aload_n 0, 1) := by decide +kernel
theorem d_52_40 : decode (js_b 52) 40 = .ok (.iload_n 1, 1) := by decide +kernel
theorem d_52_41 : decode (js_b 52) 41 = .ok (.iconst 1, 1) := by decide +kernel
theorem d_52_42 : decode (js_b 52) 42 = .ok (.iadd, 1) := by decide +kernel
theorem d_52_43 : decode (js_b 52) 43 = .ok (.putfield 33, 3) := by decide +kernel
theorem d_52_46 : decode (js_b 52) 46 = .ok (.iconst 1, 1) := by decide +kernel
theorem d_52_47 : decode (js_b 52) 47 = .ok (.ireturn, 1) := by decide +kernel
theorem d_52_48 : decode (js_b 52) 48 = .ok (.aload_n 0, 1) := by decide +kernel
theorem d_52_49 : decode (js_b 52) 49 = .ok (.bipush 59, 2) := by decide +kernel
theorem d_52_51 : decode (js_b 52) 51 = .ok (.invokevirtual 36, 3) := by decide +kernel
theorem d_52_54 : decode (js_b 52) 54 = .ok (.iconst (-1), 1) := by decide +kernel
theorem d_52_55 : decode (js_b 52) 55 = .ok (.if_icmp .ne 5, 3) := by decide +kernel
theorem d_52_58 : decode (js_b 52) 58 = .ok (.iconst 0, 1) := by decide +kernel
theorem d_52_59 : decode (js_b 52) 59 = .ok (.ireturn, 1) := by decide +kernel
theorem d_52_60 : decode (js_b 52) 60 = .ok (.iinc 1 1, 3) := by decide +kernel
theorem d_52_63 : decode (js_b 52) 63 = .ok (.goto (-56), 3) := by decide +kernel
theorem d_52_66 : decode (js_b 52) 66 = .ok (.iconst 0, 1) := by decide +kernel
theorem d_52_67 : decode (js_b 52) 67 = .ok (.ireturn, 1) := by decide +kernel
theorem ki_52_15 : js_Ok 52 15 (o_gA 6 3 18) := js_St.ok (st_gA js_c6 (by decide) (by decide) kw_215 d_52_15)
theorem ki_52_14 : js_Ok 52 14 (o_al 0 15) := js_St.ok (st_aloadn rfl d_52_14)
theorem ki_52_13 : js_Ok 52 13 (o_al 0 14) := js_St.ok (st_aloadn rfl d_52_13)
theorem ki_52_10 : js_Ok 52 10 (o_cge 66 13) := js_St.ok (st_icge (by decide) d_52_10)
theorem ki_52_8 : js_Ok 52 8 (o_ic 12 10) := js_St.ok (st_bipush rfl d_52_8)
theorem ki_52_7 : js_Ok 52 7 (o_il 1 8) := js_St.ok (st_iloadn rfl d_52_7)
theorem ki_52_6 : js_Ok 52 6 (o_is 1 7) := js_St.ok (st_istoren rfl (Nat.le_of_ble_eq_true rfl) d_52_6)
theorem ki_52_5 : js_Ok 52 5 (o_ic 0 6) := js_St.ok (st_iconst rfl d_52_5)
theorem ki_52_2 : js_Ok 52 2 (o_pI 6 2 5) := js_St.ok (st_pIown js_c6 (by decide) rfl kw_213 (js_c6.2.2.1 2 (by decide)) d_52_2)
theorem ki_52_1 : js_Ok 52 1 (o_ic 0 2) := js_St.ok (st_iconst rfl d_52_1)
theorem ki_52_0 : js_Ok 52 0 (o_al 0 1) := js_St.ok (st_aloadn rfl d_52_0)
theorem ki_52_29 : js_Ok 52 29 (o_gI 6 2 32) := js_St.ok (st_gI js_c6 (by decide) (by decide) kw_213 d_52_29)
theorem ki_52_28 : js_Ok 52 28 (o_al 0 29) := js_St.ok (st_aloadn rfl d_52_28)
theorem ki_52_27 : js_Ok 52 27 (o_rZ) := ok_rZ rfl d_52_27
theorem ki_52_26 : js_Ok 52 26 (o_ic 0 27) := js_St.ok (st_iconst rfl d_52_26)
theorem ki_52_23 : js_Ok 52 23 (o_ne 28 26) := js_St.ok (st_ifne (by decide) d_52_23)
theorem ki_52_20 : js_Ok 52 20 (o_cI 53 2 7 23) := ok_cI (site_V kk_52_53 (by decide) kw_1397 kw_1399 ks_15 (fun t ht => by cases ht; exact Or.inl ⟨by decide, _, rfl, rfl⟩) d_52_20) rfl
theorem ki_52_19 : js_Ok 52 19 (o_lA 112 20) := js_St.ok (st_lA (by decide) rfl d_52_19)
theorem ki_52_18 : js_Ok 52 18 (o_il 1 19) := js_St.ok (st_iloadn rfl d_52_18)
theorem ki_52_47 : js_Ok 52 47 (o_rZ) := ok_rZ rfl d_52_47
theorem ki_52_46 : js_Ok 52 46 (o_ic 1 47) := js_St.ok (st_iconst rfl d_52_46)
theorem ki_52_43 : js_Ok 52 43 (o_pI 6 4 46) := js_St.ok (st_pIown js_c6 (by decide) rfl kw_217 (js_c6.2.2.1 4 (by decide)) d_52_43)
theorem ki_52_42 : js_Ok 52 42 (o_b2 (fun x y => x + y) 43) := js_St.ok (st_iadd d_52_42)
theorem ki_52_41 : js_Ok 52 41 (o_ic 1 42) := js_St.ok (st_iconst rfl d_52_41)
theorem ki_52_40 : js_Ok 52 40 (o_il 1 41) := js_St.ok (st_iloadn rfl d_52_40)
theorem ki_52_39 : js_Ok 52 39 (o_al 0 40) := js_St.ok (st_aloadn rfl d_52_39)
theorem ki_52_36 : js_Ok 52 36 (o_cne 48 39) := js_St.ok (st_icne (by decide) d_52_36)
theorem ki_52_33 : js_Ok 52 33 (o_gI 6 1 36) := js_St.ok (st_gI js_c6 (by decide) (by decide) kw_212 d_52_33)
theorem ki_52_32 : js_Ok 52 32 (o_al 0 33) := js_St.ok (st_aloadn rfl d_52_32)
theorem ki_52_63 : js_Ok 52 63 (o_go 7) := js_St.ok (st_goto (by decide) d_52_63)
theorem ki_52_60 : js_Ok 52 60 (o_inc 1 1 63) := js_St.ok (st_iinc rfl (Nat.le_of_ble_eq_true rfl) d_52_60)
theorem ki_52_59 : js_Ok 52 59 (o_rZ) := ok_rZ rfl d_52_59
theorem ki_52_58 : js_Ok 52 58 (o_ic 0 59) := js_St.ok (st_iconst rfl d_52_58)
theorem ki_52_55 : js_Ok 52 55 (o_cne 60 58) := js_St.ok (st_icne (by decide) d_52_55)
theorem ki_52_54 : js_Ok 52 54 (o_ic (-1) 55) := js_St.ok (st_iconst rfl d_52_54)
theorem ki_52_51 : js_Ok 52 51 (o_cI 57 2 7 54) := ok_cI (site_V kk_52_57 (by decide) kw_1418 kw_1420 ks_19 (fun t ht => by cases ht; exact Or.inl ⟨by decide, _, rfl, rfl⟩) d_52_51) rfl
theorem ki_52_49 : js_Ok 52 49 (o_ic 59 51) := js_St.ok (st_bipush rfl d_52_49)
theorem ki_52_48 : js_Ok 52 48 (o_al 0 49) := js_St.ok (st_aloadn rfl d_52_48)
theorem ki_52_67 : js_Ok 52 67 (o_rZ) := ok_rZ rfl d_52_67
theorem ki_52_66 : js_Ok 52 66 (o_ic 0 67) := js_St.ok (st_iconst rfl d_52_66)
theorem d_53_0 : decode (js_b 53) 0 = .ok (.aload_n 0, 1) := by decide +kernel
theorem d_53_1 : decode (js_b 53) 1 = .ok (.invokevirtual 40, 3) := by decide +kernel
theorem d_53_4 : decode (js_b 53) 4 = .ok (.astore_n 2, 1) := by decide +kernel
theorem d_53_5 : decode (js_b 53) 5 = .ok (.aload_n 2, 1) := by decide +kernel
theorem d_53_6 : decode (js_b 53) 6 = .ok (.ifnonnull 5, 3) := by decide +kernel
theorem d_53_9 : decode (js_b 53) 9 = .ok (.iconst 0, 1) := by decide +kernel
theorem d_53_10 : decode (js_b 53) 10 = .ok (.ireturn, 1) := by decide +kernel
theorem d_53_11 : decode (js_b 53) 11 = .ok (.aload_n 1, 1) := by decide +kernel
theorem d_53_12 : decode (js_b 53) 12 = .ok (.aload_n 2, 1) := by decide +kernel
theorem d_53_13 : decode (js_b 53) 13 = .ok (.putfield 44, 3) := by decide +kernel
theorem d_53_16 : decode (js_b 53) 16 = .ok (.iconst 0, 1) := by decide +kernel
theorem d_53_17 : decode (js_b 53) 17 = .ok (.istore_n 3, 1) := by decide +kernel
theorem d_53_18 : decode (js_b 53) 18 = .ok (.iload_n 3, 1) := by decide +kernel
theorem d_53_19 : decode (js_b 53) 19 = .ok (.aload_n 2, 1) := by decide +kernel
theorem d_53_20 : decode (js_b 53) 20 = .ok (.getfield 48, 3) := by decide +kernel
theorem d_53_23 : decode (js_b 53) 23 = .ok (.invokevirtual 54, 3) := by decide +kernel
theorem d_53_26 : decode (js_b 53) 26 = .ok (.if_icmp .ge 62, 3) := by decide +kernel
theorem d_53_29 : decode (js_b 53) 29 = .ok (.iload_n 3, 1) := by decide +kernel
theorem d_53_30 : decode (js_b 53) 30 = .ok (.iconst 5, 1) := by decide +kernel
theorem d_53_31 : decode (js_b 53) 31 = .ok (.if_icmp .ge 57, 3) := by decide +kernel
theorem d_53_34 : decode (js_b 53) 34 = .ok (.aload_n 2, 1) := by decide +kernel
theorem d_53_35 : decode (js_b 53) 35 = .ok (.getfield 48, 3) := by decide +kernel
theorem d_53_38 : decode (js_b 53) 38 = .ok (.iload_n 3, 1) := by decide +kernel
theorem d_53_39 : decode (js_b 53) 39 = .ok (.invokevirtual 59, 3) := by decide +kernel
theorem d_53_42 : decode (js_b 53) 42 = .ok (.istore 4, 2) := by decide +kernel
theorem d_53_44 : decode (js_b 53) 44 = .ok (.iload 4, 2) := by decide +kernel
theorem d_53_46 : decode (js_b 53) 46 = .ok (.bipush 110, 2) := by decide +kernel
theorem d_53_48 : decode (js_b 53) 48 = .ok (.if_icmp .ne 10, 3) := by decide +kernel
theorem d_53_51 : decode (js_b 53) 51 = .ok (.aload_n 0, 1) := by decide +kernel
theorem d_53_52 : decode (js_b 53) 52 = .ok (.invokevirtual 63, 3) := by decide +kernel
theorem d_53_55 : decode (js_b 53) 55 = .ok (.goto 9, 3) := by decide +kernel
theorem d_53_58 : decode (js_b 53) 58 = .ok (.aload_n 0, 1) := by decide +kernel
theorem d_53_59 : decode (js_b 53) 59 = .ok (.iload 4, 2) := by decide +kernel
theorem d_53_61 : decode (js_b 53) 61 = .ok (.invokevirtual 36, 3) := by decide +kernel
theorem d_53_64 : decode (js_b 53) 64 = .ok (.istore 5, 2) := by decide +kernel
theorem d_53_66 : decode (js_b 53) 66 = .ok (.iload 5, 2) := by decide +kernel
theorem d_53_68 : decode (js_b 53) 68 = .ok (.iconst (-1), 1) := by decide +kernel
theorem d_53_69 : decode (js_b 53) 69 = .ok (.if_icmp .ne 5, 3) := by decide +kernel
theorem d_53_72 : decode (js_b 53) 72 = .ok (.iconst 0, 1) := by decide +kernel
theorem d_53_73 : decode (js_b 53) 73 = .ok (.ireturn, 1) := by decide +kernel
theorem d_53_74 : decode (js_b 53) 74 = .ok (.aload_n 1, 1) := by decide +kernel
theorem d_53_75 : decode (js_b 53) 75 = .ok (.getfield 66, 3) := by decide +kernel
theorem d_53_78 : decode (js_b 53) 78 = .ok (.iload_n 3, 1) := by decide +kernel
theorem d_53_79 : decode (js_b 53) 79 = .ok (.iload 5, 2) := by decide +kernel
theorem d_53_81 : decode (js_b 53) 81 = .ok (.iastore, 1) := by decide +kernel
theorem d_53_82 : decode (js_b 53) 82 = .ok (.iinc 3 1, 3) := by decide +kernel
theorem d_53_85 : decode (js_b 53) 85 = .ok (.goto (-67), 3) := by decide +kernel
theorem d_53_88 : decode (js_b 53) 88 = .ok (.iconst 1, 1) := by decide +kernel
theorem d_53_89 : decode (js_b 53) 89 = .ok (.ireturn, 1) := by decide +kernel
theorem ki_53_13 : js_Ok 53 13 (o_pA 1 0 21 16) := js_St.ok (st_pAnst js_c1 (by decide) rfl kn_201 (Or.inl ⟨_, rfl⟩) (js_c1.2.2.1 0 (by decide)) d_53_13)
theorem ki_53_12 : js_Ok 53 12 (o_al 2 13) := js_St.ok (st_aloadn rfl d_53_12)
theorem ki_53_11 : js_Ok 53 11 (o_al 1 12) := js_St.ok (st_aloadn rfl d_53_11)
theorem ki_53_10 : js_Ok 53 10 (o_rZ) := ok_rZ rfl d_53_10
theorem ki_53_9 : js_Ok 53 9 (o_ic 0 10) := js_St.ok (st_iconst rfl d_53_9)
theorem ki_53_6 : js_Ok 53 6 (o_nnl 11 9) := js_St.ok (st_ifnonnull (by decide) d_53_6)
theorem ki_53_5 : js_Ok 53 5 (o_al 2 6) := js_St.ok (st_aloadn rfl d_53_5)
theorem ki_53_4 : js_Ok 53 4 (o_as 2 5) := js_St.ok (st_astoren rfl (Nat.le_of_ble_eq_true rfl) d_53_4)
theorem ki_53_1 : js_Ok 53 1 (o_cN 54 1 7 4) := ok_cN (site_V kk_53_54 (by decide) kw_1401 kw_1403 ks_16 (fun t ht => by cases ht; exact Or.inl ⟨by decide, _, rfl, rfl⟩) d_53_1) rfl
theorem ki_53_0 : js_Ok 53 0 (o_al 0 1) := js_St.ok (st_aloadn rfl d_53_0)
theorem ki_53_31 : js_Ok 53 31 (o_cge 88 34) := js_St.ok (st_icge (by decide) d_53_31)
theorem ki_53_30 : js_Ok 53 30 (o_ic 5 31) := js_St.ok (st_iconst rfl d_53_30)
theorem ki_53_29 : js_Ok 53 29 (o_il 3 30) := js_St.ok (st_iloadn rfl d_53_29)
theorem ki_53_26 : js_Ok 53 26 (o_cge 88 29) := js_St.ok (st_icge (by decide) d_53_26)
theorem ki_53_23 : js_Ok 53 23 (o_cI 248 1 21 26) := ok_cI (site_V kk_53_248 (by decide) kw_1411 kw_1108 kw_1109 (fun t ht => by cases ht; exact Or.inr (Or.inl ⟨rfl, rfl⟩)) d_53_23) rfl
theorem ki_53_20 : js_Ok 53 20 (o_gA 21 2 23) := js_St.ok (st_gAcn (by decide) (by decide) kn_1496 d_53_20)
theorem ki_53_19 : js_Ok 53 19 (o_al 2 20) := js_St.ok (st_aloadn rfl d_53_19)
theorem ki_53_18 : js_Ok 53 18 (o_il 3 19) := js_St.ok (st_iloadn rfl d_53_18)
theorem ki_53_17 : js_Ok 53 17 (o_is 3 18) := js_St.ok (st_istoren rfl (Nat.le_of_ble_eq_true rfl) d_53_17)
theorem ki_53_16 : js_Ok 53 16 (o_ic 0 17) := js_St.ok (st_iconst rfl d_53_16)
theorem ki_53_46 : js_Ok 53 46 (o_ic 110 48) := js_St.ok (st_bipush rfl d_53_46)
theorem ki_53_44 : js_Ok 53 44 (o_il 4 46) := js_St.ok (st_iload d_53_44)
theorem ki_53_42 : js_Ok 53 42 (o_is 4 44) := js_St.ok (st_istore (Nat.le_of_ble_eq_true rfl) d_53_42)
theorem ki_53_39 : js_Ok 53 39 (o_cI 249 2 21 42) := ok_cI (site_V kk_53_249 (by decide) kw_1412 kw_1283 kw_1284 (fun t ht => by cases ht; exact Or.inr (Or.inl ⟨rfl, rfl⟩)) d_53_39) rfl
theorem ki_53_38 : js_Ok 53 38 (o_il 3 39) := js_St.ok (st_iloadn rfl d_53_38)
theorem ki_53_35 : js_Ok 53 35 (o_gA 21 2 38) := js_St.ok (st_gAcn (by decide) (by decide) kn_1496 d_53_35)
theorem ki_53_34 : js_Ok 53 34 (o_al 2 35) := js_St.ok (st_aloadn rfl d_53_34)
theorem ki_53_61 : js_Ok 53 61 (o_cI 57 2 7 64) := ok_cI (site_V kk_53_57 (by decide) kw_1418 kw_1420 ks_19 (fun t ht => by cases ht; exact Or.inl ⟨by decide, _, rfl, rfl⟩) d_53_61) rfl
theorem ki_53_59 : js_Ok 53 59 (o_il 4 61) := js_St.ok (st_iload d_53_59)
theorem ki_53_58 : js_Ok 53 58 (o_al 0 59) := js_St.ok (st_aloadn rfl d_53_58)
theorem ki_53_55 : js_Ok 53 55 (o_go 64) := js_St.ok (st_goto (by decide) d_53_55)
theorem ki_53_52 : js_Ok 53 52 (o_cI 56 1 7 55) := ok_cI (site_V kk_53_56 (by decide) kw_1414 kw_1416 ks_18 (fun t ht => by cases ht; exact Or.inl ⟨by decide, _, rfl, rfl⟩) d_53_52) rfl
theorem ki_53_51 : js_Ok 53 51 (o_al 0 52) := js_St.ok (st_aloadn rfl d_53_51)
theorem ki_53_48 : js_Ok 53 48 (o_cne 58 51) := js_St.ok (st_icne (by decide) d_53_48)
theorem ki_53_79 : js_Ok 53 79 (o_il 5 81) := js_St.ok (st_iload d_53_79)
theorem ki_53_78 : js_Ok 53 78 (o_il 3 79) := js_St.ok (st_iloadn rfl d_53_78)
theorem ki_53_75 : js_Ok 53 75 (o_gA 1 1 78) := js_St.ok (st_gAn js_c1 (by decide) (by decide) kn_204 d_53_75)
theorem ki_53_74 : js_Ok 53 74 (o_al 1 75) := js_St.ok (st_aloadn rfl d_53_74)
theorem ki_53_73 : js_Ok 53 73 (o_rZ) := ok_rZ rfl d_53_73
theorem ki_53_72 : js_Ok 53 72 (o_ic 0 73) := js_St.ok (st_iconst rfl d_53_72)
theorem ki_53_69 : js_Ok 53 69 (o_cne 74 72) := js_St.ok (st_icne (by decide) d_53_69)
theorem ki_53_68 : js_Ok 53 68 (o_ic (-1) 69) := js_St.ok (st_iconst rfl d_53_68)
theorem ki_53_66 : js_Ok 53 66 (o_il 5 68) := js_St.ok (st_iload d_53_66)
theorem ki_53_64 : js_Ok 53 64 (o_is 5 66) := js_St.ok (st_istore (Nat.le_of_ble_eq_true rfl) d_53_64)
theorem ki_53_89 : js_Ok 53 89 (o_rZ) := ok_rZ rfl d_53_89
theorem ki_53_88 : js_Ok 53 88 (o_ic 1 89) := js_St.ok (st_iconst rfl d_53_88)
theorem ki_53_85 : js_Ok 53 85 (o_go 18) := js_St.ok (st_goto (by decide) d_53_85)
theorem ki_53_82 : js_Ok 53 82 (o_inc 3 1 85) := js_St.ok (st_iinc rfl (Nat.le_of_ble_eq_true rfl) d_53_82)
theorem ki_53_81 : js_Ok 53 81 (o_sI 100 82) := js_St.ok (st_sI d_53_81)
theorem d_54_0 : decode (js_b 54) 0 = .ok (.iconst 0, 1) := by decide +kernel
theorem d_54_1 : decode (js_b 54) 1 = .ok (.istore_n 1, 1) := by decide +kernel
theorem d_54_2 : decode (js_b 54) 2 = .ok (.iconst 0, 1) := by decide +kernel
theorem d_54_3 : decode (js_b 54) 3 = .ok (.istore_n 2, 1) := by decide +kernel
theorem d_54_4 : decode (js_b 54) 4 = .ok (.iload_n 2, 1) := by decide +kernel
theorem d_54_5 : decode (js_b 54) 5 = .ok (.getstatic 70, 3) := by decide +kernel
theorem d_54_8 : decode (js_b 54) 8 = .ok (.arraylength, 1) := by decide +kernel
theorem d_54_9 : decode (js_b 54) 9 = .ok (.if_icmp .ge 58, 3) := by decide +kernel
theorem d_54_12 : decode (js_b 54) 12 = .ok (.getstatic 70, 3) := by decide +kernel
theorem d_54_15 : decode (js_b 54) 15 = .ok (.iload_n 2, 1) := by decide +kernel
theorem d_54_16 : decode (js_b 54) 16 = .ok (.aaload, 1) := by decide +kernel
theorem d_54_17 : decode (js_b 54) 17 = .ok (.getfield 74, 3) := by decide +kernel
theorem d_54_20 : decode (js_b 54) 20 = .ok (.astore_n 3, 1) := by decide +kernel
theorem d_54_21 : decode (js_b 54) 21 = .ok (.aload_n 0, 1) := by decide +kernel
theorem d_54_22 : decode (js_b 54) 22 = .ok (.aload_n 3, 1) := by decide +kernel
theorem d_54_23 : decode (js_b 54) 23 = .ok (.invokevirtual 77, 3) := by decide +kernel
theorem d_54_26 : decode (js_b 54) 26 = .ok (.istore 4, 2) := by decide +kernel
theorem d_54_28 : decode (js_b 54) 28 = .ok (.iload 4, 2) := by decide +kernel
theorem d_54_30 : decode (js_b 54) 30 = .ok (.aload_n 3, 1) := by decide +kernel
theorem d_54_31 : decode (js_b 54) 31 = .ok (.invokevirtual 54, 3) := by decide +kernel
theorem d_54_34 : decode (js_b 54) 34 = .ok (.if_icmp .ne 20, 3) := by decide +kernel
theorem d_54_37 : decode (js_b 54) 37 = .ok (.aload_n 0, 1) := by decide +kernel
theorem d_54_38 : decode (js_b 54) 38 = .ok (.dup, 1) := by decide +kernel
theorem d_54_39 : decode (js_b 54) 39 = .ok (.getfield 26, 3) := by decide +kernel
theorem d_54_42 : decode (js_b 54) 42 = .ok (.iload 4, 2) := by decide +kernel
theorem d_54_44 : decode (js_b 54) 44 = .ok (.iadd, 1) := by decide +kernel
theorem d_54_45 : decode (js_b 54) 45 = .ok (.putfield 26, 3) := by decide +kernel
theorem d_54_48 : decode (js_b 54) 48 = .ok (.getstatic 70, 3) := by decide +kernel
theorem d_54_51 : decode (js_b 54) 51 = .ok (.iload_n 2, 1) := by decide +kernel
theorem d_54_52 : decode (js_b 54) 52 = .ok (.aaload, 1) := by decide +kernel
theorem d_54_53 : decode (js_b 54) 53 = .ok (.areturn, 1) := by decide +kernel
theorem d_54_54 : decode (js_b 54) 54 = .ok (.iload_n 1, 1) := by decide +kernel
theorem d_54_55 : decode (js_b 54) 55 = .ok (.iload 4, 2) := by decide +kernel
theorem d_54_57 : decode (js_b 54) 57 = .ok (.invokestatic 81, 3) := by decide +kernel
theorem d_54_60 : decode (js_b 54) 60 = .ok (.istore_n 1, 1) := by decide +kernel
theorem d_54_61 : decode (js_b 54) 61 = .ok (.iinc 2 1, 3) := by decide +kernel
theorem d_54_64 : decode (js_b 54) 64 = .ok (.goto (-60), 3) := by decide +kernel
theorem d_54_67 : decode (js_b 54) 67 = .ok (.aload_n 0, 1) := by decide +kernel
theorem d_54_68 : decode (js_b 54) 68 = .ok (.dup, 1) := by decide +kernel
theorem d_54_69 : decode (js_b 54) 69 = .ok (.getfield 26, 3) := by decide +kernel
theorem d_54_72 : decode (js_b 54) 72 = .ok (.iload_n 1, 1) := by decide +kernel
theorem d_54_73 : decode (js_b 54) 73 = .ok (.iadd, 1) := by decide +kernel
theorem d_54_74 : decode (js_b 54) 74 = .ok (.putfield 26, 3) := by decide +kernel
theorem d_54_77 : decode (js_b 54) 77 = .ok (.aconst_null, 1) := by decide +kernel
theorem d_54_78 : decode (js_b 54) 78 = .ok (.areturn, 1) := by decide +kernel
theorem ki_54_15 : js_Ok 54 15 (o_il 2 16) := js_St.ok (st_iloadn rfl d_54_15)
theorem ki_54_12 : js_Ok 54 12 (o_rc 3 15) := js_St.ok (st_gsRn (by decide +kernel) kn_1405 d_54_12)
theorem ki_54_9 : js_Ok 54 9 (o_cge 67 12) := js_St.ok (st_icge (by decide) d_54_9)
theorem ki_54_8 : js_Ok 54 8 (o_len 9) := js_St.ok (st_len d_54_8)
theorem ki_54_5 : js_Ok 54 5 (o_rc 3 8) := js_St.ok (st_gsRn (by decide +kernel) kn_1405 d_54_5)
theorem ki_54_4 : js_Ok 54 4 (o_il 2 5) := js_St.ok (st_iloadn rfl d_54_4)
theorem ki_54_3 : js_Ok 54 3 (o_is 2 4) := js_St.ok (st_istoren rfl (Nat.le_of_ble_eq_true rfl) d_54_3)
theorem ki_54_2 : js_Ok 54 2 (o_ic 0 3) := js_St.ok (st_iconst rfl d_54_2)
theorem ki_54_1 : js_Ok 54 1 (o_is 1 2) := js_St.ok (st_istoren rfl (Nat.le_of_ble_eq_true rfl) d_54_1)
theorem ki_54_0 : js_Ok 54 0 (o_ic 0 1) := js_St.ok (st_iconst rfl d_54_0)
theorem ki_54_31 : js_Ok 54 31 (o_cI 248 1 21 34) := ok_cI (site_V kk_54_248 (by decide) kw_1411 kw_1108 kw_1109 (fun t ht => by cases ht; exact Or.inr (Or.inl ⟨rfl, rfl⟩)) d_54_31) rfl
theorem ki_54_30 : js_Ok 54 30 (o_al 3 31) := js_St.ok (st_aloadn rfl d_54_30)
theorem ki_54_28 : js_Ok 54 28 (o_il 4 30) := js_St.ok (st_iload d_54_28)
theorem ki_54_26 : js_Ok 54 26 (o_is 4 28) := js_St.ok (st_istore (Nat.le_of_ble_eq_true rfl) d_54_26)
theorem ki_54_23 : js_Ok 54 23 (o_cI 55 2 7 26) := ok_cI (site_V kk_54_55 (by decide) kw_1407 kw_1409 ks_17 (fun t ht => by cases ht; exact Or.inl ⟨by decide, _, rfl, rfl⟩) d_54_23) rfl
theorem ki_54_22 : js_Ok 54 22 (o_al 3 23) := js_St.ok (st_aloadn rfl d_54_22)
theorem ki_54_21 : js_Ok 54 21 (o_al 0 22) := js_St.ok (st_aloadn rfl d_54_21)
theorem ki_54_20 : js_Ok 54 20 (o_as 3 21) := js_St.ok (st_astoren rfl (Nat.le_of_ble_eq_true rfl) d_54_20)
theorem ki_54_17 : js_Ok 54 17 (o_gA 21 1 20) := js_St.ok (st_gAcn (by decide) (by decide) kn_1495 d_54_17)
theorem ki_54_16 : js_Ok 54 16 (o_lA 113 17) := js_St.ok (st_lA (by decide) rfl d_54_16)
theorem ki_54_45 : js_Ok 54 45 (o_pI 6 2 48) := js_St.ok (st_pIown js_c6 (by decide) rfl kw_213 (js_c6.2.2.1 2 (by decide)) d_54_45)
theorem ki_54_44 : js_Ok 54 44 (o_b2 (fun x y => x + y) 45) := js_St.ok (st_iadd d_54_44)
theorem ki_54_42 : js_Ok 54 42 (o_il 4 44) := js_St.ok (st_iload d_54_42)
theorem ki_54_39 : js_Ok 54 39 (o_gI 6 2 42) := js_St.ok (st_gI js_c6 (by decide) (by decide) kw_213 d_54_39)
theorem ki_54_38 : js_Ok 54 38 (o_dup 39) := js_St.ok (st_dup d_54_38)
theorem ki_54_37 : js_Ok 54 37 (o_al 0 38) := js_St.ok (st_aloadn rfl d_54_37)
theorem ki_54_34 : js_Ok 54 34 (o_cne 54 37) := js_St.ok (st_icne (by decide) d_54_34)
theorem ki_54_61 : js_Ok 54 61 (o_inc 2 1 64) := js_St.ok (st_iinc rfl (Nat.le_of_ble_eq_true rfl) d_54_61)
theorem ki_54_60 : js_Ok 54 60 (o_is 1 61) := js_St.ok (st_istoren rfl (Nat.le_of_ble_eq_true rfl) d_54_60)
theorem ki_54_57 : js_Ok 54 57 (o_cI 246 2 0 60) := ok_cI (site_S kk_54_246 kw_1413 kw_568 d_54_57) rfl
theorem ki_54_55 : js_Ok 54 55 (o_il 4 57) := js_St.ok (st_iload d_54_55)
theorem ki_54_54 : js_Ok 54 54 (o_il 1 55) := js_St.ok (st_iloadn rfl d_54_54)
theorem ki_54_53 : js_Ok 54 53 (o_rA) := ok_rA (Or.inl ⟨_, rfl⟩) rfl d_54_53
theorem ki_54_52 : js_Ok 54 52 (o_lA 113 53) := js_St.ok (st_lA (by decide) rfl d_54_52)
theorem ki_54_51 : js_Ok 54 51 (o_il 2 52) := js_St.ok (st_iloadn rfl d_54_51)
theorem ki_54_48 : js_Ok 54 48 (o_rc 3 51) := js_St.ok (st_gsRn (by decide +kernel) kn_1405 d_54_48)
theorem ki_54_78 : js_Ok 54 78 (o_rA) := ok_rA (Or.inl ⟨_, rfl⟩) rfl d_54_78
theorem ki_54_77 : js_Ok 54 77 (o_nc 78) := js_St.ok (st_null d_54_77)
theorem ki_54_74 : js_Ok 54 74 (o_pI 6 2 77) := js_St.ok (st_pIown js_c6 (by decide) rfl kw_213 (js_c6.2.2.1 2 (by decide)) d_54_74)
theorem ki_54_73 : js_Ok 54 73 (o_b2 (fun x y => x + y) 74) := js_St.ok (st_iadd d_54_73)
theorem ki_54_72 : js_Ok 54 72 (o_il 1 73) := js_St.ok (st_iloadn rfl d_54_72)
theorem ki_54_69 : js_Ok 54 69 (o_gI 6 2 72) := js_St.ok (st_gI js_c6 (by decide) (by decide) kw_213 d_54_69)
theorem ki_54_68 : js_Ok 54 68 (o_dup 69) := js_St.ok (st_dup d_54_68)
theorem ki_54_67 : js_Ok 54 67 (o_al 0 68) := js_St.ok (st_aloadn rfl d_54_67)
theorem ki_54_64 : js_Ok 54 64 (o_go 4) := js_St.ok (st_goto (by decide) d_54_64)
set_option maxRecDepth 20000 in
theorem mk_0 : js_mok 0 := ⟨by decide +kernel, jk_tab (fun _ => js_St.ok st_bad) (show jk_all (js_Ok 0) 0 tb_0 from ⟨⟨ki_0_0, ⟨ki_0_1, ⟨kbad, ⟨kbad, ⟨ki_0_4, ⟨ki_0_5, ⟨kbad, ⟨ki_0_7, ⟨kbad, ⟨kbad, ⟨ki_0_10, ⟨kbad, ⟨kbad, ⟨ki_0_13, ⟨ki_0_14, ⟨kbad, trivial⟩⟩⟩⟩⟩⟩⟩⟩⟩⟩⟩⟩⟩⟩⟩⟩, ⟨⟨ki_0_16, ⟨kbad, ⟨kbad, ⟨ki_0_19, ⟨kbad, ⟨kbad, ⟨ki_0_22, ⟨ki_0_23, ⟨ki_0_24, ⟨ki_0_25, ⟨kbad, ⟨ki_0_27, ⟨kbad, ⟨kbad, ⟨ki_0_30, ⟨ki_0_31, trivial⟩⟩⟩⟩⟩⟩⟩⟩⟩⟩⟩⟩⟩⟩⟩⟩, ⟨⟨kbad, ⟨kbad, ⟨ki_0_34, ⟨ki_0_35, ⟨kbad, ⟨kbad, ⟨ki_0_38, ⟨ki_0_39, ⟨kbad, ⟨kbad, ⟨ki_0_42, ⟨ki_0_43, ⟨kbad, ⟨kbad, ⟨ki_0_46, ⟨kbad, trivial⟩⟩⟩⟩⟩⟩⟩⟩⟩⟩⟩⟩⟩⟩⟩⟩, ⟨⟨kbad, ⟨ki_0_49, trivial⟩⟩, trivial⟩⟩⟩⟩)⟩
set_option maxRecDepth 20000 in
theorem mk_1 : js_mok 1 := ⟨by decide +kernel, jk_tab (fun _ => js_St.ok st_bad) (show jk_all (js_Ok 1) 0 tb_1 from ⟨⟨ki_1_0, ⟨ki_1_1, ⟨ki_1_2, ⟨kbad, ⟨kbad, ⟨ki_1_5, ⟨kbad, ⟨kbad, ⟨ki_1_8, ⟨ki_1_9, ⟨ki_1_10, ⟨kbad, ⟨kbad, ⟨ki_1_13, ⟨kbad, ⟨kbad, trivial⟩⟩⟩⟩⟩⟩⟩⟩⟩⟩⟩⟩⟩⟩⟩⟩, ⟨⟨ki_1_16, ⟨ki_1_17, ⟨ki_1_18, ⟨ki_1_19, ⟨kbad, ⟨ki_1_21, ⟨kbad, ⟨kbad, ⟨ki_1_24, ⟨ki_1_25, ⟨kbad, ⟨kbad, ⟨ki_1_28, ⟨ki_1_29, ⟨ki_1_30, ⟨ki_1_31, trivial⟩⟩⟩⟩⟩⟩⟩⟩⟩⟩⟩⟩⟩⟩⟩⟩, ⟨⟨kbad, ⟨kbad, ⟨ki_1_34, ⟨kbad, ⟨kbad, ⟨ki_1_37, ⟨ki_1_38, ⟨ki_1_39, ⟨ki_1_40, ⟨ki_1_41, ⟨kbad, ⟨kbad, ⟨ki_1_44, ⟨kbad, ⟨kbad, ⟨ki_1_47, trivial⟩⟩⟩⟩⟩⟩⟩⟩⟩⟩⟩⟩⟩⟩⟩⟩, ⟨⟨ki_1_48, ⟨kbad, ⟨kbad, ⟨ki_1_51, ⟨ki_1_52, ⟨ki_1_53, ⟨ki_1_54, ⟨ki_1_55, ⟨ki_1_56, ⟨kbad, ⟨kbad, ⟨ki_1_59, ⟨ki_1_60, ⟨ki_1_61, ⟨kbad, ⟨kbad, trivial⟩⟩⟩⟩⟩⟩⟩⟩⟩⟩⟩⟩⟩⟩⟩⟩, ⟨⟨ki_1_64, ⟨ki_1_65, ⟨kbad, ⟨kbad, ⟨ki_1_68, ⟨kbad, ⟨kbad, ⟨ki_1_71, ⟨ki_1_72, ⟨kbad, ⟨kbad, ⟨ki_1_75, ⟨ki_1_76, ⟨kbad, ⟨kbad, ⟨ki_1_79, trivial⟩⟩⟩⟩⟩⟩⟩⟩⟩⟩⟩⟩⟩⟩⟩⟩, ⟨⟨ki_1_80, ⟨ki_1_81, ⟨kbad, ⟨kbad, ⟨ki_1_84, ⟨kbad, ⟨kbad, ⟨ki_1_87, trivial⟩⟩⟩⟩⟩⟩⟩⟩, trivial⟩⟩⟩⟩⟩⟩)⟩
set_option maxRecDepth 20000 in
theorem mk_2 : js_mok 2 := ⟨by decide +kernel, jk_tab (fun _ => js_St.ok st_bad) (show jk_all (js_Ok 2) 0 tb_2 from ⟨⟨ki_2_0, ⟨ki_2_1, ⟨ki_2_2, ⟨ki_2_3, ⟨ki_2_4, ⟨kbad, ⟨kbad, ⟨ki_2_7, ⟨kbad, ⟨kbad, ⟨ki_2_10, ⟨ki_2_11, ⟨kbad, ⟨kbad, ⟨ki_2_14, ⟨ki_2_15, trivial⟩⟩⟩⟩⟩⟩⟩⟩⟩⟩⟩⟩⟩⟩⟩⟩, ⟨⟨ki_2_16, ⟨kbad, ⟨kbad, ⟨ki_2_19, ⟨ki_2_20, ⟨kbad, ⟨kbad, ⟨ki_2_23, ⟨ki_2_24, ⟨ki_2_25, ⟨kbad, ⟨kbad, ⟨ki_2_28, ⟨kbad, ⟨kbad, ⟨ki_2_31, trivial⟩⟩⟩⟩⟩⟩⟩⟩⟩⟩⟩⟩⟩⟩⟩⟩, ⟨⟨ki_2_32, trivial⟩, trivial⟩⟩⟩)⟩
set_option maxRecDepth 20000 in
theorem mk_3 : js_mok 3 := ⟨by decide +kernel, jk_tab (fun _ => js_St.ok st_bad) (show jk_all (js_Ok 3) 0 tb_3 from ⟨⟨ki_3_0, ⟨ki_3_1, ⟨ki_3_2, ⟨kbad, ⟨kbad, ⟨ki_3_5, ⟨ki_3_6, ⟨ki_3_7, ⟨ki_3_8, ⟨kbad, ⟨kbad, ⟨ki_3_11, ⟨ki_3_12, ⟨kbad, ⟨kbad, ⟨ki_3_15, trivial⟩⟩⟩⟩⟩⟩⟩⟩⟩⟩⟩⟩⟩⟩⟩⟩, ⟨⟨ki_3_16, ⟨kbad, ⟨kbad, ⟨ki_3_19, ⟨ki_3_20, ⟨ki_3_21, trivial⟩⟩⟩⟩⟩⟩, trivial⟩⟩)⟩
set_option maxRecDepth 20000 in
theorem mk_4 : js_mok 4 := ⟨by decide +kernel, jk_tab (fun _ => js_St.ok st_bad) (show jk_all (js_Ok 4) 0 tb_4 from ⟨⟨ki_4_0, ⟨ki_4_1, ⟨ki_4_2, ⟨ki_4_3, ⟨ki_4_4, ⟨ki_4_5, ⟨ki_4_6, ⟨kbad, ⟨kbad, ⟨ki_4_9, ⟨kbad, ⟨kbad, ⟨ki_4_12, ⟨ki_4_13, ⟨kbad, ⟨kbad, trivial⟩⟩⟩⟩⟩⟩⟩⟩⟩⟩⟩⟩⟩⟩⟩⟩, ⟨⟨ki_4_16, ⟨ki_4_17, ⟨ki_4_18, ⟨kbad, ⟨kbad, ⟨ki_4_21, ⟨kbad, ⟨kbad, ⟨ki_4_24, ⟨kbad, ⟨kbad, ⟨ki_4_27, ⟨kbad, ⟨kbad, ⟨ki_4_30, ⟨kbad, trivial⟩⟩⟩⟩⟩⟩⟩⟩⟩⟩⟩⟩⟩⟩⟩⟩, ⟨⟨kbad, ⟨ki_4_33, ⟨ki_4_34, trivial⟩⟩⟩, trivial⟩⟩⟩)⟩
set_option maxRecDepth 20000 in
theorem mk_5 : js_mok 5 := ⟨by decide +kernel, jk_tab (fun _ => js_St.ok st_bad) (show jk_all (js_Ok 5) 0 tb_5 from ⟨⟨ki_5_0, ⟨ki_5_1, ⟨ki_5_2, ⟨ki_5_3, ⟨ki_5_4, ⟨ki_5_5, ⟨ki_5_6, ⟨kbad, ⟨kbad, ⟨ki_5_9, ⟨kbad, ⟨kbad, ⟨ki_5_12, ⟨ki_5_13, ⟨kbad, ⟨kbad, trivial⟩⟩⟩⟩⟩⟩⟩⟩⟩⟩⟩⟩⟩⟩⟩⟩, ⟨⟨ki_5_16, ⟨ki_5_17, ⟨ki_5_18, ⟨kbad, ⟨kbad, ⟨ki_5_21, ⟨kbad, ⟨kbad, ⟨ki_5_24, ⟨kbad, ⟨kbad, ⟨ki_5_27, ⟨ki_5_28, ⟨ki_5_29, ⟨kbad, ⟨kbad, trivial⟩⟩⟩⟩⟩⟩⟩⟩⟩⟩⟩⟩⟩⟩⟩⟩, ⟨⟨ki_5_32, ⟨ki_5_33, ⟨kbad, ⟨kbad, ⟨ki_5_36, ⟨ki_5_37, ⟨ki_5_38, ⟨ki_5_39, ⟨kbad, ⟨kbad, ⟨ki_5_42, ⟨kbad, ⟨kbad, ⟨ki_5_45, ⟨kbad, ⟨kbad, trivial⟩⟩⟩⟩⟩⟩⟩⟩⟩⟩⟩⟩⟩⟩⟩⟩, ⟨⟨ki_5_48, ⟨ki_5_49, trivial⟩⟩, trivial⟩⟩⟩⟩)⟩
set_option maxRecDepth 20000 in
theorem mk_6 : js_mok 6 := ⟨by decide +kernel, jk_tab (fun _ => js_St.ok st_bad) (show jk_all (js_Ok 6) 0 tb_6 from ⟨⟨ki_6_0, ⟨ki_6_1, ⟨kbad, ⟨kbad, ⟨ki_6_4, ⟨kbad, ⟨kbad, ⟨ki_6_7, ⟨ki_6_8, ⟨kbad, ⟨ki_6_10, ⟨kbad, ⟨kbad, ⟨ki_6_13, ⟨kbad, ⟨kbad, trivial⟩⟩⟩⟩⟩⟩⟩⟩⟩⟩⟩⟩⟩⟩⟩⟩, ⟨⟨ki_6_16, ⟨ki_6_17, ⟨kbad, ⟨ki_6_19, ⟨kbad, ⟨kbad, ⟨ki_6_22, ⟨kbad, ⟨kbad, ⟨ki_6_25, ⟨kbad, ⟨ki_6_27, ⟨kbad, ⟨ki_6_29, ⟨kbad, ⟨kbad, trivial⟩⟩⟩⟩⟩⟩⟩⟩⟩⟩⟩⟩⟩⟩⟩⟩, ⟨⟨ki_6_32, ⟨kbad, ⟨kbad, ⟨ki_6_35, ⟨kbad, ⟨ki_6_37, ⟨kbad, ⟨ki_6_39, ⟨kbad, ⟨kbad, ⟨ki_6_42, ⟨kbad, ⟨kbad, ⟨ki_6_45, ⟨kbad, ⟨ki_6_47, trivial⟩⟩⟩⟩⟩⟩⟩⟩⟩⟩⟩⟩⟩⟩⟩⟩, ⟨⟨ki_6_48, ⟨ki_6_49, ⟨kbad, ⟨kbad, ⟨ki_6_52, ⟨kbad, ⟨ki_6_54, ⟨kbad, ⟨kbad, ⟨ki_6_57, ⟨kbad, ⟨ki_6_59, ⟨ki_6_60, ⟨ki_6_61, ⟨kbad, ⟨kbad, trivial⟩⟩⟩⟩⟩⟩⟩⟩⟩⟩⟩⟩⟩⟩⟩⟩, ⟨⟨ki_6_64, ⟨ki_6_65, ⟨kbad, ⟨kbad, ⟨ki_6_68, ⟨ki_6_69, ⟨kbad, ⟨ki_6_71, ⟨kbad, ⟨ki_6_73, ⟨ki_6_74, ⟨kbad, ⟨kbad, ⟨ki_6_77, ⟨kbad, ⟨kbad, trivial⟩⟩⟩⟩⟩⟩⟩⟩⟩⟩⟩⟩⟩⟩⟩⟩, ⟨⟨ki_6_80, ⟨kbad, ⟨ki_6_82, ⟨ki_6_83, ⟨kbad, ⟨kbad, ⟨ki_6_86, ⟨kbad, ⟨ki_6_88, ⟨kbad, ⟨kbad, ⟨ki_6_91, ⟨ki_6_92, ⟨ki_6_93, ⟨ki_6_94, ⟨kbad, trivial⟩⟩⟩⟩⟩⟩⟩⟩⟩⟩⟩⟩⟩⟩⟩⟩, ⟨⟨ki_6_96, ⟨kbad, ⟨kbad, ⟨ki_6_99, ⟨ki_6_100, ⟨ki_6_101, ⟨ki_6_102, ⟨kbad, ⟨ki_6_104, ⟨kbad, ⟨kbad, ⟨ki_6_107, ⟨ki_6_108, ⟨kbad, ⟨ki_6_110, ⟨ki_6_111, trivial⟩⟩⟩⟩⟩⟩⟩⟩⟩⟩⟩⟩⟩⟩⟩⟩, ⟨⟨kbad, ⟨ki_6_113, ⟨kbad, ⟨kbad, ⟨ki_6_116, ⟨ki_6_117, ⟨kbad, ⟨ki_6_119, ⟨ki_6_120, ⟨kbad, ⟨ki_6_122, ⟨ki_6_123, ⟨kbad, ⟨kbad, ⟨ki_6_126, ⟨kbad, trivial⟩⟩⟩⟩⟩⟩⟩⟩⟩⟩⟩⟩⟩⟩⟩⟩, ⟨⟨ki_6_128, ⟨ki_6_129, ⟨kbad, ⟨kbad, ⟨ki_6_132, ⟨ki_6_133, ⟨ki_6_134, ⟨kbad, ⟨kbad, ⟨ki_6_137, ⟨ki_6_138, ⟨ki_6_139, ⟨kbad, ⟨kbad, ⟨ki_6_142, ⟨ki_6_143, trivial⟩⟩⟩⟩⟩⟩⟩⟩⟩⟩⟩⟩⟩⟩⟩⟩, ⟨⟨ki_6_144, ⟨kbad, ⟨kbad, ⟨ki_6_147, ⟨ki_6_148, ⟨ki_6_149, ⟨kbad, ⟨kbad, ⟨ki_6_152, ⟨kbad, ⟨ki_6_154, ⟨kbad, ⟨kbad, ⟨ki_6_157, trivial⟩⟩⟩⟩⟩⟩⟩⟩⟩⟩⟩⟩⟩⟩, trivial⟩⟩⟩⟩⟩⟩⟩⟩⟩⟩)⟩
set_option maxRecDepth 20000 in
theorem mk_7 : js_mok 7 := ⟨by decide +kernel, jk_tab (fun _ => js_St.ok st_bad) (show jk_all (js_Ok 7) 0 tb_7 from ⟨⟨ki_7_0, ⟨ki_7_1, ⟨ki_7_2, ⟨kbad, ⟨kbad, ⟨ki_7_5, ⟨ki_7_6, ⟨ki_7_7, ⟨ki_7_8, ⟨kbad, ⟨kbad, ⟨ki_7_11, ⟨ki_7_12, ⟨ki_7_13, ⟨ki_7_14, ⟨kbad, trivial⟩⟩⟩⟩⟩⟩⟩⟩⟩⟩⟩⟩⟩⟩⟩⟩, ⟨⟨kbad, ⟨ki_7_17, ⟨ki_7_18, ⟨ki_7_19, ⟨ki_7_20, ⟨ki_7_21, ⟨kbad, ⟨kbad, ⟨ki_7_24, ⟨kbad, ⟨kbad, ⟨ki_7_27, ⟨kbad, ⟨ki_7_29, ⟨ki_7_30, ⟨ki_7_31, trivial⟩⟩⟩⟩⟩⟩⟩⟩⟩⟩⟩⟩⟩⟩⟩⟩, ⟨⟨ki_7_32, ⟨kbad, ⟨kbad, ⟨ki_7_35, ⟨ki_7_36, ⟨ki_7_37, ⟨kbad, ⟨kbad, ⟨ki_7_40, ⟨ki_7_41, ⟨kbad, ⟨ki_7_43, ⟨kbad, ⟨ki_7_45, ⟨ki_7_46, ⟨kbad, trivial⟩⟩⟩⟩⟩⟩⟩⟩⟩⟩⟩⟩⟩⟩⟩⟩, ⟨⟨kbad, ⟨ki_7_49, ⟨kbad, ⟨kbad, ⟨ki_7_52, ⟨ki_7_53, ⟨kbad, ⟨kbad, ⟨ki_7_56, ⟨kbad, ⟨ki_7_58, ⟨ki_7_59, ⟨kbad, ⟨kbad, ⟨ki_7_62, ⟨kbad, trivial⟩⟩⟩⟩⟩⟩⟩⟩⟩⟩⟩⟩⟩⟩⟩⟩, ⟨⟨ki_7_64, ⟨ki_7_65, ⟨ki_7_66, ⟨ki_7_67, ⟨ki_7_68, ⟨kbad, ⟨kbad, ⟨ki_7_71, ⟨kbad, ⟨kbad, ⟨ki_7_74, ⟨ki_7_75, ⟨kbad, ⟨kbad, ⟨ki_7_78, ⟨ki_7_79, trivial⟩⟩⟩⟩⟩⟩⟩⟩⟩⟩⟩⟩⟩⟩⟩⟩, ⟨⟨kbad, ⟨kbad, ⟨ki_7_82, ⟨ki_7_83, ⟨ki_7_84, ⟨ki_7_85, ⟨kbad, ⟨kbad, ⟨ki_7_88, trivial⟩⟩⟩⟩⟩⟩⟩⟩⟩, trivial⟩⟩⟩⟩⟩⟩)⟩
set_option maxRecDepth 20000 in
theorem mk_8 : js_mok 8 := ⟨by decide +kernel, jk_tab (fun _ => js_St.ok st_bad) (show jk_all (js_Ok 8) 0 tb_8 from ⟨⟨ki_8_0, ⟨ki_8_1, ⟨ki_8_2, ⟨kbad, ⟨kbad, ⟨ki_8_5, ⟨kbad, ⟨ki_8_7, ⟨kbad, ⟨ki_8_9, ⟨kbad, ⟨kbad, ⟨ki_8_12, ⟨ki_8_13, ⟨ki_8_14, ⟨ki_8_15, trivial⟩⟩⟩⟩⟩⟩⟩⟩⟩⟩⟩⟩⟩⟩⟩⟩, ⟨⟨kbad, ⟨ki_8_17, ⟨kbad, ⟨kbad, ⟨ki_8_20, ⟨kbad, ⟨kbad, ⟨ki_8_23, ⟨ki_8_24, ⟨kbad, ⟨ki_8_26, ⟨kbad, ⟨kbad, ⟨ki_8_29, ⟨kbad, ⟨kbad, trivial⟩⟩⟩⟩⟩⟩⟩⟩⟩⟩⟩⟩⟩⟩⟩⟩, ⟨⟨ki_8_32, ⟨kbad, ⟨ki_8_34, ⟨ki_8_35, ⟨kbad, ⟨ki_8_37, ⟨ki_8_38, ⟨ki_8_39, ⟨ki_8_40, ⟨ki_8_41, ⟨kbad, ⟨ki_8_43, ⟨kbad, ⟨ki_8_45, ⟨kbad, ⟨kbad, trivial⟩⟩⟩⟩⟩⟩⟩⟩⟩⟩⟩⟩⟩⟩⟩⟩, ⟨⟨ki_8_48, ⟨kbad, ⟨kbad, ⟨ki_8_51, ⟨ki_8_52, ⟨kbad, ⟨kbad, ⟨ki_8_55, ⟨kbad, ⟨ki_8_57, ⟨ki_8_58, ⟨kbad, ⟨kbad, ⟨ki_8_61, ⟨kbad, ⟨ki_8_63, trivial⟩⟩⟩⟩⟩⟩⟩⟩⟩⟩⟩⟩⟩⟩⟩⟩, ⟨⟨ki_8_64, ⟨ki_8_65, ⟨kbad, ⟨ki_8_67, ⟨kbad, ⟨ki_8_69, ⟨kbad, ⟨kbad, ⟨ki_8_72, ⟨ki_8_73, ⟨kbad, ⟨ki_8_75, ⟨ki_8_76, ⟨kbad, ⟨kbad, ⟨ki_8_79, trivial⟩⟩⟩⟩⟩⟩⟩⟩⟩⟩⟩⟩⟩⟩⟩⟩, trivial⟩⟩⟩⟩⟩)⟩
set_option maxRecDepth 20000 in
theorem mk_9 : js_mok 9 := ⟨by decide +kernel, jk_tab (fun _ => js_St.ok st_bad) (show jk_all (js_Ok 9) 0 tb_9 from ⟨⟨ki_9_0, ⟨ki_9_1, ⟨ki_9_2, ⟨kbad, ⟨kbad, ⟨ki_9_5, ⟨ki_9_6, ⟨kbad, ⟨kbad, ⟨ki_9_9, ⟨ki_9_10, ⟨ki_9_11, ⟨ki_9_12, trivial⟩⟩⟩⟩⟩⟩⟩⟩⟩⟩⟩⟩⟩, trivial⟩)⟩
set_option maxRecDepth 20000 in
theorem mk_10 : js_mok 10 := ⟨by decide +kernel, jk_tab (fun _ => js_St.ok st_bad) (show jk_all (js_Ok 10) 0 tb_10 from ⟨⟨ki_10_0, ⟨ki_10_1, ⟨ki_10_2, ⟨kbad, ⟨kbad, ⟨ki_10_5, ⟨ki_10_6, ⟨ki_10_7, ⟨kbad, ⟨kbad, ⟨ki_10_10, ⟨ki_10_11, ⟨ki_10_12, ⟨ki_10_13, ⟨kbad, ⟨kbad, trivial⟩⟩⟩⟩⟩⟩⟩⟩⟩⟩⟩⟩⟩⟩⟩⟩, ⟨⟨ki_10_16, ⟨kbad, ⟨kbad, ⟨ki_10_19, ⟨kbad, ⟨ki_10_21, ⟨ki_10_22, ⟨ki_10_23, ⟨ki_10_24, ⟨ki_10_25, ⟨kbad, ⟨kbad, ⟨ki_10_28, ⟨ki_10_29, ⟨ki_10_30, ⟨kbad, trivial⟩⟩⟩⟩⟩⟩⟩⟩⟩⟩⟩⟩⟩⟩⟩⟩, ⟨⟨kbad, ⟨ki_10_33, ⟨ki_10_34, ⟨kbad, ⟨kbad, ⟨ki_10_37, ⟨ki_10_38, ⟨ki_10_39, ⟨ki_10_40, ⟨ki_10_41, ⟨kbad, ⟨kbad, ⟨ki_10_44, ⟨ki_10_45, trivial⟩⟩⟩⟩⟩⟩⟩⟩⟩⟩⟩⟩⟩⟩, trivial⟩⟩⟩)⟩
set_option maxRecDepth 20000 in
theorem mk_11 : js_mok 11 := ⟨by decide +kernel, jk_tab (fun _ => js_St.ok st_bad) (show jk_all (js_Ok 11) 0 tb_11 from ⟨⟨ki_11_0, ⟨ki_11_1, ⟨ki_11_2, ⟨kbad, ⟨kbad, ⟨ki_11_5, ⟨ki_11_6, ⟨ki_11_7, ⟨kbad, ⟨kbad, ⟨ki_11_10, ⟨ki_11_11, ⟨ki_11_12, ⟨ki_11_13, ⟨ki_11_14, ⟨kbad, trivial⟩⟩⟩⟩⟩⟩⟩⟩⟩⟩⟩⟩⟩⟩⟩⟩, ⟨⟨kbad, ⟨ki_11_17, ⟨kbad, ⟨kbad, ⟨ki_11_20, ⟨kbad, ⟨ki_11_22, ⟨ki_11_23, ⟨ki_11_24, ⟨kbad, ⟨kbad, ⟨ki_11_27, ⟨kbad, ⟨ki_11_29, ⟨ki_11_30, ⟨ki_11_31, trivial⟩⟩⟩⟩⟩⟩⟩⟩⟩⟩⟩⟩⟩⟩⟩⟩, ⟨⟨kbad, ⟨kbad, ⟨ki_11_34, ⟨kbad, ⟨ki_11_36, trivial⟩⟩⟩⟩⟩, trivial⟩⟩⟩)⟩
set_option maxRecDepth 20000 in
theorem mk_12 : js_mok 12 := ⟨by decide +kernel, jk_tab (fun _ => js_St.ok st_bad) (show jk_all (js_Ok 12) 0 tb_12 from ⟨⟨ki_12_0, ⟨ki_12_1, ⟨ki_12_2, ⟨kbad, ⟨kbad, ⟨ki_12_5, ⟨ki_12_6, ⟨ki_12_7, ⟨ki_12_8, ⟨kbad, ⟨kbad, ⟨ki_12_11, ⟨kbad, ⟨ki_12_13, ⟨ki_12_14, ⟨kbad, trivial⟩⟩⟩⟩⟩⟩⟩⟩⟩⟩⟩⟩⟩⟩⟩⟩, ⟨⟨kbad, ⟨ki_12_17, ⟨kbad, ⟨ki_12_19, ⟨kbad, ⟨kbad, ⟨ki_12_22, ⟨ki_12_23, ⟨ki_12_24, ⟨ki_12_25, ⟨kbad, ⟨ki_12_27, ⟨kbad, ⟨kbad, ⟨ki_12_30, ⟨kbad, trivial⟩⟩⟩⟩⟩⟩⟩⟩⟩⟩⟩⟩⟩⟩⟩⟩, ⟨⟨ki_12_32, ⟨ki_12_33, ⟨ki_12_34, ⟨kbad, ⟨kbad, ⟨ki_12_37, ⟨kbad, ⟨kbad, ⟨ki_12_40, ⟨kbad, ⟨ki_12_42, ⟨kbad, ⟨kbad, ⟨ki_12_45, ⟨kbad, ⟨kbad, trivial⟩⟩⟩⟩⟩⟩⟩⟩⟩⟩⟩⟩⟩⟩⟩⟩, ⟨⟨ki_12_48, ⟨kbad, ⟨ki_12_50, ⟨ki_12_51, ⟨ki_12_52, ⟨kbad, ⟨kbad, ⟨ki_12_55, ⟨kbad, ⟨ki_12_57, ⟨ki_12_58, ⟨ki_12_59, ⟨kbad, ⟨ki_12_61, ⟨kbad, ⟨kbad, trivial⟩⟩⟩⟩⟩⟩⟩⟩⟩⟩⟩⟩⟩⟩⟩⟩, ⟨⟨ki_12_64, ⟨kbad, ⟨kbad, ⟨ki_12_67, ⟨ki_12_68, ⟨kbad, ⟨ki_12_70, ⟨kbad, ⟨ki_12_72, ⟨kbad, ⟨kbad, ⟨ki_12_75, ⟨ki_12_76, ⟨ki_12_77, ⟨kbad, ⟨kbad, trivial⟩⟩⟩⟩⟩⟩⟩⟩⟩⟩⟩⟩⟩⟩⟩⟩, ⟨⟨ki_12_80, trivial⟩, trivial⟩⟩⟩⟩⟩⟩)⟩
set_option maxRecDepth 20000 in
theorem mk_13 : js_mok 13 := ⟨by decide +kernel, jk_tab (fun _ => js_St.ok st_bad) (show jk_all (js_Ok 13) 0 tb_13 from ⟨⟨ki_13_0, ⟨ki_13_1, ⟨kbad, ⟨ki_13_3, ⟨ki_13_4, ⟨kbad, ⟨kbad, ⟨ki_13_7, ⟨ki_13_8, ⟨ki_13_9, ⟨ki_13_10, ⟨ki_13_11, ⟨ki_13_12, ⟨kbad, ⟨ki_13_14, ⟨ki_13_15, trivial⟩⟩⟩⟩⟩⟩⟩⟩⟩⟩⟩⟩⟩⟩⟩⟩, ⟨⟨kbad, ⟨kbad, ⟨ki_13_18, ⟨ki_13_19, ⟨ki_13_20, ⟨ki_13_21, ⟨kbad, ⟨ki_13_23, ⟨ki_13_24, ⟨kbad, ⟨kbad, ⟨ki_13_27, ⟨ki_13_28, ⟨kbad, ⟨ki_13_30, ⟨kbad, trivial⟩⟩⟩⟩⟩⟩⟩⟩⟩⟩⟩⟩⟩⟩⟩⟩, ⟨⟨kbad, ⟨ki_13_33, ⟨kbad, ⟨ki_13_35, ⟨kbad, ⟨kbad, ⟨ki_13_38, ⟨kbad, ⟨ki_13_40, ⟨kbad, ⟨ki_13_42, ⟨kbad, ⟨kbad, ⟨ki_13_45, ⟨ki_13_46, ⟨kbad, trivial⟩⟩⟩⟩⟩⟩⟩⟩⟩⟩⟩⟩⟩⟩⟩⟩, ⟨⟨kbad, ⟨ki_13_49, ⟨ki_13_50, ⟨kbad, ⟨ki_13_52, ⟨kbad, ⟨ki_13_54, ⟨kbad, ⟨kbad, ⟨ki_13_57, ⟨ki_13_58, ⟨kbad, ⟨kbad, ⟨ki_13_61, ⟨ki_13_62, ⟨kbad, trivial⟩⟩⟩⟩⟩⟩⟩⟩⟩⟩⟩⟩⟩⟩⟩⟩, ⟨⟨kbad, ⟨ki_13_65, ⟨kbad, ⟨ki_13_67, ⟨ki_13_68, ⟨ki_13_69, ⟨kbad, ⟨ki_13_71, ⟨ki_13_72, ⟨ki_13_73, trivial⟩⟩⟩⟩⟩⟩⟩⟩⟩⟩, trivial⟩⟩⟩⟩⟩)⟩
set_option maxRecDepth 20000 in
theorem mk_14 : js_mok 14 := ⟨by decide +kernel, jk_tab (fun _ => js_St.ok st_bad) (show jk_all (js_Ok 14) 0 tb_14 from ⟨⟨ki_14_0, ⟨ki_14_1, ⟨ki_14_2, ⟨ki_14_3, ⟨ki_14_4, ⟨ki_14_5, ⟨ki_14_6, ⟨kbad, ⟨kbad, ⟨ki_14_9, ⟨ki_14_10, ⟨ki_14_11, ⟨ki_14_12, ⟨kbad, ⟨kbad, ⟨ki_14_15, trivial⟩⟩⟩⟩⟩⟩⟩⟩⟩⟩⟩⟩⟩⟩⟩⟩, ⟨⟨kbad, ⟨kbad, ⟨ki_14_18, ⟨kbad, ⟨kbad, ⟨ki_14_21, ⟨kbad, ⟨kbad, ⟨ki_14_24, ⟨kbad, ⟨kbad, ⟨ki_14_27, ⟨ki_14_28, trivial⟩⟩⟩⟩⟩⟩⟩⟩⟩⟩⟩⟩⟩, trivial⟩⟩)⟩
set_option maxRecDepth 20000 in
theorem mk_15 : js_mok 15 := ⟨by decide +kernel, jk_tab (fun _ => js_St.ok st_bad) (show jk_all (js_Ok 15) 0 tb_15 from ⟨⟨ki_15_0, ⟨ki_15_1, ⟨kbad, ⟨kbad, ⟨ki_15_4, ⟨ki_15_5, ⟨ki_15_6, ⟨kbad, ⟨kbad, ⟨ki_15_9, ⟨ki_15_10, ⟨ki_15_11, ⟨kbad, ⟨kbad, ⟨ki_15_14, ⟨kbad, trivial⟩⟩⟩⟩⟩⟩⟩⟩⟩⟩⟩⟩⟩⟩⟩⟩, ⟨⟨kbad, ⟨ki_15_17, ⟨ki_15_18, ⟨kbad, ⟨kbad, ⟨ki_15_21, ⟨ki_15_22, trivial⟩⟩⟩⟩⟩⟩⟩, trivial⟩⟩)⟩
set_option maxRecDepth 20000 in
theorem mk_16 : js_mok 16 := ⟨by decide +kernel, jk_tab (fun _ => js_St.ok st_bad) (show jk_all (js_Ok 16) 0 tb_16 from ⟨⟨ki_16_0, ⟨ki_16_1, ⟨ki_16_2, ⟨kbad, ⟨kbad, ⟨ki_16_5, ⟨ki_16_6, ⟨kbad, ⟨kbad, ⟨ki_16_9, ⟨kbad, ⟨ki_16_11, ⟨kbad, ⟨ki_16_13, ⟨kbad, ⟨kbad, trivial⟩⟩⟩⟩⟩⟩⟩⟩⟩⟩⟩⟩⟩⟩⟩⟩, ⟨⟨ki_16_16, ⟨ki_16_17, ⟨ki_16_18, ⟨ki_16_19, ⟨ki_16_20, ⟨kbad, ⟨kbad, ⟨ki_16_23, ⟨kbad, ⟨ki_16_25, ⟨kbad, ⟨ki_16_27, ⟨ki_16_28, ⟨kbad, ⟨kbad, ⟨ki_16_31, trivial⟩⟩⟩⟩⟩⟩⟩⟩⟩⟩⟩⟩⟩⟩⟩⟩, ⟨⟨kbad, ⟨kbad, ⟨ki_16_34, ⟨ki_16_35, ⟨kbad, ⟨kbad, ⟨ki_16_38, ⟨ki_16_39, ⟨kbad, ⟨kbad, ⟨ki_16_42, ⟨ki_16_43, ⟨kbad, ⟨ki_16_45, ⟨kbad, ⟨ki_16_47, trivial⟩⟩⟩⟩⟩⟩⟩⟩⟩⟩⟩⟩⟩⟩⟩⟩, ⟨⟨ki_16_48, ⟨kbad, ⟨kbad, ⟨ki_16_51, ⟨ki_16_52, ⟨kbad, ⟨kbad, ⟨ki_16_55, ⟨ki_16_56, trivial⟩⟩⟩⟩⟩⟩⟩⟩⟩, trivial⟩⟩⟩⟩)⟩
set_option maxRecDepth 20000 in
theorem mk_17 : js_mok 17 := ⟨by decide +kernel, jk_tab (fun _ => js_St.ok st_bad) (show jk_all (js_Ok 17) 0 tb_17 from ⟨⟨ki_17_0, ⟨ki_17_1, ⟨ki_17_2, ⟨ki_17_3, ⟨kbad, ⟨ki_17_5, ⟨kbad, ⟨ki_17_7, ⟨ki_17_8, ⟨kbad, ⟨kbad, ⟨ki_17_11, ⟨ki_17_12, ⟨ki_17_13, ⟨kbad, ⟨ki_17_15, trivial⟩⟩⟩⟩⟩⟩⟩⟩⟩⟩⟩⟩⟩⟩⟩⟩, ⟨⟨ki_17_16, ⟨kbad, ⟨kbad, ⟨ki_17_19, ⟨kbad, ⟨kbad, ⟨ki_17_22, ⟨kbad, ⟨kbad, ⟨ki_17_25, ⟨kbad, ⟨kbad, ⟨ki_17_28, ⟨kbad, ⟨kbad, ⟨ki_17_31, trivial⟩⟩⟩⟩⟩⟩⟩⟩⟩⟩⟩⟩⟩⟩⟩⟩, ⟨⟨ki_17_32, trivial⟩, trivial⟩⟩⟩)⟩
set_option maxRecDepth 20000 in
theorem mk_18 : js_mok 18 := ⟨by decide +kernel, jk_tab (fun _ => js_St.ok st_bad) (show jk_all (js_Ok 18) 0 tb_18 from ⟨⟨ki_18_0, ⟨ki_18_1, ⟨ki_18_2, ⟨ki_18_3, ⟨ki_18_4, ⟨ki_18_5, ⟨ki_18_6, ⟨kbad, ⟨kbad, ⟨ki_18_9, ⟨kbad, ⟨kbad, ⟨ki_18_12, ⟨ki_18_13, ⟨kbad, ⟨kbad, trivial⟩⟩⟩⟩⟩⟩⟩⟩⟩⟩⟩⟩⟩⟩⟩⟩, ⟨⟨ki_18_16, ⟨ki_18_17, ⟨ki_18_18, ⟨kbad, ⟨ki_18_20, ⟨kbad, ⟨ki_18_22, ⟨kbad, ⟨kbad, ⟨ki_18_25, ⟨kbad, ⟨kbad, ⟨ki_18_28, ⟨kbad, ⟨kbad, ⟨ki_18_31, trivial⟩⟩⟩⟩⟩⟩⟩⟩⟩⟩⟩⟩⟩⟩⟩⟩, ⟨⟨ki_18_32, ⟨kbad, ⟨ki_18_34, ⟨ki_18_35, ⟨ki_18_36, ⟨kbad, ⟨kbad, ⟨ki_18_39, ⟨kbad, ⟨kbad, ⟨ki_18_42, ⟨kbad, ⟨kbad, ⟨ki_18_45, ⟨ki_18_46, ⟨kbad, trivial⟩⟩⟩⟩⟩⟩⟩⟩⟩⟩⟩⟩⟩⟩⟩⟩, ⟨⟨ki_18_48, ⟨ki_18_49, ⟨ki_18_50, ⟨kbad, ⟨kbad, ⟨ki_18_53, ⟨kbad, ⟨kbad, ⟨ki_18_56, ⟨kbad, ⟨kbad, ⟨ki_18_59, ⟨kbad, ⟨kbad, ⟨ki_18_62, ⟨kbad, trivial⟩⟩⟩⟩⟩⟩⟩⟩⟩⟩⟩⟩⟩⟩⟩⟩, ⟨⟨kbad, ⟨ki_18_65, ⟨ki_18_66, trivial⟩⟩⟩, trivial⟩⟩⟩⟩⟩)⟩
set_option maxRecDepth 20000 in
theorem mk_19 : js_mok 19 := ⟨by decide +kernel, jk_tab (fun _ => js_St.ok st_bad) (show jk_all (js_Ok 19) 0 tb_19 from ⟨⟨ki_19_0, ⟨ki_19_1, ⟨kbad, ⟨kbad, ⟨ki_19_4, ⟨ki_19_5, ⟨kbad, ⟨kbad, ⟨ki_19_8, ⟨kbad, ⟨kbad, ⟨ki_19_11, ⟨ki_19_12, ⟨ki_19_13, ⟨kbad, ⟨ki_19_15, trivial⟩⟩⟩⟩⟩⟩⟩⟩⟩⟩⟩⟩⟩⟩⟩⟩, ⟨⟨kbad, ⟨kbad, ⟨ki_19_18, trivial⟩⟩⟩, trivial⟩⟩)⟩
set_option maxRecDepth 20000 in
theorem mk_20 : js_mok 20 := ⟨by decide +kernel, jk_tab (fun _ => js_St.ok st_bad) (show jk_all (js_Ok 20) 0 tb_20 from ⟨⟨ki_20_0, ⟨ki_20_1, ⟨kbad, ⟨kbad, ⟨ki_20_4, ⟨ki_20_5, ⟨ki_20_6, ⟨kbad, ⟨ki_20_8, ⟨kbad, ⟨kbad, ⟨ki_20_11, ⟨ki_20_12, ⟨ki_20_13, ⟨kbad, ⟨kbad, trivial⟩⟩⟩⟩⟩⟩⟩⟩⟩⟩⟩⟩⟩⟩⟩⟩, ⟨⟨ki_20_16, trivial⟩, trivial⟩⟩)⟩
set_option maxRecDepth 20000 in
theorem mk_21 : js_mok 21 := ⟨by decide +kernel, jk_tab (fun _ => js_St.ok st_bad) (show jk_all (js_Ok 21) 0 tb_21 from ⟨⟨ki_21_0, ⟨ki_21_1, ⟨kbad, ⟨kbad, ⟨ki_21_4, ⟨ki_21_5, ⟨kbad, ⟨kbad, ⟨ki_21_8, ⟨ki_21_9, ⟨kbad, ⟨kbad, ⟨ki_21_12, ⟨ki_21_13, trivial⟩⟩⟩⟩⟩⟩⟩⟩⟩⟩⟩⟩⟩⟩, trivial⟩)⟩
set_option maxRecDepth 20000 in
theorem mk_22 : js_mok 22 := ⟨by decide +kernel, jk_tab (fun _ => js_St.ok st_bad) (show jk_all (js_Ok 22) 0 tb_22 from ⟨⟨ki_22_0, ⟨ki_22_1, ⟨kbad, ⟨kbad, ⟨ki_22_4, ⟨ki_22_5, ⟨ki_22_6, ⟨kbad, ⟨kbad, ⟨ki_22_9, ⟨ki_22_10, ⟨ki_22_11, ⟨ki_22_12, ⟨ki_22_13, trivial⟩⟩⟩⟩⟩⟩⟩⟩⟩⟩⟩⟩⟩⟩, trivial⟩)⟩
set_option maxRecDepth 20000 in
theorem mk_23 : js_mok 23 := ⟨by decide +kernel, jk_tab (fun _ => js_St.ok st_bad) (show jk_all (js_Ok 23) 0 tb_23 from ⟨⟨ki_23_0, ⟨ki_23_1, ⟨ki_23_2, ⟨kbad, ⟨kbad, ⟨ki_23_5, ⟨kbad, ⟨kbad, ⟨ki_23_8, ⟨ki_23_9, ⟨ki_23_10, ⟨kbad, ⟨kbad, ⟨ki_23_13, ⟨kbad, ⟨kbad, trivial⟩⟩⟩⟩⟩⟩⟩⟩⟩⟩⟩⟩⟩⟩⟩⟩, ⟨⟨ki_23_16, ⟨ki_23_17, ⟨kbad, ⟨kbad, ⟨ki_23_20, ⟨ki_23_21, ⟨ki_23_22, ⟨kbad, ⟨kbad, ⟨ki_23_25, ⟨ki_23_26, ⟨ki_23_27, ⟨kbad, ⟨kbad, ⟨ki_23_30, ⟨ki_23_31, trivial⟩⟩⟩⟩⟩⟩⟩⟩⟩⟩⟩⟩⟩⟩⟩⟩, ⟨⟨ki_23_32, ⟨kbad, ⟨kbad, ⟨ki_23_35, ⟨kbad, ⟨kbad, ⟨ki_23_38, ⟨ki_23_39, ⟨ki_23_40, ⟨kbad, ⟨kbad, ⟨ki_23_43, ⟨kbad, ⟨kbad, ⟨ki_23_46, trivial⟩⟩⟩⟩⟩⟩⟩⟩⟩⟩⟩⟩⟩⟩⟩, trivial⟩⟩⟩)⟩
set_option maxRecDepth 20000 in
theorem mk_24 : js_mok 24 := ⟨by decide +kernel, jk_tab (fun _ => js_St.ok st_bad) (show jk_all (js_Ok 24) 0 tb_24 from ⟨⟨ki_24_0, ⟨ki_24_1, ⟨kbad, ⟨kbad, ⟨ki_24_4, ⟨ki_24_5, ⟨kbad, ⟨ki_24_7, ⟨kbad, ⟨kbad, ⟨ki_24_10, ⟨kbad, ⟨kbad, ⟨ki_24_13, ⟨ki_24_14, ⟨kbad, trivial⟩⟩⟩⟩⟩⟩⟩⟩⟩⟩⟩⟩⟩⟩⟩⟩, ⟨⟨ki_24_16, ⟨kbad, ⟨ki_24_18, ⟨kbad, ⟨kbad, ⟨ki_24_21, trivial⟩⟩⟩⟩⟩⟩, trivial⟩⟩)⟩
set_option maxRecDepth 20000 in
theorem mk_25 : js_mok 25 := ⟨by decide +kernel, jk_tab (fun _ => js_St.ok st_bad) (show jk_all (js_Ok 25) 0 tb_25 from ⟨⟨ki_25_0, ⟨ki_25_1, ⟨kbad, ⟨kbad, ⟨ki_25_4, ⟨kbad, ⟨kbad, ⟨ki_25_7, ⟨ki_25_8, ⟨ki_25_9, ⟨kbad, ⟨kbad, ⟨ki_25_12, ⟨ki_25_13, ⟨ki_25_14, ⟨ki_25_15, trivial⟩⟩⟩⟩⟩⟩⟩⟩⟩⟩⟩⟩⟩⟩⟩⟩, ⟨⟨ki_25_16, ⟨kbad, ⟨ki_25_18, ⟨ki_25_19, ⟨kbad, ⟨ki_25_21, ⟨kbad, ⟨ki_25_23, ⟨kbad, ⟨ki_25_25, ⟨kbad, ⟨kbad, ⟨ki_25_28, ⟨ki_25_29, ⟨kbad, ⟨kbad, trivial⟩⟩⟩⟩⟩⟩⟩⟩⟩⟩⟩⟩⟩⟩⟩⟩, ⟨⟨ki_25_32, ⟨kbad, ⟨ki_25_34, ⟨ki_25_35, ⟨kbad, ⟨ki_25_37, ⟨ki_25_38, ⟨kbad, ⟨ki_25_40, ⟨kbad, ⟨ki_25_42, ⟨ki_25_43, ⟨kbad, ⟨kbad, ⟨ki_25_46, ⟨ki_25_47, trivial⟩⟩⟩⟩⟩⟩⟩⟩⟩⟩⟩⟩⟩⟩⟩⟩, ⟨⟨kbad, ⟨ki_25_49, ⟨kbad, ⟨kbad, ⟨ki_25_52, ⟨kbad, ⟨ki_25_54, ⟨kbad, ⟨kbad, ⟨ki_25_57, ⟨kbad, ⟨ki_25_59, ⟨kbad, ⟨ki_25_61, ⟨kbad, ⟨kbad, trivial⟩⟩⟩⟩⟩⟩⟩⟩⟩⟩⟩⟩⟩⟩⟩⟩, ⟨⟨ki_25_64, ⟨ki_25_65, ⟨kbad, ⟨ki_25_67, ⟨kbad, ⟨ki_25_69, ⟨ki_25_70, ⟨kbad, ⟨kbad, ⟨ki_25_73, ⟨kbad, ⟨kbad, ⟨ki_25_76, ⟨kbad, ⟨kbad, ⟨ki_25_79, trivial⟩⟩⟩⟩⟩⟩⟩⟩⟩⟩⟩⟩⟩⟩⟩⟩, ⟨⟨ki_25_80, ⟨kbad, ⟨ki_25_82, ⟨kbad, ⟨kbad, ⟨ki_25_85, ⟨kbad, ⟨kbad, ⟨ki_25_88, ⟨ki_25_89, ⟨ki_25_90, ⟨ki_25_91, ⟨kbad, ⟨kbad, ⟨ki_25_94, ⟨kbad, trivial⟩⟩⟩⟩⟩⟩⟩⟩⟩⟩⟩⟩⟩⟩⟩⟩, ⟨⟨ki_25_96, ⟨kbad, ⟨ki_25_98, ⟨kbad, ⟨kbad, ⟨ki_25_101, ⟨ki_25_102, ⟨kbad, ⟨ki_25_104, ⟨kbad, ⟨kbad, ⟨ki_25_107, ⟨kbad, ⟨kbad, ⟨ki_25_110, ⟨ki_25_111, trivial⟩⟩⟩⟩⟩⟩⟩⟩⟩⟩⟩⟩⟩⟩⟩⟩, ⟨⟨ki_25_112, ⟨ki_25_113, ⟨kbad, ⟨kbad, ⟨ki_25_116, ⟨kbad, ⟨ki_25_118, ⟨kbad, ⟨ki_25_120, ⟨ki_25_121, ⟨kbad, ⟨kbad, ⟨ki_25_124, ⟨kbad, ⟨kbad, ⟨ki_25_127, trivial⟩⟩⟩⟩⟩⟩⟩⟩⟩⟩⟩⟩⟩⟩⟩⟩, ⟨⟨kbad, ⟨kbad, ⟨ki_25_130, ⟨kbad, ⟨kbad, ⟨ki_25_133, ⟨kbad, ⟨kbad, ⟨ki_25_136, ⟨ki_25_137, trivial⟩⟩⟩⟩⟩⟩⟩⟩⟩⟩, trivial⟩⟩⟩⟩⟩⟩⟩⟩⟩)⟩
set_option maxRecDepth 20000 in
theorem mk_26 : js_mok 26 := ⟨by decide +kernel, jk_tab (fun _ => js_St.ok st_bad) (show jk_all (js_Ok 26) 0 tb_26 from ⟨⟨ki_26_0, ⟨ki_26_1, ⟨ki_26_2, ⟨ki_26_3, ⟨kbad, ⟨ki_26_5, ⟨ki_26_6, ⟨kbad, ⟨ki_26_8, ⟨kbad, ⟨ki_26_10, ⟨ki_26_11, ⟨kbad, ⟨kbad, ⟨ki_26_14, ⟨kbad, trivial⟩⟩⟩⟩⟩⟩⟩⟩⟩⟩⟩⟩⟩⟩⟩⟩, ⟨⟨kbad, ⟨ki_26_17, ⟨ki_26_18, ⟨kbad, ⟨kbad, ⟨ki_26_21, ⟨kbad, ⟨ki_26_23, ⟨ki_26_24, ⟨kbad, ⟨ki_26_26, ⟨kbad, ⟨ki_26_28, ⟨kbad, ⟨kbad, ⟨ki_26_31, trivial⟩⟩⟩⟩⟩⟩⟩⟩⟩⟩⟩⟩⟩⟩⟩⟩, ⟨⟨kbad, ⟨kbad, ⟨ki_26_34, ⟨ki_26_35, ⟨kbad, ⟨ki_26_37, ⟨kbad, ⟨kbad, ⟨ki_26_40, ⟨kbad, ⟨kbad, ⟨ki_26_43, ⟨ki_26_44, ⟨ki_26_45, ⟨ki_26_46, ⟨kbad, trivial⟩⟩⟩⟩⟩⟩⟩⟩⟩⟩⟩⟩⟩⟩⟩⟩, ⟨⟨kbad, ⟨ki_26_49, ⟨ki_26_50, ⟨ki_26_51, ⟨ki_26_52, ⟨kbad, ⟨ki_26_54, ⟨kbad, ⟨kbad, ⟨ki_26_57, ⟨ki_26_58, ⟨ki_26_59, ⟨kbad, ⟨kbad, ⟨ki_26_62, ⟨kbad, trivial⟩⟩⟩⟩⟩⟩⟩⟩⟩⟩⟩⟩⟩⟩⟩⟩, ⟨⟨kbad, ⟨ki_26_65, ⟨kbad, ⟨kbad, ⟨ki_26_68, ⟨kbad, ⟨ki_26_70, trivial⟩⟩⟩⟩⟩⟩⟩, trivial⟩⟩⟩⟩⟩)⟩
set_option maxRecDepth 20000 in
theorem mk_27 : js_mok 27 := ⟨by decide +kernel, jk_tab (fun _ => js_St.ok st_bad) (show jk_all (js_Ok 27) 0 tb_27 from ⟨⟨ki_27_0, ⟨ki_27_1, ⟨ki_27_2, ⟨ki_27_3, ⟨ki_27_4, ⟨ki_27_5, ⟨ki_27_6, ⟨kbad, ⟨kbad, ⟨ki_27_9, ⟨kbad, ⟨kbad, ⟨ki_27_12, ⟨ki_27_13, ⟨kbad, ⟨kbad, trivial⟩⟩⟩⟩⟩⟩⟩⟩⟩⟩⟩⟩⟩⟩⟩⟩, ⟨⟨ki_27_16, ⟨ki_27_17, ⟨ki_27_18, ⟨kbad, ⟨ki_27_20, ⟨kbad, ⟨ki_27_22, ⟨kbad, ⟨kbad, ⟨ki_27_25, ⟨kbad, ⟨kbad, ⟨ki_27_28, ⟨ki_27_29, ⟨ki_27_30, ⟨ki_27_31, trivial⟩⟩⟩⟩⟩⟩⟩⟩⟩⟩⟩⟩⟩⟩⟩⟩, ⟨⟨kbad, ⟨ki_27_33, ⟨kbad, ⟨kbad, ⟨ki_27_36, ⟨kbad, ⟨kbad, ⟨ki_27_39, ⟨kbad, ⟨kbad, ⟨ki_27_42, ⟨ki_27_43, ⟨kbad, ⟨kbad, ⟨ki_27_46, ⟨kbad, trivial⟩⟩⟩⟩⟩⟩⟩⟩⟩⟩⟩⟩⟩⟩⟩⟩, ⟨⟨kbad, ⟨ki_27_49, ⟨ki_27_50, trivial⟩⟩⟩, trivial⟩⟩⟩⟩)⟩
set_option maxRecDepth 20000 in
theorem mk_28 : js_mok 28 := ⟨by decide +kernel, jk_tab (fun _ => js_St.ok st_bad) (show jk_all (js_Ok 28) 0 tb_28 from ⟨⟨ki_28_0, ⟨ki_28_1, ⟨ki_28_2, ⟨ki_28_3, ⟨kbad, ⟨ki_28_5, ⟨kbad, ⟨kbad, ⟨ki_28_8, ⟨ki_28_9, ⟨kbad, ⟨kbad, ⟨ki_28_12, ⟨ki_28_13, ⟨ki_28_14, ⟨ki_28_15, trivial⟩⟩⟩⟩⟩⟩⟩⟩⟩⟩⟩⟩⟩⟩⟩⟩, ⟨⟨kbad, ⟨kbad, ⟨ki_28_18, ⟨kbad, ⟨kbad, ⟨ki_28_21, ⟨ki_28_22, ⟨kbad, ⟨kbad, ⟨ki_28_25, ⟨ki_28_26, ⟨ki_28_27, ⟨ki_28_28, ⟨ki_28_29, ⟨ki_28_30, ⟨kbad, trivial⟩⟩⟩⟩⟩⟩⟩⟩⟩⟩⟩⟩⟩⟩⟩⟩, ⟨⟨kbad, ⟨ki_28_33, ⟨kbad, ⟨kbad, ⟨ki_28_36, ⟨ki_28_37, ⟨kbad, ⟨kbad, ⟨ki_28_40, ⟨ki_28_41, ⟨ki_28_42, ⟨kbad, ⟨ki_28_44, ⟨kbad, ⟨ki_28_46, ⟨kbad, trivial⟩⟩⟩⟩⟩⟩⟩⟩⟩⟩⟩⟩⟩⟩⟩⟩, ⟨⟨kbad, ⟨ki_28_49, ⟨kbad, ⟨kbad, ⟨ki_28_52, ⟨ki_28_53, ⟨ki_28_54, ⟨ki_28_55, ⟨kbad, ⟨ki_28_57, ⟨ki_28_58, ⟨kbad, ⟨kbad, ⟨ki_28_61, ⟨ki_28_62, ⟨ki_28_63, trivial⟩⟩⟩⟩⟩⟩⟩⟩⟩⟩⟩⟩⟩⟩⟩⟩, ⟨⟨kbad, ⟨ki_28_65, ⟨ki_28_66, ⟨kbad, ⟨kbad, ⟨ki_28_69, ⟨ki_28_70, ⟨ki_28_71, ⟨ki_28_72, ⟨kbad, ⟨kbad, ⟨ki_28_75, ⟨kbad, ⟨kbad, ⟨ki_28_78, ⟨ki_28_79, trivial⟩⟩⟩⟩⟩⟩⟩⟩⟩⟩⟩⟩⟩⟩⟩⟩, trivial⟩⟩⟩⟩⟩)⟩
set_option maxRecDepth 20000 in
theorem mk_29 : js_mok 29 := ⟨by decide +kernel, jk_tab (fun _ => js_St.ok st_bad) (show jk_all (js_Ok 29) 0 tb_29 from ⟨⟨ki_29_0, ⟨ki_29_1, ⟨ki_29_2, ⟨kbad, ⟨kbad, ⟨ki_29_5, ⟨ki_29_6, ⟨kbad, ⟨kbad, ⟨ki_29_9, ⟨kbad, ⟨ki_29_11, ⟨kbad, ⟨ki_29_13, ⟨kbad, ⟨kbad, trivial⟩⟩⟩⟩⟩⟩⟩⟩⟩⟩⟩⟩⟩⟩⟩⟩, ⟨⟨ki_29_16, ⟨ki_29_17, ⟨ki_29_18, ⟨ki_29_19, ⟨ki_29_20, ⟨kbad, ⟨kbad, ⟨ki_29_23, ⟨kbad, ⟨kbad, ⟨ki_29_26, ⟨ki_29_27, ⟨ki_29_28, ⟨ki_29_29, ⟨ki_29_30, ⟨kbad, trivial⟩⟩⟩⟩⟩⟩⟩⟩⟩⟩⟩⟩⟩⟩⟩⟩, ⟨⟨kbad, ⟨ki_29_33, ⟨kbad, ⟨kbad, ⟨ki_29_36, ⟨kbad, ⟨ki_29_38, ⟨ki_29_39, ⟨kbad, ⟨ki_29_41, ⟨kbad, ⟨kbad, ⟨ki_29_44, ⟨kbad, ⟨kbad, ⟨ki_29_47, trivial⟩⟩⟩⟩⟩⟩⟩⟩⟩⟩⟩⟩⟩⟩⟩⟩, ⟨⟨kbad, ⟨ki_29_49, ⟨ki_29_50, ⟨kbad, ⟨kbad, ⟨ki_29_53, ⟨kbad, ⟨ki_29_55, ⟨kbad, ⟨ki_29_57, ⟨ki_29_58, ⟨kbad, ⟨ki_29_60, ⟨kbad, ⟨ki_29_62, ⟨kbad, trivial⟩⟩⟩⟩⟩⟩⟩⟩⟩⟩⟩⟩⟩⟩⟩⟩, ⟨⟨kbad, ⟨ki_29_65, ⟨ki_29_66, ⟨kbad, ⟨kbad, ⟨ki_29_69, ⟨ki_29_70, trivial⟩⟩⟩⟩⟩⟩⟩, trivial⟩⟩⟩⟩⟩)⟩
set_option maxRecDepth 20000 in
theorem mk_30 : js_mok 30 := ⟨by decide +kernel, jk_tab (fun _ => js_St.ok st_bad) (show jk_all (js_Ok 30) 0 tb_30 from ⟨⟨ki_30_0, ⟨ki_30_1, ⟨ki_30_2, ⟨ki_30_3, ⟨ki_30_4, ⟨ki_30_5, ⟨kbad, ⟨ki_30_7, ⟨kbad, ⟨kbad, ⟨ki_30_10, ⟨ki_30_11, ⟨kbad, ⟨kbad, ⟨ki_30_14, ⟨ki_30_15, trivial⟩⟩⟩⟩⟩⟩⟩⟩⟩⟩⟩⟩⟩⟩⟩⟩, ⟨⟨ki_30_16, ⟨ki_30_17, ⟨kbad, ⟨kbad, ⟨ki_30_20, ⟨ki_30_21, ⟨kbad, ⟨kbad, ⟨ki_30_24, ⟨ki_30_25, ⟨ki_30_26, ⟨ki_30_27, ⟨kbad, ⟨kbad, ⟨ki_30_30, ⟨kbad, trivial⟩⟩⟩⟩⟩⟩⟩⟩⟩⟩⟩⟩⟩⟩⟩⟩, ⟨⟨kbad, ⟨ki_30_33, ⟨ki_30_34, trivial⟩⟩⟩, trivial⟩⟩⟩)⟩
set_option maxRecDepth 20000 in
theorem mk_31 : js_mok 31 := ⟨by decide +kernel, jk_tab (fun _ => js_St.ok st_bad) (show jk_all (js_Ok 31) 0 tb_31 from ⟨⟨ki_31_0, ⟨ki_31_1, ⟨kbad, ⟨kbad, ⟨ki_31_4, ⟨ki_31_5, ⟨ki_31_6, ⟨kbad, ⟨ki_31_8, ⟨kbad, ⟨kbad, ⟨ki_31_11, ⟨ki_31_12, ⟨ki_31_13, ⟨kbad, ⟨ki_31_15, trivial⟩⟩⟩⟩⟩⟩⟩⟩⟩⟩⟩⟩⟩⟩⟩⟩, ⟨⟨kbad, ⟨kbad, ⟨ki_31_18, ⟨ki_31_19, ⟨kbad, ⟨ki_31_21, ⟨kbad, ⟨ki_31_23, ⟨kbad, ⟨kbad, ⟨ki_31_26, trivial⟩⟩⟩⟩⟩⟩⟩⟩⟩⟩⟩, trivial⟩⟩)⟩
set_option maxRecDepth 20000 in
theorem mk_32 : js_mok 32 := ⟨by decide +kernel, jk_tab (fun _ => js_St.ok st_bad) (show jk_all (js_Ok 32) 0 tb_32 from ⟨⟨ki_32_0, ⟨ki_32_1, ⟨ki_32_2, ⟨kbad, ⟨kbad, ⟨ki_32_5, ⟨ki_32_6, ⟨ki_32_7, ⟨ki_32_8, ⟨ki_32_9, ⟨kbad, ⟨kbad, ⟨ki_32_12, ⟨ki_32_13, ⟨ki_32_14, ⟨ki_32_15, trivial⟩⟩⟩⟩⟩⟩⟩⟩⟩⟩⟩⟩⟩⟩⟩⟩, ⟨⟨kbad, ⟨kbad, ⟨ki_32_18, ⟨kbad, ⟨ki_32_20, ⟨kbad, ⟨ki_32_22, ⟨kbad, ⟨kbad, ⟨ki_32_25, ⟨ki_32_26, ⟨kbad, ⟨kbad, ⟨ki_32_29, ⟨ki_32_30, ⟨ki_32_31, trivial⟩⟩⟩⟩⟩⟩⟩⟩⟩⟩⟩⟩⟩⟩⟩⟩, ⟨⟨ki_32_32, ⟨kbad, ⟨kbad, ⟨ki_32_35, ⟨ki_32_36, ⟨kbad, ⟨kbad, ⟨ki_32_39, ⟨ki_32_40, ⟨kbad, ⟨ki_32_42, ⟨kbad, ⟨ki_32_44, ⟨ki_32_45, ⟨kbad, ⟨kbad, trivial⟩⟩⟩⟩⟩⟩⟩⟩⟩⟩⟩⟩⟩⟩⟩⟩, ⟨⟨ki_32_48, ⟨kbad, ⟨kbad, ⟨ki_32_51, ⟨ki_32_52, ⟨ki_32_53, ⟨ki_32_54, ⟨kbad, ⟨kbad, ⟨ki_32_57, ⟨ki_32_58, ⟨kbad, ⟨ki_32_60, ⟨kbad, ⟨kbad, ⟨ki_32_63, trivial⟩⟩⟩⟩⟩⟩⟩⟩⟩⟩⟩⟩⟩⟩⟩⟩, ⟨⟨ki_32_64, ⟨kbad, ⟨kbad, ⟨ki_32_67, ⟨kbad, ⟨kbad, ⟨ki_32_70, trivial⟩⟩⟩⟩⟩⟩⟩, trivial⟩⟩⟩⟩⟩)⟩
set_option maxRecDepth 20000 in
theorem mk_33 : js_mok 33 := ⟨by decide +kernel, jk_tab (fun _ => js_St.ok st_bad) (show jk_all (js_Ok 33) 0 tb_33 from ⟨⟨ki_33_0, ⟨ki_33_1, ⟨ki_33_2, ⟨ki_33_3, ⟨kbad, ⟨ki_33_5, ⟨kbad, ⟨ki_33_7, ⟨ki_33_8, ⟨kbad, ⟨kbad, ⟨ki_33_11, ⟨ki_33_12, ⟨kbad, ⟨kbad, ⟨ki_33_15, trivial⟩⟩⟩⟩⟩⟩⟩⟩⟩⟩⟩⟩⟩⟩⟩⟩, ⟨⟨kbad, ⟨ki_33_17, ⟨ki_33_18, ⟨ki_33_19, ⟨kbad, ⟨kbad, ⟨ki_33_22, ⟨kbad, ⟨kbad, ⟨ki_33_25, ⟨ki_33_26, ⟨ki_33_27, ⟨kbad, ⟨kbad, ⟨ki_33_30, ⟨kbad, trivial⟩⟩⟩⟩⟩⟩⟩⟩⟩⟩⟩⟩⟩⟩⟩⟩, ⟨⟨ki_33_32, ⟨ki_33_33, ⟨ki_33_34, ⟨ki_33_35, ⟨ki_33_36, ⟨ki_33_37, ⟨ki_33_38, ⟨kbad, ⟨kbad, ⟨ki_33_41, ⟨kbad, ⟨ki_33_43, ⟨ki_33_44, ⟨kbad, ⟨kbad, ⟨ki_33_47, trivial⟩⟩⟩⟩⟩⟩⟩⟩⟩⟩⟩⟩⟩⟩⟩⟩, ⟨⟨ki_33_48, ⟨kbad, ⟨kbad, ⟨ki_33_51, ⟨kbad, ⟨ki_33_53, ⟨ki_33_54, ⟨ki_33_55, ⟨ki_33_56, ⟨kbad, ⟨kbad, ⟨ki_33_59, ⟨ki_33_60, ⟨kbad, ⟨kbad, ⟨ki_33_63, trivial⟩⟩⟩⟩⟩⟩⟩⟩⟩⟩⟩⟩⟩⟩⟩⟩, ⟨⟨kbad, ⟨ki_33_65, ⟨ki_33_66, ⟨kbad, ⟨kbad, ⟨ki_33_69, ⟨kbad, ⟨kbad, ⟨ki_33_72, ⟨kbad, ⟨kbad, ⟨ki_33_75, ⟨kbad, ⟨kbad, ⟨ki_33_78, ⟨ki_33_79, trivial⟩⟩⟩⟩⟩⟩⟩⟩⟩⟩⟩⟩⟩⟩⟩⟩, trivial⟩⟩⟩⟩⟩)⟩
set_option maxRecDepth 20000 in
theorem mk_34 : js_mok 34 := ⟨by decide +kernel, jk_tab (fun _ => js_St.ok st_bad) (show jk_all (js_Ok 34) 0 tb_34 from ⟨⟨ki_34_0, ⟨ki_34_1, ⟨ki_34_2, ⟨ki_34_3, ⟨ki_34_4, ⟨ki_34_5, ⟨kbad, ⟨kbad, ⟨ki_34_8, ⟨ki_34_9, ⟨ki_34_10, ⟨kbad, ⟨ki_34_12, ⟨kbad, ⟨ki_34_14, ⟨ki_34_15, trivial⟩⟩⟩⟩⟩⟩⟩⟩⟩⟩⟩⟩⟩⟩⟩⟩, ⟨⟨kbad, ⟨kbad, ⟨ki_34_18, ⟨ki_34_19, ⟨ki_34_20, ⟨kbad, ⟨ki_34_22, ⟨kbad, ⟨kbad, ⟨ki_34_25, ⟨kbad, ⟨ki_34_27, ⟨kbad, ⟨ki_34_29, ⟨ki_34_30, ⟨kbad, trivial⟩⟩⟩⟩⟩⟩⟩⟩⟩⟩⟩⟩⟩⟩⟩⟩, ⟨⟨kbad, ⟨ki_34_33, ⟨kbad, ⟨ki_34_35, ⟨ki_34_36, ⟨kbad, ⟨ki_34_38, ⟨ki_34_39, ⟨kbad, ⟨kbad, ⟨ki_34_42, ⟨kbad, ⟨kbad, ⟨ki_34_45, ⟨ki_34_46, trivial⟩⟩⟩⟩⟩⟩⟩⟩⟩⟩⟩⟩⟩⟩⟩, trivial⟩⟩⟩)⟩
set_option maxRecDepth 20000 in
theorem mk_35 : js_mok 35 := ⟨by decide +kernel, jk_tab (fun _ => js_St.ok st_bad) (show jk_all (js_Ok 35) 0 tb_35 from ⟨⟨ki_35_0, ⟨ki_35_1, ⟨ki_35_2, ⟨ki_35_3, ⟨kbad, ⟨kbad, ⟨ki_35_6, ⟨ki_35_7, ⟨ki_35_8, ⟨ki_35_9, ⟨ki_35_10, ⟨ki_35_11, ⟨kbad, ⟨kbad, ⟨ki_35_14, ⟨ki_35_15, trivial⟩⟩⟩⟩⟩⟩⟩⟩⟩⟩⟩⟩⟩⟩⟩⟩, ⟨⟨ki_35_16, ⟨ki_35_17, ⟨ki_35_18, ⟨kbad, ⟨kbad, ⟨ki_35_21, ⟨kbad, ⟨kbad, ⟨ki_35_24, ⟨ki_35_25, ⟨kbad, ⟨kbad, ⟨ki_35_28, ⟨kbad, ⟨kbad, ⟨ki_35_31, trivial⟩⟩⟩⟩⟩⟩⟩⟩⟩⟩⟩⟩⟩⟩⟩⟩, ⟨⟨ki_35_32, trivial⟩, trivial⟩⟩⟩)⟩
set_option maxRecDepth 20000 in
theorem mk_36 : js_mok 36 := ⟨by decide +kernel, jk_tab (fun _ => js_St.ok st_bad) (show jk_all (js_Ok 36) 0 tb_36 from ⟨⟨ki_36_0, ⟨ki_36_1, ⟨ki_36_2, ⟨ki_36_3, ⟨ki_36_4, ⟨kbad, ⟨kbad, ⟨ki_36_7, ⟨kbad, ⟨kbad, ⟨ki_36_10, ⟨ki_36_11, ⟨kbad, ⟨kbad, ⟨ki_36_14, ⟨ki_36_15, trivial⟩⟩⟩⟩⟩⟩⟩⟩⟩⟩⟩⟩⟩⟩⟩⟩, ⟨⟨ki_36_16, ⟨ki_36_17, ⟨kbad, ⟨kbad, ⟨ki_36_20, ⟨ki_36_21, ⟨ki_36_22, ⟨kbad, ⟨kbad, ⟨ki_36_25, ⟨ki_36_26, ⟨kbad, ⟨kbad, ⟨ki_36_29, ⟨kbad, ⟨kbad, trivial⟩⟩⟩⟩⟩⟩⟩⟩⟩⟩⟩⟩⟩⟩⟩⟩, ⟨⟨ki_36_32, ⟨ki_36_33, ⟨ki_36_34, ⟨ki_36_35, ⟨ki_36_36, ⟨kbad, ⟨kbad, ⟨ki_36_39, ⟨kbad, ⟨kbad, ⟨ki_36_42, ⟨ki_36_43, ⟨kbad, ⟨kbad, ⟨ki_36_46, ⟨ki_36_47, trivial⟩⟩⟩⟩⟩⟩⟩⟩⟩⟩⟩⟩⟩⟩⟩⟩, ⟨⟨ki_36_48, ⟨kbad, ⟨kbad, ⟨ki_36_51, ⟨kbad, ⟨kbad, ⟨ki_36_54, ⟨ki_36_55, ⟨ki_36_56, ⟨ki_36_57, ⟨kbad, ⟨kbad, ⟨ki_36_60, ⟨ki_36_61, ⟨kbad, ⟨kbad, trivial⟩⟩⟩⟩⟩⟩⟩⟩⟩⟩⟩⟩⟩⟩⟩⟩, ⟨⟨ki_36_64, ⟨ki_36_65, ⟨kbad, ⟨kbad, ⟨ki_36_68, ⟨ki_36_69, ⟨ki_36_70, ⟨ki_36_71, ⟨kbad, ⟨kbad, ⟨ki_36_74, ⟨kbad, ⟨kbad, ⟨ki_36_77, ⟨ki_36_78, trivial⟩⟩⟩⟩⟩⟩⟩⟩⟩⟩⟩⟩⟩⟩⟩, trivial⟩⟩⟩⟩⟩)⟩
set_option maxRecDepth 20000 in
theorem mk_37 : js_mok 37 := ⟨by decide +kernel, jk_tab (fun _ => js_St.ok st_bad) (show jk_all (js_Ok 37) 0 tb_37 from ⟨⟨ki_37_0, ⟨ki_37_1, ⟨ki_37_2, ⟨ki_37_3, ⟨kbad, ⟨ki_37_5, ⟨kbad, ⟨ki_37_7, ⟨ki_37_8, ⟨kbad, ⟨kbad, ⟨ki_37_11, ⟨kbad, ⟨kbad, ⟨ki_37_14, ⟨ki_37_15, trivial⟩⟩⟩⟩⟩⟩⟩⟩⟩⟩⟩⟩⟩⟩⟩⟩, ⟨⟨kbad, ⟨kbad, ⟨ki_37_18, ⟨kbad, ⟨ki_37_20, ⟨ki_37_21, ⟨ki_37_22, ⟨kbad, ⟨kbad, ⟨ki_37_25, ⟨ki_37_26, ⟨ki_37_27, ⟨kbad, ⟨kbad, ⟨ki_37_30, ⟨ki_37_31, trivial⟩⟩⟩⟩⟩⟩⟩⟩⟩⟩⟩⟩⟩⟩⟩⟩, ⟨⟨kbad, ⟨kbad, ⟨ki_37_34, ⟨kbad, ⟨ki_37_36, ⟨ki_37_37, ⟨ki_37_38, ⟨kbad, ⟨kbad, ⟨ki_37_41, ⟨ki_37_42, ⟨ki_37_43, ⟨kbad, ⟨kbad, ⟨ki_37_46, ⟨kbad, trivial⟩⟩⟩⟩⟩⟩⟩⟩⟩⟩⟩⟩⟩⟩⟩⟩, ⟨⟨ki_37_48, ⟨ki_37_49, ⟨kbad, ⟨kbad, ⟨ki_37_52, ⟨ki_37_53, ⟨kbad, ⟨kbad, ⟨ki_37_56, ⟨ki_37_57, ⟨kbad, ⟨ki_37_59, ⟨kbad, ⟨ki_37_61, ⟨kbad, ⟨kbad, trivial⟩⟩⟩⟩⟩⟩⟩⟩⟩⟩⟩⟩⟩⟩⟩⟩, ⟨⟨ki_37_64, ⟨ki_37_65, ⟨kbad, ⟨kbad, ⟨ki_37_68, ⟨kbad, ⟨ki_37_70, ⟨ki_37_71, ⟨kbad, ⟨kbad, ⟨ki_37_74, ⟨kbad, ⟨kbad, ⟨ki_37_77, ⟨kbad, ⟨kbad, trivial⟩⟩⟩⟩⟩⟩⟩⟩⟩⟩⟩⟩⟩⟩⟩⟩, ⟨⟨ki_37_80, ⟨kbad, ⟨kbad, ⟨ki_37_83, ⟨kbad, ⟨kbad, ⟨ki_37_86, ⟨ki_37_87, trivial⟩⟩⟩⟩⟩⟩⟩⟩, trivial⟩⟩⟩⟩⟩⟩)⟩
set_option maxRecDepth 20000 in
theorem mk_38 : js_mok 38 := ⟨by decide +kernel, jk_tab (fun _ => js_St.ok st_bad) (show jk_all (js_Ok 38) 0 tb_38 from ⟨⟨ki_38_0, ⟨ki_38_1, ⟨ki_38_2, ⟨ki_38_3, ⟨kbad, ⟨kbad, ⟨ki_38_6, ⟨kbad, ⟨kbad, ⟨ki_38_9, ⟨ki_38_10, ⟨ki_38_11, ⟨ki_38_12, ⟨kbad, ⟨kbad, ⟨ki_38_15, trivial⟩⟩⟩⟩⟩⟩⟩⟩⟩⟩⟩⟩⟩⟩⟩⟩, ⟨⟨kbad, ⟨kbad, ⟨ki_38_18, trivial⟩⟩⟩, trivial⟩⟩)⟩
set_option maxRecDepth 20000 in
theorem mk_39 : js_mok 39 := ⟨by decide +kernel, jk_tab (fun _ => js_St.ok st_bad) (show jk_all (js_Ok 39) 0 tb_39 from ⟨⟨ki_39_0, ⟨ki_39_1, ⟨ki_39_2, ⟨ki_39_3, ⟨kbad, ⟨ki_39_5, ⟨kbad, ⟨ki_39_7, ⟨ki_39_8, ⟨kbad, ⟨kbad, ⟨ki_39_11, ⟨kbad, ⟨kbad, ⟨ki_39_14, ⟨ki_39_15, trivial⟩⟩⟩⟩⟩⟩⟩⟩⟩⟩⟩⟩⟩⟩⟩⟩, ⟨⟨kbad, ⟨kbad, ⟨ki_39_18, ⟨kbad, ⟨ki_39_20, ⟨ki_39_21, ⟨kbad, ⟨kbad, ⟨ki_39_24, ⟨kbad, ⟨kbad, ⟨ki_39_27, ⟨ki_39_28, ⟨ki_39_29, ⟨ki_39_30, ⟨kbad, trivial⟩⟩⟩⟩⟩⟩⟩⟩⟩⟩⟩⟩⟩⟩⟩⟩, ⟨⟨kbad, ⟨ki_39_33, ⟨kbad, ⟨ki_39_35, ⟨ki_39_36, ⟨kbad, ⟨kbad, ⟨ki_39_39, ⟨kbad, ⟨kbad, ⟨ki_39_42, ⟨ki_39_43, ⟨kbad, ⟨kbad, ⟨ki_39_46, ⟨kbad, trivial⟩⟩⟩⟩⟩⟩⟩⟩⟩⟩⟩⟩⟩⟩⟩⟩, ⟨⟨kbad, ⟨ki_39_49, ⟨ki_39_50, trivial⟩⟩⟩, trivial⟩⟩⟩⟩)⟩
set_option maxRecDepth 20000 in
theorem mk_40 : js_mok 40 := ⟨by decide +kernel, jk_tab (fun _ => js_St.ok st_bad) (show jk_all (js_Ok 40) 0 tb_40 from ⟨⟨ki_40_0, ⟨ki_40_1, ⟨ki_40_2, ⟨ki_40_3, ⟨ki_40_4, ⟨ki_40_5, ⟨kbad, ⟨ki_40_7, ⟨kbad, ⟨ki_40_9, ⟨kbad, ⟨ki_40_11, ⟨kbad, ⟨kbad, ⟨ki_40_14, ⟨ki_40_15, trivial⟩⟩⟩⟩⟩⟩⟩⟩⟩⟩⟩⟩⟩⟩⟩⟩, ⟨⟨kbad, ⟨ki_40_17, ⟨kbad, ⟨kbad, ⟨ki_40_20, ⟨kbad, ⟨kbad, ⟨ki_40_23, ⟨kbad, ⟨kbad, ⟨ki_40_26, ⟨ki_40_27, ⟨ki_40_28, ⟨kbad, ⟨ki_40_30, ⟨kbad, trivial⟩⟩⟩⟩⟩⟩⟩⟩⟩⟩⟩⟩⟩⟩⟩⟩, ⟨⟨kbad, ⟨ki_40_33, ⟨ki_40_34, ⟨ki_40_35, ⟨ki_40_36, ⟨kbad, ⟨kbad, ⟨ki_40_39, ⟨kbad, ⟨ki_40_41, ⟨kbad, ⟨ki_40_43, ⟨ki_40_44, ⟨kbad, ⟨kbad, ⟨ki_40_47, trivial⟩⟩⟩⟩⟩⟩⟩⟩⟩⟩⟩⟩⟩⟩⟩⟩, ⟨⟨kbad, ⟨ki_40_49, ⟨ki_40_50, ⟨kbad, ⟨ki_40_52, ⟨ki_40_53, ⟨kbad, ⟨kbad, ⟨ki_40_56, ⟨kbad, ⟨kbad, ⟨ki_40_59, ⟨ki_40_60, trivial⟩⟩⟩⟩⟩⟩⟩⟩⟩⟩⟩⟩⟩, trivial⟩⟩⟩⟩)⟩
set_option maxRecDepth 20000 in
theorem mk_41 : js_mok 41 := ⟨by decide +kernel, jk_tab (fun _ => js_St.ok st_bad) (show jk_all (js_Ok 41) 0 tb_41 from ⟨⟨ki_41_0, ⟨ki_41_1, ⟨ki_41_2, ⟨ki_41_3, ⟨kbad, ⟨ki_41_5, ⟨kbad, ⟨kbad, ⟨ki_41_8, ⟨ki_41_9, ⟨ki_41_10, ⟨kbad, ⟨kbad, ⟨ki_41_13, ⟨ki_41_14, ⟨ki_41_15, trivial⟩⟩⟩⟩⟩⟩⟩⟩⟩⟩⟩⟩⟩⟩⟩⟩, ⟨⟨ki_41_16, ⟨kbad, ⟨kbad, ⟨ki_41_19, ⟨ki_41_20, ⟨ki_41_21, ⟨ki_41_22, ⟨ki_41_23, ⟨ki_41_24, ⟨kbad, ⟨kbad, ⟨ki_41_27, ⟨ki_41_28, ⟨ki_41_29, ⟨ki_41_30, ⟨kbad, trivial⟩⟩⟩⟩⟩⟩⟩⟩⟩⟩⟩⟩⟩⟩⟩⟩, ⟨⟨kbad, ⟨ki_41_33, ⟨kbad, ⟨ki_41_35, ⟨kbad, ⟨ki_41_37, ⟨kbad, ⟨kbad, ⟨ki_41_40, ⟨ki_41_41, ⟨ki_41_42, ⟨ki_41_43, ⟨ki_41_44, ⟨kbad, ⟨ki_41_46, ⟨kbad, trivial⟩⟩⟩⟩⟩⟩⟩⟩⟩⟩⟩⟩⟩⟩⟩⟩, ⟨⟨kbad, ⟨ki_41_49, ⟨kbad, ⟨kbad, ⟨ki_41_52, ⟨kbad, ⟨kbad, ⟨ki_41_55, ⟨kbad, ⟨ki_41_57, trivial⟩⟩⟩⟩⟩⟩⟩⟩⟩⟩, trivial⟩⟩⟩⟩)⟩
set_option maxRecDepth 20000 in
theorem mk_42 : js_mok 42 := ⟨by decide +kernel, jk_tab (fun _ => js_St.ok st_bad) (show jk_all (js_Ok 42) 0 tb_42 from ⟨⟨ki_42_0, ⟨ki_42_1, ⟨kbad, ⟨kbad, ⟨ki_42_4, ⟨ki_42_5, ⟨kbad, ⟨ki_42_7, ⟨kbad, ⟨kbad, ⟨ki_42_10, ⟨kbad, ⟨kbad, ⟨ki_42_13, ⟨ki_42_14, ⟨ki_42_15, trivial⟩⟩⟩⟩⟩⟩⟩⟩⟩⟩⟩⟩⟩⟩⟩⟩, ⟨⟨ki_42_16, ⟨kbad, ⟨ki_42_18, ⟨kbad, ⟨kbad, ⟨ki_42_21, ⟨ki_42_22, ⟨kbad, ⟨kbad, ⟨ki_42_25, ⟨ki_42_26, ⟨kbad, ⟨kbad, ⟨ki_42_29, ⟨ki_42_30, ⟨kbad, trivial⟩⟩⟩⟩⟩⟩⟩⟩⟩⟩⟩⟩⟩⟩⟩⟩, ⟨⟨kbad, ⟨ki_42_33, ⟨ki_42_34, ⟨kbad, ⟨kbad, ⟨ki_42_37, ⟨kbad, ⟨kbad, ⟨ki_42_40, trivial⟩⟩⟩⟩⟩⟩⟩⟩⟩, trivial⟩⟩⟩)⟩
set_option maxRecDepth 20000 in
theorem mk_43 : js_mok 43 := ⟨by decide +kernel, jk_tab (fun _ => js_St.ok st_bad) (show jk_all (js_Ok 43) 0 tb_43 from ⟨⟨ki_43_0, ⟨ki_43_1, ⟨kbad, ⟨kbad, ⟨ki_43_4, ⟨ki_43_5, ⟨kbad, ⟨kbad, ⟨ki_43_8, trivial⟩⟩⟩⟩⟩⟩⟩⟩⟩, trivial⟩)⟩
set_option maxRecDepth 20000 in
theorem mk_44 : js_mok 44 := ⟨by decide +kernel, jk_tab (fun _ => js_St.ok st_bad) (show jk_all (js_Ok 44) 0 tb_44 from ⟨⟨ki_44_0, ⟨ki_44_1, ⟨kbad, ⟨kbad, ⟨ki_44_4, ⟨ki_44_5, ⟨kbad, ⟨kbad, ⟨ki_44_8, ⟨ki_44_9, trivial⟩⟩⟩⟩⟩⟩⟩⟩⟩⟩, trivial⟩)⟩
set_option maxRecDepth 20000 in
theorem mk_45 : js_mok 45 := ⟨by decide +kernel, jk_tab (fun _ => js_St.ok st_bad) (show jk_all (js_Ok 45) 0 tb_45 from ⟨⟨ki_45_0, ⟨ki_45_1, ⟨ki_45_2, ⟨kbad, ⟨kbad, ⟨ki_45_5, ⟨ki_45_6, ⟨ki_45_7, ⟨kbad, ⟨ki_45_9, ⟨ki_45_10, ⟨kbad, ⟨kbad, ⟨ki_45_13, ⟨ki_45_14, ⟨ki_45_15, trivial⟩⟩⟩⟩⟩⟩⟩⟩⟩⟩⟩⟩⟩⟩⟩⟩, ⟨⟨kbad, ⟨kbad, ⟨ki_45_18, ⟨ki_45_19, ⟨ki_45_20, ⟨kbad, ⟨ki_45_22, ⟨kbad, ⟨kbad, ⟨ki_45_25, ⟨kbad, ⟨kbad, ⟨ki_45_28, trivial⟩⟩⟩⟩⟩⟩⟩⟩⟩⟩⟩⟩⟩, trivial⟩⟩)⟩
set_option maxRecDepth 20000 in
theorem mk_46 : js_mok 46 := ⟨by decide +kernel, jk_tab (fun _ => js_St.ok st_bad) (show jk_all (js_Ok 46) 0 tb_46 from ⟨⟨ki_46_0, ⟨ki_46_1, ⟨ki_46_2, ⟨kbad, ⟨kbad, ⟨ki_46_5, ⟨kbad, ⟨ki_46_7, ⟨ki_46_8, ⟨ki_46_9, ⟨ki_46_10, ⟨kbad, ⟨ki_46_12, ⟨ki_46_13, ⟨kbad, ⟨kbad, trivial⟩⟩⟩⟩⟩⟩⟩⟩⟩⟩⟩⟩⟩⟩⟩⟩, ⟨⟨ki_46_16, ⟨ki_46_17, ⟨ki_46_18, ⟨kbad, ⟨kbad, ⟨ki_46_21, ⟨ki_46_22, ⟨ki_46_23, ⟨kbad, ⟨kbad, ⟨ki_46_26, ⟨ki_46_27, ⟨kbad, ⟨kbad, ⟨ki_46_30, ⟨ki_46_31, trivial⟩⟩⟩⟩⟩⟩⟩⟩⟩⟩⟩⟩⟩⟩⟩⟩, ⟨⟨kbad, ⟨kbad, ⟨ki_46_34, ⟨ki_46_35, trivial⟩⟩⟩⟩, trivial⟩⟩⟩)⟩
set_option maxRecDepth 20000 in
theorem mk_48 : js_mok 48 := ⟨by decide +kernel, jk_tab (fun _ => js_St.ok st_bad) (show jk_all (js_Ok 48) 0 tb_48 from ⟨⟨ki_48_0, ⟨ki_48_1, ⟨kbad, ⟨kbad, ⟨ki_48_4, ⟨ki_48_5, ⟨kbad, ⟨ki_48_7, ⟨kbad, ⟨ki_48_9, ⟨kbad, ⟨kbad, ⟨ki_48_12, ⟨ki_48_13, ⟨kbad, ⟨ki_48_15, trivial⟩⟩⟩⟩⟩⟩⟩⟩⟩⟩⟩⟩⟩⟩⟩⟩, ⟨⟨kbad, ⟨kbad, ⟨ki_48_18, ⟨kbad, ⟨kbad, ⟨ki_48_21, ⟨ki_48_22, ⟨ki_48_23, ⟨ki_48_24, ⟨kbad, ⟨ki_48_26, ⟨kbad, ⟨kbad, ⟨ki_48_29, ⟨ki_48_30, ⟨kbad, trivial⟩⟩⟩⟩⟩⟩⟩⟩⟩⟩⟩⟩⟩⟩⟩⟩, ⟨⟨kbad, ⟨ki_48_33, ⟨ki_48_34, ⟨kbad, ⟨kbad, ⟨ki_48_37, ⟨ki_48_38, ⟨kbad, ⟨kbad, ⟨ki_48_41, ⟨ki_48_42, ⟨kbad, ⟨kbad, ⟨ki_48_45, ⟨kbad, ⟨kbad, trivial⟩⟩⟩⟩⟩⟩⟩⟩⟩⟩⟩⟩⟩⟩⟩⟩, ⟨⟨ki_48_48, trivial⟩, trivial⟩⟩⟩⟩)⟩
set_option maxRecDepth 20000 in
theorem mk_49 : js_mok 49 := ⟨by decide +kernel, jk_tab (fun _ => js_St.ok st_bad) (show jk_all (js_Ok 49) 0 tb_49 from ⟨⟨ki_49_0, ⟨ki_49_1, ⟨kbad, ⟨kbad, ⟨ki_49_4, ⟨kbad, ⟨ki_49_6, ⟨kbad, ⟨kbad, ⟨ki_49_9, ⟨ki_49_10, ⟨kbad, ⟨kbad, ⟨ki_49_13, ⟨ki_49_14, trivial⟩⟩⟩⟩⟩⟩⟩⟩⟩⟩⟩⟩⟩⟩⟩, trivial⟩)⟩
set_option maxRecDepth 20000 in
theorem mk_50 : js_mok 50 := ⟨by decide +kernel, jk_tab (fun _ => js_St.ok st_bad) (show jk_all (js_Ok 50) 0 tb_50 from ⟨⟨ki_50_0, ⟨ki_50_1, ⟨kbad, ⟨kbad, ⟨ki_50_4, ⟨ki_50_5, ⟨kbad, ⟨kbad, ⟨ki_50_8, ⟨ki_50_9, ⟨ki_50_10, ⟨ki_50_11, ⟨ki_50_12, ⟨kbad, ⟨kbad, ⟨ki_50_15, trivial⟩⟩⟩⟩⟩⟩⟩⟩⟩⟩⟩⟩⟩⟩⟩⟩, ⟨⟨ki_50_16, ⟨ki_50_17, ⟨kbad, ⟨kbad, ⟨ki_50_20, ⟨ki_50_21, ⟨kbad, ⟨kbad, ⟨ki_50_24, trivial⟩⟩⟩⟩⟩⟩⟩⟩⟩, trivial⟩⟩)⟩
set_option maxRecDepth 20000 in
theorem mk_51 : js_mok 51 := ⟨by decide +kernel, jk_tab (fun _ => js_St.ok st_bad) (show jk_all (js_Ok 51) 0 tb_51 from ⟨⟨ki_51_0, ⟨ki_51_1, ⟨ki_51_2, ⟨kbad, ⟨kbad, ⟨ki_51_5, trivial⟩⟩⟩⟩⟩⟩, trivial⟩)⟩
set_option maxRecDepth 20000 in
theorem mk_52 : js_mok 52 := ⟨by decide +kernel, jk_tab (fun _ => js_St.ok st_bad) (show jk_all (js_Ok 52) 0 tb_52 from ⟨⟨ki_52_0, ⟨ki_52_1, ⟨ki_52_2, ⟨kbad, ⟨kbad, ⟨ki_52_5, ⟨ki_52_6, ⟨ki_52_7, ⟨ki_52_8, ⟨kbad, ⟨ki_52_10, ⟨kbad, ⟨kbad, ⟨ki_52_13, ⟨ki_52_14, ⟨ki_52_15, trivial⟩⟩⟩⟩⟩⟩⟩⟩⟩⟩⟩⟩⟩⟩⟩⟩, ⟨⟨kbad, ⟨kbad, ⟨ki_52_18, ⟨ki_52_19, ⟨ki_52_20, ⟨kbad, ⟨kbad, ⟨ki_52_23, ⟨kbad, ⟨kbad, ⟨ki_52_26, ⟨ki_52_27, ⟨ki_52_28, ⟨ki_52_29, ⟨kbad, ⟨kbad, trivial⟩⟩⟩⟩⟩⟩⟩⟩⟩⟩⟩⟩⟩⟩⟩⟩, ⟨⟨ki_52_32, ⟨ki_52_33, ⟨kbad, ⟨kbad, ⟨ki_52_36, ⟨kbad, ⟨kbad, ⟨ki_52_39, ⟨ki_52_40, ⟨ki_52_41, ⟨ki_52_42, ⟨ki_52_43, ⟨kbad, ⟨kbad, ⟨ki_52_46, ⟨ki_52_47, trivial⟩⟩⟩⟩⟩⟩⟩⟩⟩⟩⟩⟩⟩⟩⟩⟩, ⟨⟨ki_52_48, ⟨ki_52_49, ⟨kbad, ⟨ki_52_51, ⟨kbad, ⟨kbad, ⟨ki_52_54, ⟨ki_52_55, ⟨kbad, ⟨kbad, ⟨ki_52_58, ⟨ki_52_59, ⟨ki_52_60, ⟨kbad, ⟨kbad, ⟨ki_52_63, trivial⟩⟩⟩⟩⟩⟩⟩⟩⟩⟩⟩⟩⟩⟩⟩⟩, ⟨⟨kbad, ⟨kbad, ⟨ki_52_66, ⟨ki_52_67, trivial⟩⟩⟩⟩, trivial⟩⟩⟩⟩⟩)⟩
set_option maxRecDepth 20000 in
theorem mk_53 : js_mok 53 := ⟨by decide +kernel, jk_tab (fun _ => js_St.ok st_bad) (show jk_all (js_Ok 53) 0 tb_53 from ⟨⟨ki_53_0, ⟨ki_53_1, ⟨kbad, ⟨kbad, ⟨ki_53_4, ⟨ki_53_5, ⟨ki_53_6, ⟨kbad, ⟨kbad, ⟨ki_53_9, ⟨ki_53_10, ⟨ki_53_11, ⟨ki_53_12, ⟨ki_53_13, ⟨kbad, ⟨kbad, trivial⟩⟩⟩⟩⟩⟩⟩⟩⟩⟩⟩⟩⟩⟩⟩⟩, ⟨⟨ki_53_16, ⟨ki_53_17, ⟨ki_53_18, ⟨ki_53_19, ⟨ki_53_20, ⟨kbad, ⟨kbad, ⟨ki_53_23, ⟨kbad, ⟨kbad, ⟨ki_53_26, ⟨kbad, ⟨kbad, ⟨ki_53_29, ⟨ki_53_30, ⟨ki_53_31, trivial⟩⟩⟩⟩⟩⟩⟩⟩⟩⟩⟩⟩⟩⟩⟩⟩, ⟨⟨kbad, ⟨kbad, ⟨ki_53_34, ⟨ki_53_35, ⟨kbad, ⟨kbad, ⟨ki_53_38, ⟨ki_53_39, ⟨kbad, ⟨kbad, ⟨ki_53_42, ⟨kbad, ⟨ki_53_44, ⟨kbad, ⟨ki_53_46, ⟨kbad, trivial⟩⟩⟩⟩⟩⟩⟩⟩⟩⟩⟩⟩⟩⟩⟩⟩, ⟨⟨ki_53_48, ⟨kbad, ⟨kbad, ⟨ki_53_51, ⟨ki_53_52, ⟨kbad, ⟨kbad, ⟨ki_53_55, ⟨kbad, ⟨kbad, ⟨ki_53_58, ⟨ki_53_59, ⟨kbad, ⟨ki_53_61, ⟨kbad, ⟨kbad, trivial⟩⟩⟩⟩⟩⟩⟩⟩⟩⟩⟩⟩⟩⟩⟩⟩, ⟨⟨ki_53_64, ⟨kbad, ⟨ki_53_66, ⟨kbad, ⟨ki_53_68, ⟨ki_53_69, ⟨kbad, ⟨kbad, ⟨ki_53_72, ⟨ki_53_73, ⟨ki_53_74, ⟨ki_53_75, ⟨kbad, ⟨kbad, ⟨ki_53_78, ⟨ki_53_79, trivial⟩⟩⟩⟩⟩⟩⟩⟩⟩⟩⟩⟩⟩⟩⟩⟩, ⟨⟨kbad, ⟨ki_53_81, ⟨ki_53_82, ⟨kbad, ⟨kbad, ⟨ki_53_85, ⟨kbad, ⟨kbad, ⟨ki_53_88, ⟨ki_53_89, trivial⟩⟩⟩⟩⟩⟩⟩⟩⟩⟩, trivial⟩⟩⟩⟩⟩⟩)⟩
set_option maxRecDepth 20000 in
theorem mk_54 : js_mok 54 := ⟨by decide +kernel, jk_tab (fun _ => js_St.ok st_bad) (show jk_all (js_Ok 54) 0 tb_54 from ⟨⟨ki_54_0, ⟨ki_54_1, ⟨ki_54_2, ⟨ki_54_3, ⟨ki_54_4, ⟨ki_54_5, ⟨kbad, ⟨kbad, ⟨ki_54_8, ⟨ki_54_9, ⟨kbad, ⟨kbad, ⟨ki_54_12, ⟨kbad, ⟨kbad, ⟨ki_54_15, trivial⟩⟩⟩⟩⟩⟩⟩⟩⟩⟩⟩⟩⟩⟩⟩⟩, ⟨⟨ki_54_16, ⟨ki_54_17, ⟨kbad, ⟨kbad, ⟨ki_54_20, ⟨ki_54_21, ⟨ki_54_22, ⟨ki_54_23, ⟨kbad, ⟨kbad, ⟨ki_54_26, ⟨kbad, ⟨ki_54_28, ⟨kbad, ⟨ki_54_30, ⟨ki_54_31, trivial⟩⟩⟩⟩⟩⟩⟩⟩⟩⟩⟩⟩⟩⟩⟩⟩, ⟨⟨kbad, ⟨kbad, ⟨ki_54_34, ⟨kbad, ⟨kbad, ⟨ki_54_37, ⟨ki_54_38, ⟨ki_54_39, ⟨kbad, ⟨kbad, ⟨ki_54_42, ⟨kbad, ⟨ki_54_44, ⟨ki_54_45, ⟨kbad, ⟨kbad, trivial⟩⟩⟩⟩⟩⟩⟩⟩⟩⟩⟩⟩⟩⟩⟩⟩, ⟨⟨ki_54_48, ⟨kbad, ⟨kbad, ⟨ki_54_51, ⟨ki_54_52, ⟨ki_54_53, ⟨ki_54_54, ⟨ki_54_55, ⟨kbad, ⟨ki_54_57, ⟨kbad, ⟨kbad, ⟨ki_54_60, ⟨ki_54_61, ⟨kbad, ⟨kbad, trivial⟩⟩⟩⟩⟩⟩⟩⟩⟩⟩⟩⟩⟩⟩⟩⟩, ⟨⟨ki_54_64, ⟨kbad, ⟨kbad, ⟨ki_54_67, ⟨ki_54_68, ⟨ki_54_69, ⟨kbad, ⟨kbad, ⟨ki_54_72, ⟨ki_54_73, ⟨ki_54_74, ⟨kbad, ⟨kbad, ⟨ki_54_77, ⟨ki_54_78, trivial⟩⟩⟩⟩⟩⟩⟩⟩⟩⟩⟩⟩⟩⟩⟩, trivial⟩⟩⟩⟩⟩)⟩
end JS
