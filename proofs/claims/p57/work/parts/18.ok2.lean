section JS
theorem d_259_0 : decode (js_b 259) 0 = .ok (.aload_n 0, 1) := by decide +kernel
theorem d_259_1 : decode (js_b 259) 1 = .ok (.iload_n 1, 1) := by decide +kernel
theorem d_259_2 : decode (js_b 259) 2 = .ok (.invokespecial 53, 3) := by decide +kernel
theorem d_259_5 : decode (js_b 259) 5 = .ok (.pop, 1) := by decide +kernel
theorem d_259_6 : decode (js_b 259) 6 = .ok (.aload_n 0, 1) := by decide +kernel
theorem d_259_7 : decode (js_b 259) 7 = .ok (.areturn, 1) := by decide +kernel
theorem ki_259_7 : js_Ok 259 7 (o_rA) := ok_rA (Or.inl ⟨_, rfl⟩) rfl d_259_7
theorem ki_259_6 : js_Ok 259 6 (o_al 0 7) := js_St.ok (st_aloadn rfl d_259_6)
theorem ki_259_5 : js_Ok 259 5 (o_pop 6) := js_St.ok (st_pop d_259_5)
theorem ki_259_2 : js_Ok 259 2 (o_cA 263 2 9 5) := ok_cA (site_SU kk_259_263 rfl (by decide) kw_1214 kw_1215 kw_1474 kw_1035 d_259_2) rfl
theorem ki_259_1 : js_Ok 259 1 (o_il 1 2) := js_St.ok (st_iloadn rfl d_259_1)
theorem ki_259_0 : js_Ok 259 0 (o_al 0 1) := js_St.ok (st_aloadn rfl d_259_0)
theorem d_260_0 : decode (js_b 260) 0 = .ok (.new 18, 3) := by decide +kernel
theorem d_260_3 : decode (js_b 260) 3 = .ok (.dup, 1) := by decide +kernel
theorem d_260_4 : decode (js_b 260) 4 = .ok (.aload_n 0, 1) := by decide +kernel
theorem d_260_5 : decode (js_b 260) 5 = .ok (.invokespecial 137, 3) := by decide +kernel
theorem d_260_8 : decode (js_b 260) 8 = .ok (.areturn, 1) := by decide +kernel
theorem ki_260_8 : js_Ok 260 8 (o_rA) := ok_rA (Or.inl ⟨_, rfl⟩) rfl d_260_8
theorem ki_260_5 : js_Ok 260 5 (o_cV 274 2 21 8) := ok_cV (site_I kk_260_274 (by decide) rfl rfl kw_1177 kw_1178 d_260_5) rfl
theorem ki_260_4 : js_Ok 260 4 (o_al 0 5) := js_St.ok (st_aloadn rfl d_260_4)
theorem ki_260_3 : js_Ok 260 3 (o_dup 4) := js_St.ok (st_dup d_260_3)
theorem ki_260_0 : js_Ok 260 0 (o_new 20 [.null, .int 0, .int 0, .int 0] 3) := js_St.ok (st_new js_c20 rfl (by decide +kernel) (fun _ => rfl) kw_1176 kw_485 kw_42 d_260_0)
theorem d_261_0 : decode (js_b 261) 0 = .ok (.aload_n 1, 1) := by decide +kernel
theorem d_261_1 : decode (js_b 261) 1 = .ok (.ifnonnull 8, 3) := by decide +kernel
theorem d_261_4 : decode (js_b 261) 4 = .ok (.aload_n 0, 1) := by decide +kernel
theorem d_261_5 : decode (js_b 261) 5 = .ok (.invokevirtual 204, 3) := by decide +kernel
theorem d_261_9 : decode (js_b 261) 9 = .ok (.aload_n 1, 1) := by decide +kernel
theorem d_261_10 : decode (js_b 261) 10 = .ok (.invokevirtual 32, 3) := by decide +kernel
theorem d_261_13 : decode (js_b 261) 13 = .ok (.istore_n 2, 1) := by decide +kernel
theorem d_261_14 : decode (js_b 261) 14 = .ok (.aload_n 0, 1) := by decide +kernel
theorem d_261_15 : decode (js_b 261) 15 = .ok (.aload_n 0, 1) := by decide +kernel
theorem d_261_16 : decode (js_b 261) 16 = .ok (.getfield 79, 3) := by decide +kernel
theorem d_261_19 : decode (js_b 261) 19 = .ok (.iload_n 2, 1) := by decide +kernel
theorem d_261_20 : decode (js_b 261) 20 = .ok (.iadd, 1) := by decide +kernel
theorem d_261_21 : decode (js_b 261) 21 = .ok (.invokevirtual 100, 3) := by decide +kernel
theorem d_261_24 : decode (js_b 261) 24 = .ok (.aload_n 0, 1) := by decide +kernel
theorem d_261_25 : decode (js_b 261) 25 = .ok (.aload_n 0, 1) := by decide +kernel
theorem d_261_26 : decode (js_b 261) 26 = .ok (.getfield 79, 3) := by decide +kernel
theorem d_261_29 : decode (js_b 261) 29 = .ok (.aload_n 1, 1) := by decide +kernel
theorem d_261_30 : decode (js_b 261) 30 = .ok (.invokevirtual 208, 3) := by decide +kernel
theorem d_261_33 : decode (js_b 261) 33 = .ok (.aload_n 0, 1) := by decide +kernel
theorem d_261_34 : decode (js_b 261) 34 = .ok (.dup, 1) := by decide +kernel
theorem d_261_35 : decode (js_b 261) 35 = .ok (.getfield 79, 3) := by decide +kernel
theorem d_261_38 : decode (js_b 261) 38 = .ok (.iload_n 2, 1) := by decide +kernel
theorem d_261_39 : decode (js_b 261) 39 = .ok (.iadd, 1) := by decide +kernel
theorem d_261_40 : decode (js_b 261) 40 = .ok (.putfield 79, 3) := by decide +kernel
theorem d_261_43 : decode (js_b 261) 43 = .ok (.aload_n 0, 1) := by decide +kernel
theorem d_261_44 : decode (js_b 261) 44 = .ok (.areturn, 1) := by decide +kernel
theorem ki_261_15 : js_Ok 261 15 (o_al 0 16) := js_St.ok (st_aloadn rfl d_261_15)
theorem ki_261_14 : js_Ok 261 14 (o_al 0 15) := js_St.ok (st_aloadn rfl d_261_14)
theorem ki_261_13 : js_Ok 261 13 (o_is 2 14) := js_St.ok (st_istoren rfl (Nat.le_of_ble_eq_true rfl) d_261_13)
theorem ki_261_10 : js_Ok 261 10 (o_cI 248 1 21 13) := ok_cI (site_V kk_261_248 (by decide) kw_1107 kw_1108 kw_1109 (fun t ht => by cases ht; exact Or.inr (Or.inl ⟨rfl, rfl⟩)) d_261_10) rfl
theorem ki_261_9 : js_Ok 261 9 (o_al 1 10) := js_St.ok (st_aloadn rfl d_261_9)
theorem ki_261_5 : js_Ok 261 5 (o_bad) := js_St.ok st_bad
theorem ki_261_4 : js_Ok 261 4 (o_al 0 5) := js_St.ok (st_aloadn rfl d_261_4)
theorem ki_261_1 : js_Ok 261 1 (o_nnl 9 4) := js_St.ok (st_ifnonnull (by decide) d_261_1)
theorem ki_261_0 : js_Ok 261 0 (o_al 1 1) := js_St.ok (st_aloadn rfl d_261_0)
theorem ki_261_30 : js_Ok 261 30 (o_cV 271 3 9 33) := ok_cV (site_U kk_261_271 (by decide) rfl kw_1116 kw_1470 kxs_2 kw_1118 rfl (fun t ht => by cases ht; exact Or.inl ⟨by decide, _, rfl, rfl⟩) d_261_30) rfl
theorem ki_261_29 : js_Ok 261 29 (o_al 1 30) := js_St.ok (st_aloadn rfl d_261_29)
theorem ki_261_26 : js_Ok 261 26 (o_gI 8 3 29) := js_St.ok (st_gI js_c8 (by decide) (by decide) kw_1026 d_261_26)
theorem ki_261_25 : js_Ok 261 25 (o_al 0 26) := js_St.ok (st_aloadn rfl d_261_25)
theorem ki_261_24 : js_Ok 261 24 (o_al 0 25) := js_St.ok (st_aloadn rfl d_261_24)
theorem ki_261_21 : js_Ok 261 21 (o_cV 264 2 9 24) := ok_cV (site_U kk_261_264 (by decide) rfl kw_1047 kw_1468 kxs_0 kw_1049 rfl (fun t ht => by cases ht; exact Or.inl ⟨by decide, _, rfl, rfl⟩) d_261_21) rfl
theorem ki_261_20 : js_Ok 261 20 (o_b2 (fun x y => x + y) 21) := js_St.ok (st_iadd d_261_20)
theorem ki_261_19 : js_Ok 261 19 (o_il 2 20) := js_St.ok (st_iloadn rfl d_261_19)
theorem ki_261_16 : js_Ok 261 16 (o_gI 8 3 19) := js_St.ok (st_gI js_c8 (by decide) (by decide) kw_1026 d_261_16)
theorem ki_261_44 : js_Ok 261 44 (o_rA) := ok_rA (Or.inl ⟨_, rfl⟩) rfl d_261_44
theorem ki_261_43 : js_Ok 261 43 (o_al 0 44) := js_St.ok (st_aloadn rfl d_261_43)
theorem ki_261_40 : js_Ok 261 40 (o_pI 8 3 43) := js_St.ok (st_pIown js_c8 (by decide) rfl kw_1026 (js_c8.2.2.1 3 (by decide)) d_261_40)
theorem ki_261_39 : js_Ok 261 39 (o_b2 (fun x y => x + y) 40) := js_St.ok (st_iadd d_261_39)
theorem ki_261_38 : js_Ok 261 38 (o_il 2 39) := js_St.ok (st_iloadn rfl d_261_38)
theorem ki_261_35 : js_Ok 261 35 (o_gI 8 3 38) := js_St.ok (st_gI js_c8 (by decide) (by decide) kw_1026 d_261_35)
theorem ki_261_34 : js_Ok 261 34 (o_dup 35) := js_St.ok (st_dup d_261_34)
theorem ki_261_33 : js_Ok 261 33 (o_al 0 34) := js_St.ok (st_aloadn rfl d_261_33)
theorem d_262_0 : decode (js_b 262) 0 = .ok (.aload_n 0, 1) := by decide +kernel
theorem d_262_1 : decode (js_b 262) 1 = .ok (.aload_n 0, 1) := by decide +kernel
theorem d_262_2 : decode (js_b 262) 2 = .ok (.getfield 79, 3) := by decide +kernel
theorem d_262_5 : decode (js_b 262) 5 = .ok (.iconst 1, 1) := by decide +kernel
theorem d_262_6 : decode (js_b 262) 6 = .ok (.iadd, 1) := by decide +kernel
theorem d_262_7 : decode (js_b 262) 7 = .ok (.invokevirtual 100, 3) := by decide +kernel
theorem d_262_10 : decode (js_b 262) 10 = .ok (.aload_n 0, 1) := by decide +kernel
theorem d_262_11 : decode (js_b 262) 11 = .ok (.invokevirtual 83, 3) := by decide +kernel
theorem d_262_14 : decode (js_b 262) 14 = .ok (.ifCond .eq 31, 3) := by decide +kernel
theorem d_262_17 : decode (js_b 262) 17 = .ok (.iload_n 1, 1) := by decide +kernel
theorem d_262_18 : decode (js_b 262) 18 = .ok (.invokestatic 191, 3) := by decide +kernel
theorem d_262_21 : decode (js_b 262) 21 = .ok (.ifCond .eq 24, 3) := by decide +kernel
theorem d_262_24 : decode (js_b 262) 24 = .ok (.aload_n 0, 1) := by decide +kernel
theorem d_262_25 : decode (js_b 262) 25 = .ok (.getfield 15, 3) := by decide +kernel
theorem d_262_28 : decode (js_b 262) 28 = .ok (.aload_n 0, 1) := by decide +kernel
theorem d_262_29 : decode (js_b 262) 29 = .ok (.dup, 1) := by decide +kernel
theorem d_262_30 : decode (js_b 262) 30 = .ok (.getfield 79, 3) := by decide +kernel
theorem d_262_33 : decode (js_b 262) 33 = .ok (.dup_x1, 1) := by decide +kernel
theorem d_262_34 : decode (js_b 262) 34 = .ok (.iconst 1, 1) := by decide +kernel
theorem d_262_35 : decode (js_b 262) 35 = .ok (.iadd, 1) := by decide +kernel
theorem d_262_36 : decode (js_b 262) 36 = .ok (.putfield 79, 3) := by decide +kernel
theorem d_262_39 : decode (js_b 262) 39 = .ok (.iload_n 1, 1) := by decide +kernel
theorem d_262_40 : decode (js_b 262) 40 = .ok (.i2b, 1) := by decide +kernel
theorem d_262_41 : decode (js_b 262) 41 = .ok (.bastore, 1) := by decide +kernel
theorem d_262_42 : decode (js_b 262) 42 = .ok (.goto 33, 3) := by decide +kernel
theorem d_262_45 : decode (js_b 262) 45 = .ok (.aload_n 0, 1) := by decide +kernel
theorem d_262_46 : decode (js_b 262) 46 = .ok (.invokevirtual 83, 3) := by decide +kernel
theorem d_262_49 : decode (js_b 262) 49 = .ok (.ifCond .eq 7, 3) := by decide +kernel
theorem d_262_52 : decode (js_b 262) 52 = .ok (.aload_n 0, 1) := by decide +kernel
theorem d_262_53 : decode (js_b 262) 53 = .ok (.invokevirtual 195, 3) := by decide +kernel
theorem d_262_56 : decode (js_b 262) 56 = .ok (.aload_n 0, 1) := by decide +kernel
theorem d_262_57 : decode (js_b 262) 57 = .ok (.getfield 15, 3) := by decide +kernel
theorem d_262_60 : decode (js_b 262) 60 = .ok (.aload_n 0, 1) := by decide +kernel
theorem d_262_61 : decode (js_b 262) 61 = .ok (.dup, 1) := by decide +kernel
theorem d_262_62 : decode (js_b 262) 62 = .ok (.getfield 79, 3) := by decide +kernel
theorem d_262_65 : decode (js_b 262) 65 = .ok (.dup_x1, 1) := by decide +kernel
theorem d_262_66 : decode (js_b 262) 66 = .ok (.iconst 1, 1) := by decide +kernel
theorem d_262_67 : decode (js_b 262) 67 = .ok (.iadd, 1) := by decide +kernel
theorem d_262_68 : decode (js_b 262) 68 = .ok (.putfield 79, 3) := by decide +kernel
theorem d_262_71 : decode (js_b 262) 71 = .ok (.iload_n 1, 1) := by decide +kernel
theorem d_262_72 : decode (js_b 262) 72 = .ok (.invokestatic 197, 3) := by decide +kernel
theorem d_262_75 : decode (js_b 262) 75 = .ok (.aload_n 0, 1) := by decide +kernel
theorem d_262_76 : decode (js_b 262) 76 = .ok (.areturn, 1) := by decide +kernel
theorem ki_262_14 : js_Ok 262 14 (o_eq 45 17) := js_St.ok (st_ifeq (by decide) d_262_14)
theorem ki_262_11 : js_Ok 262 11 (o_cI 266 1 9 14) := ok_cI (site_U kk_262_266 (by decide) rfl kw_1076 kw_1078 kw_1079 kw_1077 rfl (fun t ht => by cases ht; exact Or.inl ⟨by decide, _, rfl, rfl⟩) d_262_11) rfl
theorem ki_262_10 : js_Ok 262 10 (o_al 0 11) := js_St.ok (st_aloadn rfl d_262_10)
theorem ki_262_7 : js_Ok 262 7 (o_cV 264 2 9 10) := ok_cV (site_U kk_262_264 (by decide) rfl kw_1047 kw_1468 kxs_0 kw_1049 rfl (fun t ht => by cases ht; exact Or.inl ⟨by decide, _, rfl, rfl⟩) d_262_7) rfl
theorem ki_262_6 : js_Ok 262 6 (o_b2 (fun x y => x + y) 7) := js_St.ok (st_iadd d_262_6)
theorem ki_262_5 : js_Ok 262 5 (o_ic 1 6) := js_St.ok (st_iconst rfl d_262_5)
theorem ki_262_2 : js_Ok 262 2 (o_gI 8 3 5) := js_St.ok (st_gI js_c8 (by decide) (by decide) kw_1026 d_262_2)
theorem ki_262_1 : js_Ok 262 1 (o_al 0 2) := js_St.ok (st_aloadn rfl d_262_1)
theorem ki_262_0 : js_Ok 262 0 (o_al 0 1) := js_St.ok (st_aloadn rfl d_262_0)
theorem ki_262_30 : js_Ok 262 30 (o_gI 8 3 33) := js_St.ok (st_gI js_c8 (by decide) (by decide) kw_1026 d_262_30)
theorem ki_262_29 : js_Ok 262 29 (o_dup 30) := js_St.ok (st_dup d_262_29)
theorem ki_262_28 : js_Ok 262 28 (o_al 0 29) := js_St.ok (st_aloadn rfl d_262_28)
theorem ki_262_25 : js_Ok 262 25 (o_gA 8 0 28) := js_St.ok (st_gA js_c8 (by decide) (by decide) kw_1023 d_262_25)
theorem ki_262_24 : js_Ok 262 24 (o_al 0 25) := js_St.ok (st_aloadn rfl d_262_24)
theorem ki_262_21 : js_Ok 262 21 (o_eq 45 24) := js_St.ok (st_ifeq (by decide) d_262_21)
theorem ki_262_18 : js_Ok 262 18 (o_cI 277 1 0 21) := ok_cI (site_S kk_262_277 kw_1157 kw_1158 d_262_18) rfl
theorem ki_262_17 : js_Ok 262 17 (o_il 1 18) := js_St.ok (st_iloadn rfl d_262_17)
theorem ki_262_46 : js_Ok 262 46 (o_cI 266 1 9 49) := ok_cI (site_U kk_262_266 (by decide) rfl kw_1076 kw_1078 kw_1079 kw_1077 rfl (fun t ht => by cases ht; exact Or.inl ⟨by decide, _, rfl, rfl⟩) d_262_46) rfl
theorem ki_262_45 : js_Ok 262 45 (o_al 0 46) := js_St.ok (st_aloadn rfl d_262_45)
theorem ki_262_42 : js_Ok 262 42 (o_go 75) := js_St.ok (st_goto (by decide) d_262_42)
theorem ki_262_41 : js_Ok 262 41 (o_sB 104 42) := js_St.ok (st_sB d_262_41)
theorem ki_262_40 : js_Ok 262 40 (o_u (fun x => x.toInt8.toInt32) 41) := js_St.ok (st_i2b d_262_40)
theorem ki_262_39 : js_Ok 262 39 (o_il 1 40) := js_St.ok (st_iloadn rfl d_262_39)
theorem ki_262_36 : js_Ok 262 36 (o_pI 8 3 39) := js_St.ok (st_pIown js_c8 (by decide) rfl kw_1026 (js_c8.2.2.1 3 (by decide)) d_262_36)
theorem ki_262_35 : js_Ok 262 35 (o_b2 (fun x y => x + y) 36) := js_St.ok (st_iadd d_262_35)
theorem ki_262_34 : js_Ok 262 34 (o_ic 1 35) := js_St.ok (st_iconst rfl d_262_34)
theorem ki_262_33 : js_Ok 262 33 (o_dx1 34) := js_St.ok (st_dup_x1 d_262_33)
theorem ki_262_62 : js_Ok 262 62 (o_gI 8 3 65) := js_St.ok (st_gI js_c8 (by decide) (by decide) kw_1026 d_262_62)
theorem ki_262_61 : js_Ok 262 61 (o_dup 62) := js_St.ok (st_dup d_262_61)
theorem ki_262_60 : js_Ok 262 60 (o_al 0 61) := js_St.ok (st_aloadn rfl d_262_60)
theorem ki_262_57 : js_Ok 262 57 (o_gA 8 0 60) := js_St.ok (st_gA js_c8 (by decide) (by decide) kw_1023 d_262_57)
theorem ki_262_56 : js_Ok 262 56 (o_al 0 57) := js_St.ok (st_aloadn rfl d_262_56)
theorem ki_262_53 : js_Ok 262 53 (o_bad) := js_St.ok st_bad
theorem ki_262_52 : js_Ok 262 52 (o_al 0 53) := js_St.ok (st_aloadn rfl d_262_52)
theorem ki_262_49 : js_Ok 262 49 (o_eq 56 52) := js_St.ok (st_ifeq (by decide) d_262_49)
theorem ki_262_76 : js_Ok 262 76 (o_rA) := ok_rA (Or.inl ⟨_, rfl⟩) rfl d_262_76
theorem ki_262_75 : js_Ok 262 75 (o_al 0 76) := js_St.ok (st_aloadn rfl d_262_75)
theorem ki_262_72 : js_Ok 262 72 (o_bad) := js_St.ok st_bad
theorem ki_262_71 : js_Ok 262 71 (o_il 1 72) := js_St.ok (st_iloadn rfl d_262_71)
theorem ki_262_68 : js_Ok 262 68 (o_pI 8 3 71) := js_St.ok (st_pIown js_c8 (by decide) rfl kw_1026 (js_c8.2.2.1 3 (by decide)) d_262_68)
theorem ki_262_67 : js_Ok 262 67 (o_b2 (fun x y => x + y) 68) := js_St.ok (st_iadd d_262_67)
theorem ki_262_66 : js_Ok 262 66 (o_ic 1 67) := js_St.ok (st_iconst rfl d_262_66)
theorem ki_262_65 : js_Ok 262 65 (o_dx1 66) := js_St.ok (st_dup_x1 d_262_65)
theorem d_263_0 : decode (js_b 263) 0 = .ok (.aload_n 0, 1) := by decide +kernel
theorem d_263_1 : decode (js_b 263) 1 = .ok (.getfield 79, 3) := by decide +kernel
theorem d_263_4 : decode (js_b 263) 4 = .ok (.istore_n 2, 1) := by decide +kernel
theorem d_263_5 : decode (js_b 263) 5 = .ok (.iload_n 2, 1) := by decide +kernel
theorem d_263_6 : decode (js_b 263) 6 = .ok (.iload_n 1, 1) := by decide +kernel
theorem d_263_7 : decode (js_b 263) 7 = .ok (.invokestatic 245, 3) := by decide +kernel
theorem d_263_10 : decode (js_b 263) 10 = .ok (.iadd, 1) := by decide +kernel
theorem d_263_11 : decode (js_b 263) 11 = .ok (.istore_n 3, 1) := by decide +kernel
theorem d_263_12 : decode (js_b 263) 12 = .ok (.aload_n 0, 1) := by decide +kernel
theorem d_263_13 : decode (js_b 263) 13 = .ok (.iload_n 3, 1) := by decide +kernel
theorem d_263_14 : decode (js_b 263) 14 = .ok (.invokevirtual 100, 3) := by decide +kernel
theorem d_263_17 : decode (js_b 263) 17 = .ok (.aload_n 0, 1) := by decide +kernel
theorem d_263_18 : decode (js_b 263) 18 = .ok (.invokevirtual 83, 3) := by decide +kernel
theorem d_263_21 : decode (js_b 263) 21 = .ok (.ifCond .eq 16, 3) := by decide +kernel
theorem d_263_24 : decode (js_b 263) 24 = .ok (.iload_n 1, 1) := by decide +kernel
theorem d_263_25 : decode (js_b 263) 25 = .ok (.iload_n 3, 1) := by decide +kernel
theorem d_263_26 : decode (js_b 263) 26 = .ok (.aload_n 0, 1) := by decide +kernel
theorem d_263_27 : decode (js_b 263) 27 = .ok (.getfield 15, 3) := by decide +kernel
theorem d_263_30 : decode (js_b 263) 30 = .ok (.invokestatic 248, 3) := by decide +kernel
theorem d_263_33 : decode (js_b 263) 33 = .ok (.pop, 1) := by decide +kernel
theorem d_263_34 : decode (js_b 263) 34 = .ok (.goto 14, 3) := by decide +kernel
theorem d_263_37 : decode (js_b 263) 37 = .ok (.iload_n 1, 1) := by decide +kernel
theorem d_263_38 : decode (js_b 263) 38 = .ok (.iload_n 2, 1) := by decide +kernel
theorem d_263_39 : decode (js_b 263) 39 = .ok (.iload_n 3, 1) := by decide +kernel
theorem d_263_40 : decode (js_b 263) 40 = .ok (.aload_n 0, 1) := by decide +kernel
theorem d_263_41 : decode (js_b 263) 41 = .ok (.getfield 15, 3) := by decide +kernel
theorem d_263_44 : decode (js_b 263) 44 = .ok (.invokestatic 251, 3) := by decide +kernel
theorem d_263_48 : decode (js_b 263) 48 = .ok (.aload_n 0, 1) := by decide +kernel
theorem d_263_49 : decode (js_b 263) 49 = .ok (.iload_n 3, 1) := by decide +kernel
theorem d_263_50 : decode (js_b 263) 50 = .ok (.putfield 79, 3) := by decide +kernel
theorem d_263_53 : decode (js_b 263) 53 = .ok (.aload_n 0, 1) := by decide +kernel
theorem d_263_54 : decode (js_b 263) 54 = .ok (.areturn, 1) := by decide +kernel
theorem ki_263_14 : js_Ok 263 14 (o_cV 264 2 9 17) := ok_cV (site_U kk_263_264 (by decide) rfl kw_1047 kw_1468 kxs_0 kw_1049 rfl (fun t ht => by cases ht; exact Or.inl ⟨by decide, _, rfl, rfl⟩) d_263_14) rfl
theorem ki_263_13 : js_Ok 263 13 (o_il 3 14) := js_St.ok (st_iloadn rfl d_263_13)
theorem ki_263_12 : js_Ok 263 12 (o_al 0 13) := js_St.ok (st_aloadn rfl d_263_12)
theorem ki_263_11 : js_Ok 263 11 (o_is 3 12) := js_St.ok (st_istoren rfl (Nat.le_of_ble_eq_true rfl) d_263_11)
theorem ki_263_10 : js_Ok 263 10 (o_b2 (fun x y => x + y) 11) := js_St.ok (st_iadd d_263_10)
theorem ki_263_7 : js_Ok 263 7 (o_cI 272 1 0 10) := ok_cI (site_S kk_263_272 kw_1217 kw_1218 d_263_7) rfl
theorem ki_263_6 : js_Ok 263 6 (o_il 1 7) := js_St.ok (st_iloadn rfl d_263_6)
theorem ki_263_5 : js_Ok 263 5 (o_il 2 6) := js_St.ok (st_iloadn rfl d_263_5)
theorem ki_263_4 : js_Ok 263 4 (o_is 2 5) := js_St.ok (st_istoren rfl (Nat.le_of_ble_eq_true rfl) d_263_4)
theorem ki_263_1 : js_Ok 263 1 (o_gI 8 3 4) := js_St.ok (st_gI js_c8 (by decide) (by decide) kw_1026 d_263_1)
theorem ki_263_0 : js_Ok 263 0 (o_al 0 1) := js_St.ok (st_aloadn rfl d_263_0)
theorem ki_263_30 : js_Ok 263 30 (o_cI 273 3 0 33) := ok_cI (site_S kk_263_273 kw_1220 kw_1221 d_263_30) rfl
theorem ki_263_27 : js_Ok 263 27 (o_gA 8 0 30) := js_St.ok (st_gA js_c8 (by decide) (by decide) kw_1023 d_263_27)
theorem ki_263_26 : js_Ok 263 26 (o_al 0 27) := js_St.ok (st_aloadn rfl d_263_26)
theorem ki_263_25 : js_Ok 263 25 (o_il 3 26) := js_St.ok (st_iloadn rfl d_263_25)
theorem ki_263_24 : js_Ok 263 24 (o_il 1 25) := js_St.ok (st_iloadn rfl d_263_24)
theorem ki_263_21 : js_Ok 263 21 (o_eq 37 24) := js_St.ok (st_ifeq (by decide) d_263_21)
theorem ki_263_18 : js_Ok 263 18 (o_cI 266 1 9 21) := ok_cI (site_U kk_263_266 (by decide) rfl kw_1076 kw_1078 kw_1079 kw_1077 rfl (fun t ht => by cases ht; exact Or.inl ⟨by decide, _, rfl, rfl⟩) d_263_18) rfl
theorem ki_263_17 : js_Ok 263 17 (o_al 0 18) := js_St.ok (st_aloadn rfl d_263_17)
theorem ki_263_44 : js_Ok 263 44 (o_bad) := js_St.ok st_bad
theorem ki_263_41 : js_Ok 263 41 (o_gA 8 0 44) := js_St.ok (st_gA js_c8 (by decide) (by decide) kw_1023 d_263_41)
theorem ki_263_40 : js_Ok 263 40 (o_al 0 41) := js_St.ok (st_aloadn rfl d_263_40)
theorem ki_263_39 : js_Ok 263 39 (o_il 3 40) := js_St.ok (st_iloadn rfl d_263_39)
theorem ki_263_38 : js_Ok 263 38 (o_il 2 39) := js_St.ok (st_iloadn rfl d_263_38)
theorem ki_263_37 : js_Ok 263 37 (o_il 1 38) := js_St.ok (st_iloadn rfl d_263_37)
theorem ki_263_34 : js_Ok 263 34 (o_go 48) := js_St.ok (st_goto (by decide) d_263_34)
theorem ki_263_33 : js_Ok 263 33 (o_pop 34) := js_St.ok (st_pop d_263_33)
theorem ki_263_54 : js_Ok 263 54 (o_rA) := ok_rA (Or.inl ⟨_, rfl⟩) rfl d_263_54
theorem ki_263_53 : js_Ok 263 53 (o_al 0 54) := js_St.ok (st_aloadn rfl d_263_53)
theorem ki_263_50 : js_Ok 263 50 (o_pI 8 3 53) := js_St.ok (st_pIown js_c8 (by decide) rfl kw_1026 (js_c8.2.2.1 3 (by decide)) d_263_50)
theorem ki_263_49 : js_Ok 263 49 (o_il 3 50) := js_St.ok (st_iloadn rfl d_263_49)
theorem ki_263_48 : js_Ok 263 48 (o_al 0 49) := js_St.ok (st_aloadn rfl d_263_48)
theorem d_264_0 : decode (js_b 264) 0 = .ok (.aload_n 0, 1) := by decide +kernel
theorem d_264_1 : decode (js_b 264) 1 = .ok (.getfield 15, 3) := by decide +kernel
theorem d_264_4 : decode (js_b 264) 4 = .ok (.arraylength, 1) := by decide +kernel
theorem d_264_5 : decode (js_b 264) 5 = .ok (.aload_n 0, 1) := by decide +kernel
theorem d_264_6 : decode (js_b 264) 6 = .ok (.getfield 22, 3) := by decide +kernel
theorem d_264_9 : decode (js_b 264) 9 = .ok (.ishr, 1) := by decide +kernel
theorem d_264_10 : decode (js_b 264) 10 = .ok (.istore_n 2, 1) := by decide +kernel
theorem d_264_11 : decode (js_b 264) 11 = .ok (.iload_n 1, 1) := by decide +kernel
theorem d_264_12 : decode (js_b 264) 12 = .ok (.iload_n 2, 1) := by decide +kernel
theorem d_264_13 : decode (js_b 264) 13 = .ok (.isub, 1) := by decide +kernel
theorem d_264_14 : decode (js_b 264) 14 = .ok (.ifCond .le 24, 3) := by decide +kernel
theorem d_264_17 : decode (js_b 264) 17 = .ok (.aload_n 0, 1) := by decide +kernel
theorem d_264_18 : decode (js_b 264) 18 = .ok (.aload_n 0, 1) := by decide +kernel
theorem d_264_19 : decode (js_b 264) 19 = .ok (.getfield 15, 3) := by decide +kernel
theorem d_264_22 : decode (js_b 264) 22 = .ok (.aload_n 0, 1) := by decide +kernel
theorem d_264_23 : decode (js_b 264) 23 = .ok (.iload_n 1, 1) := by decide +kernel
theorem d_264_24 : decode (js_b 264) 24 = .ok (.invokevirtual 104, 3) := by decide +kernel
theorem d_264_27 : decode (js_b 264) 27 = .ok (.aload_n 0, 1) := by decide +kernel
theorem d_264_28 : decode (js_b 264) 28 = .ok (.getfield 22, 3) := by decide +kernel
theorem d_264_31 : decode (js_b 264) 31 = .ok (.ishl, 1) := by decide +kernel
theorem d_264_32 : decode (js_b 264) 32 = .ok (.invokestatic 108, 3) := by decide +kernel
theorem d_264_35 : decode (js_b 264) 35 = .ok (.putfield 15, 3) := by decide +kernel
theorem d_264_38 : decode (js_b 264) 38 = .ok (.return_, 1) := by decide +kernel
theorem ki_264_14 : js_Ok 264 14 (o_le 38 17) := js_St.ok (st_ifle (by decide) d_264_14)
theorem ki_264_13 : js_Ok 264 13 (o_b2 (fun x y => x - y) 14) := js_St.ok (st_isub d_264_13)
theorem ki_264_12 : js_Ok 264 12 (o_il 2 13) := js_St.ok (st_iloadn rfl d_264_12)
theorem ki_264_11 : js_Ok 264 11 (o_il 1 12) := js_St.ok (st_iloadn rfl d_264_11)
theorem ki_264_10 : js_Ok 264 10 (o_is 2 11) := js_St.ok (st_istoren rfl (Nat.le_of_ble_eq_true rfl) d_264_10)
theorem ki_264_9 : js_Ok 264 9 (o_b2 (fun x y => x >>> (y &&& 31)) 10) := js_St.ok (st_ishr d_264_9)
theorem ki_264_6 : js_Ok 264 6 (o_gI 8 1 9) := js_St.ok (st_gI js_c8 (by decide) (by decide) kw_1024 d_264_6)
theorem ki_264_5 : js_Ok 264 5 (o_al 0 6) := js_St.ok (st_aloadn rfl d_264_5)
theorem ki_264_4 : js_Ok 264 4 (o_len 5) := js_St.ok (st_len d_264_4)
theorem ki_264_1 : js_Ok 264 1 (o_gA 8 0 4) := js_St.ok (st_gA js_c8 (by decide) (by decide) kw_1023 d_264_1)
theorem ki_264_0 : js_Ok 264 0 (o_al 0 1) := js_St.ok (st_aloadn rfl d_264_0)
theorem ki_264_31 : js_Ok 264 31 (o_b2 (fun x y => x <<< (y &&& 31)) 32) := js_St.ok (st_ishl d_264_31)
theorem ki_264_28 : js_Ok 264 28 (o_gI 8 1 31) := js_St.ok (st_gI js_c8 (by decide) (by decide) kw_1024 d_264_28)
theorem ki_264_27 : js_Ok 264 27 (o_al 0 28) := js_St.ok (st_aloadn rfl d_264_27)
theorem ki_264_24 : js_Ok 264 24 (o_cI 265 2 9 27) := ok_cI (site_U kk_264_265 (by decide) rfl kw_1051 kw_1469 kxs_1 kw_1053 rfl (fun t ht => by cases ht; exact Or.inl ⟨by decide, _, rfl, rfl⟩) d_264_24) rfl
theorem ki_264_23 : js_Ok 264 23 (o_il 1 24) := js_St.ok (st_iloadn rfl d_264_23)
theorem ki_264_22 : js_Ok 264 22 (o_al 0 23) := js_St.ok (st_aloadn rfl d_264_22)
theorem ki_264_19 : js_Ok 264 19 (o_gA 8 0 22) := js_St.ok (st_gA js_c8 (by decide) (by decide) kw_1023 d_264_19)
theorem ki_264_18 : js_Ok 264 18 (o_al 0 19) := js_St.ok (st_aloadn rfl d_264_18)
theorem ki_264_17 : js_Ok 264 17 (o_al 0 18) := js_St.ok (st_aloadn rfl d_264_17)
theorem ki_264_38 : js_Ok 264 38 (o_rV) := ok_rV rfl d_264_38
theorem ki_264_35 : js_Ok 264 35 (o_pA 8 0 104 38) := js_St.ok (st_pAown js_c8 (by decide) rfl kw_1023 (Or.inr ⟨_, rfl⟩) (js_c8.2.2.1 0 (by decide)) d_264_35)
theorem ki_264_32 : js_Ok 264 32 (o_cA 278 2 0 35) := ok_cA (site_S kk_264_278 kw_1064 kw_1065 d_264_32) rfl
theorem d_265_0 : decode (js_b 265) 0 = .ok (.aload_n 0, 1) := by decide +kernel
theorem d_265_1 : decode (js_b 265) 1 = .ok (.getfield 15, 3) := by decide +kernel
theorem d_265_4 : decode (js_b 265) 4 = .ok (.arraylength, 1) := by decide +kernel
theorem d_265_5 : decode (js_b 265) 5 = .ok (.istore_n 2, 1) := by decide +kernel
theorem d_265_6 : decode (js_b 265) 6 = .ok (.iload_n 1, 1) := by decide +kernel
theorem d_265_7 : decode (js_b 265) 7 = .ok (.aload_n 0, 1) := by decide +kernel
theorem d_265_8 : decode (js_b 265) 8 = .ok (.getfield 22, 3) := by decide +kernel
theorem d_265_11 : decode (js_b 265) 11 = .ok (.ishl, 1) := by decide +kernel
theorem d_265_12 : decode (js_b 265) 12 = .ok (.istore_n 3, 1) := by decide +kernel
theorem d_265_13 : decode (js_b 265) 13 = .ok (.iload_n 3, 1) := by decide +kernel
theorem d_265_14 : decode (js_b 265) 14 = .ok (.iload_n 2, 1) := by decide +kernel
theorem d_265_15 : decode (js_b 265) 15 = .ok (.isub, 1) := by decide +kernel
theorem d_265_16 : decode (js_b 265) 16 = .ok (.istore 4, 2) := by decide +kernel
theorem d_265_18 : decode (js_b 265) 18 = .ok (.iload_n 2, 1) := by decide +kernel
theorem d_265_19 : decode (js_b 265) 19 = .ok (.iload 4, 2) := by decide +kernel
theorem d_265_21 : decode (js_b 265) 21 = .ok (.iload_n 2, 1) := by decide +kernel
theorem d_265_22 : decode (js_b 265) 22 = .ok (.iconst 2, 1) := by decide +kernel
theorem d_265_23 : decode (js_b 265) 23 = .ok (.aload_n 0, 1) := by decide +kernel
theorem d_265_24 : decode (js_b 265) 24 = .ok (.getfield 22, 3) := by decide +kernel
theorem d_265_27 : decode (js_b 265) 27 = .ok (.ishl, 1) := by decide +kernel
theorem d_265_28 : decode (js_b 265) 28 = .ok (.iadd, 1) := by decide +kernel
theorem d_265_29 : decode (js_b 265) 29 = .ok (.invokestatic 114, 3) := by decide +kernel
theorem d_265_32 : decode (js_b 265) 32 = .ok (.istore 5, 2) := by decide +kernel
theorem d_265_34 : decode (js_b 265) 34 = .ok (.iload 5, 2) := by decide +kernel
theorem d_265_36 : decode (js_b 265) 36 = .ok (.ldc 39, 2) := by decide +kernel
theorem d_265_38 : decode (js_b 265) 38 = .ok (.if_icmp .ne 13, 3) := by decide +kernel
theorem d_265_41 : decode (js_b 265) 41 = .ok (.new 120, 3) := by decide +kernel
theorem d_265_51 : decode (js_b 265) 51 = .ok (.iload 5, 2) := by decide +kernel
theorem d_265_53 : decode (js_b 265) 53 = .ok (.aload_n 0, 1) := by decide +kernel
theorem d_265_54 : decode (js_b 265) 54 = .ok (.getfield 22, 3) := by decide +kernel
theorem d_265_57 : decode (js_b 265) 57 = .ok (.ishr, 1) := by decide +kernel
theorem d_265_58 : decode (js_b 265) 58 = .ok (.ireturn, 1) := by decide +kernel
theorem ki_265_15 : js_Ok 265 15 (o_b2 (fun x y => x - y) 16) := js_St.ok (st_isub d_265_15)
theorem ki_265_14 : js_Ok 265 14 (o_il 2 15) := js_St.ok (st_iloadn rfl d_265_14)
theorem ki_265_13 : js_Ok 265 13 (o_il 3 14) := js_St.ok (st_iloadn rfl d_265_13)
theorem ki_265_12 : js_Ok 265 12 (o_is 3 13) := js_St.ok (st_istoren rfl (Nat.le_of_ble_eq_true rfl) d_265_12)
theorem ki_265_11 : js_Ok 265 11 (o_b2 (fun x y => x <<< (y &&& 31)) 12) := js_St.ok (st_ishl d_265_11)
theorem ki_265_8 : js_Ok 265 8 (o_gI 8 1 11) := js_St.ok (st_gI js_c8 (by decide) (by decide) kw_1024 d_265_8)
theorem ki_265_7 : js_Ok 265 7 (o_al 0 8) := js_St.ok (st_aloadn rfl d_265_7)
theorem ki_265_6 : js_Ok 265 6 (o_il 1 7) := js_St.ok (st_iloadn rfl d_265_6)
theorem ki_265_5 : js_Ok 265 5 (o_is 2 6) := js_St.ok (st_istoren rfl (Nat.le_of_ble_eq_true rfl) d_265_5)
theorem ki_265_4 : js_Ok 265 4 (o_len 5) := js_St.ok (st_len d_265_4)
theorem ki_265_1 : js_Ok 265 1 (o_gA 8 0 4) := js_St.ok (st_gA js_c8 (by decide) (by decide) kw_1023 d_265_1)
theorem ki_265_0 : js_Ok 265 0 (o_al 0 1) := js_St.ok (st_aloadn rfl d_265_0)
theorem ki_265_29 : js_Ok 265 29 (o_cI 282 3 0 32) := ok_cI (site_S kk_265_282 kw_1055 kw_1056 d_265_29) rfl
theorem ki_265_28 : js_Ok 265 28 (o_b2 (fun x y => x + y) 29) := js_St.ok (st_iadd d_265_28)
theorem ki_265_27 : js_Ok 265 27 (o_b2 (fun x y => x <<< (y &&& 31)) 28) := js_St.ok (st_ishl d_265_27)
theorem ki_265_24 : js_Ok 265 24 (o_gI 8 1 27) := js_St.ok (st_gI js_c8 (by decide) (by decide) kw_1024 d_265_24)
theorem ki_265_23 : js_Ok 265 23 (o_al 0 24) := js_St.ok (st_aloadn rfl d_265_23)
theorem ki_265_22 : js_Ok 265 22 (o_ic 2 23) := js_St.ok (st_iconst rfl d_265_22)
theorem ki_265_21 : js_Ok 265 21 (o_il 2 22) := js_St.ok (st_iloadn rfl d_265_21)
theorem ki_265_19 : js_Ok 265 19 (o_il 4 21) := js_St.ok (st_iload d_265_19)
theorem ki_265_18 : js_Ok 265 18 (o_il 2 19) := js_St.ok (st_iloadn rfl d_265_18)
theorem ki_265_16 : js_Ok 265 16 (o_is 4 18) := js_St.ok (st_istore (Nat.le_of_ble_eq_true rfl) d_265_16)
theorem ki_265_41 : js_Ok 265 41 (o_bad) := js_St.ok st_bad
theorem ki_265_38 : js_Ok 265 38 (o_cne 51 41) := js_St.ok (st_icne (by decide) d_265_38)
theorem ki_265_36 : js_Ok 265 36 (o_ic 2147483647 38) := js_St.ok (st_ldc kw_1063 d_265_36)
theorem ki_265_34 : js_Ok 265 34 (o_il 5 36) := js_St.ok (st_iload d_265_34)
theorem ki_265_32 : js_Ok 265 32 (o_is 5 34) := js_St.ok (st_istore (Nat.le_of_ble_eq_true rfl) d_265_32)
theorem ki_265_58 : js_Ok 265 58 (o_rI) := ok_rI rfl d_265_58
theorem ki_265_57 : js_Ok 265 57 (o_b2 (fun x y => x >>> (y &&& 31)) 58) := js_St.ok (st_ishr d_265_57)
theorem ki_265_54 : js_Ok 265 54 (o_gI 8 1 57) := js_St.ok (st_gI js_c8 (by decide) (by decide) kw_1024 d_265_54)
theorem ki_265_53 : js_Ok 265 53 (o_al 0 54) := js_St.ok (st_aloadn rfl d_265_53)
theorem ki_265_51 : js_Ok 265 51 (o_il 5 53) := js_St.ok (st_iload d_265_51)
theorem d_266_0 : decode (js_b 266) 0 = .ok (.getstatic 18, 3) := by decide +kernel
theorem d_266_3 : decode (js_b 266) 3 = .ok (.ifCond .eq 14, 3) := by decide +kernel
theorem d_266_6 : decode (js_b 266) 6 = .ok (.aload_n 0, 1) := by decide +kernel
theorem d_266_7 : decode (js_b 266) 7 = .ok (.getfield 22, 3) := by decide +kernel
theorem d_266_10 : decode (js_b 266) 10 = .ok (.ifCond .ne 7, 3) := by decide +kernel
theorem d_266_13 : decode (js_b 266) 13 = .ok (.iconst 1, 1) := by decide +kernel
theorem d_266_14 : decode (js_b 266) 14 = .ok (.goto 4, 3) := by decide +kernel
theorem d_266_17 : decode (js_b 266) 17 = .ok (.iconst 0, 1) := by decide +kernel
theorem d_266_18 : decode (js_b 266) 18 = .ok (.ireturn, 1) := by decide +kernel
theorem ki_266_14 : js_Ok 266 14 (o_go 18) := js_St.ok (st_goto (by decide) d_266_14)
theorem ki_266_13 : js_Ok 266 13 (o_ic 1 14) := js_St.ok (st_iconst rfl d_266_13)
theorem ki_266_10 : js_Ok 266 10 (o_ne 17 13) := js_St.ok (st_ifne (by decide) d_266_10)
theorem ki_266_7 : js_Ok 266 7 (o_gI 8 1 10) := js_St.ok (st_gI js_c8 (by decide) (by decide) kw_1024 d_266_7)
theorem ki_266_6 : js_Ok 266 6 (o_al 0 7) := js_St.ok (st_aloadn rfl d_266_6)
theorem ki_266_3 : js_Ok 266 3 (o_eq 17 6) := js_St.ok (st_ifeq (by decide) d_266_3)
theorem ki_266_0 : js_Ok 266 0 (o_ic 1 3) := js_St.ok (st_gsI (by decide +kernel) kw_1014 d_266_0)
theorem ki_266_18 : js_Ok 266 18 (o_rZ) := ok_rZ rfl d_266_18
theorem ki_266_17 : js_Ok 266 17 (o_ic 0 18) := js_St.ok (st_iconst rfl d_266_17)
theorem d_267_0 : decode (js_b 267) 0 = .ok (.aload_n 0, 1) := by decide +kernel
theorem d_267_1 : decode (js_b 267) 1 = .ok (.getfield 15, 3) := by decide +kernel
theorem d_267_4 : decode (js_b 267) 4 = .ok (.areturn, 1) := by decide +kernel
theorem ki_267_4 : js_Ok 267 4 (o_rA) := ok_rA (Or.inr ⟨_, rfl⟩) rfl d_267_4
theorem ki_267_1 : js_Ok 267 1 (o_gA 8 0 4) := js_St.ok (st_gA js_c8 (by decide) (by decide) kw_1023 d_267_1)
theorem ki_267_0 : js_Ok 267 0 (o_al 0 1) := js_St.ok (st_aloadn rfl d_267_0)
theorem d_268_0 : decode (js_b 268) 0 = .ok (.aload_n 0, 1) := by decide +kernel
theorem d_268_1 : decode (js_b 268) 1 = .ok (.getfield 79, 3) := by decide +kernel
theorem d_268_4 : decode (js_b 268) 4 = .ok (.ireturn, 1) := by decide +kernel
theorem ki_268_4 : js_Ok 268 4 (o_rI) := ok_rI rfl d_268_4
theorem ki_268_1 : js_Ok 268 1 (o_gI 8 3 4) := js_St.ok (st_gI js_c8 (by decide) (by decide) kw_1026 d_268_1)
theorem ki_268_0 : js_Ok 268 0 (o_al 0 1) := js_St.ok (st_aloadn rfl d_268_0)
theorem d_269_0 : decode (js_b 269) 0 = .ok (.aload_n 0, 1) := by decide +kernel
theorem d_269_1 : decode (js_b 269) 1 = .ok (.invokespecial 343, 3) := by decide +kernel
theorem d_269_4 : decode (js_b 269) 4 = .ok (.ireturn, 1) := by decide +kernel
theorem ki_269_4 : js_Ok 269 4 (o_rI) := ok_rI rfl d_269_4
theorem ki_269_1 : js_Ok 269 1 (o_cI 268 1 9 4) := ok_cI (site_SU kk_269_268 rfl (by decide) kw_1195 kw_1190 kw_1191 kw_1035 d_269_1) rfl
theorem ki_269_0 : js_Ok 269 0 (o_al 0 1) := js_St.ok (st_aloadn rfl d_269_0)
theorem d_270_0 : decode (js_b 270) 0 = .ok (.getstatic 18, 3) := by decide +kernel
theorem d_270_3 : decode (js_b 270) 3 = .ok (.ifCond .eq 18, 3) := by decide +kernel
theorem d_270_6 : decode (js_b 270) 6 = .ok (.aload_n 0, 1) := by decide +kernel
theorem d_270_7 : decode (js_b 270) 7 = .ok (.getfield 22, 3) := by decide +kernel
theorem d_270_10 : decode (js_b 270) 10 = .ok (.aload_n 1, 1) := by decide +kernel
theorem d_270_11 : decode (js_b 270) 11 = .ok (.invokevirtual 40, 3) := by decide +kernel
theorem d_270_14 : decode (js_b 270) 14 = .ok (.if_icmp .eq 7, 3) := by decide +kernel
theorem d_270_17 : decode (js_b 270) 17 = .ok (.aload_n 0, 1) := by decide +kernel
theorem d_270_18 : decode (js_b 270) 18 = .ok (.invokevirtual 195, 3) := by decide +kernel
theorem d_270_21 : decode (js_b 270) 21 = .ok (.return_, 1) := by decide +kernel
theorem ki_270_14 : js_Ok 270 14 (o_ceq 21 17) := js_St.ok (st_iceq (by decide) d_270_14)
theorem ki_270_11 : js_Ok 270 11 (o_cI 250 1 21 14) := ok_cI (site_V kk_270_250 (by decide) kw_1124 kw_1112 kw_1113 (fun t ht => by cases ht; exact Or.inr (Or.inl ⟨rfl, rfl⟩)) d_270_11) rfl
theorem ki_270_10 : js_Ok 270 10 (o_al 1 11) := js_St.ok (st_aloadn rfl d_270_10)
theorem ki_270_7 : js_Ok 270 7 (o_gI 8 1 10) := js_St.ok (st_gI js_c8 (by decide) (by decide) kw_1024 d_270_7)
theorem ki_270_6 : js_Ok 270 6 (o_al 0 7) := js_St.ok (st_aloadn rfl d_270_6)
theorem ki_270_3 : js_Ok 270 3 (o_eq 21 6) := js_St.ok (st_ifeq (by decide) d_270_3)
theorem ki_270_0 : js_Ok 270 0 (o_ic 1 3) := js_St.ok (st_gsI (by decide +kernel) kw_1014 d_270_0)
theorem ki_270_21 : js_Ok 270 21 (o_rV) := ok_rV rfl d_270_21
theorem ki_270_18 : js_Ok 270 18 (o_bad) := js_St.ok st_bad
theorem ki_270_17 : js_Ok 270 17 (o_al 0 18) := js_St.ok (st_aloadn rfl d_270_17)
theorem d_271_0 : decode (js_b 271) 0 = .ok (.aload_n 0, 1) := by decide +kernel
theorem d_271_1 : decode (js_b 271) 1 = .ok (.aload_n 2, 1) := by decide +kernel
theorem d_271_2 : decode (js_b 271) 2 = .ok (.invokevirtual 397, 3) := by decide +kernel
theorem d_271_5 : decode (js_b 271) 5 = .ok (.aload_n 2, 1) := by decide +kernel
theorem d_271_6 : decode (js_b 271) 6 = .ok (.aload_n 0, 1) := by decide +kernel
theorem d_271_7 : decode (js_b 271) 7 = .ok (.getfield 15, 3) := by decide +kernel
theorem d_271_10 : decode (js_b 271) 10 = .ok (.iload_n 1, 1) := by decide +kernel
theorem d_271_11 : decode (js_b 271) 11 = .ok (.aload_n 0, 1) := by decide +kernel
theorem d_271_12 : decode (js_b 271) 12 = .ok (.getfield 22, 3) := by decide +kernel
theorem d_271_15 : decode (js_b 271) 15 = .ok (.invokevirtual 399, 3) := by decide +kernel
theorem d_271_18 : decode (js_b 271) 18 = .ok (.return_, 1) := by decide +kernel
theorem ki_271_15 : js_Ok 271 15 (o_cV 276 4 21 18) := ok_cV (site_V kk_271_276 (by decide) kw_1144 kw_1145 kw_1146 (fun t ht => by cases ht; exact Or.inr (Or.inl ⟨rfl, rfl⟩)) d_271_15) rfl
theorem ki_271_12 : js_Ok 271 12 (o_gI 8 1 15) := js_St.ok (st_gI js_c8 (by decide) (by decide) kw_1024 d_271_12)
theorem ki_271_11 : js_Ok 271 11 (o_al 0 12) := js_St.ok (st_aloadn rfl d_271_11)
theorem ki_271_10 : js_Ok 271 10 (o_il 1 11) := js_St.ok (st_iloadn rfl d_271_10)
theorem ki_271_7 : js_Ok 271 7 (o_gA 8 0 10) := js_St.ok (st_gA js_c8 (by decide) (by decide) kw_1023 d_271_7)
theorem ki_271_6 : js_Ok 271 6 (o_al 0 7) := js_St.ok (st_aloadn rfl d_271_6)
theorem ki_271_5 : js_Ok 271 5 (o_al 2 6) := js_St.ok (st_aloadn rfl d_271_5)
theorem ki_271_2 : js_Ok 271 2 (o_cV 270 2 9 5) := ok_cV (site_U kk_271_270 (by decide) rfl kw_1120 kw_1471 kxs_3 kw_1122 rfl (fun t ht => by cases ht; exact Or.inl ⟨by decide, _, rfl, rfl⟩) d_271_2) rfl
theorem ki_271_1 : js_Ok 271 1 (o_al 2 2) := js_St.ok (st_aloadn rfl d_271_1)
theorem ki_271_0 : js_Ok 271 0 (o_al 0 1) := js_St.ok (st_aloadn rfl d_271_0)
theorem ki_271_18 : js_Ok 271 18 (o_rV) := ok_rV rfl d_271_18
theorem d_272_0 : decode (js_b 272) 0 = .ok (.iconst 1, 1) := by decide +kernel
theorem d_272_1 : decode (js_b 272) 1 = .ok (.istore_n 1, 1) := by decide +kernel
theorem d_272_2 : decode (js_b 272) 2 = .ok (.iload_n 0, 1) := by decide +kernel
theorem d_272_3 : decode (js_b 272) 3 = .ok (.ifCond .lt 8, 3) := by decide +kernel
theorem d_272_6 : decode (js_b 272) 6 = .ok (.iconst 0, 1) := by decide +kernel
theorem d_272_7 : decode (js_b 272) 7 = .ok (.istore_n 1, 1) := by decide +kernel
theorem d_272_8 : decode (js_b 272) 8 = .ok (.iload_n 0, 1) := by decide +kernel
theorem d_272_9 : decode (js_b 272) 9 = .ok (.ineg, 1) := by decide +kernel
theorem d_272_10 : decode (js_b 272) 10 = .ok (.istore_n 0, 1) := by decide +kernel
theorem d_272_11 : decode (js_b 272) 11 = .ok (.bipush (-10), 2) := by decide +kernel
theorem d_272_13 : decode (js_b 272) 13 = .ok (.istore_n 2, 1) := by decide +kernel
theorem d_272_14 : decode (js_b 272) 14 = .ok (.iconst 1, 1) := by decide +kernel
theorem d_272_15 : decode (js_b 272) 15 = .ok (.istore_n 3, 1) := by decide +kernel
theorem d_272_16 : decode (js_b 272) 16 = .ok (.iload_n 3, 1) := by decide +kernel
theorem d_272_17 : decode (js_b 272) 17 = .ok (.bipush 10, 2) := by decide +kernel
theorem d_272_19 : decode (js_b 272) 19 = .ok (.if_icmp .ge 23, 3) := by decide +kernel
theorem d_272_22 : decode (js_b 272) 22 = .ok (.iload_n 0, 1) := by decide +kernel
theorem d_272_23 : decode (js_b 272) 23 = .ok (.iload_n 2, 1) := by decide +kernel
theorem d_272_24 : decode (js_b 272) 24 = .ok (.if_icmp .le 7, 3) := by decide +kernel
theorem d_272_27 : decode (js_b 272) 27 = .ok (.iload_n 3, 1) := by decide +kernel
theorem d_272_28 : decode (js_b 272) 28 = .ok (.iload_n 1, 1) := by decide +kernel
theorem d_272_29 : decode (js_b 272) 29 = .ok (.iadd, 1) := by decide +kernel
theorem d_272_30 : decode (js_b 272) 30 = .ok (.ireturn, 1) := by decide +kernel
theorem d_272_31 : decode (js_b 272) 31 = .ok (.bipush 10, 2) := by decide +kernel
theorem d_272_33 : decode (js_b 272) 33 = .ok (.iload_n 2, 1) := by decide +kernel
theorem d_272_34 : decode (js_b 272) 34 = .ok (.imul, 1) := by decide +kernel
theorem d_272_35 : decode (js_b 272) 35 = .ok (.istore_n 2, 1) := by decide +kernel
theorem d_272_36 : decode (js_b 272) 36 = .ok (.iinc 3 1, 3) := by decide +kernel
theorem d_272_39 : decode (js_b 272) 39 = .ok (.goto (-23), 3) := by decide +kernel
theorem d_272_42 : decode (js_b 272) 42 = .ok (.bipush 10, 2) := by decide +kernel
theorem d_272_44 : decode (js_b 272) 44 = .ok (.iload_n 1, 1) := by decide +kernel
theorem d_272_45 : decode (js_b 272) 45 = .ok (.iadd, 1) := by decide +kernel
theorem d_272_46 : decode (js_b 272) 46 = .ok (.ireturn, 1) := by decide +kernel
theorem ki_272_15 : js_Ok 272 15 (o_is 3 16) := js_St.ok (st_istoren rfl (Nat.le_of_ble_eq_true rfl) d_272_15)
theorem ki_272_14 : js_Ok 272 14 (o_ic 1 15) := js_St.ok (st_iconst rfl d_272_14)
theorem ki_272_13 : js_Ok 272 13 (o_is 2 14) := js_St.ok (st_istoren rfl (Nat.le_of_ble_eq_true rfl) d_272_13)
theorem ki_272_11 : js_Ok 272 11 (o_ic (-10) 13) := js_St.ok (st_bipush rfl d_272_11)
theorem ki_272_10 : js_Ok 272 10 (o_is 0 11) := js_St.ok (st_istoren rfl (Nat.le_of_ble_eq_true rfl) d_272_10)
theorem ki_272_9 : js_Ok 272 9 (o_u (fun x => -x) 10) := js_St.ok (st_ineg d_272_9)
theorem ki_272_8 : js_Ok 272 8 (o_il 0 9) := js_St.ok (st_iloadn rfl d_272_8)
theorem ki_272_7 : js_Ok 272 7 (o_is 1 8) := js_St.ok (st_istoren rfl (Nat.le_of_ble_eq_true rfl) d_272_7)
theorem ki_272_6 : js_Ok 272 6 (o_ic 0 7) := js_St.ok (st_iconst rfl d_272_6)
theorem ki_272_3 : js_Ok 272 3 (o_lt 11 6) := js_St.ok (st_iflt (by decide) d_272_3)
theorem ki_272_2 : js_Ok 272 2 (o_il 0 3) := js_St.ok (st_iloadn rfl d_272_2)
theorem ki_272_1 : js_Ok 272 1 (o_is 1 2) := js_St.ok (st_istoren rfl (Nat.le_of_ble_eq_true rfl) d_272_1)
theorem ki_272_0 : js_Ok 272 0 (o_ic 1 1) := js_St.ok (st_iconst rfl d_272_0)
theorem ki_272_31 : js_Ok 272 31 (o_ic 10 33) := js_St.ok (st_bipush rfl d_272_31)
theorem ki_272_30 : js_Ok 272 30 (o_rI) := ok_rI rfl d_272_30
theorem ki_272_29 : js_Ok 272 29 (o_b2 (fun x y => x + y) 30) := js_St.ok (st_iadd d_272_29)
theorem ki_272_28 : js_Ok 272 28 (o_il 1 29) := js_St.ok (st_iloadn rfl d_272_28)
theorem ki_272_27 : js_Ok 272 27 (o_il 3 28) := js_St.ok (st_iloadn rfl d_272_27)
theorem ki_272_24 : js_Ok 272 24 (o_cle 31 27) := js_St.ok (st_icle (by decide) d_272_24)
theorem ki_272_23 : js_Ok 272 23 (o_il 2 24) := js_St.ok (st_iloadn rfl d_272_23)
theorem ki_272_22 : js_Ok 272 22 (o_il 0 23) := js_St.ok (st_iloadn rfl d_272_22)
theorem ki_272_19 : js_Ok 272 19 (o_cge 42 22) := js_St.ok (st_icge (by decide) d_272_19)
theorem ki_272_17 : js_Ok 272 17 (o_ic 10 19) := js_St.ok (st_bipush rfl d_272_17)
theorem ki_272_16 : js_Ok 272 16 (o_il 3 17) := js_St.ok (st_iloadn rfl d_272_16)
theorem ki_272_46 : js_Ok 272 46 (o_rI) := ok_rI rfl d_272_46
theorem ki_272_45 : js_Ok 272 45 (o_b2 (fun x y => x + y) 46) := js_St.ok (st_iadd d_272_45)
theorem ki_272_44 : js_Ok 272 44 (o_il 1 45) := js_St.ok (st_iloadn rfl d_272_44)
theorem ki_272_42 : js_Ok 272 42 (o_ic 10 44) := js_St.ok (st_bipush rfl d_272_42)
theorem ki_272_39 : js_Ok 272 39 (o_go 16) := js_St.ok (st_goto (by decide) d_272_39)
theorem ki_272_36 : js_Ok 272 36 (o_inc 3 1 39) := js_St.ok (st_iinc rfl (Nat.le_of_ble_eq_true rfl) d_272_36)
theorem ki_272_35 : js_Ok 272 35 (o_is 2 36) := js_St.ok (st_istoren rfl (Nat.le_of_ble_eq_true rfl) d_272_35)
theorem ki_272_34 : js_Ok 272 34 (o_b2 (fun x y => x * y) 35) := js_St.ok (st_imul d_272_34)
theorem ki_272_33 : js_Ok 272 33 (o_il 2 34) := js_St.ok (st_iloadn rfl d_272_33)
theorem d_273_0 : decode (js_b 273) 0 = .ok (.iload_n 1, 1) := by decide +kernel
theorem d_273_1 : decode (js_b 273) 1 = .ok (.istore 5, 2) := by decide +kernel
theorem d_273_3 : decode (js_b 273) 3 = .ok (.iload_n 0, 1) := by decide +kernel
theorem d_273_4 : decode (js_b 273) 4 = .ok (.ifCond .ge 7, 3) := by decide +kernel
theorem d_273_7 : decode (js_b 273) 7 = .ok (.iconst 1, 1) := by decide +kernel
theorem d_273_8 : decode (js_b 273) 8 = .ok (.goto 4, 3) := by decide +kernel
theorem d_273_11 : decode (js_b 273) 11 = .ok (.iconst 0, 1) := by decide +kernel
theorem d_273_12 : decode (js_b 273) 12 = .ok (.istore 6, 2) := by decide +kernel
theorem d_273_14 : decode (js_b 273) 14 = .ok (.iload 6, 2) := by decide +kernel
theorem d_273_16 : decode (js_b 273) 16 = .ok (.ifCond .ne 6, 3) := by decide +kernel
theorem d_273_19 : decode (js_b 273) 19 = .ok (.iload_n 0, 1) := by decide +kernel
theorem d_273_20 : decode (js_b 273) 20 = .ok (.ineg, 1) := by decide +kernel
theorem d_273_21 : decode (js_b 273) 21 = .ok (.istore_n 0, 1) := by decide +kernel
theorem d_273_22 : decode (js_b 273) 22 = .ok (.iload_n 0, 1) := by decide +kernel
theorem d_273_23 : decode (js_b 273) 23 = .ok (.bipush (-100), 2) := by decide +kernel
theorem d_273_25 : decode (js_b 273) 25 = .ok (.if_icmp .gt 47, 3) := by decide +kernel
theorem d_273_28 : decode (js_b 273) 28 = .ok (.iload_n 0, 1) := by decide +kernel
theorem d_273_29 : decode (js_b 273) 29 = .ok (.bipush 100, 2) := by decide +kernel
theorem d_273_31 : decode (js_b 273) 31 = .ok (.idiv, 1) := by decide +kernel
theorem d_273_32 : decode (js_b 273) 32 = .ok (.istore_n 3, 1) := by decide +kernel
theorem d_273_33 : decode (js_b 273) 33 = .ok (.iload_n 3, 1) := by decide +kernel
theorem d_273_34 : decode (js_b 273) 34 = .ok (.bipush 100, 2) := by decide +kernel
theorem d_273_36 : decode (js_b 273) 36 = .ok (.imul, 1) := by decide +kernel
theorem d_273_37 : decode (js_b 273) 37 = .ok (.iload_n 0, 1) := by decide +kernel
theorem d_273_38 : decode (js_b 273) 38 = .ok (.isub, 1) := by decide +kernel
theorem d_273_39 : decode (js_b 273) 39 = .ok (.istore 4, 2) := by decide +kernel
theorem d_273_41 : decode (js_b 273) 41 = .ok (.iload_n 3, 1) := by decide +kernel
theorem d_273_42 : decode (js_b 273) 42 = .ok (.istore_n 0, 1) := by decide +kernel
theorem d_273_43 : decode (js_b 273) 43 = .ok (.aload_n 2, 1) := by decide +kernel
theorem d_273_44 : decode (js_b 273) 44 = .ok (.iinc 5 (-1), 3) := by decide +kernel
theorem d_273_47 : decode (js_b 273) 47 = .ok (.iload 5, 2) := by decide +kernel
theorem d_273_49 : decode (js_b 273) 49 = .ok (.getstatic 83, 3) := by decide +kernel
theorem d_273_52 : decode (js_b 273) 52 = .ok (.iload 4, 2) := by decide +kernel
theorem d_273_54 : decode (js_b 273) 54 = .ok (.baload, 1) := by decide +kernel
theorem d_273_55 : decode (js_b 273) 55 = .ok (.bastore, 1) := by decide +kernel
theorem d_273_56 : decode (js_b 273) 56 = .ok (.aload_n 2, 1) := by decide +kernel
theorem d_273_57 : decode (js_b 273) 57 = .ok (.iinc 5 (-1), 3) := by decide +kernel
theorem d_273_60 : decode (js_b 273) 60 = .ok (.iload 5, 2) := by decide +kernel
theorem d_273_62 : decode (js_b 273) 62 = .ok (.getstatic 87, 3) := by decide +kernel
theorem d_273_65 : decode (js_b 273) 65 = .ok (.iload 4, 2) := by decide +kernel
theorem d_273_67 : decode (js_b 273) 67 = .ok (.baload, 1) := by decide +kernel
theorem d_273_68 : decode (js_b 273) 68 = .ok (.bastore, 1) := by decide +kernel
theorem d_273_69 : decode (js_b 273) 69 = .ok (.goto (-47), 3) := by decide +kernel
theorem d_273_72 : decode (js_b 273) 72 = .ok (.aload_n 2, 1) := by decide +kernel
theorem d_273_73 : decode (js_b 273) 73 = .ok (.iinc 5 (-1), 3) := by decide +kernel
theorem d_273_76 : decode (js_b 273) 76 = .ok (.iload 5, 2) := by decide +kernel
theorem d_273_78 : decode (js_b 273) 78 = .ok (.getstatic 83, 3) := by decide +kernel
theorem d_273_81 : decode (js_b 273) 81 = .ok (.iload_n 0, 1) := by decide +kernel
theorem d_273_82 : decode (js_b 273) 82 = .ok (.ineg, 1) := by decide +kernel
theorem d_273_83 : decode (js_b 273) 83 = .ok (.baload, 1) := by decide +kernel
theorem d_273_84 : decode (js_b 273) 84 = .ok (.bastore, 1) := by decide +kernel
theorem d_273_85 : decode (js_b 273) 85 = .ok (.iload_n 0, 1) := by decide +kernel
theorem d_273_86 : decode (js_b 273) 86 = .ok (.bipush (-9), 2) := by decide +kernel
theorem d_273_88 : decode (js_b 273) 88 = .ok (.if_icmp .ge 16, 3) := by decide +kernel
theorem d_273_91 : decode (js_b 273) 91 = .ok (.aload_n 2, 1) := by decide +kernel
theorem d_273_92 : decode (js_b 273) 92 = .ok (.iinc 5 (-1), 3) := by decide +kernel
theorem d_273_95 : decode (js_b 273) 95 = .ok (.iload 5, 2) := by decide +kernel
theorem d_273_97 : decode (js_b 273) 97 = .ok (.getstatic 87, 3) := by decide +kernel
theorem d_273_100 : decode (js_b 273) 100 = .ok (.iload_n 0, 1) := by decide +kernel
theorem d_273_101 : decode (js_b 273) 101 = .ok (.ineg, 1) := by decide +kernel
theorem d_273_102 : decode (js_b 273) 102 = .ok (.baload, 1) := by decide +kernel
theorem d_273_103 : decode (js_b 273) 103 = .ok (.bastore, 1) := by decide +kernel
theorem d_273_104 : decode (js_b 273) 104 = .ok (.iload 6, 2) := by decide +kernel
theorem d_273_106 : decode (js_b 273) 106 = .ok (.ifCond .eq 12, 3) := by decide +kernel
theorem d_273_109 : decode (js_b 273) 109 = .ok (.aload_n 2, 1) := by decide +kernel
theorem d_273_110 : decode (js_b 273) 110 = .ok (.iinc 5 (-1), 3) := by decide +kernel
theorem d_273_113 : decode (js_b 273) 113 = .ok (.iload 5, 2) := by decide +kernel
theorem d_273_115 : decode (js_b 273) 115 = .ok (.bipush 45, 2) := by decide +kernel
theorem d_273_117 : decode (js_b 273) 117 = .ok (.bastore, 1) := by decide +kernel
theorem d_273_118 : decode (js_b 273) 118 = .ok (.iload 5, 2) := by decide +kernel
theorem d_273_120 : decode (js_b 273) 120 = .ok (.ireturn, 1) := by decide +kernel
theorem ki_273_14 : js_Ok 273 14 (o_il 6 16) := js_St.ok (st_iload d_273_14)
theorem ki_273_12 : js_Ok 273 12 (o_is 6 14) := js_St.ok (st_istore (Nat.le_of_ble_eq_true rfl) d_273_12)
theorem ki_273_11 : js_Ok 273 11 (o_ic 0 12) := js_St.ok (st_iconst rfl d_273_11)
theorem ki_273_8 : js_Ok 273 8 (o_go 12) := js_St.ok (st_goto (by decide) d_273_8)
theorem ki_273_7 : js_Ok 273 7 (o_ic 1 8) := js_St.ok (st_iconst rfl d_273_7)
theorem ki_273_4 : js_Ok 273 4 (o_ge 11 7) := js_St.ok (st_ifge (by decide) d_273_4)
theorem ki_273_3 : js_Ok 273 3 (o_il 0 4) := js_St.ok (st_iloadn rfl d_273_3)
theorem ki_273_1 : js_Ok 273 1 (o_is 5 3) := js_St.ok (st_istore (Nat.le_of_ble_eq_true rfl) d_273_1)
theorem ki_273_0 : js_Ok 273 0 (o_il 1 1) := js_St.ok (st_iloadn rfl d_273_0)
theorem ki_273_31 : js_Ok 273 31 (o_div 32) := js_St.ok (st_idiv d_273_31)
theorem ki_273_29 : js_Ok 273 29 (o_ic 100 31) := js_St.ok (st_bipush rfl d_273_29)
theorem ki_273_28 : js_Ok 273 28 (o_il 0 29) := js_St.ok (st_iloadn rfl d_273_28)
theorem ki_273_25 : js_Ok 273 25 (o_cgt 72 28) := js_St.ok (st_icgt (by decide) d_273_25)
theorem ki_273_23 : js_Ok 273 23 (o_ic (-100) 25) := js_St.ok (st_bipush rfl d_273_23)
theorem ki_273_22 : js_Ok 273 22 (o_il 0 23) := js_St.ok (st_iloadn rfl d_273_22)
theorem ki_273_21 : js_Ok 273 21 (o_is 0 22) := js_St.ok (st_istoren rfl (Nat.le_of_ble_eq_true rfl) d_273_21)
theorem ki_273_20 : js_Ok 273 20 (o_u (fun x => -x) 21) := js_St.ok (st_ineg d_273_20)
theorem ki_273_19 : js_Ok 273 19 (o_il 0 20) := js_St.ok (st_iloadn rfl d_273_19)
theorem ki_273_16 : js_Ok 273 16 (o_ne 22 19) := js_St.ok (st_ifne (by decide) d_273_16)
theorem ki_273_47 : js_Ok 273 47 (o_il 5 49) := js_St.ok (st_iload d_273_47)
theorem ki_273_44 : js_Ok 273 44 (o_inc 5 (-1) 47) := js_St.ok (st_iinc rfl (Nat.le_of_ble_eq_true rfl) d_273_44)
theorem ki_273_43 : js_Ok 273 43 (o_al 2 44) := js_St.ok (st_aloadn rfl d_273_43)
theorem ki_273_42 : js_Ok 273 42 (o_is 0 43) := js_St.ok (st_istoren rfl (Nat.le_of_ble_eq_true rfl) d_273_42)
theorem ki_273_41 : js_Ok 273 41 (o_il 3 42) := js_St.ok (st_iloadn rfl d_273_41)
theorem ki_273_39 : js_Ok 273 39 (o_is 4 41) := js_St.ok (st_istore (Nat.le_of_ble_eq_true rfl) d_273_39)
theorem ki_273_38 : js_Ok 273 38 (o_b2 (fun x y => x - y) 39) := js_St.ok (st_isub d_273_38)
theorem ki_273_37 : js_Ok 273 37 (o_il 0 38) := js_St.ok (st_iloadn rfl d_273_37)
theorem ki_273_36 : js_Ok 273 36 (o_b2 (fun x y => x * y) 37) := js_St.ok (st_imul d_273_36)
theorem ki_273_34 : js_Ok 273 34 (o_ic 100 36) := js_St.ok (st_bipush rfl d_273_34)
theorem ki_273_33 : js_Ok 273 33 (o_il 3 34) := js_St.ok (st_iloadn rfl d_273_33)
theorem ki_273_32 : js_Ok 273 32 (o_is 3 33) := js_St.ok (st_istoren rfl (Nat.le_of_ble_eq_true rfl) d_273_32)
theorem ki_273_62 : js_Ok 273 62 (o_rc 27 65) := js_St.ok (st_gsR (by decide +kernel) kw_1225 d_273_62)
theorem ki_273_60 : js_Ok 273 60 (o_il 5 62) := js_St.ok (st_iload d_273_60)
theorem ki_273_57 : js_Ok 273 57 (o_inc 5 (-1) 60) := js_St.ok (st_iinc rfl (Nat.le_of_ble_eq_true rfl) d_273_57)
theorem ki_273_56 : js_Ok 273 56 (o_al 2 57) := js_St.ok (st_aloadn rfl d_273_56)
theorem ki_273_55 : js_Ok 273 55 (o_sB 104 56) := js_St.ok (st_sB d_273_55)
theorem ki_273_54 : js_Ok 273 54 (o_lI 104 55) := js_St.ok (st_lIb d_273_54)
theorem ki_273_52 : js_Ok 273 52 (o_il 4 54) := js_St.ok (st_iload d_273_52)
theorem ki_273_49 : js_Ok 273 49 (o_rc 26 52) := js_St.ok (st_gsR (by decide +kernel) kw_1223 d_273_49)
theorem ki_273_78 : js_Ok 273 78 (o_rc 26 81) := js_St.ok (st_gsR (by decide +kernel) kw_1223 d_273_78)
theorem ki_273_76 : js_Ok 273 76 (o_il 5 78) := js_St.ok (st_iload d_273_76)
theorem ki_273_73 : js_Ok 273 73 (o_inc 5 (-1) 76) := js_St.ok (st_iinc rfl (Nat.le_of_ble_eq_true rfl) d_273_73)
theorem ki_273_72 : js_Ok 273 72 (o_al 2 73) := js_St.ok (st_aloadn rfl d_273_72)
theorem ki_273_69 : js_Ok 273 69 (o_go 22) := js_St.ok (st_goto (by decide) d_273_69)
theorem ki_273_68 : js_Ok 273 68 (o_sB 104 69) := js_St.ok (st_sB d_273_68)
theorem ki_273_67 : js_Ok 273 67 (o_lI 104 68) := js_St.ok (st_lIb d_273_67)
theorem ki_273_65 : js_Ok 273 65 (o_il 4 67) := js_St.ok (st_iload d_273_65)
theorem ki_273_95 : js_Ok 273 95 (o_il 5 97) := js_St.ok (st_iload d_273_95)
theorem ki_273_92 : js_Ok 273 92 (o_inc 5 (-1) 95) := js_St.ok (st_iinc rfl (Nat.le_of_ble_eq_true rfl) d_273_92)
theorem ki_273_91 : js_Ok 273 91 (o_al 2 92) := js_St.ok (st_aloadn rfl d_273_91)
theorem ki_273_88 : js_Ok 273 88 (o_cge 104 91) := js_St.ok (st_icge (by decide) d_273_88)
theorem ki_273_86 : js_Ok 273 86 (o_ic (-9) 88) := js_St.ok (st_bipush rfl d_273_86)
theorem ki_273_85 : js_Ok 273 85 (o_il 0 86) := js_St.ok (st_iloadn rfl d_273_85)
theorem ki_273_84 : js_Ok 273 84 (o_sB 104 85) := js_St.ok (st_sB d_273_84)
theorem ki_273_83 : js_Ok 273 83 (o_lI 104 84) := js_St.ok (st_lIb d_273_83)
theorem ki_273_82 : js_Ok 273 82 (o_u (fun x => -x) 83) := js_St.ok (st_ineg d_273_82)
theorem ki_273_81 : js_Ok 273 81 (o_il 0 82) := js_St.ok (st_iloadn rfl d_273_81)
theorem ki_273_110 : js_Ok 273 110 (o_inc 5 (-1) 113) := js_St.ok (st_iinc rfl (Nat.le_of_ble_eq_true rfl) d_273_110)
theorem ki_273_109 : js_Ok 273 109 (o_al 2 110) := js_St.ok (st_aloadn rfl d_273_109)
theorem ki_273_106 : js_Ok 273 106 (o_eq 118 109) := js_St.ok (st_ifeq (by decide) d_273_106)
theorem ki_273_104 : js_Ok 273 104 (o_il 6 106) := js_St.ok (st_iload d_273_104)
theorem ki_273_103 : js_Ok 273 103 (o_sB 104 104) := js_St.ok (st_sB d_273_103)
theorem ki_273_102 : js_Ok 273 102 (o_lI 104 103) := js_St.ok (st_lIb d_273_102)
theorem ki_273_101 : js_Ok 273 101 (o_u (fun x => -x) 102) := js_St.ok (st_ineg d_273_101)
theorem ki_273_100 : js_Ok 273 100 (o_il 0 101) := js_St.ok (st_iloadn rfl d_273_100)
theorem ki_273_97 : js_Ok 273 97 (o_rc 27 100) := js_St.ok (st_gsR (by decide +kernel) kw_1225 d_273_97)
theorem ki_273_120 : js_Ok 273 120 (o_rI) := ok_rI rfl d_273_120
theorem ki_273_118 : js_Ok 273 118 (o_il 5 120) := js_St.ok (st_iload d_273_118)
theorem ki_273_117 : js_Ok 273 117 (o_sB 104 118) := js_St.ok (st_sB d_273_117)
theorem ki_273_115 : js_Ok 273 115 (o_ic 45 117) := js_St.ok (st_bipush rfl d_273_115)
theorem ki_273_113 : js_Ok 273 113 (o_il 5 115) := js_St.ok (st_iload d_273_113)
theorem d_274_0 : decode (js_b 274) 0 = .ok (.aload_n 0, 1) := by decide +kernel
theorem d_274_1 : decode (js_b 274) 1 = .ok (.aload_n 1, 1) := by decide +kernel
theorem d_274_2 : decode (js_b 274) 2 = .ok (.aconst_null, 1) := by decide +kernel
theorem d_274_3 : decode (js_b 274) 3 = .ok (.invokespecial 489, 3) := by decide +kernel
theorem d_274_6 : decode (js_b 274) 6 = .ok (.return_, 1) := by decide +kernel
theorem ki_274_6 : js_Ok 274 6 (o_rV) := ok_rV rfl d_274_6
theorem ki_274_3 : js_Ok 274 3 (o_cV 275 3 21 6) := ok_cV (site_I kk_274_275 (by decide) rfl rfl kw_1180 kw_1181 d_274_3) rfl
theorem ki_274_2 : js_Ok 274 2 (o_nc 3) := js_St.ok (st_null d_274_2)
theorem ki_274_1 : js_Ok 274 1 (o_al 1 2) := js_St.ok (st_aloadn rfl d_274_1)
theorem ki_274_0 : js_Ok 274 0 (o_al 0 1) := js_St.ok (st_aloadn rfl d_274_0)
theorem d_275_0 : decode (js_b 275) 0 = .ok (.aload_n 0, 1) := by decide +kernel
theorem d_275_1 : decode (js_b 275) 1 = .ok (.invokespecial 1, 3) := by decide +kernel
theorem d_275_4 : decode (js_b 275) 4 = .ok (.aload_n 1, 1) := by decide +kernel
theorem d_275_5 : decode (js_b 275) 5 = .ok (.invokevirtual 552, 3) := by decide +kernel
theorem d_275_8 : decode (js_b 275) 8 = .ok (.astore_n 3, 1) := by decide +kernel
theorem d_275_9 : decode (js_b 275) 9 = .ok (.aload_n 1, 1) := by decide +kernel
theorem d_275_10 : decode (js_b 275) 10 = .ok (.invokevirtual 549, 3) := by decide +kernel
theorem d_275_13 : decode (js_b 275) 13 = .ok (.istore 4, 2) := by decide +kernel
theorem d_275_15 : decode (js_b 275) 15 = .ok (.aload_n 1, 1) := by decide +kernel
theorem d_275_16 : decode (js_b 275) 16 = .ok (.invokevirtual 1047, 3) := by decide +kernel
theorem d_275_19 : decode (js_b 275) 19 = .ok (.ifCond .eq 22, 3) := by decide +kernel
theorem d_275_22 : decode (js_b 275) 22 = .ok (.aload_n 0, 1) := by decide +kernel
theorem d_275_23 : decode (js_b 275) 23 = .ok (.iconst 0, 1) := by decide +kernel
theorem d_275_24 : decode (js_b 275) 24 = .ok (.putfield 15, 3) := by decide +kernel
theorem d_275_27 : decode (js_b 275) 27 = .ok (.aload_n 0, 1) := by decide +kernel
theorem d_275_28 : decode (js_b 275) 28 = .ok (.aload_n 3, 1) := by decide +kernel
theorem d_275_29 : decode (js_b 275) 29 = .ok (.iconst 0, 1) := by decide +kernel
theorem d_275_30 : decode (js_b 275) 30 = .ok (.iload 4, 2) := by decide +kernel
theorem d_275_32 : decode (js_b 275) 32 = .ok (.invokestatic 54, 3) := by decide +kernel
theorem d_275_35 : decode (js_b 275) 35 = .ok (.putfield 9, 3) := by decide +kernel
theorem d_275_38 : decode (js_b 275) 38 = .ok (.goto 59, 3) := by decide +kernel
theorem d_275_41 : decode (js_b 275) 41 = .ok (.getstatic 38, 3) := by decide +kernel
theorem d_275_44 : decode (js_b 275) 44 = .ok (.ifCond .eq 35, 3) := by decide +kernel
theorem d_275_47 : decode (js_b 275) 47 = .ok (.aload_n 1, 1) := by decide +kernel
theorem d_275_48 : decode (js_b 275) 48 = .ok (.getfield 1048, 3) := by decide +kernel
theorem d_275_51 : decode (js_b 275) 51 = .ok (.ifCond .eq 28, 3) := by decide +kernel
theorem d_275_54 : decode (js_b 275) 54 = .ok (.aload_n 0, 1) := by decide +kernel
theorem d_275_55 : decode (js_b 275) 55 = .ok (.aload_n 3, 1) := by decide +kernel
theorem d_275_56 : decode (js_b 275) 56 = .ok (.iconst 0, 1) := by decide +kernel
theorem d_275_57 : decode (js_b 275) 57 = .ok (.iload 4, 2) := by decide +kernel
theorem d_275_59 : decode (js_b 275) 59 = .ok (.invokestatic 1051, 3) := by decide +kernel
theorem d_275_79 : decode (js_b 275) 79 = .ok (.aload_n 0, 1) := by decide +kernel
theorem d_275_80 : decode (js_b 275) 80 = .ok (.iconst 1, 1) := by decide +kernel
theorem d_275_81 : decode (js_b 275) 81 = .ok (.putfield 15, 3) := by decide +kernel
theorem d_275_84 : decode (js_b 275) 84 = .ok (.aload_n 0, 1) := by decide +kernel
theorem d_275_85 : decode (js_b 275) 85 = .ok (.aload_n 3, 1) := by decide +kernel
theorem d_275_86 : decode (js_b 275) 86 = .ok (.iconst 0, 1) := by decide +kernel
theorem d_275_87 : decode (js_b 275) 87 = .ok (.iload 4, 2) := by decide +kernel
theorem d_275_89 : decode (js_b 275) 89 = .ok (.iconst 1, 1) := by decide +kernel
theorem d_275_90 : decode (js_b 275) 90 = .ok (.ishl, 1) := by decide +kernel
theorem d_275_91 : decode (js_b 275) 91 = .ok (.invokestatic 54, 3) := by decide +kernel
theorem d_275_94 : decode (js_b 275) 94 = .ok (.putfield 9, 3) := by decide +kernel
theorem d_275_97 : decode (js_b 275) 97 = .ok (.return_, 1) := by decide +kernel
theorem ki_275_15 : js_Ok 275 15 (o_al 1 16) := js_St.ok (st_aloadn rfl d_275_15)
theorem ki_275_13 : js_Ok 275 13 (o_is 4 15) := js_St.ok (st_istore (Nat.le_of_ble_eq_true rfl) d_275_13)
theorem ki_275_10 : js_Ok 275 10 (o_cI 269 1 9 13) := ok_cI (site_O kk_275_269 (by decide) (by decide) kw_1189 kw_1191 kw_1190 kw_1196 kw_1192 kw_1193 rfl (fun t ht => by cases ht; exact Or.inl ⟨by decide, _, rfl, rfl⟩) d_275_10) rfl
theorem ki_275_9 : js_Ok 275 9 (o_al 1 10) := js_St.ok (st_aloadn rfl d_275_9)
theorem ki_275_8 : js_Ok 275 8 (o_as 3 9) := js_St.ok (st_astoren rfl (Nat.le_of_ble_eq_true rfl) d_275_8)
theorem ki_275_5 : js_Ok 275 5 (o_cA 267 1 9 8) := ok_cA (site_U kk_275_267 (by decide) rfl kw_1184 kw_1186 kw_1187 kw_1185 rfl (fun t ht => by cases ht; exact Or.inl ⟨by decide, _, rfl, rfl⟩) d_275_5) rfl
theorem ki_275_4 : js_Ok 275 4 (o_al 1 5) := js_St.ok (st_aloadn rfl d_275_4)
theorem ki_275_1 : js_Ok 275 1 (o_obj 4) := js_St.ok (st_obj kw_1183 kw_66 kw_67 d_275_1)
theorem ki_275_0 : js_Ok 275 0 (o_al 0 1) := js_St.ok (st_aloadn rfl d_275_0)
theorem ki_275_30 : js_Ok 275 30 (o_il 4 32) := js_St.ok (st_iload d_275_30)
theorem ki_275_29 : js_Ok 275 29 (o_ic 0 30) := js_St.ok (st_iconst rfl d_275_29)
theorem ki_275_28 : js_Ok 275 28 (o_al 3 29) := js_St.ok (st_aloadn rfl d_275_28)
theorem ki_275_27 : js_Ok 275 27 (o_al 0 28) := js_St.ok (st_aloadn rfl d_275_27)
theorem ki_275_24 : js_Ok 275 24 (o_pB 20 1 27) := js_Si.ok (st_pBfin js_c20 (by decide) rfl rfl rfl kw_1253 (js_c20.2.2.1 1 (by decide)) d_275_24)
theorem ki_275_23 : js_Ok 275 23 (o_ic 0 24) := js_St.ok (st_iconst rfl d_275_23)
theorem ki_275_22 : js_Ok 275 22 (o_al 0 23) := js_St.ok (st_aloadn rfl d_275_22)
theorem ki_275_19 : js_Ok 275 19 (o_eq 41 22) := js_St.ok (st_ifeq (by decide) d_275_19)
theorem ki_275_16 : js_Ok 275 16 (o_cI 266 1 9 19) := ok_cI (site_U kk_275_266 (by decide) rfl kw_1197 kw_1078 kw_1079 kw_1077 rfl (fun t ht => by cases ht; exact Or.inl ⟨by decide, _, rfl, rfl⟩) d_275_16) rfl
theorem ki_275_47 : js_Ok 275 47 (o_al 1 48) := js_St.ok (st_aloadn rfl d_275_47)
theorem ki_275_44 : js_Ok 275 44 (o_eq 79 47) := js_St.ok (st_ifeq (by decide) d_275_44)
theorem ki_275_41 : js_Ok 275 41 (o_ic 1 44) := js_St.ok (st_gsI (by decide +kernel) kw_1115 d_275_41)
theorem ki_275_38 : js_Ok 275 38 (o_go 97) := js_St.ok (st_goto (by decide) d_275_38)
theorem ki_275_35 : js_Ok 275 35 (o_pA 20 0 104 38) := js_Si.ok (st_pAfin js_c20 (by decide) rfl rfl rfl kw_1252 (Or.inr ⟨_, rfl⟩) (js_c20.2.2.1 0 (by decide)) d_275_35)
theorem ki_275_32 : js_Ok 275 32 (o_cA 279 3 0 35) := ok_cA (site_S kk_275_279 kw_1198 kw_1199 d_275_32) rfl
theorem ki_275_59 : js_Ok 275 59 (o_bad) := js_St.ok st_bad
theorem ki_275_57 : js_Ok 275 57 (o_il 4 59) := js_St.ok (st_iload d_275_57)
theorem ki_275_56 : js_Ok 275 56 (o_ic 0 57) := js_St.ok (st_iconst rfl d_275_56)
theorem ki_275_55 : js_Ok 275 55 (o_al 3 56) := js_St.ok (st_aloadn rfl d_275_55)
theorem ki_275_54 : js_Ok 275 54 (o_al 0 55) := js_St.ok (st_aloadn rfl d_275_54)
theorem ki_275_51 : js_Ok 275 51 (o_eq 79 54) := js_St.ok (st_ifeq (by decide) d_275_51)
theorem ki_275_48 : js_Ok 275 48 (o_gI 8 2 51) := js_St.ok (st_gI js_c8 (by decide) (by decide) kw_1025 d_275_48)
theorem ki_275_79 : js_Ok 275 79 (o_al 0 80) := js_St.ok (st_aloadn rfl d_275_79)
theorem ki_275_94 : js_Ok 275 94 (o_pA 20 0 104 97) := js_Si.ok (st_pAfin js_c20 (by decide) rfl rfl rfl kw_1252 (Or.inr ⟨_, rfl⟩) (js_c20.2.2.1 0 (by decide)) d_275_94)
theorem ki_275_91 : js_Ok 275 91 (o_cA 279 3 0 94) := ok_cA (site_S kk_275_279 kw_1198 kw_1199 d_275_91) rfl
theorem ki_275_90 : js_Ok 275 90 (o_b2 (fun x y => x <<< (y &&& 31)) 91) := js_St.ok (st_ishl d_275_90)
theorem ki_275_89 : js_Ok 275 89 (o_ic 1 90) := js_St.ok (st_iconst rfl d_275_89)
theorem ki_275_87 : js_Ok 275 87 (o_il 4 89) := js_St.ok (st_iload d_275_87)
theorem ki_275_86 : js_Ok 275 86 (o_ic 0 87) := js_St.ok (st_iconst rfl d_275_86)
theorem ki_275_85 : js_Ok 275 85 (o_al 3 86) := js_St.ok (st_aloadn rfl d_275_85)
theorem ki_275_84 : js_Ok 275 84 (o_al 0 85) := js_St.ok (st_aloadn rfl d_275_84)
theorem ki_275_81 : js_Ok 275 81 (o_pB 20 1 84) := js_Si.ok (st_pBfin js_c20 (by decide) rfl rfl rfl kw_1253 (js_c20.2.2.1 1 (by decide)) d_275_81)
theorem ki_275_80 : js_Ok 275 80 (o_ic 1 81) := js_St.ok (st_iconst rfl d_275_80)
theorem ki_275_97 : js_Ok 275 97 (o_rV) := ok_rV rfl d_275_97
theorem d_276_0 : decode (js_b 276) 0 = .ok (.aload_n 0, 1) := by decide +kernel
theorem d_276_1 : decode (js_b 276) 1 = .ok (.invokevirtual 335, 3) := by decide +kernel
theorem d_276_4 : decode (js_b 276) 4 = .ok (.iload_n 3, 1) := by decide +kernel
theorem d_276_5 : decode (js_b 276) 5 = .ok (.if_icmp .ne 23, 3) := by decide +kernel
theorem d_276_8 : decode (js_b 276) 8 = .ok (.aload_n 0, 1) := by decide +kernel
theorem d_276_9 : decode (js_b 276) 9 = .ok (.getfield 9, 3) := by decide +kernel
theorem d_276_12 : decode (js_b 276) 12 = .ok (.iconst 0, 1) := by decide +kernel
theorem d_276_13 : decode (js_b 276) 13 = .ok (.aload_n 1, 1) := by decide +kernel
theorem d_276_14 : decode (js_b 276) 14 = .ok (.iload_n 2, 1) := by decide +kernel
theorem d_276_15 : decode (js_b 276) 15 = .ok (.iload_n 3, 1) := by decide +kernel
theorem d_276_16 : decode (js_b 276) 16 = .ok (.ishl, 1) := by decide +kernel
theorem d_276_17 : decode (js_b 276) 17 = .ok (.aload_n 0, 1) := by decide +kernel
theorem d_276_18 : decode (js_b 276) 18 = .ok (.getfield 9, 3) := by decide +kernel
theorem d_276_21 : decode (js_b 276) 21 = .ok (.arraylength, 1) := by decide +kernel
theorem d_276_22 : decode (js_b 276) 22 = .ok (.invokestatic 212, 3) := by decide +kernel
theorem d_276_25 : decode (js_b 276) 25 = .ok (.goto 18, 3) := by decide +kernel
theorem d_276_28 : decode (js_b 276) 28 = .ok (.aload_n 0, 1) := by decide +kernel
theorem d_276_29 : decode (js_b 276) 29 = .ok (.getfield 9, 3) := by decide +kernel
theorem d_276_32 : decode (js_b 276) 32 = .ok (.iconst 0, 1) := by decide +kernel
theorem d_276_33 : decode (js_b 276) 33 = .ok (.aload_n 1, 1) := by decide +kernel
theorem d_276_34 : decode (js_b 276) 34 = .ok (.iload_n 2, 1) := by decide +kernel
theorem d_276_35 : decode (js_b 276) 35 = .ok (.aload_n 0, 1) := by decide +kernel
theorem d_276_36 : decode (js_b 276) 36 = .ok (.getfield 9, 3) := by decide +kernel
theorem d_276_39 : decode (js_b 276) 39 = .ok (.arraylength, 1) := by decide +kernel
theorem d_276_40 : decode (js_b 276) 40 = .ok (.invokestatic 106, 3) := by decide +kernel
theorem d_276_43 : decode (js_b 276) 43 = .ok (.return_, 1) := by decide +kernel
theorem ki_276_15 : js_Ok 276 15 (o_il 3 16) := js_St.ok (st_iloadn rfl d_276_15)
theorem ki_276_14 : js_Ok 276 14 (o_il 2 15) := js_St.ok (st_iloadn rfl d_276_14)
theorem ki_276_13 : js_Ok 276 13 (o_al 1 14) := js_St.ok (st_aloadn rfl d_276_13)
theorem ki_276_12 : js_Ok 276 12 (o_ic 0 13) := js_St.ok (st_iconst rfl d_276_12)
theorem ki_276_9 : js_Ok 276 9 (o_gA 20 0 12) := js_St.ok (st_gA20 (by decide) rfl kw_1252 d_276_9)
theorem ki_276_8 : js_Ok 276 8 (o_al 0 9) := js_St.ok (st_aloadn rfl d_276_8)
theorem ki_276_5 : js_Ok 276 5 (o_cne 28 8) := js_St.ok (st_icne (by decide) d_276_5)
theorem ki_276_4 : js_Ok 276 4 (o_il 3 5) := js_St.ok (st_iloadn rfl d_276_4)
theorem ki_276_1 : js_Ok 276 1 (o_cI 250 1 21 4) := ok_cI (site_V kk_276_250 (by decide) kw_1111 kw_1112 kw_1113 (fun t ht => by cases ht; exact Or.inr (Or.inl ⟨rfl, rfl⟩)) d_276_1) rfl
theorem ki_276_0 : js_Ok 276 0 (o_al 0 1) := js_St.ok (st_aloadn rfl d_276_0)
theorem ki_276_29 : js_Ok 276 29 (o_gA 20 0 32) := js_St.ok (st_gA20 (by decide) rfl kw_1252 d_276_29)
theorem ki_276_28 : js_Ok 276 28 (o_al 0 29) := js_St.ok (st_aloadn rfl d_276_28)
theorem ki_276_25 : js_Ok 276 25 (o_go 43) := js_St.ok (st_goto (by decide) d_276_25)
theorem ki_276_22 : js_Ok 276 22 (o_cp 104 25) := js_St.ok (st_cpb kw_1148 kw_297 kw_296 kw_32 d_276_22)
theorem ki_276_21 : js_Ok 276 21 (o_len 22) := js_St.ok (st_len d_276_21)
theorem ki_276_18 : js_Ok 276 18 (o_gA 20 0 21) := js_St.ok (st_gA20 (by decide) rfl kw_1252 d_276_18)
theorem ki_276_17 : js_Ok 276 17 (o_al 0 18) := js_St.ok (st_aloadn rfl d_276_17)
theorem ki_276_16 : js_Ok 276 16 (o_b2 (fun x y => x <<< (y &&& 31)) 17) := js_St.ok (st_ishl d_276_16)
theorem ki_276_43 : js_Ok 276 43 (o_rV) := ok_rV rfl d_276_43
theorem ki_276_40 : js_Ok 276 40 (o_bad) := js_St.ok st_bad
theorem ki_276_39 : js_Ok 276 39 (o_len 40) := js_St.ok (st_len d_276_39)
theorem ki_276_36 : js_Ok 276 36 (o_gA 20 0 39) := js_St.ok (st_gA20 (by decide) rfl kw_1252 d_276_36)
theorem ki_276_35 : js_Ok 276 35 (o_al 0 36) := js_St.ok (st_aloadn rfl d_276_35)
theorem ki_276_34 : js_Ok 276 34 (o_il 2 35) := js_St.ok (st_iloadn rfl d_276_34)
theorem ki_276_33 : js_Ok 276 33 (o_al 1 34) := js_St.ok (st_aloadn rfl d_276_33)
theorem ki_276_32 : js_Ok 276 32 (o_ic 0 33) := js_St.ok (st_iconst rfl d_276_32)
theorem d_277_0 : decode (js_b 277) 0 = .ok (.iload_n 0, 1) := by decide +kernel
theorem d_277_1 : decode (js_b 277) 1 = .ok (.sipush 255, 3) := by decide +kernel
theorem d_277_4 : decode (js_b 277) 4 = .ok (.if_icmp .gt 7, 3) := by decide +kernel
theorem d_277_7 : decode (js_b 277) 7 = .ok (.iconst 1, 1) := by decide +kernel
theorem d_277_8 : decode (js_b 277) 8 = .ok (.goto 4, 3) := by decide +kernel
theorem d_277_11 : decode (js_b 277) 11 = .ok (.iconst 0, 1) := by decide +kernel
theorem d_277_12 : decode (js_b 277) 12 = .ok (.ireturn, 1) := by decide +kernel
theorem ki_277_12 : js_Ok 277 12 (o_rZ) := ok_rZ rfl d_277_12
theorem ki_277_11 : js_Ok 277 11 (o_ic 0 12) := js_St.ok (st_iconst rfl d_277_11)
theorem ki_277_8 : js_Ok 277 8 (o_go 12) := js_St.ok (st_goto (by decide) d_277_8)
theorem ki_277_7 : js_Ok 277 7 (o_ic 1 8) := js_St.ok (st_iconst rfl d_277_7)
theorem ki_277_4 : js_Ok 277 4 (o_cgt 11 7) := js_St.ok (st_icgt (by decide) d_277_4)
theorem ki_277_1 : js_Ok 277 1 (o_ic 255 4) := js_St.ok (st_sipush rfl d_277_1)
theorem ki_277_0 : js_Ok 277 0 (o_il 0 1) := js_St.ok (st_iloadn rfl d_277_0)
theorem d_278_0 : decode (js_b 278) 0 = .ok (.iload_n 1, 1) := by decide +kernel
theorem d_278_1 : decode (js_b 278) 1 = .ok (.aload_n 0, 1) := by decide +kernel
theorem d_278_2 : decode (js_b 278) 2 = .ok (.arraylength, 1) := by decide +kernel
theorem d_278_3 : decode (js_b 278) 3 = .ok (.if_icmp .ne 11, 3) := by decide +kernel
theorem d_278_6 : decode (js_b 278) 6 = .ok (.aload_n 0, 1) := by decide +kernel
theorem d_278_7 : decode (js_b 278) 7 = .ok (.invokevirtual 310, 3) := by decide +kernel
theorem d_278_10 : decode (js_b 278) 10 = .ok (.checkcast 311, 3) := by decide +kernel
theorem d_278_13 : decode (js_b 278) 13 = .ok (.areturn, 1) := by decide +kernel
theorem d_278_14 : decode (js_b 278) 14 = .ok (.iload_n 1, 1) := by decide +kernel
theorem d_278_15 : decode (js_b 278) 15 = .ok (.newarray .byte, 2) := by decide +kernel
theorem d_278_17 : decode (js_b 278) 17 = .ok (.astore_n 2, 1) := by decide +kernel
theorem d_278_18 : decode (js_b 278) 18 = .ok (.aload_n 0, 1) := by decide +kernel
theorem d_278_19 : decode (js_b 278) 19 = .ok (.iconst 0, 1) := by decide +kernel
theorem d_278_20 : decode (js_b 278) 20 = .ok (.aload_n 2, 1) := by decide +kernel
theorem d_278_21 : decode (js_b 278) 21 = .ok (.iconst 0, 1) := by decide +kernel
theorem d_278_22 : decode (js_b 278) 22 = .ok (.aload_n 0, 1) := by decide +kernel
theorem d_278_23 : decode (js_b 278) 23 = .ok (.arraylength, 1) := by decide +kernel
theorem d_278_24 : decode (js_b 278) 24 = .ok (.iload_n 1, 1) := by decide +kernel
theorem d_278_25 : decode (js_b 278) 25 = .ok (.invokestatic 304, 3) := by decide +kernel
theorem d_278_28 : decode (js_b 278) 28 = .ok (.invokestatic 150, 3) := by decide +kernel
theorem d_278_31 : decode (js_b 278) 31 = .ok (.aload_n 2, 1) := by decide +kernel
theorem d_278_32 : decode (js_b 278) 32 = .ok (.areturn, 1) := by decide +kernel
theorem ki_278_15 : js_Ok 278 15 (o_na 104 (.int 0) 17) := js_St.ok (st_na (by decide) rfl (fun _ h => by cases h) (by decide) (fun _ => rfl) kw_390 d_278_15)
theorem ki_278_14 : js_Ok 278 14 (o_il 1 15) := js_St.ok (st_iloadn rfl d_278_14)
theorem ki_278_13 : js_Ok 278 13 (o_rA) := ok_rA (Or.inr ⟨_, rfl⟩) rfl d_278_13
theorem ki_278_10 : js_Ok 278 10 (o_ca 104 13) := js_St.ok (st_ca kw_1073 d_278_10)
theorem ki_278_7 : js_Ok 278 7 (o_cl 104 10) := js_St.ok (st_cl kw_1067 kw_1068 kw_1069 kw_1070 kw_1071 kn_1072 d_278_7)
theorem ki_278_6 : js_Ok 278 6 (o_al 0 7) := js_St.ok (st_aloadn rfl d_278_6)
theorem ki_278_3 : js_Ok 278 3 (o_cne 14 6) := js_St.ok (st_icne (by decide) d_278_3)
theorem ki_278_2 : js_Ok 278 2 (o_len 3) := js_St.ok (st_len d_278_2)
theorem ki_278_1 : js_Ok 278 1 (o_al 0 2) := js_St.ok (st_aloadn rfl d_278_1)
theorem ki_278_0 : js_Ok 278 0 (o_il 1 1) := js_St.ok (st_iloadn rfl d_278_0)
theorem ki_278_31 : js_Ok 278 31 (o_al 2 32) := js_St.ok (st_aloadn rfl d_278_31)
theorem ki_278_28 : js_Ok 278 28 (o_cp 104 31) := js_St.ok (st_cpb kw_1075 kw_297 kw_296 kw_32 d_278_28)
theorem ki_278_25 : js_Ok 278 25 (o_cI 247 2 0 28) := ok_cI (site_S kk_278_247 kw_1074 kw_444 d_278_25) rfl
theorem ki_278_24 : js_Ok 278 24 (o_il 1 25) := js_St.ok (st_iloadn rfl d_278_24)
theorem ki_278_23 : js_Ok 278 23 (o_len 24) := js_St.ok (st_len d_278_23)
theorem ki_278_22 : js_Ok 278 22 (o_al 0 23) := js_St.ok (st_aloadn rfl d_278_22)
theorem ki_278_21 : js_Ok 278 21 (o_ic 0 22) := js_St.ok (st_iconst rfl d_278_21)
theorem ki_278_20 : js_Ok 278 20 (o_al 2 21) := js_St.ok (st_aloadn rfl d_278_20)
theorem ki_278_19 : js_Ok 278 19 (o_ic 0 20) := js_St.ok (st_iconst rfl d_278_19)
theorem ki_278_18 : js_Ok 278 18 (o_al 0 19) := js_St.ok (st_aloadn rfl d_278_18)
theorem ki_278_17 : js_Ok 278 17 (o_as 2 18) := js_St.ok (st_astoren rfl (Nat.le_of_ble_eq_true rfl) d_278_17)
theorem ki_278_32 : js_Ok 278 32 (o_rA) := ok_rA (Or.inr ⟨_, rfl⟩) rfl d_278_32
theorem d_279_0 : decode (js_b 279) 0 = .ok (.iload_n 1, 1) := by decide +kernel
theorem d_279_1 : decode (js_b 279) 1 = .ok (.ifCond .ne 9, 3) := by decide +kernel
theorem d_279_4 : decode (js_b 279) 4 = .ok (.iload_n 2, 1) := by decide +kernel
theorem d_279_5 : decode (js_b 279) 5 = .ok (.aload_n 0, 1) := by decide +kernel
theorem d_279_6 : decode (js_b 279) 6 = .ok (.arraylength, 1) := by decide +kernel
theorem d_279_7 : decode (js_b 279) 7 = .ok (.if_icmp .eq 10, 3) := by decide +kernel
theorem d_279_10 : decode (js_b 279) 10 = .ok (.aload_n 0, 1) := by decide +kernel
theorem d_279_11 : decode (js_b 279) 11 = .ok (.iload_n 1, 1) := by decide +kernel
theorem d_279_12 : decode (js_b 279) 12 = .ok (.iload_n 2, 1) := by decide +kernel
theorem d_279_13 : decode (js_b 279) 13 = .ok (.invokestatic 339, 3) := by decide +kernel
theorem d_279_16 : decode (js_b 279) 16 = .ok (.areturn, 1) := by decide +kernel
theorem d_279_17 : decode (js_b 279) 17 = .ok (.aload_n 0, 1) := by decide +kernel
theorem d_279_18 : decode (js_b 279) 18 = .ok (.invokevirtual 310, 3) := by decide +kernel
theorem d_279_21 : decode (js_b 279) 21 = .ok (.checkcast 311, 3) := by decide +kernel
theorem d_279_24 : decode (js_b 279) 24 = .ok (.areturn, 1) := by decide +kernel
theorem ki_279_13 : js_Ok 279 13 (o_cA 280 3 0 16) := ok_cA (site_S kk_279_280 kw_1201 kw_1202 d_279_13) rfl
theorem ki_279_12 : js_Ok 279 12 (o_il 2 13) := js_St.ok (st_iloadn rfl d_279_12)
theorem ki_279_11 : js_Ok 279 11 (o_il 1 12) := js_St.ok (st_iloadn rfl d_279_11)
theorem ki_279_10 : js_Ok 279 10 (o_al 0 11) := js_St.ok (st_aloadn rfl d_279_10)
theorem ki_279_7 : js_Ok 279 7 (o_ceq 17 10) := js_St.ok (st_iceq (by decide) d_279_7)
theorem ki_279_6 : js_Ok 279 6 (o_len 7) := js_St.ok (st_len d_279_6)
theorem ki_279_5 : js_Ok 279 5 (o_al 0 6) := js_St.ok (st_aloadn rfl d_279_5)
theorem ki_279_4 : js_Ok 279 4 (o_il 2 5) := js_St.ok (st_iloadn rfl d_279_4)
theorem ki_279_1 : js_Ok 279 1 (o_ne 10 4) := js_St.ok (st_ifne (by decide) d_279_1)
theorem ki_279_0 : js_Ok 279 0 (o_il 1 1) := js_St.ok (st_iloadn rfl d_279_0)
theorem ki_279_24 : js_Ok 279 24 (o_rA) := ok_rA (Or.inr ⟨_, rfl⟩) rfl d_279_24
theorem ki_279_21 : js_Ok 279 21 (o_ca 104 24) := js_St.ok (st_ca kw_1073 d_279_21)
theorem ki_279_18 : js_Ok 279 18 (o_cl 104 21) := js_St.ok (st_cl kw_1067 kw_1068 kw_1069 kw_1070 kw_1071 kn_1072 d_279_18)
theorem ki_279_17 : js_Ok 279 17 (o_al 0 18) := js_St.ok (st_aloadn rfl d_279_17)
theorem ki_279_16 : js_Ok 279 16 (o_rA) := ok_rA (Or.inr ⟨_, rfl⟩) rfl d_279_16
theorem d_280_0 : decode (js_b 280) 0 = .ok (.iload_n 1, 1) := by decide +kernel
theorem d_280_1 : decode (js_b 280) 1 = .ok (.iload_n 2, 1) := by decide +kernel
theorem d_280_2 : decode (js_b 280) 2 = .ok (.invokestatic 343, 3) := by decide +kernel
theorem d_280_5 : decode (js_b 280) 5 = .ok (.iload_n 2, 1) := by decide +kernel
theorem d_280_6 : decode (js_b 280) 6 = .ok (.iload_n 1, 1) := by decide +kernel
theorem d_280_7 : decode (js_b 280) 7 = .ok (.isub, 1) := by decide +kernel
theorem d_280_8 : decode (js_b 280) 8 = .ok (.istore_n 3, 1) := by decide +kernel
theorem d_280_9 : decode (js_b 280) 9 = .ok (.iload_n 3, 1) := by decide +kernel
theorem d_280_10 : decode (js_b 280) 10 = .ok (.newarray .byte, 2) := by decide +kernel
theorem d_280_12 : decode (js_b 280) 12 = .ok (.astore 4, 2) := by decide +kernel
theorem d_280_14 : decode (js_b 280) 14 = .ok (.aload_n 0, 1) := by decide +kernel
theorem d_280_15 : decode (js_b 280) 15 = .ok (.iload_n 1, 1) := by decide +kernel
theorem d_280_16 : decode (js_b 280) 16 = .ok (.aload 4, 2) := by decide +kernel
theorem d_280_18 : decode (js_b 280) 18 = .ok (.iconst 0, 1) := by decide +kernel
theorem d_280_19 : decode (js_b 280) 19 = .ok (.aload_n 0, 1) := by decide +kernel
theorem d_280_20 : decode (js_b 280) 20 = .ok (.arraylength, 1) := by decide +kernel
theorem d_280_21 : decode (js_b 280) 21 = .ok (.iload_n 1, 1) := by decide +kernel
theorem d_280_22 : decode (js_b 280) 22 = .ok (.isub, 1) := by decide +kernel
theorem d_280_23 : decode (js_b 280) 23 = .ok (.iload_n 3, 1) := by decide +kernel
theorem d_280_24 : decode (js_b 280) 24 = .ok (.invokestatic 304, 3) := by decide +kernel
theorem d_280_27 : decode (js_b 280) 27 = .ok (.invokestatic 150, 3) := by decide +kernel
theorem d_280_30 : decode (js_b 280) 30 = .ok (.aload 4, 2) := by decide +kernel
theorem d_280_32 : decode (js_b 280) 32 = .ok (.areturn, 1) := by decide +kernel
theorem ki_280_15 : js_Ok 280 15 (o_il 1 16) := js_St.ok (st_iloadn rfl d_280_15)
theorem ki_280_14 : js_Ok 280 14 (o_al 0 15) := js_St.ok (st_aloadn rfl d_280_14)
theorem ki_280_12 : js_Ok 280 12 (o_as 4 14) := js_St.ok (st_astore (Nat.le_of_ble_eq_true rfl) d_280_12)
theorem ki_280_10 : js_Ok 280 10 (o_na 104 (.int 0) 12) := js_St.ok (st_na (by decide) rfl (fun _ h => by cases h) (by decide) (fun _ => rfl) kw_390 d_280_10)
theorem ki_280_9 : js_Ok 280 9 (o_il 3 10) := js_St.ok (st_iloadn rfl d_280_9)
theorem ki_280_8 : js_Ok 280 8 (o_is 3 9) := js_St.ok (st_istoren rfl (Nat.le_of_ble_eq_true rfl) d_280_8)
theorem ki_280_7 : js_Ok 280 7 (o_b2 (fun x y => x - y) 8) := js_St.ok (st_isub d_280_7)
theorem ki_280_6 : js_Ok 280 6 (o_il 1 7) := js_St.ok (st_iloadn rfl d_280_6)
theorem ki_280_5 : js_Ok 280 5 (o_il 2 6) := js_St.ok (st_iloadn rfl d_280_5)
theorem ki_280_2 : js_Ok 280 2 (o_cV 281 2 0 5) := ok_cV (site_S kk_280_281 kw_1204 kw_1205 d_280_2) rfl
theorem ki_280_1 : js_Ok 280 1 (o_il 2 2) := js_St.ok (st_iloadn rfl d_280_1)
theorem ki_280_0 : js_Ok 280 0 (o_il 1 1) := js_St.ok (st_iloadn rfl d_280_0)
theorem ki_280_30 : js_Ok 280 30 (o_al 4 32) := js_St.ok (st_aload d_280_30)
theorem ki_280_27 : js_Ok 280 27 (o_cp 104 30) := js_St.ok (st_cpb kw_1075 kw_297 kw_296 kw_32 d_280_27)
theorem ki_280_24 : js_Ok 280 24 (o_cI 247 2 0 27) := ok_cI (site_S kk_280_247 kw_1074 kw_444 d_280_24) rfl
theorem ki_280_23 : js_Ok 280 23 (o_il 3 24) := js_St.ok (st_iloadn rfl d_280_23)
theorem ki_280_22 : js_Ok 280 22 (o_b2 (fun x y => x - y) 23) := js_St.ok (st_isub d_280_22)
theorem ki_280_21 : js_Ok 280 21 (o_il 1 22) := js_St.ok (st_iloadn rfl d_280_21)
theorem ki_280_20 : js_Ok 280 20 (o_len 21) := js_St.ok (st_len d_280_20)
theorem ki_280_19 : js_Ok 280 19 (o_al 0 20) := js_St.ok (st_aloadn rfl d_280_19)
theorem ki_280_18 : js_Ok 280 18 (o_ic 0 19) := js_St.ok (st_iconst rfl d_280_18)
theorem ki_280_16 : js_Ok 280 16 (o_al 4 18) := js_St.ok (st_aload d_280_16)
theorem ki_280_32 : js_Ok 280 32 (o_rA) := ok_rA (Or.inr ⟨_, rfl⟩) rfl d_280_32
theorem d_281_0 : decode (js_b 281) 0 = .ok (.iload_n 1, 1) := by decide +kernel
theorem d_281_1 : decode (js_b 281) 1 = .ok (.iload_n 0, 1) := by decide +kernel
theorem d_281_2 : decode (js_b 281) 2 = .ok (.if_icmp .ge 35, 3) := by decide +kernel
theorem d_281_5 : decode (js_b 281) 5 = .ok (.new 43, 3) := by decide +kernel
theorem d_281_37 : decode (js_b 281) 37 = .ok (.return_, 1) := by decide +kernel
theorem ki_281_5 : js_Ok 281 5 (o_bad) := js_St.ok st_bad
theorem ki_281_2 : js_Ok 281 2 (o_cge 37 5) := js_St.ok (st_icge (by decide) d_281_2)
theorem ki_281_1 : js_Ok 281 1 (o_il 0 2) := js_St.ok (st_iloadn rfl d_281_1)
theorem ki_281_0 : js_Ok 281 0 (o_il 1 1) := js_St.ok (st_iloadn rfl d_281_0)
theorem ki_281_37 : js_Ok 281 37 (o_rV) := ok_rV rfl d_281_37
theorem d_282_0 : decode (js_b 282) 0 = .ok (.iload_n 0, 1) := by decide +kernel
theorem d_282_1 : decode (js_b 282) 1 = .ok (.iload_n 1, 1) := by decide +kernel
theorem d_282_2 : decode (js_b 282) 2 = .ok (.iload_n 2, 1) := by decide +kernel
theorem d_282_3 : decode (js_b 282) 3 = .ok (.invokestatic 194, 3) := by decide +kernel
theorem d_282_6 : decode (js_b 282) 6 = .ok (.iadd, 1) := by decide +kernel
theorem d_282_7 : decode (js_b 282) 7 = .ok (.istore_n 3, 1) := by decide +kernel
theorem d_282_8 : decode (js_b 282) 8 = .ok (.iconst 0, 1) := by decide +kernel
theorem d_282_9 : decode (js_b 282) 9 = .ok (.iload_n 3, 1) := by decide +kernel
theorem d_282_10 : decode (js_b 282) 10 = .ok (.if_icmp .ge 11, 3) := by decide +kernel
theorem d_282_13 : decode (js_b 282) 13 = .ok (.iload_n 3, 1) := by decide +kernel
theorem d_282_14 : decode (js_b 282) 14 = .ok (.ldc 200, 2) := by decide +kernel
theorem d_282_16 : decode (js_b 282) 16 = .ok (.if_icmp .gt 5, 3) := by decide +kernel
theorem d_282_19 : decode (js_b 282) 19 = .ok (.iload_n 3, 1) := by decide +kernel
theorem d_282_20 : decode (js_b 282) 20 = .ok (.ireturn, 1) := by decide +kernel
theorem d_282_21 : decode (js_b 282) 21 = .ok (.iload_n 0, 1) := by decide +kernel
theorem d_282_22 : decode (js_b 282) 22 = .ok (.iload_n 1, 1) := by decide +kernel
theorem d_282_23 : decode (js_b 282) 23 = .ok (.invokestatic 201, 3) := by decide +kernel
theorem ki_282_14 : js_Ok 282 14 (o_ic 2147483639 16) := js_St.ok (st_ldc kw_1059 d_282_14)
theorem ki_282_13 : js_Ok 282 13 (o_il 3 14) := js_St.ok (st_iloadn rfl d_282_13)
theorem ki_282_10 : js_Ok 282 10 (o_cge 21 13) := js_St.ok (st_icge (by decide) d_282_10)
theorem ki_282_9 : js_Ok 282 9 (o_il 3 10) := js_St.ok (st_iloadn rfl d_282_9)
theorem ki_282_8 : js_Ok 282 8 (o_ic 0 9) := js_St.ok (st_iconst rfl d_282_8)
theorem ki_282_7 : js_Ok 282 7 (o_is 3 8) := js_St.ok (st_istoren rfl (Nat.le_of_ble_eq_true rfl) d_282_7)
theorem ki_282_6 : js_Ok 282 6 (o_b2 (fun x y => x + y) 7) := js_St.ok (st_iadd d_282_6)
theorem ki_282_3 : js_Ok 282 3 (o_cI 246 2 0 6) := ok_cI (site_S kk_282_246 kw_1058 kw_568 d_282_3) rfl
theorem ki_282_2 : js_Ok 282 2 (o_il 2 3) := js_St.ok (st_iloadn rfl d_282_2)
theorem ki_282_1 : js_Ok 282 1 (o_il 1 2) := js_St.ok (st_iloadn rfl d_282_1)
theorem ki_282_0 : js_Ok 282 0 (o_il 0 1) := js_St.ok (st_iloadn rfl d_282_0)
theorem ki_282_23 : js_Ok 282 23 (o_bad) := js_St.ok st_bad
theorem ki_282_22 : js_Ok 282 22 (o_il 1 23) := js_St.ok (st_iloadn rfl d_282_22)
theorem ki_282_21 : js_Ok 282 21 (o_il 0 22) := js_St.ok (st_iloadn rfl d_282_21)
theorem ki_282_20 : js_Ok 282 20 (o_rI) := ok_rI rfl d_282_20
theorem ki_282_19 : js_Ok 282 19 (o_il 3 20) := js_St.ok (st_iloadn rfl d_282_19)
theorem ki_282_16 : js_Ok 282 16 (o_cgt 21 19) := js_St.ok (st_icgt (by decide) d_282_16)
set_option maxRecDepth 20000 in
theorem mk_259 : js_mok 259 := ⟨by decide +kernel, jk_tab (fun _ => js_St.ok st_bad) (show jk_all (js_Ok 259) 0 tb_259 from ⟨⟨ki_259_0, ⟨ki_259_1, ⟨ki_259_2, ⟨kbad, ⟨kbad, ⟨ki_259_5, ⟨ki_259_6, ⟨ki_259_7, trivial⟩⟩⟩⟩⟩⟩⟩⟩, trivial⟩)⟩
set_option maxRecDepth 20000 in
theorem mk_260 : js_mok 260 := ⟨by decide +kernel, jk_tab (fun _ => js_St.ok st_bad) (show jk_all (js_Ok 260) 0 tb_260 from ⟨⟨ki_260_0, ⟨kbad, ⟨kbad, ⟨ki_260_3, ⟨ki_260_4, ⟨ki_260_5, ⟨kbad, ⟨kbad, ⟨ki_260_8, trivial⟩⟩⟩⟩⟩⟩⟩⟩⟩, trivial⟩)⟩
set_option maxRecDepth 20000 in
theorem mk_261 : js_mok 261 := ⟨by decide +kernel, jk_tab (fun _ => js_St.ok st_bad) (show jk_all (js_Ok 261) 0 tb_261 from ⟨⟨ki_261_0, ⟨ki_261_1, ⟨kbad, ⟨kbad, ⟨ki_261_4, ⟨ki_261_5, ⟨kbad, ⟨kbad, ⟨kbad, ⟨ki_261_9, ⟨ki_261_10, ⟨kbad, ⟨kbad, ⟨ki_261_13, ⟨ki_261_14, ⟨ki_261_15, trivial⟩⟩⟩⟩⟩⟩⟩⟩⟩⟩⟩⟩⟩⟩⟩⟩, ⟨⟨ki_261_16, ⟨kbad, ⟨kbad, ⟨ki_261_19, ⟨ki_261_20, ⟨ki_261_21, ⟨kbad, ⟨kbad, ⟨ki_261_24, ⟨ki_261_25, ⟨ki_261_26, ⟨kbad, ⟨kbad, ⟨ki_261_29, ⟨ki_261_30, ⟨kbad, trivial⟩⟩⟩⟩⟩⟩⟩⟩⟩⟩⟩⟩⟩⟩⟩⟩, ⟨⟨kbad, ⟨ki_261_33, ⟨ki_261_34, ⟨ki_261_35, ⟨kbad, ⟨kbad, ⟨ki_261_38, ⟨ki_261_39, ⟨ki_261_40, ⟨kbad, ⟨kbad, ⟨ki_261_43, ⟨ki_261_44, trivial⟩⟩⟩⟩⟩⟩⟩⟩⟩⟩⟩⟩⟩, trivial⟩⟩⟩)⟩
set_option maxRecDepth 20000 in
theorem mk_262 : js_mok 262 := ⟨by decide +kernel, jk_tab (fun _ => js_St.ok st_bad) (show jk_all (js_Ok 262) 0 tb_262 from ⟨⟨ki_262_0, ⟨ki_262_1, ⟨ki_262_2, ⟨kbad, ⟨kbad, ⟨ki_262_5, ⟨ki_262_6, ⟨ki_262_7, ⟨kbad, ⟨kbad, ⟨ki_262_10, ⟨ki_262_11, ⟨kbad, ⟨kbad, ⟨ki_262_14, ⟨kbad, trivial⟩⟩⟩⟩⟩⟩⟩⟩⟩⟩⟩⟩⟩⟩⟩⟩, ⟨⟨kbad, ⟨ki_262_17, ⟨ki_262_18, ⟨kbad, ⟨kbad, ⟨ki_262_21, ⟨kbad, ⟨kbad, ⟨ki_262_24, ⟨ki_262_25, ⟨kbad, ⟨kbad, ⟨ki_262_28, ⟨ki_262_29, ⟨ki_262_30, ⟨kbad, trivial⟩⟩⟩⟩⟩⟩⟩⟩⟩⟩⟩⟩⟩⟩⟩⟩, ⟨⟨kbad, ⟨ki_262_33, ⟨ki_262_34, ⟨ki_262_35, ⟨ki_262_36, ⟨kbad, ⟨kbad, ⟨ki_262_39, ⟨ki_262_40, ⟨ki_262_41, ⟨ki_262_42, ⟨kbad, ⟨kbad, ⟨ki_262_45, ⟨ki_262_46, ⟨kbad, trivial⟩⟩⟩⟩⟩⟩⟩⟩⟩⟩⟩⟩⟩⟩⟩⟩, ⟨⟨kbad, ⟨ki_262_49, ⟨kbad, ⟨kbad, ⟨ki_262_52, ⟨ki_262_53, ⟨kbad, ⟨kbad, ⟨ki_262_56, ⟨ki_262_57, ⟨kbad, ⟨kbad, ⟨ki_262_60, ⟨ki_262_61, ⟨ki_262_62, ⟨kbad, trivial⟩⟩⟩⟩⟩⟩⟩⟩⟩⟩⟩⟩⟩⟩⟩⟩, ⟨⟨kbad, ⟨ki_262_65, ⟨ki_262_66, ⟨ki_262_67, ⟨ki_262_68, ⟨kbad, ⟨kbad, ⟨ki_262_71, ⟨ki_262_72, ⟨kbad, ⟨kbad, ⟨ki_262_75, ⟨ki_262_76, trivial⟩⟩⟩⟩⟩⟩⟩⟩⟩⟩⟩⟩⟩, trivial⟩⟩⟩⟩⟩)⟩
set_option maxRecDepth 20000 in
theorem mk_263 : js_mok 263 := ⟨by decide +kernel, jk_tab (fun _ => js_St.ok st_bad) (show jk_all (js_Ok 263) 0 tb_263 from ⟨⟨ki_263_0, ⟨ki_263_1, ⟨kbad, ⟨kbad, ⟨ki_263_4, ⟨ki_263_5, ⟨ki_263_6, ⟨ki_263_7, ⟨kbad, ⟨kbad, ⟨ki_263_10, ⟨ki_263_11, ⟨ki_263_12, ⟨ki_263_13, ⟨ki_263_14, ⟨kbad, trivial⟩⟩⟩⟩⟩⟩⟩⟩⟩⟩⟩⟩⟩⟩⟩⟩, ⟨⟨kbad, ⟨ki_263_17, ⟨ki_263_18, ⟨kbad, ⟨kbad, ⟨ki_263_21, ⟨kbad, ⟨kbad, ⟨ki_263_24, ⟨ki_263_25, ⟨ki_263_26, ⟨ki_263_27, ⟨kbad, ⟨kbad, ⟨ki_263_30, ⟨kbad, trivial⟩⟩⟩⟩⟩⟩⟩⟩⟩⟩⟩⟩⟩⟩⟩⟩, ⟨⟨kbad, ⟨ki_263_33, ⟨ki_263_34, ⟨kbad, ⟨kbad, ⟨ki_263_37, ⟨ki_263_38, ⟨ki_263_39, ⟨ki_263_40, ⟨ki_263_41, ⟨kbad, ⟨kbad, ⟨ki_263_44, ⟨kbad, ⟨kbad, ⟨kbad, trivial⟩⟩⟩⟩⟩⟩⟩⟩⟩⟩⟩⟩⟩⟩⟩⟩, ⟨⟨ki_263_48, ⟨ki_263_49, ⟨ki_263_50, ⟨kbad, ⟨kbad, ⟨ki_263_53, ⟨ki_263_54, trivial⟩⟩⟩⟩⟩⟩⟩, trivial⟩⟩⟩⟩)⟩
set_option maxRecDepth 20000 in
theorem mk_264 : js_mok 264 := ⟨by decide +kernel, jk_tab (fun _ => js_St.ok st_bad) (show jk_all (js_Ok 264) 0 tb_264 from ⟨⟨ki_264_0, ⟨ki_264_1, ⟨kbad, ⟨kbad, ⟨ki_264_4, ⟨ki_264_5, ⟨ki_264_6, ⟨kbad, ⟨kbad, ⟨ki_264_9, ⟨ki_264_10, ⟨ki_264_11, ⟨ki_264_12, ⟨ki_264_13, ⟨ki_264_14, ⟨kbad, trivial⟩⟩⟩⟩⟩⟩⟩⟩⟩⟩⟩⟩⟩⟩⟩⟩, ⟨⟨kbad, ⟨ki_264_17, ⟨ki_264_18, ⟨ki_264_19, ⟨kbad, ⟨kbad, ⟨ki_264_22, ⟨ki_264_23, ⟨ki_264_24, ⟨kbad, ⟨kbad, ⟨ki_264_27, ⟨ki_264_28, ⟨kbad, ⟨kbad, ⟨ki_264_31, trivial⟩⟩⟩⟩⟩⟩⟩⟩⟩⟩⟩⟩⟩⟩⟩⟩, ⟨⟨ki_264_32, ⟨kbad, ⟨kbad, ⟨ki_264_35, ⟨kbad, ⟨kbad, ⟨ki_264_38, trivial⟩⟩⟩⟩⟩⟩⟩, trivial⟩⟩⟩)⟩
set_option maxRecDepth 20000 in
theorem mk_265 : js_mok 265 := ⟨by decide +kernel, jk_tab (fun _ => js_St.ok st_bad) (show jk_all (js_Ok 265) 0 tb_265 from ⟨⟨ki_265_0, ⟨ki_265_1, ⟨kbad, ⟨kbad, ⟨ki_265_4, ⟨ki_265_5, ⟨ki_265_6, ⟨ki_265_7, ⟨ki_265_8, ⟨kbad, ⟨kbad, ⟨ki_265_11, ⟨ki_265_12, ⟨ki_265_13, ⟨ki_265_14, ⟨ki_265_15, trivial⟩⟩⟩⟩⟩⟩⟩⟩⟩⟩⟩⟩⟩⟩⟩⟩, ⟨⟨ki_265_16, ⟨kbad, ⟨ki_265_18, ⟨ki_265_19, ⟨kbad, ⟨ki_265_21, ⟨ki_265_22, ⟨ki_265_23, ⟨ki_265_24, ⟨kbad, ⟨kbad, ⟨ki_265_27, ⟨ki_265_28, ⟨ki_265_29, ⟨kbad, ⟨kbad, trivial⟩⟩⟩⟩⟩⟩⟩⟩⟩⟩⟩⟩⟩⟩⟩⟩, ⟨⟨ki_265_32, ⟨kbad, ⟨ki_265_34, ⟨kbad, ⟨ki_265_36, ⟨kbad, ⟨ki_265_38, ⟨kbad, ⟨kbad, ⟨ki_265_41, ⟨kbad, ⟨kbad, ⟨kbad, ⟨kbad, ⟨kbad, ⟨kbad, trivial⟩⟩⟩⟩⟩⟩⟩⟩⟩⟩⟩⟩⟩⟩⟩⟩, ⟨⟨kbad, ⟨kbad, ⟨kbad, ⟨ki_265_51, ⟨kbad, ⟨ki_265_53, ⟨ki_265_54, ⟨kbad, ⟨kbad, ⟨ki_265_57, ⟨ki_265_58, trivial⟩⟩⟩⟩⟩⟩⟩⟩⟩⟩⟩, trivial⟩⟩⟩⟩)⟩
set_option maxRecDepth 20000 in
theorem mk_266 : js_mok 266 := ⟨by decide +kernel, jk_tab (fun _ => js_St.ok st_bad) (show jk_all (js_Ok 266) 0 tb_266 from ⟨⟨ki_266_0, ⟨kbad, ⟨kbad, ⟨ki_266_3, ⟨kbad, ⟨kbad, ⟨ki_266_6, ⟨ki_266_7, ⟨kbad, ⟨kbad, ⟨ki_266_10, ⟨kbad, ⟨kbad, ⟨ki_266_13, ⟨ki_266_14, ⟨kbad, trivial⟩⟩⟩⟩⟩⟩⟩⟩⟩⟩⟩⟩⟩⟩⟩⟩, ⟨⟨kbad, ⟨ki_266_17, ⟨ki_266_18, trivial⟩⟩⟩, trivial⟩⟩)⟩
set_option maxRecDepth 20000 in
theorem mk_267 : js_mok 267 := ⟨by decide +kernel, jk_tab (fun _ => js_St.ok st_bad) (show jk_all (js_Ok 267) 0 tb_267 from ⟨⟨ki_267_0, ⟨ki_267_1, ⟨kbad, ⟨kbad, ⟨ki_267_4, trivial⟩⟩⟩⟩⟩, trivial⟩)⟩
set_option maxRecDepth 20000 in
theorem mk_268 : js_mok 268 := ⟨by decide +kernel, jk_tab (fun _ => js_St.ok st_bad) (show jk_all (js_Ok 268) 0 tb_268 from ⟨⟨ki_268_0, ⟨ki_268_1, ⟨kbad, ⟨kbad, ⟨ki_268_4, trivial⟩⟩⟩⟩⟩, trivial⟩)⟩
set_option maxRecDepth 20000 in
theorem mk_269 : js_mok 269 := ⟨by decide +kernel, jk_tab (fun _ => js_St.ok st_bad) (show jk_all (js_Ok 269) 0 tb_269 from ⟨⟨ki_269_0, ⟨ki_269_1, ⟨kbad, ⟨kbad, ⟨ki_269_4, trivial⟩⟩⟩⟩⟩, trivial⟩)⟩
set_option maxRecDepth 20000 in
theorem mk_270 : js_mok 270 := ⟨by decide +kernel, jk_tab (fun _ => js_St.ok st_bad) (show jk_all (js_Ok 270) 0 tb_270 from ⟨⟨ki_270_0, ⟨kbad, ⟨kbad, ⟨ki_270_3, ⟨kbad, ⟨kbad, ⟨ki_270_6, ⟨ki_270_7, ⟨kbad, ⟨kbad, ⟨ki_270_10, ⟨ki_270_11, ⟨kbad, ⟨kbad, ⟨ki_270_14, ⟨kbad, trivial⟩⟩⟩⟩⟩⟩⟩⟩⟩⟩⟩⟩⟩⟩⟩⟩, ⟨⟨kbad, ⟨ki_270_17, ⟨ki_270_18, ⟨kbad, ⟨kbad, ⟨ki_270_21, trivial⟩⟩⟩⟩⟩⟩, trivial⟩⟩)⟩
set_option maxRecDepth 20000 in
theorem mk_271 : js_mok 271 := ⟨by decide +kernel, jk_tab (fun _ => js_St.ok st_bad) (show jk_all (js_Ok 271) 0 tb_271 from ⟨⟨ki_271_0, ⟨ki_271_1, ⟨ki_271_2, ⟨kbad, ⟨kbad, ⟨ki_271_5, ⟨ki_271_6, ⟨ki_271_7, ⟨kbad, ⟨kbad, ⟨ki_271_10, ⟨ki_271_11, ⟨ki_271_12, ⟨kbad, ⟨kbad, ⟨ki_271_15, trivial⟩⟩⟩⟩⟩⟩⟩⟩⟩⟩⟩⟩⟩⟩⟩⟩, ⟨⟨kbad, ⟨kbad, ⟨ki_271_18, trivial⟩⟩⟩, trivial⟩⟩)⟩
set_option maxRecDepth 20000 in
theorem mk_272 : js_mok 272 := ⟨by decide +kernel, jk_tab (fun _ => js_St.ok st_bad) (show jk_all (js_Ok 272) 0 tb_272 from ⟨⟨ki_272_0, ⟨ki_272_1, ⟨ki_272_2, ⟨ki_272_3, ⟨kbad, ⟨kbad, ⟨ki_272_6, ⟨ki_272_7, ⟨ki_272_8, ⟨ki_272_9, ⟨ki_272_10, ⟨ki_272_11, ⟨kbad, ⟨ki_272_13, ⟨ki_272_14, ⟨ki_272_15, trivial⟩⟩⟩⟩⟩⟩⟩⟩⟩⟩⟩⟩⟩⟩⟩⟩, ⟨⟨ki_272_16, ⟨ki_272_17, ⟨kbad, ⟨ki_272_19, ⟨kbad, ⟨kbad, ⟨ki_272_22, ⟨ki_272_23, ⟨ki_272_24, ⟨kbad, ⟨kbad, ⟨ki_272_27, ⟨ki_272_28, ⟨ki_272_29, ⟨ki_272_30, ⟨ki_272_31, trivial⟩⟩⟩⟩⟩⟩⟩⟩⟩⟩⟩⟩⟩⟩⟩⟩, ⟨⟨kbad, ⟨ki_272_33, ⟨ki_272_34, ⟨ki_272_35, ⟨ki_272_36, ⟨kbad, ⟨kbad, ⟨ki_272_39, ⟨kbad, ⟨kbad, ⟨ki_272_42, ⟨kbad, ⟨ki_272_44, ⟨ki_272_45, ⟨ki_272_46, trivial⟩⟩⟩⟩⟩⟩⟩⟩⟩⟩⟩⟩⟩⟩⟩, trivial⟩⟩⟩)⟩
set_option maxRecDepth 20000 in
theorem mk_273 : js_mok 273 := ⟨by decide +kernel, jk_tab (fun _ => js_St.ok st_bad) (show jk_all (js_Ok 273) 0 tb_273 from ⟨⟨ki_273_0, ⟨ki_273_1, ⟨kbad, ⟨ki_273_3, ⟨ki_273_4, ⟨kbad, ⟨kbad, ⟨ki_273_7, ⟨ki_273_8, ⟨kbad, ⟨kbad, ⟨ki_273_11, ⟨ki_273_12, ⟨kbad, ⟨ki_273_14, ⟨kbad, trivial⟩⟩⟩⟩⟩⟩⟩⟩⟩⟩⟩⟩⟩⟩⟩⟩, ⟨⟨ki_273_16, ⟨kbad, ⟨kbad, ⟨ki_273_19, ⟨ki_273_20, ⟨ki_273_21, ⟨ki_273_22, ⟨ki_273_23, ⟨kbad, ⟨ki_273_25, ⟨kbad, ⟨kbad, ⟨ki_273_28, ⟨ki_273_29, ⟨kbad, ⟨ki_273_31, trivial⟩⟩⟩⟩⟩⟩⟩⟩⟩⟩⟩⟩⟩⟩⟩⟩, ⟨⟨ki_273_32, ⟨ki_273_33, ⟨ki_273_34, ⟨kbad, ⟨ki_273_36, ⟨ki_273_37, ⟨ki_273_38, ⟨ki_273_39, ⟨kbad, ⟨ki_273_41, ⟨ki_273_42, ⟨ki_273_43, ⟨ki_273_44, ⟨kbad, ⟨kbad, ⟨ki_273_47, trivial⟩⟩⟩⟩⟩⟩⟩⟩⟩⟩⟩⟩⟩⟩⟩⟩, ⟨⟨kbad, ⟨ki_273_49, ⟨kbad, ⟨kbad, ⟨ki_273_52, ⟨kbad, ⟨ki_273_54, ⟨ki_273_55, ⟨ki_273_56, ⟨ki_273_57, ⟨kbad, ⟨kbad, ⟨ki_273_60, ⟨kbad, ⟨ki_273_62, ⟨kbad, trivial⟩⟩⟩⟩⟩⟩⟩⟩⟩⟩⟩⟩⟩⟩⟩⟩, ⟨⟨kbad, ⟨ki_273_65, ⟨kbad, ⟨ki_273_67, ⟨ki_273_68, ⟨ki_273_69, ⟨kbad, ⟨kbad, ⟨ki_273_72, ⟨ki_273_73, ⟨kbad, ⟨kbad, ⟨ki_273_76, ⟨kbad, ⟨ki_273_78, ⟨kbad, trivial⟩⟩⟩⟩⟩⟩⟩⟩⟩⟩⟩⟩⟩⟩⟩⟩, ⟨⟨kbad, ⟨ki_273_81, ⟨ki_273_82, ⟨ki_273_83, ⟨ki_273_84, ⟨ki_273_85, ⟨ki_273_86, ⟨kbad, ⟨ki_273_88, ⟨kbad, ⟨kbad, ⟨ki_273_91, ⟨ki_273_92, ⟨kbad, ⟨kbad, ⟨ki_273_95, trivial⟩⟩⟩⟩⟩⟩⟩⟩⟩⟩⟩⟩⟩⟩⟩⟩, ⟨⟨kbad, ⟨ki_273_97, ⟨kbad, ⟨kbad, ⟨ki_273_100, ⟨ki_273_101, ⟨ki_273_102, ⟨ki_273_103, ⟨ki_273_104, ⟨kbad, ⟨ki_273_106, ⟨kbad, ⟨kbad, ⟨ki_273_109, ⟨ki_273_110, ⟨kbad, trivial⟩⟩⟩⟩⟩⟩⟩⟩⟩⟩⟩⟩⟩⟩⟩⟩, ⟨⟨kbad, ⟨ki_273_113, ⟨kbad, ⟨ki_273_115, ⟨kbad, ⟨ki_273_117, ⟨ki_273_118, ⟨kbad, ⟨ki_273_120, trivial⟩⟩⟩⟩⟩⟩⟩⟩⟩, trivial⟩⟩⟩⟩⟩⟩⟩⟩)⟩
set_option maxRecDepth 20000 in
theorem mk_274 : js_mok 274 := ⟨by decide +kernel, jk_tab (fun _ => js_St.ok st_bad) (show jk_all (js_Ok 274) 0 tb_274 from ⟨⟨ki_274_0, ⟨ki_274_1, ⟨ki_274_2, ⟨ki_274_3, ⟨kbad, ⟨kbad, ⟨ki_274_6, trivial⟩⟩⟩⟩⟩⟩⟩, trivial⟩)⟩
set_option maxRecDepth 20000 in
theorem mk_275 : js_mok 275 := ⟨by decide +kernel, jk_tab (fun _ => js_St.ok st_bad) (show jk_all (js_Ok 275) 0 tb_275 from ⟨⟨ki_275_0, ⟨ki_275_1, ⟨kbad, ⟨kbad, ⟨ki_275_4, ⟨ki_275_5, ⟨kbad, ⟨kbad, ⟨ki_275_8, ⟨ki_275_9, ⟨ki_275_10, ⟨kbad, ⟨kbad, ⟨ki_275_13, ⟨kbad, ⟨ki_275_15, trivial⟩⟩⟩⟩⟩⟩⟩⟩⟩⟩⟩⟩⟩⟩⟩⟩, ⟨⟨ki_275_16, ⟨kbad, ⟨kbad, ⟨ki_275_19, ⟨kbad, ⟨kbad, ⟨ki_275_22, ⟨ki_275_23, ⟨ki_275_24, ⟨kbad, ⟨kbad, ⟨ki_275_27, ⟨ki_275_28, ⟨ki_275_29, ⟨ki_275_30, ⟨kbad, trivial⟩⟩⟩⟩⟩⟩⟩⟩⟩⟩⟩⟩⟩⟩⟩⟩, ⟨⟨ki_275_32, ⟨kbad, ⟨kbad, ⟨ki_275_35, ⟨kbad, ⟨kbad, ⟨ki_275_38, ⟨kbad, ⟨kbad, ⟨ki_275_41, ⟨kbad, ⟨kbad, ⟨ki_275_44, ⟨kbad, ⟨kbad, ⟨ki_275_47, trivial⟩⟩⟩⟩⟩⟩⟩⟩⟩⟩⟩⟩⟩⟩⟩⟩, ⟨⟨ki_275_48, ⟨kbad, ⟨kbad, ⟨ki_275_51, ⟨kbad, ⟨kbad, ⟨ki_275_54, ⟨ki_275_55, ⟨ki_275_56, ⟨ki_275_57, ⟨kbad, ⟨ki_275_59, ⟨kbad, ⟨kbad, ⟨kbad, ⟨kbad, trivial⟩⟩⟩⟩⟩⟩⟩⟩⟩⟩⟩⟩⟩⟩⟩⟩, ⟨⟨kbad, ⟨kbad, ⟨kbad, ⟨kbad, ⟨kbad, ⟨kbad, ⟨kbad, ⟨kbad, ⟨kbad, ⟨kbad, ⟨kbad, ⟨kbad, ⟨kbad, ⟨kbad, ⟨kbad, ⟨ki_275_79, trivial⟩⟩⟩⟩⟩⟩⟩⟩⟩⟩⟩⟩⟩⟩⟩⟩, ⟨⟨ki_275_80, ⟨ki_275_81, ⟨kbad, ⟨kbad, ⟨ki_275_84, ⟨ki_275_85, ⟨ki_275_86, ⟨ki_275_87, ⟨kbad, ⟨ki_275_89, ⟨ki_275_90, ⟨ki_275_91, ⟨kbad, ⟨kbad, ⟨ki_275_94, ⟨kbad, trivial⟩⟩⟩⟩⟩⟩⟩⟩⟩⟩⟩⟩⟩⟩⟩⟩, ⟨⟨kbad, ⟨ki_275_97, trivial⟩⟩, trivial⟩⟩⟩⟩⟩⟩⟩)⟩
set_option maxRecDepth 20000 in
theorem mk_276 : js_mok 276 := ⟨by decide +kernel, jk_tab (fun _ => js_St.ok st_bad) (show jk_all (js_Ok 276) 0 tb_276 from ⟨⟨ki_276_0, ⟨ki_276_1, ⟨kbad, ⟨kbad, ⟨ki_276_4, ⟨ki_276_5, ⟨kbad, ⟨kbad, ⟨ki_276_8, ⟨ki_276_9, ⟨kbad, ⟨kbad, ⟨ki_276_12, ⟨ki_276_13, ⟨ki_276_14, ⟨ki_276_15, trivial⟩⟩⟩⟩⟩⟩⟩⟩⟩⟩⟩⟩⟩⟩⟩⟩, ⟨⟨ki_276_16, ⟨ki_276_17, ⟨ki_276_18, ⟨kbad, ⟨kbad, ⟨ki_276_21, ⟨ki_276_22, ⟨kbad, ⟨kbad, ⟨ki_276_25, ⟨kbad, ⟨kbad, ⟨ki_276_28, ⟨ki_276_29, ⟨kbad, ⟨kbad, trivial⟩⟩⟩⟩⟩⟩⟩⟩⟩⟩⟩⟩⟩⟩⟩⟩, ⟨⟨ki_276_32, ⟨ki_276_33, ⟨ki_276_34, ⟨ki_276_35, ⟨ki_276_36, ⟨kbad, ⟨kbad, ⟨ki_276_39, ⟨ki_276_40, ⟨kbad, ⟨kbad, ⟨ki_276_43, trivial⟩⟩⟩⟩⟩⟩⟩⟩⟩⟩⟩⟩, trivial⟩⟩⟩)⟩
set_option maxRecDepth 20000 in
theorem mk_277 : js_mok 277 := ⟨by decide +kernel, jk_tab (fun _ => js_St.ok st_bad) (show jk_all (js_Ok 277) 0 tb_277 from ⟨⟨ki_277_0, ⟨ki_277_1, ⟨kbad, ⟨kbad, ⟨ki_277_4, ⟨kbad, ⟨kbad, ⟨ki_277_7, ⟨ki_277_8, ⟨kbad, ⟨kbad, ⟨ki_277_11, ⟨ki_277_12, trivial⟩⟩⟩⟩⟩⟩⟩⟩⟩⟩⟩⟩⟩, trivial⟩)⟩
set_option maxRecDepth 20000 in
theorem mk_278 : js_mok 278 := ⟨by decide +kernel, jk_tab (fun _ => js_St.ok st_bad) (show jk_all (js_Ok 278) 0 tb_278 from ⟨⟨ki_278_0, ⟨ki_278_1, ⟨ki_278_2, ⟨ki_278_3, ⟨kbad, ⟨kbad, ⟨ki_278_6, ⟨ki_278_7, ⟨kbad, ⟨kbad, ⟨ki_278_10, ⟨kbad, ⟨kbad, ⟨ki_278_13, ⟨ki_278_14, ⟨ki_278_15, trivial⟩⟩⟩⟩⟩⟩⟩⟩⟩⟩⟩⟩⟩⟩⟩⟩, ⟨⟨kbad, ⟨ki_278_17, ⟨ki_278_18, ⟨ki_278_19, ⟨ki_278_20, ⟨ki_278_21, ⟨ki_278_22, ⟨ki_278_23, ⟨ki_278_24, ⟨ki_278_25, ⟨kbad, ⟨kbad, ⟨ki_278_28, ⟨kbad, ⟨kbad, ⟨ki_278_31, trivial⟩⟩⟩⟩⟩⟩⟩⟩⟩⟩⟩⟩⟩⟩⟩⟩, ⟨⟨ki_278_32, trivial⟩, trivial⟩⟩⟩)⟩
set_option maxRecDepth 20000 in
theorem mk_279 : js_mok 279 := ⟨by decide +kernel, jk_tab (fun _ => js_St.ok st_bad) (show jk_all (js_Ok 279) 0 tb_279 from ⟨⟨ki_279_0, ⟨ki_279_1, ⟨kbad, ⟨kbad, ⟨ki_279_4, ⟨ki_279_5, ⟨ki_279_6, ⟨ki_279_7, ⟨kbad, ⟨kbad, ⟨ki_279_10, ⟨ki_279_11, ⟨ki_279_12, ⟨ki_279_13, ⟨kbad, ⟨kbad, trivial⟩⟩⟩⟩⟩⟩⟩⟩⟩⟩⟩⟩⟩⟩⟩⟩, ⟨⟨ki_279_16, ⟨ki_279_17, ⟨ki_279_18, ⟨kbad, ⟨kbad, ⟨ki_279_21, ⟨kbad, ⟨kbad, ⟨ki_279_24, trivial⟩⟩⟩⟩⟩⟩⟩⟩⟩, trivial⟩⟩)⟩
set_option maxRecDepth 20000 in
theorem mk_280 : js_mok 280 := ⟨by decide +kernel, jk_tab (fun _ => js_St.ok st_bad) (show jk_all (js_Ok 280) 0 tb_280 from ⟨⟨ki_280_0, ⟨ki_280_1, ⟨ki_280_2, ⟨kbad, ⟨kbad, ⟨ki_280_5, ⟨ki_280_6, ⟨ki_280_7, ⟨ki_280_8, ⟨ki_280_9, ⟨ki_280_10, ⟨kbad, ⟨ki_280_12, ⟨kbad, ⟨ki_280_14, ⟨ki_280_15, trivial⟩⟩⟩⟩⟩⟩⟩⟩⟩⟩⟩⟩⟩⟩⟩⟩, ⟨⟨ki_280_16, ⟨kbad, ⟨ki_280_18, ⟨ki_280_19, ⟨ki_280_20, ⟨ki_280_21, ⟨ki_280_22, ⟨ki_280_23, ⟨ki_280_24, ⟨kbad, ⟨kbad, ⟨ki_280_27, ⟨kbad, ⟨kbad, ⟨ki_280_30, ⟨kbad, trivial⟩⟩⟩⟩⟩⟩⟩⟩⟩⟩⟩⟩⟩⟩⟩⟩, ⟨⟨ki_280_32, trivial⟩, trivial⟩⟩⟩)⟩
set_option maxRecDepth 20000 in
theorem mk_281 : js_mok 281 := ⟨by decide +kernel, jk_tab (fun _ => js_St.ok st_bad) (show jk_all (js_Ok 281) 0 tb_281 from ⟨⟨ki_281_0, ⟨ki_281_1, ⟨ki_281_2, ⟨kbad, ⟨kbad, ⟨ki_281_5, ⟨kbad, ⟨kbad, ⟨kbad, ⟨kbad, ⟨kbad, ⟨kbad, ⟨kbad, ⟨kbad, ⟨kbad, ⟨kbad, trivial⟩⟩⟩⟩⟩⟩⟩⟩⟩⟩⟩⟩⟩⟩⟩⟩, ⟨⟨kbad, ⟨kbad, ⟨kbad, ⟨kbad, ⟨kbad, ⟨kbad, ⟨kbad, ⟨kbad, ⟨kbad, ⟨kbad, ⟨kbad, ⟨kbad, ⟨kbad, ⟨kbad, ⟨kbad, ⟨kbad, trivial⟩⟩⟩⟩⟩⟩⟩⟩⟩⟩⟩⟩⟩⟩⟩⟩, ⟨⟨kbad, ⟨kbad, ⟨kbad, ⟨kbad, ⟨kbad, ⟨ki_281_37, trivial⟩⟩⟩⟩⟩⟩, trivial⟩⟩⟩)⟩
set_option maxRecDepth 20000 in
theorem mk_282 : js_mok 282 := ⟨by decide +kernel, jk_tab (fun _ => js_St.ok st_bad) (show jk_all (js_Ok 282) 0 tb_282 from ⟨⟨ki_282_0, ⟨ki_282_1, ⟨ki_282_2, ⟨ki_282_3, ⟨kbad, ⟨kbad, ⟨ki_282_6, ⟨ki_282_7, ⟨ki_282_8, ⟨ki_282_9, ⟨ki_282_10, ⟨kbad, ⟨kbad, ⟨ki_282_13, ⟨ki_282_14, ⟨kbad, trivial⟩⟩⟩⟩⟩⟩⟩⟩⟩⟩⟩⟩⟩⟩⟩⟩, ⟨⟨ki_282_16, ⟨kbad, ⟨kbad, ⟨ki_282_19, ⟨ki_282_20, ⟨ki_282_21, ⟨ki_282_22, ⟨ki_282_23, ⟨kbad, ⟨kbad, ⟨kbad, trivial⟩⟩⟩⟩⟩⟩⟩⟩⟩⟩⟩, trivial⟩⟩)⟩
end JS
