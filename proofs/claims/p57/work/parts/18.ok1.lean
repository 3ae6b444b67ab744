section JS
theorem d_55_0 : decode (js_b 55) 0 = .ok (.iconst 0, 1) := by decide +kernel
theorem d_55_1 : decode (js_b 55) 1 = .ok (.istore_n 2, 1) := by decide +kernel
theorem d_55_2 : decode (js_b 55) 2 = .ok (.iload_n 2, 1) := by decide +kernel
theorem d_55_3 : decode (js_b 55) 3 = .ok (.aload_n 1, 1) := by decide +kernel
theorem d_55_4 : decode (js_b 55) 4 = .ok (.invokevirtual 54, 3) := by decide +kernel
theorem d_55_7 : decode (js_b 55) 7 = .ok (.if_icmp .ge 41, 3) := by decide +kernel
theorem d_55_10 : decode (js_b 55) 10 = .ok (.aload_n 0, 1) := by decide +kernel
theorem d_55_11 : decode (js_b 55) 11 = .ok (.getfield 26, 3) := by decide +kernel
theorem d_55_14 : decode (js_b 55) 14 = .ok (.iload_n 2, 1) := by decide +kernel
theorem d_55_15 : decode (js_b 55) 15 = .ok (.iadd, 1) := by decide +kernel
theorem d_55_16 : decode (js_b 55) 16 = .ok (.aload_n 0, 1) := by decide +kernel
theorem d_55_17 : decode (js_b 55) 17 = .ok (.getfield 22, 3) := by decide +kernel
theorem d_55_20 : decode (js_b 55) 20 = .ok (.if_icmp .ge 28, 3) := by decide +kernel
theorem d_55_23 : decode (js_b 55) 23 = .ok (.aload_n 0, 1) := by decide +kernel
theorem d_55_24 : decode (js_b 55) 24 = .ok (.getfield 9, 3) := by decide +kernel
theorem d_55_27 : decode (js_b 55) 27 = .ok (.aload_n 0, 1) := by decide +kernel
theorem d_55_28 : decode (js_b 55) 28 = .ok (.getfield 26, 3) := by decide +kernel
theorem d_55_31 : decode (js_b 55) 31 = .ok (.iload_n 2, 1) := by decide +kernel
theorem d_55_32 : decode (js_b 55) 32 = .ok (.iadd, 1) := by decide +kernel
theorem d_55_33 : decode (js_b 55) 33 = .ok (.caload, 1) := by decide +kernel
theorem d_55_34 : decode (js_b 55) 34 = .ok (.aload_n 1, 1) := by decide +kernel
theorem d_55_35 : decode (js_b 55) 35 = .ok (.iload_n 2, 1) := by decide +kernel
theorem d_55_36 : decode (js_b 55) 36 = .ok (.invokevirtual 59, 3) := by decide +kernel
theorem d_55_39 : decode (js_b 55) 39 = .ok (.if_icmp .ne 9, 3) := by decide +kernel
theorem d_55_42 : decode (js_b 55) 42 = .ok (.iinc 2 1, 3) := by decide +kernel
theorem d_55_45 : decode (js_b 55) 45 = .ok (.goto (-43), 3) := by decide +kernel
theorem d_55_48 : decode (js_b 55) 48 = .ok (.iload_n 2, 1) := by decide +kernel
theorem d_55_49 : decode (js_b 55) 49 = .ok (.ireturn, 1) := by decide +kernel
theorem ki_55_15 : js_Ok 55 15 (o_b2 (fun x y => x + y) 16) := js_St.ok (st_iadd d_55_15)
theorem ki_55_14 : js_Ok 55 14 (o_il 2 15) := js_St.ok (st_iloadn rfl d_55_14)
theorem ki_55_11 : js_Ok 55 11 (o_gI 6 2 14) := js_St.ok (st_gI js_c6 (by decide) (by decide) kw_213 d_55_11)
theorem ki_55_10 : js_Ok 55 10 (o_al 0 11) := js_St.ok (st_aloadn rfl d_55_10)
theorem ki_55_7 : js_Ok 55 7 (o_cge 48 10) := js_St.ok (st_icge (by decide) d_55_7)
theorem ki_55_4 : js_Ok 55 4 (o_cI 248 1 21 7) := ok_cI (site_V kk_55_248 (by decide) kw_1411 kw_1108 kw_1109 (fun t ht => by cases ht; exact Or.inr (Or.inl ⟨rfl, rfl⟩)) d_55_4) rfl
theorem ki_55_3 : js_Ok 55 3 (o_al 1 4) := js_St.ok (st_aloadn rfl d_55_3)
theorem ki_55_2 : js_Ok 55 2 (o_il 2 3) := js_St.ok (st_iloadn rfl d_55_2)
theorem ki_55_1 : js_Ok 55 1 (o_is 2 2) := js_St.ok (st_istoren rfl (Nat.le_of_ble_eq_true rfl) d_55_1)
theorem ki_55_0 : js_Ok 55 0 (o_ic 0 1) := js_St.ok (st_iconst rfl d_55_0)
theorem ki_55_31 : js_Ok 55 31 (o_il 2 32) := js_St.ok (st_iloadn rfl d_55_31)
theorem ki_55_28 : js_Ok 55 28 (o_gI 6 2 31) := js_St.ok (st_gI js_c6 (by decide) (by decide) kw_213 d_55_28)
theorem ki_55_27 : js_Ok 55 27 (o_al 0 28) := js_St.ok (st_aloadn rfl d_55_27)
theorem ki_55_24 : js_Ok 55 24 (o_gA 6 0 27) := js_St.ok (st_gA js_c6 (by decide) (by decide) kw_211 d_55_24)
theorem ki_55_23 : js_Ok 55 23 (o_al 0 24) := js_St.ok (st_aloadn rfl d_55_23)
theorem ki_55_20 : js_Ok 55 20 (o_cge 48 23) := js_St.ok (st_icge (by decide) d_55_20)
theorem ki_55_17 : js_Ok 55 17 (o_gI 6 1 20) := js_St.ok (st_gI js_c6 (by decide) (by decide) kw_212 d_55_17)
theorem ki_55_16 : js_Ok 55 16 (o_al 0 17) := js_St.ok (st_aloadn rfl d_55_16)
theorem ki_55_45 : js_Ok 55 45 (o_go 2) := js_St.ok (st_goto (by decide) d_55_45)
theorem ki_55_42 : js_Ok 55 42 (o_inc 2 1 45) := js_St.ok (st_iinc rfl (Nat.le_of_ble_eq_true rfl) d_55_42)
theorem ki_55_39 : js_Ok 55 39 (o_cne 48 42) := js_St.ok (st_icne (by decide) d_55_39)
theorem ki_55_36 : js_Ok 55 36 (o_cI 249 2 21 39) := ok_cI (site_V kk_55_249 (by decide) kw_1412 kw_1283 kw_1284 (fun t ht => by cases ht; exact Or.inr (Or.inl ⟨rfl, rfl⟩)) d_55_36) rfl
theorem ki_55_35 : js_Ok 55 35 (o_il 2 36) := js_St.ok (st_iloadn rfl d_55_35)
theorem ki_55_34 : js_Ok 55 34 (o_al 1 35) := js_St.ok (st_aloadn rfl d_55_34)
theorem ki_55_33 : js_Ok 55 33 (o_lI 101 34) := js_St.ok (st_lIc d_55_33)
theorem ki_55_32 : js_Ok 55 32 (o_b2 (fun x y => x + y) 33) := js_St.ok (st_iadd d_55_32)
theorem ki_55_49 : js_Ok 55 49 (o_rI) := ok_rI rfl d_55_49
theorem ki_55_48 : js_Ok 55 48 (o_il 2 49) := js_St.ok (st_iloadn rfl d_55_48)
theorem d_56_0 : decode (js_b 56) 0 = .ok (.aload_n 0, 1) := by decide +kernel
theorem d_56_1 : decode (js_b 56) 1 = .ok (.bipush 100, 2) := by decide +kernel
theorem d_56_3 : decode (js_b 56) 3 = .ok (.invokevirtual 36, 3) := by decide +kernel
theorem d_56_6 : decode (js_b 56) 6 = .ok (.istore_n 1, 1) := by decide +kernel
theorem d_56_7 : decode (js_b 56) 7 = .ok (.iload_n 1, 1) := by decide +kernel
theorem d_56_8 : decode (js_b 56) 8 = .ok (.iconst (-1), 1) := by decide +kernel
theorem d_56_9 : decode (js_b 56) 9 = .ok (.if_icmp .ne 5, 3) := by decide +kernel
theorem d_56_12 : decode (js_b 56) 12 = .ok (.iconst (-1), 1) := by decide +kernel
theorem d_56_13 : decode (js_b 56) 13 = .ok (.ireturn, 1) := by decide +kernel
theorem d_56_14 : decode (js_b 56) 14 = .ok (.aload_n 0, 1) := by decide +kernel
theorem d_56_15 : decode (js_b 56) 15 = .ok (.bipush 100, 2) := by decide +kernel
theorem d_56_17 : decode (js_b 56) 17 = .ok (.invokevirtual 36, 3) := by decide +kernel
theorem d_56_20 : decode (js_b 56) 20 = .ok (.istore_n 2, 1) := by decide +kernel
theorem d_56_21 : decode (js_b 56) 21 = .ok (.iload_n 2, 1) := by decide +kernel
theorem d_56_22 : decode (js_b 56) 22 = .ok (.iconst (-1), 1) := by decide +kernel
theorem d_56_23 : decode (js_b 56) 23 = .ok (.if_icmp .ne 7, 3) := by decide +kernel
theorem d_56_26 : decode (js_b 56) 26 = .ok (.iload_n 1, 1) := by decide +kernel
theorem d_56_27 : decode (js_b 56) 27 = .ok (.goto 9, 3) := by decide +kernel
theorem d_56_30 : decode (js_b 56) 30 = .ok (.bipush 10, 2) := by decide +kernel
theorem d_56_32 : decode (js_b 56) 32 = .ok (.iload_n 1, 1) := by decide +kernel
theorem d_56_33 : decode (js_b 56) 33 = .ok (.imul, 1) := by decide +kernel
theorem d_56_34 : decode (js_b 56) 34 = .ok (.iload_n 2, 1) := by decide +kernel
theorem d_56_35 : decode (js_b 56) 35 = .ok (.iadd, 1) := by decide +kernel
theorem d_56_36 : decode (js_b 56) 36 = .ok (.ireturn, 1) := by decide +kernel
theorem ki_56_15 : js_Ok 56 15 (o_ic 100 17) := js_St.ok (st_bipush rfl d_56_15)
theorem ki_56_14 : js_Ok 56 14 (o_al 0 15) := js_St.ok (st_aloadn rfl d_56_14)
theorem ki_56_13 : js_Ok 56 13 (o_rI) := ok_rI rfl d_56_13
theorem ki_56_12 : js_Ok 56 12 (o_ic (-1) 13) := js_St.ok (st_iconst rfl d_56_12)
theorem ki_56_9 : js_Ok 56 9 (o_cne 14 12) := js_St.ok (st_icne (by decide) d_56_9)
theorem ki_56_8 : js_Ok 56 8 (o_ic (-1) 9) := js_St.ok (st_iconst rfl d_56_8)
theorem ki_56_7 : js_Ok 56 7 (o_il 1 8) := js_St.ok (st_iloadn rfl d_56_7)
theorem ki_56_6 : js_Ok 56 6 (o_is 1 7) := js_St.ok (st_istoren rfl (Nat.le_of_ble_eq_true rfl) d_56_6)
theorem ki_56_3 : js_Ok 56 3 (o_cI 57 2 7 6) := ok_cI (site_V kk_56_57 (by decide) kw_1418 kw_1420 ks_19 (fun t ht => by cases ht; exact Or.inl ⟨by decide, _, rfl, rfl⟩) d_56_3) rfl
theorem ki_56_1 : js_Ok 56 1 (o_ic 100 3) := js_St.ok (st_bipush rfl d_56_1)
theorem ki_56_0 : js_Ok 56 0 (o_al 0 1) := js_St.ok (st_aloadn rfl d_56_0)
theorem ki_56_30 : js_Ok 56 30 (o_ic 10 32) := js_St.ok (st_bipush rfl d_56_30)
theorem ki_56_27 : js_Ok 56 27 (o_go 36) := js_St.ok (st_goto (by decide) d_56_27)
theorem ki_56_26 : js_Ok 56 26 (o_il 1 27) := js_St.ok (st_iloadn rfl d_56_26)
theorem ki_56_23 : js_Ok 56 23 (o_cne 30 26) := js_St.ok (st_icne (by decide) d_56_23)
theorem ki_56_22 : js_Ok 56 22 (o_ic (-1) 23) := js_St.ok (st_iconst rfl d_56_22)
theorem ki_56_21 : js_Ok 56 21 (o_il 2 22) := js_St.ok (st_iloadn rfl d_56_21)
theorem ki_56_20 : js_Ok 56 20 (o_is 2 21) := js_St.ok (st_istoren rfl (Nat.le_of_ble_eq_true rfl) d_56_20)
theorem ki_56_17 : js_Ok 56 17 (o_cI 57 2 7 20) := ok_cI (site_V kk_56_57 (by decide) kw_1418 kw_1420 ks_19 (fun t ht => by cases ht; exact Or.inl ⟨by decide, _, rfl, rfl⟩) d_56_17) rfl
theorem ki_56_36 : js_Ok 56 36 (o_rI) := ok_rI rfl d_56_36
theorem ki_56_35 : js_Ok 56 35 (o_b2 (fun x y => x + y) 36) := js_St.ok (st_iadd d_56_35)
theorem ki_56_34 : js_Ok 56 34 (o_il 2 35) := js_St.ok (st_iloadn rfl d_56_34)
theorem ki_56_33 : js_Ok 56 33 (o_b2 (fun x y => x * y) 34) := js_St.ok (st_imul d_56_33)
theorem ki_56_32 : js_Ok 56 32 (o_il 1 33) := js_St.ok (st_iloadn rfl d_56_32)
theorem d_57_0 : decode (js_b 57) 0 = .ok (.aload_n 0, 1) := by decide +kernel
theorem d_57_1 : decode (js_b 57) 1 = .ok (.getfield 26, 3) := by decide +kernel
theorem d_57_4 : decode (js_b 57) 4 = .ok (.aload_n 0, 1) := by decide +kernel
theorem d_57_5 : decode (js_b 57) 5 = .ok (.getfield 22, 3) := by decide +kernel
theorem d_57_8 : decode (js_b 57) 8 = .ok (.if_icmp .lt 5, 3) := by decide +kernel
theorem d_57_11 : decode (js_b 57) 11 = .ok (.iconst (-1), 1) := by decide +kernel
theorem d_57_12 : decode (js_b 57) 12 = .ok (.ireturn, 1) := by decide +kernel
theorem d_57_13 : decode (js_b 57) 13 = .ok (.iload_n 1, 1) := by decide +kernel
theorem d_57_14 : decode (js_b 57) 14 = .ok (.aload_n 0, 1) := by decide +kernel
theorem d_57_15 : decode (js_b 57) 15 = .ok (.getfield 9, 3) := by decide +kernel
theorem d_57_18 : decode (js_b 57) 18 = .ok (.aload_n 0, 1) := by decide +kernel
theorem d_57_19 : decode (js_b 57) 19 = .ok (.getfield 26, 3) := by decide +kernel
theorem d_57_22 : decode (js_b 57) 22 = .ok (.caload, 1) := by decide +kernel
theorem d_57_23 : decode (js_b 57) 23 = .ok (.invokestatic 87, 3) := by decide +kernel
theorem d_57_26 : decode (js_b 57) 26 = .ok (.istore_n 2, 1) := by decide +kernel
theorem d_57_27 : decode (js_b 57) 27 = .ok (.iload_n 2, 1) := by decide +kernel
theorem d_57_28 : decode (js_b 57) 28 = .ok (.iconst (-1), 1) := by decide +kernel
theorem d_57_29 : decode (js_b 57) 29 = .ok (.if_icmp .eq 13, 3) := by decide +kernel
theorem d_57_32 : decode (js_b 57) 32 = .ok (.aload_n 0, 1) := by decide +kernel
theorem d_57_33 : decode (js_b 57) 33 = .ok (.dup, 1) := by decide +kernel
theorem d_57_34 : decode (js_b 57) 34 = .ok (.getfield 26, 3) := by decide +kernel
theorem d_57_37 : decode (js_b 57) 37 = .ok (.iconst 1, 1) := by decide +kernel
theorem d_57_38 : decode (js_b 57) 38 = .ok (.iadd, 1) := by decide +kernel
theorem d_57_39 : decode (js_b 57) 39 = .ok (.putfield 26, 3) := by decide +kernel
theorem d_57_42 : decode (js_b 57) 42 = .ok (.iload_n 2, 1) := by decide +kernel
theorem d_57_43 : decode (js_b 57) 43 = .ok (.ireturn, 1) := by decide +kernel
theorem ki_57_15 : js_Ok 57 15 (o_gA 6 0 18) := js_St.ok (st_gA js_c6 (by decide) (by decide) kw_211 d_57_15)
theorem ki_57_14 : js_Ok 57 14 (o_al 0 15) := js_St.ok (st_aloadn rfl d_57_14)
theorem ki_57_13 : js_Ok 57 13 (o_il 1 14) := js_St.ok (st_iloadn rfl d_57_13)
theorem ki_57_12 : js_Ok 57 12 (o_rI) := ok_rI rfl d_57_12
theorem ki_57_11 : js_Ok 57 11 (o_ic (-1) 12) := js_St.ok (st_iconst rfl d_57_11)
theorem ki_57_8 : js_Ok 57 8 (o_clt 13 11) := js_St.ok (st_iclt (by decide) d_57_8)
theorem ki_57_5 : js_Ok 57 5 (o_gI 6 1 8) := js_St.ok (st_gI js_c6 (by decide) (by decide) kw_212 d_57_5)
theorem ki_57_4 : js_Ok 57 4 (o_al 0 5) := js_St.ok (st_aloadn rfl d_57_4)
theorem ki_57_1 : js_Ok 57 1 (o_gI 6 2 4) := js_St.ok (st_gI js_c6 (by decide) (by decide) kw_213 d_57_1)
theorem ki_57_0 : js_Ok 57 0 (o_al 0 1) := js_St.ok (st_aloadn rfl d_57_0)
theorem ki_57_29 : js_Ok 57 29 (o_ceq 42 32) := js_St.ok (st_iceq (by decide) d_57_29)
theorem ki_57_28 : js_Ok 57 28 (o_ic (-1) 29) := js_St.ok (st_iconst rfl d_57_28)
theorem ki_57_27 : js_Ok 57 27 (o_il 2 28) := js_St.ok (st_iloadn rfl d_57_27)
theorem ki_57_26 : js_Ok 57 26 (o_is 2 27) := js_St.ok (st_istoren rfl (Nat.le_of_ble_eq_true rfl) d_57_26)
theorem ki_57_23 : js_Ok 57 23 (o_cI 58 2 0 26) := ok_cI (site_S kk_57_58 kw_1422 kw_1423 d_57_23) rfl
theorem ki_57_22 : js_Ok 57 22 (o_lI 101 23) := js_St.ok (st_lIc d_57_22)
theorem ki_57_19 : js_Ok 57 19 (o_gI 6 2 22) := js_St.ok (st_gI js_c6 (by decide) (by decide) kw_213 d_57_19)
theorem ki_57_18 : js_Ok 57 18 (o_al 0 19) := js_St.ok (st_aloadn rfl d_57_18)
theorem ki_57_43 : js_Ok 57 43 (o_rI) := ok_rI rfl d_57_43
theorem ki_57_42 : js_Ok 57 42 (o_il 2 43) := js_St.ok (st_iloadn rfl d_57_42)
theorem ki_57_39 : js_Ok 57 39 (o_pI 6 2 42) := js_St.ok (st_pIown js_c6 (by decide) rfl kw_213 (js_c6.2.2.1 2 (by decide)) d_57_39)
theorem ki_57_38 : js_Ok 57 38 (o_b2 (fun x y => x + y) 39) := js_St.ok (st_iadd d_57_38)
theorem ki_57_37 : js_Ok 57 37 (o_ic 1 38) := js_St.ok (st_iconst rfl d_57_37)
theorem ki_57_34 : js_Ok 57 34 (o_gI 6 2 37) := js_St.ok (st_gI js_c6 (by decide) (by decide) kw_213 d_57_34)
theorem ki_57_33 : js_Ok 57 33 (o_dup 34) := js_St.ok (st_dup d_57_33)
theorem ki_57_32 : js_Ok 57 32 (o_al 0 33) := js_St.ok (st_aloadn rfl d_57_32)
theorem d_58_0 : decode (js_b 58) 0 = .ok (.iload_n 0, 1) := by decide +kernel
theorem d_58_1 : decode (js_b 58) 1 = .ok (.bipush 99, 2) := by decide +kernel
theorem d_58_3 : decode (js_b 58) 3 = .ok (.if_icmp .ne 16, 3) := by decide +kernel
theorem d_58_6 : decode (js_b 58) 6 = .ok (.iload_n 1, 1) := by decide +kernel
theorem d_58_7 : decode (js_b 58) 7 = .ok (.invokestatic 91, 3) := by decide +kernel
theorem d_58_10 : decode (js_b 58) 10 = .ok (.ifCond .eq 7, 3) := by decide +kernel
theorem d_58_13 : decode (js_b 58) 13 = .ok (.iload_n 1, 1) := by decide +kernel
theorem d_58_14 : decode (js_b 58) 14 = .ok (.goto 4, 3) := by decide +kernel
theorem d_58_17 : decode (js_b 58) 17 = .ok (.iconst (-1), 1) := by decide +kernel
theorem d_58_18 : decode (js_b 58) 18 = .ok (.ireturn, 1) := by decide +kernel
theorem d_58_19 : decode (js_b 58) 19 = .ok (.iload_n 0, 1) := by decide +kernel
theorem d_58_20 : decode (js_b 58) 20 = .ok (.bipush 104, 2) := by decide +kernel
theorem d_58_22 : decode (js_b 58) 22 = .ok (.if_icmp .ne 30, 3) := by decide +kernel
theorem d_58_25 : decode (js_b 58) 25 = .ok (.iload_n 1, 1) := by decide +kernel
theorem d_58_26 : decode (js_b 58) 26 = .ok (.bipush 97, 2) := by decide +kernel
theorem d_58_28 : decode (js_b 58) 28 = .ok (.if_icmp .lt 19, 3) := by decide +kernel
theorem d_58_31 : decode (js_b 58) 31 = .ok (.iload_n 1, 1) := by decide +kernel
theorem d_58_32 : decode (js_b 58) 32 = .ok (.bipush 102, 2) := by decide +kernel
theorem d_58_34 : decode (js_b 58) 34 = .ok (.if_icmp .gt 13, 3) := by decide +kernel
theorem d_58_37 : decode (js_b 58) 37 = .ok (.iload_n 1, 1) := by decide +kernel
theorem d_58_38 : decode (js_b 58) 38 = .ok (.bipush 97, 2) := by decide +kernel
theorem d_58_40 : decode (js_b 58) 40 = .ok (.isub, 1) := by decide +kernel
theorem d_58_41 : decode (js_b 58) 41 = .ok (.bipush 10, 2) := by decide +kernel
theorem d_58_43 : decode (js_b 58) 43 = .ok (.iadd, 1) := by decide +kernel
theorem d_58_44 : decode (js_b 58) 44 = .ok (.goto 7, 3) := by decide +kernel
theorem d_58_47 : decode (js_b 58) 47 = .ok (.iload_n 1, 1) := by decide +kernel
theorem d_58_48 : decode (js_b 58) 48 = .ok (.invokestatic 95, 3) := by decide +kernel
theorem d_58_51 : decode (js_b 58) 51 = .ok (.ireturn, 1) := by decide +kernel
theorem d_58_52 : decode (js_b 58) 52 = .ok (.iload_n 0, 1) := by decide +kernel
theorem d_58_53 : decode (js_b 58) 53 = .ok (.bipush 100, 2) := by decide +kernel
theorem d_58_55 : decode (js_b 58) 55 = .ok (.if_icmp .ne 8, 3) := by decide +kernel
theorem d_58_58 : decode (js_b 58) 58 = .ok (.iload_n 1, 1) := by decide +kernel
theorem d_58_59 : decode (js_b 58) 59 = .ok (.invokestatic 95, 3) := by decide +kernel
theorem d_58_62 : decode (js_b 58) 62 = .ok (.ireturn, 1) := by decide +kernel
theorem d_58_63 : decode (js_b 58) 63 = .ok (.iload_n 1, 1) := by decide +kernel
theorem d_58_64 : decode (js_b 58) 64 = .ok (.iload_n 0, 1) := by decide +kernel
theorem d_58_65 : decode (js_b 58) 65 = .ok (.if_icmp .ne 7, 3) := by decide +kernel
theorem d_58_68 : decode (js_b 58) 68 = .ok (.iload_n 1, 1) := by decide +kernel
theorem d_58_69 : decode (js_b 58) 69 = .ok (.goto 4, 3) := by decide +kernel
theorem d_58_72 : decode (js_b 58) 72 = .ok (.iconst (-1), 1) := by decide +kernel
theorem d_58_73 : decode (js_b 58) 73 = .ok (.ireturn, 1) := by decide +kernel
theorem ki_58_14 : js_Ok 58 14 (o_go 18) := js_St.ok (st_goto (by decide) d_58_14)
theorem ki_58_13 : js_Ok 58 13 (o_il 1 14) := js_St.ok (st_iloadn rfl d_58_13)
theorem ki_58_10 : js_Ok 58 10 (o_eq 17 13) := js_St.ok (st_ifeq (by decide) d_58_10)
theorem ki_58_7 : js_Ok 58 7 (o_cI 127 1 0 10) := ok_cI (site_SN kk_58_127 kn_1425 kw_307 d_58_7) rfl
theorem ki_58_6 : js_Ok 58 6 (o_il 1 7) := js_St.ok (st_iloadn rfl d_58_6)
theorem ki_58_3 : js_Ok 58 3 (o_cne 19 6) := js_St.ok (st_icne (by decide) d_58_3)
theorem ki_58_1 : js_Ok 58 1 (o_ic 99 3) := js_St.ok (st_bipush rfl d_58_1)
theorem ki_58_0 : js_Ok 58 0 (o_il 0 1) := js_St.ok (st_iloadn rfl d_58_0)
theorem ki_58_31 : js_Ok 58 31 (o_il 1 32) := js_St.ok (st_iloadn rfl d_58_31)
theorem ki_58_28 : js_Ok 58 28 (o_clt 47 31) := js_St.ok (st_iclt (by decide) d_58_28)
theorem ki_58_26 : js_Ok 58 26 (o_ic 97 28) := js_St.ok (st_bipush rfl d_58_26)
theorem ki_58_25 : js_Ok 58 25 (o_il 1 26) := js_St.ok (st_iloadn rfl d_58_25)
theorem ki_58_22 : js_Ok 58 22 (o_cne 52 25) := js_St.ok (st_icne (by decide) d_58_22)
theorem ki_58_20 : js_Ok 58 20 (o_ic 104 22) := js_St.ok (st_bipush rfl d_58_20)
theorem ki_58_19 : js_Ok 58 19 (o_il 0 20) := js_St.ok (st_iloadn rfl d_58_19)
theorem ki_58_18 : js_Ok 58 18 (o_rI) := ok_rI rfl d_58_18
theorem ki_58_17 : js_Ok 58 17 (o_ic (-1) 18) := js_St.ok (st_iconst rfl d_58_17)
theorem ki_58_47 : js_Ok 58 47 (o_il 1 48) := js_St.ok (st_iloadn rfl d_58_47)
theorem ki_58_44 : js_Ok 58 44 (o_go 51) := js_St.ok (st_goto (by decide) d_58_44)
theorem ki_58_43 : js_Ok 58 43 (o_b2 (fun x y => x + y) 44) := js_St.ok (st_iadd d_58_43)
theorem ki_58_41 : js_Ok 58 41 (o_ic 10 43) := js_St.ok (st_bipush rfl d_58_41)
theorem ki_58_40 : js_Ok 58 40 (o_b2 (fun x y => x - y) 41) := js_St.ok (st_isub d_58_40)
theorem ki_58_38 : js_Ok 58 38 (o_ic 97 40) := js_St.ok (st_bipush rfl d_58_38)
theorem ki_58_37 : js_Ok 58 37 (o_il 1 38) := js_St.ok (st_iloadn rfl d_58_37)
theorem ki_58_34 : js_Ok 58 34 (o_cgt 47 37) := js_St.ok (st_icgt (by decide) d_58_34)
theorem ki_58_32 : js_Ok 58 32 (o_ic 102 34) := js_St.ok (st_bipush rfl d_58_32)
theorem ki_58_63 : js_Ok 58 63 (o_il 1 64) := js_St.ok (st_iloadn rfl d_58_63)
theorem ki_58_62 : js_Ok 58 62 (o_rI) := ok_rI rfl d_58_62
theorem ki_58_59 : js_Ok 58 59 (o_cI 131 1 0 62) := ok_cI (site_SN kk_58_131 kn_1426 kw_1427 d_58_59) rfl
theorem ki_58_58 : js_Ok 58 58 (o_il 1 59) := js_St.ok (st_iloadn rfl d_58_58)
theorem ki_58_55 : js_Ok 58 55 (o_cne 63 58) := js_St.ok (st_icne (by decide) d_58_55)
theorem ki_58_53 : js_Ok 58 53 (o_ic 100 55) := js_St.ok (st_bipush rfl d_58_53)
theorem ki_58_52 : js_Ok 58 52 (o_il 0 53) := js_St.ok (st_iloadn rfl d_58_52)
theorem ki_58_51 : js_Ok 58 51 (o_rI) := ok_rI rfl d_58_51
theorem ki_58_48 : js_Ok 58 48 (o_cI 131 1 0 51) := ok_cI (site_SN kk_58_131 kn_1426 kw_1427 d_58_48) rfl
theorem ki_58_73 : js_Ok 58 73 (o_rI) := ok_rI rfl d_58_73
theorem ki_58_72 : js_Ok 58 72 (o_ic (-1) 73) := js_St.ok (st_iconst rfl d_58_72)
theorem ki_58_69 : js_Ok 58 69 (o_go 73) := js_St.ok (st_goto (by decide) d_58_69)
theorem ki_58_68 : js_Ok 58 68 (o_il 1 69) := js_St.ok (st_iloadn rfl d_58_68)
theorem ki_58_65 : js_Ok 58 65 (o_cne 72 68) := js_St.ok (st_icne (by decide) d_58_65)
theorem ki_58_64 : js_Ok 58 64 (o_il 0 65) := js_St.ok (st_iloadn rfl d_58_64)
theorem d_59_0 : decode (js_b 59) 0 = .ok (.aload_n 0, 1) := by decide +kernel
theorem d_59_1 : decode (js_b 59) 1 = .ok (.invokespecial 1, 3) := by decide +kernel
theorem d_59_4 : decode (js_b 59) 4 = .ok (.aload_n 0, 1) := by decide +kernel
theorem d_59_5 : decode (js_b 59) 5 = .ok (.new 7, 3) := by decide +kernel
theorem d_59_8 : decode (js_b 59) 8 = .ok (.dup, 1) := by decide +kernel
theorem d_59_9 : decode (js_b 59) 9 = .ok (.invokespecial 9, 3) := by decide +kernel
theorem d_59_12 : decode (js_b 59) 12 = .ok (.putfield 10, 3) := by decide +kernel
theorem d_59_15 : decode (js_b 59) 15 = .ok (.aload_n 0, 1) := by decide +kernel
theorem d_59_16 : decode (js_b 59) 16 = .ok (.new 7, 3) := by decide +kernel
theorem d_59_19 : decode (js_b 59) 19 = .ok (.dup, 1) := by decide +kernel
theorem d_59_20 : decode (js_b 59) 20 = .ok (.invokespecial 9, 3) := by decide +kernel
theorem d_59_23 : decode (js_b 59) 23 = .ok (.putfield 16, 3) := by decide +kernel
theorem d_59_26 : decode (js_b 59) 26 = .ok (.aload_n 0, 1) := by decide +kernel
theorem d_59_27 : decode (js_b 59) 27 = .ok (.new 19, 3) := by decide +kernel
theorem d_59_30 : decode (js_b 59) 30 = .ok (.dup, 1) := by decide +kernel
theorem d_59_31 : decode (js_b 59) 31 = .ok (.invokespecial 21, 3) := by decide +kernel
theorem d_59_34 : decode (js_b 59) 34 = .ok (.putfield 22, 3) := by decide +kernel
theorem d_59_37 : decode (js_b 59) 37 = .ok (.aload_n 0, 1) := by decide +kernel
theorem d_59_38 : decode (js_b 59) 38 = .ok (.new 26, 3) := by decide +kernel
theorem d_59_41 : decode (js_b 59) 41 = .ok (.dup, 1) := by decide +kernel
theorem d_59_42 : decode (js_b 59) 42 = .ok (.invokespecial 28, 3) := by decide +kernel
theorem d_59_45 : decode (js_b 59) 45 = .ok (.putfield 29, 3) := by decide +kernel
theorem d_59_48 : decode (js_b 59) 48 = .ok (.aload_n 0, 1) := by decide +kernel
theorem d_59_49 : decode (js_b 59) 49 = .ok (.new 33, 3) := by decide +kernel
theorem d_59_52 : decode (js_b 59) 52 = .ok (.dup, 1) := by decide +kernel
theorem d_59_53 : decode (js_b 59) 53 = .ok (.invokespecial 35, 3) := by decide +kernel
theorem d_59_56 : decode (js_b 59) 56 = .ok (.putfield 36, 3) := by decide +kernel
theorem d_59_59 : decode (js_b 59) 59 = .ok (.aload_n 0, 1) := by decide +kernel
theorem d_59_60 : decode (js_b 59) 60 = .ok (.new 40, 3) := by decide +kernel
theorem d_59_63 : decode (js_b 59) 63 = .ok (.dup, 1) := by decide +kernel
theorem d_59_64 : decode (js_b 59) 64 = .ok (.invokespecial 42, 3) := by decide +kernel
theorem d_59_67 : decode (js_b 59) 67 = .ok (.putfield 43, 3) := by decide +kernel
theorem d_59_70 : decode (js_b 59) 70 = .ok (.aload_n 0, 1) := by decide +kernel
theorem d_59_71 : decode (js_b 59) 71 = .ok (.bipush 8, 2) := by decide +kernel
theorem d_59_73 : decode (js_b 59) 73 = .ok (.newarray .char, 2) := by decide +kernel
theorem d_59_75 : decode (js_b 59) 75 = .ok (.putfield 47, 3) := by decide +kernel
theorem d_59_78 : decode (js_b 59) 78 = .ok (.aload_n 0, 1) := by decide +kernel
theorem d_59_79 : decode (js_b 59) 79 = .ok (.iconst (-1), 1) := by decide +kernel
theorem d_59_80 : decode (js_b 59) 80 = .ok (.putfield 51, 3) := by decide +kernel
theorem d_59_83 : decode (js_b 59) 83 = .ok (.aload_n 0, 1) := by decide +kernel
theorem d_59_84 : decode (js_b 59) 84 = .ok (.iconst (-1), 1) := by decide +kernel
theorem d_59_85 : decode (js_b 59) 85 = .ok (.putfield 55, 3) := by decide +kernel
theorem d_59_88 : decode (js_b 59) 88 = .ok (.return_, 1) := by decide +kernel
theorem ki_59_15 : js_Ok 59 15 (o_al 0 16) := js_St.ok (st_aloadn rfl d_59_15)
theorem ki_59_12 : js_Ok 59 12 (o_pA 7 0 0 15) := js_Si.ok (st_pAfin js_c7 (by decide) rfl rfl rfl kw_230 (Or.inl ⟨_, rfl⟩) (js_c7.2.2.1 0 (by decide)) d_59_12)
theorem ki_59_9 : js_Ok 59 9 (o_cV 0 1 1 12) := ok_cV (site_I kk_59_0 (by decide) rfl rfl kw_70 kw_71 d_59_9) rfl
theorem ki_59_8 : js_Ok 59 8 (o_dup 9) := js_St.ok (st_dup d_59_8)
theorem ki_59_5 : js_Ok 59 5 (o_new 0 [.null, .null, .int 0, .int 0] 8) := js_St.ok (st_new js_c0 rfl (by decide +kernel) (fun _ => rfl) kw_68 kw_69 kw_23 d_59_5)
theorem ki_59_4 : js_Ok 59 4 (o_al 0 5) := js_St.ok (st_aloadn rfl d_59_4)
theorem ki_59_1 : js_Ok 59 1 (o_obj 4) := js_St.ok (st_obj kw_65 kw_66 kw_67 d_59_1)
theorem ki_59_0 : js_Ok 59 0 (o_al 0 1) := js_St.ok (st_aloadn rfl d_59_0)
theorem ki_59_31 : js_Ok 59 31 (o_cV 42 1 6 34) := ok_cV (site_I kk_59_42 (by decide) rfl rfl kw_133 kw_134 d_59_31) rfl
theorem ki_59_30 : js_Ok 59 30 (o_dup 31) := js_St.ok (st_dup d_59_30)
theorem ki_59_27 : js_Ok 59 27 (o_new 5 [.null, .int 0, .int 0] 30) := js_St.ok (st_new js_c5 rfl (by decide +kernel) (fun _ => rfl) kw_131 kw_132 kw_25 d_59_27)
theorem ki_59_26 : js_Ok 59 26 (o_al 0 27) := js_St.ok (st_aloadn rfl d_59_26)
theorem ki_59_23 : js_Ok 59 23 (o_pA 7 1 0 26) := js_Si.ok (st_pAfin js_c7 (by decide) rfl rfl rfl kw_231 (Or.inl ⟨_, rfl⟩) (js_c7.2.2.1 1 (by decide)) d_59_23)
theorem ki_59_20 : js_Ok 59 20 (o_cV 0 1 1 23) := ok_cV (site_I kk_59_0 (by decide) rfl rfl kw_70 kw_71 d_59_20) rfl
theorem ki_59_19 : js_Ok 59 19 (o_dup 20) := js_St.ok (st_dup d_59_19)
theorem ki_59_16 : js_Ok 59 16 (o_new 0 [.null, .null, .int 0, .int 0] 19) := js_St.ok (st_new js_c0 rfl (by decide +kernel) (fun _ => rfl) kw_68 kw_69 kw_23 d_59_16)
theorem ki_59_45 : js_Ok 59 45 (o_pA 7 4 4 48) := js_Si.ok (st_pAfin js_c7 (by decide) rfl rfl rfl kw_233 (Or.inl ⟨_, rfl⟩) (js_c7.2.2.1 4 (by decide)) d_59_45)
theorem ki_59_42 : js_Ok 59 42 (o_cV 31 1 5 45) := ok_cV (site_IN kk_59_31 (by decide) rfl rfl kn_153 kw_154 d_59_42) rfl
theorem ki_59_41 : js_Ok 59 41 (o_dup 42) := js_St.ok (st_dup d_59_41)
theorem ki_59_38 : js_Ok 59 38 (o_new 4 [.null, .null, .null, .int 0] 41) := js_St.ok (st_new js_c4 rfl (by decide +kernel) (fun _ => rfl) kw_151 kw_152 kw_26 d_59_38)
theorem ki_59_37 : js_Ok 59 37 (o_al 0 38) := js_St.ok (st_aloadn rfl d_59_37)
theorem ki_59_34 : js_Ok 59 34 (o_pA 7 3 5 37) := js_Si.ok (st_pAfin js_c7 (by decide) rfl rfl rfl kw_232 (Or.inl ⟨_, rfl⟩) (js_c7.2.2.1 3 (by decide)) d_59_34)
theorem ki_59_63 : js_Ok 59 63 (o_dup 64) := js_St.ok (st_dup d_59_63)
theorem ki_59_60 : js_Ok 59 60 (o_new 6 [.null, .int 0, .int 0, .null, .int 0] 63) := js_St.ok (st_new js_c6 rfl (by decide +kernel) (fun _ => rfl) kw_185 kw_186 kw_28 d_59_60)
theorem ki_59_59 : js_Ok 59 59 (o_al 0 60) := js_St.ok (st_aloadn rfl d_59_59)
theorem ki_59_56 : js_Ok 59 56 (o_pA 7 5 3 59) := js_Si.ok (st_pAfin js_c7 (by decide) rfl rfl rfl kw_234 (Or.inl ⟨_, rfl⟩) (js_c7.2.2.1 5 (by decide)) d_59_56)
theorem ki_59_53 : js_Ok 59 53 (o_cV 24 1 4 56) := ok_cV (site_IN kk_59_24 (by decide) rfl rfl kn_173 kw_174 d_59_53) rfl
theorem ki_59_52 : js_Ok 59 52 (o_dup 53) := js_St.ok (st_dup d_59_52)
theorem ki_59_49 : js_Ok 59 49 (o_new 3 [.null, .null] 52) := js_St.ok (st_new js_c3 rfl (by decide +kernel) (fun _ => rfl) kw_171 kw_172 kw_27 d_59_49)
theorem ki_59_48 : js_Ok 59 48 (o_al 0 49) := js_St.ok (st_aloadn rfl d_59_48)
theorem ki_59_79 : js_Ok 59 79 (o_ic (-1) 80) := js_St.ok (st_iconst rfl d_59_79)
theorem ki_59_78 : js_Ok 59 78 (o_al 0 79) := js_St.ok (st_aloadn rfl d_59_78)
theorem ki_59_75 : js_Ok 59 75 (o_pA 7 7 101 78) := js_Si.ok (st_pAfin js_c7 (by decide) rfl rfl rfl kw_236 (Or.inr ⟨_, rfl⟩) (js_c7.2.2.1 7 (by decide)) d_59_75)
theorem ki_59_73 : js_Ok 59 73 (o_na 101 (.int 0) 75) := js_St.ok (st_na (by decide) rfl (fun _ h => by cases h) (by decide) (fun _ => rfl) kw_170 d_59_73)
theorem ki_59_71 : js_Ok 59 71 (o_ic 8 73) := js_St.ok (st_bipush rfl d_59_71)
theorem ki_59_70 : js_Ok 59 70 (o_al 0 71) := js_St.ok (st_aloadn rfl d_59_70)
theorem ki_59_67 : js_Ok 59 67 (o_pA 7 6 6 70) := js_Si.ok (st_pAfin js_c7 (by decide) rfl rfl rfl kw_235 (Or.inl ⟨_, rfl⟩) (js_c7.2.2.1 6 (by decide)) d_59_67)
theorem ki_59_64 : js_Ok 59 64 (o_cV 48 1 7 67) := ok_cV (site_I kk_59_48 (by decide) rfl rfl kw_187 kw_188 d_59_64) rfl
theorem ki_59_88 : js_Ok 59 88 (o_rV) := ok_rV rfl d_59_88
theorem ki_59_85 : js_Ok 59 85 (o_pI 7 10 88) := js_St.ok (st_pIown js_c7 (by decide) rfl kw_239 (js_c7.2.2.1 10 (by decide)) d_59_85)
theorem ki_59_84 : js_Ok 59 84 (o_ic (-1) 85) := js_St.ok (st_iconst rfl d_59_84)
theorem ki_59_83 : js_Ok 59 83 (o_al 0 84) := js_St.ok (st_aloadn rfl d_59_83)
theorem ki_59_80 : js_Ok 59 80 (o_pI 7 9 83) := js_St.ok (st_pIown js_c7 (by decide) rfl kw_238 (js_c7.2.2.1 9 (by decide)) d_59_80)
theorem d_60_0 : decode (js_b 60) 0 = .ok (.aload_n 0, 1) := by decide +kernel
theorem d_60_1 : decode (js_b 60) 1 = .ok (.getfield 22, 3) := by decide +kernel
theorem d_60_4 : decode (js_b 60) 4 = .ok (.aload_n 0, 1) := by decide +kernel
theorem d_60_5 : decode (js_b 60) 5 = .ok (.getfield 10, 3) := by decide +kernel
theorem d_60_8 : decode (js_b 60) 8 = .ok (.invokevirtual 58, 3) := by decide +kernel
theorem d_60_11 : decode (js_b 60) 11 = .ok (.aload_n 0, 1) := by decide +kernel
theorem d_60_12 : decode (js_b 60) 12 = .ok (.aload_n 0, 1) := by decide +kernel
theorem d_60_13 : decode (js_b 60) 13 = .ok (.getfield 10, 3) := by decide +kernel
theorem d_60_16 : decode (js_b 60) 16 = .ok (.iload_n 1, 1) := by decide +kernel
theorem d_60_17 : decode (js_b 60) 17 = .ok (.iload_n 2, 1) := by decide +kernel
theorem d_60_18 : decode (js_b 60) 18 = .ok (.iload_n 3, 1) := by decide +kernel
theorem d_60_19 : decode (js_b 60) 19 = .ok (.iload 4, 2) := by decide +kernel
theorem d_60_21 : decode (js_b 60) 21 = .ok (.iload 5, 2) := by decide +kernel
theorem d_60_23 : decode (js_b 60) 23 = .ok (.invokevirtual 62, 3) := by decide +kernel
theorem d_60_26 : decode (js_b 60) 26 = .ok (.invokevirtual 66, 3) := by decide +kernel
theorem d_60_29 : decode (js_b 60) 29 = .ok (.ireturn, 1) := by decide +kernel
theorem ki_60_13 : js_Ok 60 13 (o_gA 7 0 16) := js_St.ok (st_gA js_c7 (by decide) (by decide) kw_230 d_60_13)
theorem ki_60_12 : js_Ok 60 12 (o_al 0 13) := js_St.ok (st_aloadn rfl d_60_12)
theorem ki_60_11 : js_Ok 60 11 (o_al 0 12) := js_St.ok (st_aloadn rfl d_60_11)
theorem ki_60_8 : js_Ok 60 8 (o_cV 43 2 6 11) := ok_cV (site_V kk_60_43 (by decide) kw_279 kw_280 kw_281 (fun t ht => by cases ht; exact Or.inl ⟨by decide, _, rfl, rfl⟩) d_60_8) rfl
theorem ki_60_5 : js_Ok 60 5 (o_gA 7 0 8) := js_St.ok (st_gA js_c7 (by decide) (by decide) kw_230 d_60_5)
theorem ki_60_4 : js_Ok 60 4 (o_al 0 5) := js_St.ok (st_aloadn rfl d_60_4)
theorem ki_60_1 : js_Ok 60 1 (o_gA 7 3 4) := js_St.ok (st_gA js_c7 (by decide) (by decide) kw_232 d_60_1)
theorem ki_60_0 : js_Ok 60 0 (o_al 0 1) := js_St.ok (st_aloadn rfl d_60_0)
theorem ki_60_29 : js_Ok 60 29 (o_rI) := ok_rI rfl d_60_29
theorem ki_60_26 : js_Ok 60 26 (o_cI 114 2 8 29) := ok_cI (site_V kk_60_114 (by decide) kw_312 kw_314 ks_0 (fun t ht => by cases ht; exact Or.inl ⟨by decide, _, rfl, rfl⟩) d_60_26) rfl
theorem ki_60_23 : js_Ok 60 23 (o_cI 6 6 1 26) := ok_cI (site_V kk_60_6 (by decide) kw_302 kw_303 kw_304 (fun t ht => by cases ht; exact Or.inl ⟨by decide, _, rfl, rfl⟩) d_60_23) rfl
theorem ki_60_21 : js_Ok 60 21 (o_il 5 23) := js_St.ok (st_iload d_60_21)
theorem ki_60_19 : js_Ok 60 19 (o_il 4 21) := js_St.ok (st_iload d_60_19)
theorem ki_60_18 : js_Ok 60 18 (o_il 3 19) := js_St.ok (st_iloadn rfl d_60_18)
theorem ki_60_17 : js_Ok 60 17 (o_il 2 18) := js_St.ok (st_iloadn rfl d_60_17)
theorem ki_60_16 : js_Ok 60 16 (o_il 1 17) := js_St.ok (st_iloadn rfl d_60_16)
theorem d_61_0 : decode (js_b 61) 0 = .ok (.aload_n 0, 1) := by decide +kernel
theorem d_61_1 : decode (js_b 61) 1 = .ok (.getfield 22, 3) := by decide +kernel
theorem d_61_4 : decode (js_b 61) 4 = .ok (.aload_n 0, 1) := by decide +kernel
theorem d_61_5 : decode (js_b 61) 5 = .ok (.getfield 10, 3) := by decide +kernel
theorem d_61_8 : decode (js_b 61) 8 = .ok (.invokevirtual 58, 3) := by decide +kernel
theorem d_61_11 : decode (js_b 61) 11 = .ok (.aload_n 0, 1) := by decide +kernel
theorem d_61_12 : decode (js_b 61) 12 = .ok (.aload_n 0, 1) := by decide +kernel
theorem d_61_13 : decode (js_b 61) 13 = .ok (.getfield 10, 3) := by decide +kernel
theorem d_61_16 : decode (js_b 61) 16 = .ok (.iload_n 1, 1) := by decide +kernel
theorem d_61_17 : decode (js_b 61) 17 = .ok (.invokevirtual 70, 3) := by decide +kernel
theorem d_61_20 : decode (js_b 61) 20 = .ok (.invokevirtual 66, 3) := by decide +kernel
theorem d_61_23 : decode (js_b 61) 23 = .ok (.ireturn, 1) := by decide +kernel
theorem ki_61_13 : js_Ok 61 13 (o_gA 7 0 16) := js_St.ok (st_gA js_c7 (by decide) (by decide) kw_230 d_61_13)
theorem ki_61_12 : js_Ok 61 12 (o_al 0 13) := js_St.ok (st_aloadn rfl d_61_12)
theorem ki_61_11 : js_Ok 61 11 (o_al 0 12) := js_St.ok (st_aloadn rfl d_61_11)
theorem ki_61_8 : js_Ok 61 8 (o_cV 43 2 6 11) := ok_cV (site_V kk_61_43 (by decide) kw_279 kw_280 kw_281 (fun t ht => by cases ht; exact Or.inl ⟨by decide, _, rfl, rfl⟩) d_61_8) rfl
theorem ki_61_5 : js_Ok 61 5 (o_gA 7 0 8) := js_St.ok (st_gA js_c7 (by decide) (by decide) kw_230 d_61_5)
theorem ki_61_4 : js_Ok 61 4 (o_al 0 5) := js_St.ok (st_aloadn rfl d_61_4)
theorem ki_61_1 : js_Ok 61 1 (o_gA 7 3 4) := js_St.ok (st_gA js_c7 (by decide) (by decide) kw_232 d_61_1)
theorem ki_61_0 : js_Ok 61 0 (o_al 0 1) := js_St.ok (st_aloadn rfl d_61_0)
theorem ki_61_23 : js_Ok 61 23 (o_rI) := ok_rI rfl d_61_23
theorem ki_61_20 : js_Ok 61 20 (o_cI 114 2 8 23) := ok_cI (site_V kk_61_114 (by decide) kw_312 kw_314 ks_0 (fun t ht => by cases ht; exact Or.inl ⟨by decide, _, rfl, rfl⟩) d_61_20) rfl
theorem ki_61_17 : js_Ok 61 17 (o_cI 7 2 1 20) := ok_cI (site_V kk_61_7 (by decide) kw_1327 kw_1328 kw_1329 (fun t ht => by cases ht; exact Or.inl ⟨by decide, _, rfl, rfl⟩) d_61_17) rfl
theorem ki_61_16 : js_Ok 61 16 (o_il 1 17) := js_St.ok (st_iloadn rfl d_61_16)
theorem d_62_0 : decode (js_b 62) 0 = .ok (.aload_n 0, 1) := by decide +kernel
theorem d_62_1 : decode (js_b 62) 1 = .ok (.getfield 10, 3) := by decide +kernel
theorem d_62_4 : decode (js_b 62) 4 = .ok (.getfield 73, 3) := by decide +kernel
theorem d_62_7 : decode (js_b 62) 7 = .ok (.ireturn, 1) := by decide +kernel
theorem ki_62_7 : js_Ok 62 7 (o_rI) := ok_rI rfl d_62_7
theorem ki_62_4 : js_Ok 62 4 (o_gI 0 2 7) := js_St.ok (st_gIn js_c0 (by decide) (by decide) kn_119 d_62_4)
theorem ki_62_1 : js_Ok 62 1 (o_gA 7 0 4) := js_St.ok (st_gA js_c7 (by decide) (by decide) kw_230 d_62_1)
theorem ki_62_0 : js_Ok 62 0 (o_al 0 1) := js_St.ok (st_aloadn rfl d_62_0)
theorem d_63_0 : decode (js_b 63) 0 = .ok (.aload_n 0, 1) := by decide +kernel
theorem d_63_1 : decode (js_b 63) 1 = .ok (.getfield 10, 3) := by decide +kernel
theorem d_63_4 : decode (js_b 63) 4 = .ok (.getfield 73, 3) := by decide +kernel
theorem d_63_7 : decode (js_b 63) 7 = .ok (.aload_n 0, 1) := by decide +kernel
theorem d_63_8 : decode (js_b 63) 8 = .ok (.getfield 10, 3) := by decide +kernel
theorem d_63_11 : decode (js_b 63) 11 = .ok (.invokevirtual 76, 3) := by decide +kernel
theorem d_63_14 : decode (js_b 63) 14 = .ok (.isub, 1) := by decide +kernel
theorem d_63_15 : decode (js_b 63) 15 = .ok (.ireturn, 1) := by decide +kernel
theorem ki_63_15 : js_Ok 63 15 (o_rI) := ok_rI rfl d_63_15
theorem ki_63_14 : js_Ok 63 14 (o_b2 (fun x y => x - y) 15) := js_St.ok (st_isub d_63_14)
theorem ki_63_11 : js_Ok 63 11 (o_cI 4 1 1 14) := ok_cI (site_V kk_63_4 (by decide) kw_754 kw_755 kw_756 (fun t ht => by cases ht; exact Or.inl ⟨by decide, _, rfl, rfl⟩) d_63_11) rfl
theorem ki_63_8 : js_Ok 63 8 (o_gA 7 0 11) := js_St.ok (st_gA js_c7 (by decide) (by decide) kw_230 d_63_8)
theorem ki_63_7 : js_Ok 63 7 (o_al 0 8) := js_St.ok (st_aloadn rfl d_63_7)
theorem ki_63_4 : js_Ok 63 4 (o_gI 0 2 7) := js_St.ok (st_gIn js_c0 (by decide) (by decide) kn_119 d_63_4)
theorem ki_63_1 : js_Ok 63 1 (o_gA 7 0 4) := js_St.ok (st_gA js_c7 (by decide) (by decide) kw_230 d_63_1)
theorem ki_63_0 : js_Ok 63 0 (o_al 0 1) := js_St.ok (st_aloadn rfl d_63_0)
theorem d_64_0 : decode (js_b 64) 0 = .ok (.aload_n 0, 1) := by decide +kernel
theorem d_64_1 : decode (js_b 64) 1 = .ok (.getfield 10, 3) := by decide +kernel
theorem d_64_4 : decode (js_b 64) 4 = .ok (.iload_n 1, 1) := by decide +kernel
theorem d_64_5 : decode (js_b 64) 5 = .ok (.invokevirtual 80, 3) := by decide +kernel
theorem d_64_8 : decode (js_b 64) 8 = .ok (.astore_n 2, 1) := by decide +kernel
theorem d_64_9 : decode (js_b 64) 9 = .ok (.aload_n 2, 1) := by decide +kernel
theorem d_64_10 : decode (js_b 64) 10 = .ok (.ifnonnull 13, 3) := by decide +kernel
theorem d_64_13 : decode (js_b 64) 13 = .ok (.new 84, 3) := by decide +kernel
theorem d_64_16 : decode (js_b 64) 16 = .ok (.dup, 1) := by decide +kernel
theorem d_64_17 : decode (js_b 64) 17 = .ok (.ldc 86, 2) := by decide +kernel
theorem d_64_19 : decode (js_b 64) 19 = .ok (.invokespecial 88, 3) := by decide +kernel
theorem d_64_22 : decode (js_b 64) 22 = .ok (.athrow, 1) := by decide +kernel
theorem d_64_23 : decode (js_b 64) 23 = .ok (.aload_n 2, 1) := by decide +kernel
theorem d_64_24 : decode (js_b 64) 24 = .ok (.getfield 91, 3) := by decide +kernel
theorem d_64_27 : decode (js_b 64) 27 = .ok (.ireturn, 1) := by decide +kernel
theorem ki_64_13 : js_Ok 64 13 (o_th "java/lang/IndexOutOfBoundsException") := ok_th (text := "no such position in the tray") rfl (by decide) kw_391 kw_37 (by decide +kernel) kat_88 kot_88 d_64_13 d_64_16 d_64_17 d_64_19 d_64_22
theorem ki_64_10 : js_Ok 64 10 (o_nnl 23 13) := js_St.ok (st_ifnonnull (by decide) d_64_10)
theorem ki_64_9 : js_Ok 64 9 (o_al 2 10) := js_St.ok (st_aloadn rfl d_64_9)
theorem ki_64_8 : js_Ok 64 8 (o_as 2 9) := js_St.ok (st_astoren rfl (Nat.le_of_ble_eq_true rfl) d_64_8)
theorem ki_64_5 : js_Ok 64 5 (o_cN 5 2 1 8) := ok_cN (site_V kk_64_5 (by decide) kw_674 kw_675 kw_676 (fun t ht => by cases ht; exact Or.inl ⟨by decide, _, rfl, rfl⟩) d_64_5) rfl
theorem ki_64_4 : js_Ok 64 4 (o_il 1 5) := js_St.ok (st_iloadn rfl d_64_4)
theorem ki_64_1 : js_Ok 64 1 (o_gA 7 0 4) := js_St.ok (st_gA js_c7 (by decide) (by decide) kw_230 d_64_1)
theorem ki_64_0 : js_Ok 64 0 (o_al 0 1) := js_St.ok (st_aloadn rfl d_64_0)
theorem ki_64_27 : js_Ok 64 27 (o_rI) := ok_rI rfl d_64_27
theorem ki_64_24 : js_Ok 64 24 (o_gI 2 0 27) := js_St.ok (st_gIn js_c2 (by decide) (by decide) kn_83 d_64_24)
theorem ki_64_23 : js_Ok 64 23 (o_al 2 24) := js_St.ok (st_aloadn rfl d_64_23)
theorem d_65_0 : decode (js_b 65) 0 = .ok (.aload_n 0, 1) := by decide +kernel
theorem d_65_1 : decode (js_b 65) 1 = .ok (.getfield 10, 3) := by decide +kernel
theorem d_65_4 : decode (js_b 65) 4 = .ok (.iload_n 1, 1) := by decide +kernel
theorem d_65_5 : decode (js_b 65) 5 = .ok (.invokevirtual 96, 3) := by decide +kernel
theorem d_65_8 : decode (js_b 65) 8 = .ok (.ifnull 7, 3) := by decide +kernel
theorem d_65_11 : decode (js_b 65) 11 = .ok (.iconst 1, 1) := by decide +kernel
theorem d_65_12 : decode (js_b 65) 12 = .ok (.goto 4, 3) := by decide +kernel
theorem d_65_15 : decode (js_b 65) 15 = .ok (.iconst 0, 1) := by decide +kernel
theorem d_65_16 : decode (js_b 65) 16 = .ok (.ireturn, 1) := by decide +kernel
theorem ki_65_15 : js_Ok 65 15 (o_ic 0 16) := js_St.ok (st_iconst rfl d_65_15)
theorem ki_65_12 : js_Ok 65 12 (o_go 16) := js_St.ok (st_goto (by decide) d_65_12)
theorem ki_65_11 : js_Ok 65 11 (o_ic 1 12) := js_St.ok (st_iconst rfl d_65_11)
theorem ki_65_8 : js_Ok 65 8 (o_nul 15 11) := js_St.ok (st_ifnull (by decide) d_65_8)
theorem ki_65_5 : js_Ok 65 5 (o_cN 3 2 1 8) := ok_cN (site_V kk_65_3 (by decide) kw_628 kw_459 kw_460 (fun t ht => by cases ht; exact Or.inl ⟨by decide, _, rfl, rfl⟩) d_65_5) rfl
theorem ki_65_4 : js_Ok 65 4 (o_il 1 5) := js_St.ok (st_iloadn rfl d_65_4)
theorem ki_65_1 : js_Ok 65 1 (o_gA 7 0 4) := js_St.ok (st_gA js_c7 (by decide) (by decide) kw_230 d_65_1)
theorem ki_65_0 : js_Ok 65 0 (o_al 0 1) := js_St.ok (st_aloadn rfl d_65_0)
theorem ki_65_16 : js_Ok 65 16 (o_rZ) := ok_rZ rfl d_65_16
theorem d_66_0 : decode (js_b 66) 0 = .ok (.aload_n 0, 1) := by decide +kernel
theorem d_66_1 : decode (js_b 66) 1 = .ok (.iload_n 1, 1) := by decide +kernel
theorem d_66_2 : decode (js_b 66) 2 = .ok (.invokevirtual 99, 3) := by decide +kernel
theorem d_66_5 : decode (js_b 66) 5 = .ok (.getfield 102, 3) := by decide +kernel
theorem d_66_8 : decode (js_b 66) 8 = .ok (.ireturn, 1) := by decide +kernel
theorem ki_66_8 : js_Ok 66 8 (o_rC) := ok_rC rfl d_66_8
theorem ki_66_5 : js_Ok 66 5 (o_gI 2 1 8) := js_St.ok (st_gIn js_c2 (by decide) (by decide) kn_87 d_66_5)
theorem ki_66_2 : js_Ok 66 2 (o_cA 116 2 8 5) := ok_cA (site_V kk_66_116 (by decide) kw_636 kw_638 ks_8 (fun t ht => by cases ht; exact Or.inl ⟨by decide, _, rfl, rfl⟩) d_66_2) rfl
theorem ki_66_1 : js_Ok 66 1 (o_il 1 2) := js_St.ok (st_iloadn rfl d_66_1)
theorem ki_66_0 : js_Ok 66 0 (o_al 0 1) := js_St.ok (st_aloadn rfl d_66_0)
theorem d_67_0 : decode (js_b 67) 0 = .ok (.aload_n 0, 1) := by decide +kernel
theorem d_67_1 : decode (js_b 67) 1 = .ok (.iload_n 1, 1) := by decide +kernel
theorem d_67_2 : decode (js_b 67) 2 = .ok (.invokevirtual 99, 3) := by decide +kernel
theorem d_67_5 : decode (js_b 67) 5 = .ok (.getfield 106, 3) := by decide +kernel
theorem d_67_8 : decode (js_b 67) 8 = .ok (.ireturn, 1) := by decide +kernel
theorem ki_67_8 : js_Ok 67 8 (o_rI) := ok_rI rfl d_67_8
theorem ki_67_5 : js_Ok 67 5 (o_gI 2 3 8) := js_St.ok (st_gIn js_c2 (by decide) (by decide) kn_94 d_67_5)
theorem ki_67_2 : js_Ok 67 2 (o_cA 116 2 8 5) := ok_cA (site_V kk_67_116 (by decide) kw_636 kw_638 ks_8 (fun t ht => by cases ht; exact Or.inl ⟨by decide, _, rfl, rfl⟩) d_67_2) rfl
theorem ki_67_1 : js_Ok 67 1 (o_il 1 2) := js_St.ok (st_iloadn rfl d_67_1)
theorem ki_67_0 : js_Ok 67 0 (o_al 0 1) := js_St.ok (st_aloadn rfl d_67_0)
theorem d_68_0 : decode (js_b 68) 0 = .ok (.aload_n 0, 1) := by decide +kernel
theorem d_68_1 : decode (js_b 68) 1 = .ok (.iload_n 1, 1) := by decide +kernel
theorem d_68_2 : decode (js_b 68) 2 = .ok (.invokevirtual 99, 3) := by decide +kernel
theorem d_68_5 : decode (js_b 68) 5 = .ok (.astore_n 3, 1) := by decide +kernel
theorem d_68_6 : decode (js_b 68) 6 = .ok (.iload_n 2, 1) := by decide +kernel
theorem d_68_7 : decode (js_b 68) 7 = .ok (.invokestatic 109, 3) := by decide +kernel
theorem d_68_10 : decode (js_b 68) 10 = .ok (.aload_n 3, 1) := by decide +kernel
theorem d_68_11 : decode (js_b 68) 11 = .ok (.iload_n 2, 1) := by decide +kernel
theorem d_68_12 : decode (js_b 68) 12 = .ok (.invokevirtual 113, 3) := by decide +kernel
theorem d_68_15 : decode (js_b 68) 15 = .ok (.ireturn, 1) := by decide +kernel
theorem ki_68_15 : js_Ok 68 15 (o_rI) := ok_rI rfl d_68_15
theorem ki_68_12 : js_Ok 68 12 (o_cI 22 2 3 15) := ok_cI (site_V kk_68_22 (by decide) kw_666 kw_552 kw_553 (fun t ht => by cases ht; exact Or.inl ⟨by decide, _, rfl, rfl⟩) d_68_12) rfl
theorem ki_68_11 : js_Ok 68 11 (o_il 2 12) := js_St.ok (st_iloadn rfl d_68_11)
theorem ki_68_10 : js_Ok 68 10 (o_al 3 11) := js_St.ok (st_aloadn rfl d_68_10)
theorem ki_68_7 : js_Ok 68 7 (o_cV 122 1 0 10) := ok_cV (site_S kk_68_122 kw_662 kw_663 d_68_7) rfl
theorem ki_68_6 : js_Ok 68 6 (o_il 2 7) := js_St.ok (st_iloadn rfl d_68_6)
theorem ki_68_5 : js_Ok 68 5 (o_as 3 6) := js_St.ok (st_astoren rfl (Nat.le_of_ble_eq_true rfl) d_68_5)
theorem ki_68_2 : js_Ok 68 2 (o_cA 116 2 8 5) := ok_cA (site_V kk_68_116 (by decide) kw_636 kw_638 ks_8 (fun t ht => by cases ht; exact Or.inl ⟨by decide, _, rfl, rfl⟩) d_68_2) rfl
theorem ki_68_1 : js_Ok 68 1 (o_il 1 2) := js_St.ok (st_iloadn rfl d_68_1)
theorem ki_68_0 : js_Ok 68 0 (o_al 0 1) := js_St.ok (st_aloadn rfl d_68_0)
theorem d_69_0 : decode (js_b 69) 0 = .ok (.aload_n 0, 1) := by decide +kernel
theorem d_69_1 : decode (js_b 69) 1 = .ok (.iload_n 1, 1) := by decide +kernel
theorem d_69_2 : decode (js_b 69) 2 = .ok (.invokevirtual 99, 3) := by decide +kernel
theorem d_69_5 : decode (js_b 69) 5 = .ok (.invokevirtual 116, 3) := by decide +kernel
theorem d_69_8 : decode (js_b 69) 8 = .ok (.ireturn, 1) := by decide +kernel
theorem ki_69_8 : js_Ok 69 8 (o_rZ) := ok_rZ rfl d_69_8
theorem ki_69_5 : js_Ok 69 5 (o_cI 21 1 3 8) := ok_cI (site_V kk_69_21 (by decide) kw_654 kw_299 kw_300 (fun t ht => by cases ht; exact Or.inl ⟨by decide, _, rfl, rfl⟩) d_69_5) rfl
theorem ki_69_2 : js_Ok 69 2 (o_cA 116 2 8 5) := ok_cA (site_V kk_69_116 (by decide) kw_636 kw_638 ks_8 (fun t ht => by cases ht; exact Or.inl ⟨by decide, _, rfl, rfl⟩) d_69_2) rfl
theorem ki_69_1 : js_Ok 69 1 (o_il 1 2) := js_St.ok (st_iloadn rfl d_69_1)
theorem ki_69_0 : js_Ok 69 0 (o_al 0 1) := js_St.ok (st_aloadn rfl d_69_0)
theorem d_70_0 : decode (js_b 70) 0 = .ok (.aload_n 0, 1) := by decide +kernel
theorem d_70_1 : decode (js_b 70) 1 = .ok (.iload_n 1, 1) := by decide +kernel
theorem d_70_2 : decode (js_b 70) 2 = .ok (.invokevirtual 120, 3) := by decide +kernel
theorem d_70_5 : decode (js_b 70) 5 = .ok (.getfield 123, 3) := by decide +kernel
theorem d_70_8 : decode (js_b 70) 8 = .ok (.ireturn, 1) := by decide +kernel
theorem ki_70_8 : js_Ok 70 8 (o_rI) := ok_rI rfl d_70_8
theorem ki_70_5 : js_Ok 70 5 (o_gI 2 4 8) := js_St.ok (st_gIn js_c2 (by decide) (by decide) kn_98 d_70_5)
theorem ki_70_2 : js_Ok 70 2 (o_cA 117 2 8 5) := ok_cA (site_V kk_70_117 (by decide) kw_686 kw_688 ks_9 (fun t ht => by cases ht; exact Or.inl ⟨by decide, _, rfl, rfl⟩) d_70_2) rfl
theorem ki_70_1 : js_Ok 70 1 (o_il 1 2) := js_St.ok (st_iloadn rfl d_70_1)
theorem ki_70_0 : js_Ok 70 0 (o_al 0 1) := js_St.ok (st_aloadn rfl d_70_0)
theorem d_71_0 : decode (js_b 71) 0 = .ok (.iconst 0, 1) := by decide +kernel
theorem d_71_1 : decode (js_b 71) 1 = .ok (.istore_n 1, 1) := by decide +kernel
theorem d_71_2 : decode (js_b 71) 2 = .ok (.iconst 0, 1) := by decide +kernel
theorem d_71_3 : decode (js_b 71) 3 = .ok (.istore_n 2, 1) := by decide +kernel
theorem d_71_4 : decode (js_b 71) 4 = .ok (.iload_n 2, 1) := by decide +kernel
theorem d_71_5 : decode (js_b 71) 5 = .ok (.aload_n 0, 1) := by decide +kernel
theorem d_71_6 : decode (js_b 71) 6 = .ok (.getfield 10, 3) := by decide +kernel
theorem d_71_9 : decode (js_b 71) 9 = .ok (.getfield 73, 3) := by decide +kernel
theorem d_71_12 : decode (js_b 71) 12 = .ok (.if_icmp .ge 40, 3) := by decide +kernel
theorem d_71_15 : decode (js_b 71) 15 = .ok (.iconst 0, 1) := by decide +kernel
theorem d_71_16 : decode (js_b 71) 16 = .ok (.istore_n 3, 1) := by decide +kernel
theorem d_71_17 : decode (js_b 71) 17 = .ok (.iload_n 3, 1) := by decide +kernel
theorem d_71_18 : decode (js_b 71) 18 = .ok (.iconst 4, 1) := by decide +kernel
theorem d_71_19 : decode (js_b 71) 19 = .ok (.if_icmp .ge 27, 3) := by decide +kernel
theorem d_71_22 : decode (js_b 71) 22 = .ok (.iload_n 1, 1) := by decide +kernel
theorem d_71_23 : decode (js_b 71) 23 = .ok (.iconst 1, 1) := by decide +kernel
theorem d_71_24 : decode (js_b 71) 24 = .ok (.aload_n 0, 1) := by decide +kernel
theorem d_71_25 : decode (js_b 71) 25 = .ok (.getfield 10, 3) := by decide +kernel
theorem d_71_28 : decode (js_b 71) 28 = .ok (.getfield 126, 3) := by decide +kernel
theorem d_71_31 : decode (js_b 71) 31 = .ok (.iload_n 2, 1) := by decide +kernel
theorem d_71_32 : decode (js_b 71) 32 = .ok (.aaload, 1) := by decide +kernel
theorem d_71_33 : decode (js_b 71) 33 = .ok (.iload_n 3, 1) := by decide +kernel
theorem d_71_34 : decode (js_b 71) 34 = .ok (.invokevirtual 113, 3) := by decide +kernel
theorem d_71_37 : decode (js_b 71) 37 = .ok (.ishl, 1) := by decide +kernel
theorem d_71_38 : decode (js_b 71) 38 = .ok (.ior, 1) := by decide +kernel
theorem d_71_39 : decode (js_b 71) 39 = .ok (.istore_n 1, 1) := by decide +kernel
theorem d_71_40 : decode (js_b 71) 40 = .ok (.iinc 3 1, 3) := by decide +kernel
theorem d_71_43 : decode (js_b 71) 43 = .ok (.goto (-26), 3) := by decide +kernel
theorem d_71_46 : decode (js_b 71) 46 = .ok (.iinc 2 1, 3) := by decide +kernel
theorem d_71_49 : decode (js_b 71) 49 = .ok (.goto (-45), 3) := by decide +kernel
theorem d_71_52 : decode (js_b 71) 52 = .ok (.iload_n 1, 1) := by decide +kernel
theorem d_71_53 : decode (js_b 71) 53 = .ok (.invokestatic 130, 3) := by decide +kernel
theorem d_71_56 : decode (js_b 71) 56 = .ok (.ireturn, 1) := by decide +kernel
theorem ki_71_15 : js_Ok 71 15 (o_ic 0 16) := js_St.ok (st_iconst rfl d_71_15)
theorem ki_71_12 : js_Ok 71 12 (o_cge 52 15) := js_St.ok (st_icge (by decide) d_71_12)
theorem ki_71_9 : js_Ok 71 9 (o_gI 0 2 12) := js_St.ok (st_gIn js_c0 (by decide) (by decide) kn_119 d_71_9)
theorem ki_71_6 : js_Ok 71 6 (o_gA 7 0 9) := js_St.ok (st_gA js_c7 (by decide) (by decide) kw_230 d_71_6)
theorem ki_71_5 : js_Ok 71 5 (o_al 0 6) := js_St.ok (st_aloadn rfl d_71_5)
theorem ki_71_4 : js_Ok 71 4 (o_il 2 5) := js_St.ok (st_iloadn rfl d_71_4)
theorem ki_71_3 : js_Ok 71 3 (o_is 2 4) := js_St.ok (st_istoren rfl (Nat.le_of_ble_eq_true rfl) d_71_3)
theorem ki_71_2 : js_Ok 71 2 (o_ic 0 3) := js_St.ok (st_iconst rfl d_71_2)
theorem ki_71_1 : js_Ok 71 1 (o_is 1 2) := js_St.ok (st_istoren rfl (Nat.le_of_ble_eq_true rfl) d_71_1)
theorem ki_71_0 : js_Ok 71 0 (o_ic 0 1) := js_St.ok (st_iconst rfl d_71_0)
theorem ki_71_31 : js_Ok 71 31 (o_il 2 32) := js_St.ok (st_iloadn rfl d_71_31)
theorem ki_71_28 : js_Ok 71 28 (o_gA 0 0 31) := js_St.ok (st_gAn js_c0 (by decide) (by decide) kn_114 d_71_28)
theorem ki_71_25 : js_Ok 71 25 (o_gA 7 0 28) := js_St.ok (st_gA js_c7 (by decide) (by decide) kw_230 d_71_25)
theorem ki_71_24 : js_Ok 71 24 (o_al 0 25) := js_St.ok (st_aloadn rfl d_71_24)
theorem ki_71_23 : js_Ok 71 23 (o_ic 1 24) := js_St.ok (st_iconst rfl d_71_23)
theorem ki_71_22 : js_Ok 71 22 (o_il 1 23) := js_St.ok (st_iloadn rfl d_71_22)
theorem ki_71_19 : js_Ok 71 19 (o_cge 46 22) := js_St.ok (st_icge (by decide) d_71_19)
theorem ki_71_18 : js_Ok 71 18 (o_ic 4 19) := js_St.ok (st_iconst rfl d_71_18)
theorem ki_71_17 : js_Ok 71 17 (o_il 3 18) := js_St.ok (st_iloadn rfl d_71_17)
theorem ki_71_16 : js_Ok 71 16 (o_is 3 17) := js_St.ok (st_istoren rfl (Nat.le_of_ble_eq_true rfl) d_71_16)
theorem ki_71_46 : js_Ok 71 46 (o_inc 2 1 49) := js_St.ok (st_iinc rfl (Nat.le_of_ble_eq_true rfl) d_71_46)
theorem ki_71_43 : js_Ok 71 43 (o_go 17) := js_St.ok (st_goto (by decide) d_71_43)
theorem ki_71_40 : js_Ok 71 40 (o_inc 3 1 43) := js_St.ok (st_iinc rfl (Nat.le_of_ble_eq_true rfl) d_71_40)
theorem ki_71_39 : js_Ok 71 39 (o_is 1 40) := js_St.ok (st_istoren rfl (Nat.le_of_ble_eq_true rfl) d_71_39)
theorem ki_71_38 : js_Ok 71 38 (o_b2 (fun x y => x ||| y) 39) := js_St.ok (st_ior d_71_38)
theorem ki_71_37 : js_Ok 71 37 (o_b2 (fun x y => x <<< (y &&& 31)) 38) := js_St.ok (st_ishl d_71_37)
theorem ki_71_34 : js_Ok 71 34 (o_cI 22 2 3 37) := ok_cI (site_V kk_71_22 (by decide) kw_666 kw_552 kw_553 (fun t ht => by cases ht; exact Or.inl ⟨by decide, _, rfl, rfl⟩) d_71_34) rfl
theorem ki_71_33 : js_Ok 71 33 (o_il 3 34) := js_St.ok (st_iloadn rfl d_71_33)
theorem ki_71_32 : js_Ok 71 32 (o_lA 111 33) := js_St.ok (st_lA (by decide) rfl d_71_32)
theorem ki_71_56 : js_Ok 71 56 (o_rI) := ok_rI rfl d_71_56
theorem ki_71_53 : js_Ok 71 53 (o_cI 244 1 0 56) := ok_cI (site_S kk_71_244 kw_762 kw_763 d_71_53) rfl
theorem ki_71_52 : js_Ok 71 52 (o_il 1 53) := js_St.ok (st_iloadn rfl d_71_52)
theorem ki_71_49 : js_Ok 71 49 (o_go 4) := js_St.ok (st_goto (by decide) d_71_49)
theorem d_72_0 : decode (js_b 72) 0 = .ok (.aload_n 0, 1) := by decide +kernel
theorem d_72_1 : decode (js_b 72) 1 = .ok (.getfield 22, 3) := by decide +kernel
theorem d_72_4 : decode (js_b 72) 4 = .ok (.aload_n 0, 1) := by decide +kernel
theorem d_72_5 : decode (js_b 72) 5 = .ok (.getfield 10, 3) := by decide +kernel
theorem d_72_8 : decode (js_b 72) 8 = .ok (.invokevirtual 58, 3) := by decide +kernel
theorem d_72_11 : decode (js_b 72) 11 = .ok (.aload_n 0, 1) := by decide +kernel
theorem d_72_12 : decode (js_b 72) 12 = .ok (.aload_n 0, 1) := by decide +kernel
theorem d_72_13 : decode (js_b 72) 13 = .ok (.getfield 10, 3) := by decide +kernel
theorem d_72_16 : decode (js_b 72) 16 = .ok (.iload_n 1, 1) := by decide +kernel
theorem d_72_17 : decode (js_b 72) 17 = .ok (.iload_n 2, 1) := by decide +kernel
theorem d_72_18 : decode (js_b 72) 18 = .ok (.iload_n 3, 1) := by decide +kernel
theorem d_72_19 : decode (js_b 72) 19 = .ok (.invokevirtual 135, 3) := by decide +kernel
theorem d_72_22 : decode (js_b 72) 22 = .ok (.invokevirtual 66, 3) := by decide +kernel
theorem d_72_25 : decode (js_b 72) 25 = .ok (.ireturn, 1) := by decide +kernel
theorem ki_72_13 : js_Ok 72 13 (o_gA 7 0 16) := js_St.ok (st_gA js_c7 (by decide) (by decide) kw_230 d_72_13)
theorem ki_72_12 : js_Ok 72 12 (o_al 0 13) := js_St.ok (st_aloadn rfl d_72_12)
theorem ki_72_11 : js_Ok 72 11 (o_al 0 12) := js_St.ok (st_aloadn rfl d_72_11)
theorem ki_72_8 : js_Ok 72 8 (o_cV 43 2 6 11) := ok_cV (site_V kk_72_43 (by decide) kw_279 kw_280 kw_281 (fun t ht => by cases ht; exact Or.inl ⟨by decide, _, rfl, rfl⟩) d_72_8) rfl
theorem ki_72_5 : js_Ok 72 5 (o_gA 7 0 8) := js_St.ok (st_gA js_c7 (by decide) (by decide) kw_230 d_72_5)
theorem ki_72_4 : js_Ok 72 4 (o_al 0 5) := js_St.ok (st_aloadn rfl d_72_4)
theorem ki_72_1 : js_Ok 72 1 (o_gA 7 3 4) := js_St.ok (st_gA js_c7 (by decide) (by decide) kw_232 d_72_1)
theorem ki_72_0 : js_Ok 72 0 (o_al 0 1) := js_St.ok (st_aloadn rfl d_72_0)
theorem ki_72_25 : js_Ok 72 25 (o_rI) := ok_rI rfl d_72_25
theorem ki_72_22 : js_Ok 72 22 (o_cI 114 2 8 25) := ok_cI (site_V kk_72_114 (by decide) kw_312 kw_314 ks_0 (fun t ht => by cases ht; exact Or.inl ⟨by decide, _, rfl, rfl⟩) d_72_22) rfl
theorem ki_72_19 : js_Ok 72 19 (o_cI 8 4 1 22) := ok_cI (site_V kk_72_8 (by decide) kw_595 kw_596 kw_597 (fun t ht => by cases ht; exact Or.inl ⟨by decide, _, rfl, rfl⟩) d_72_19) rfl
theorem ki_72_18 : js_Ok 72 18 (o_il 3 19) := js_St.ok (st_iloadn rfl d_72_18)
theorem ki_72_17 : js_Ok 72 17 (o_il 2 18) := js_St.ok (st_iloadn rfl d_72_17)
theorem ki_72_16 : js_Ok 72 16 (o_il 1 17) := js_St.ok (st_iloadn rfl d_72_16)
theorem d_73_0 : decode (js_b 73) 0 = .ok (.aload_n 0, 1) := by decide +kernel
theorem d_73_1 : decode (js_b 73) 1 = .ok (.getfield 22, 3) := by decide +kernel
theorem d_73_4 : decode (js_b 73) 4 = .ok (.aload_n 0, 1) := by decide +kernel
theorem d_73_5 : decode (js_b 73) 5 = .ok (.getfield 10, 3) := by decide +kernel
theorem d_73_8 : decode (js_b 73) 8 = .ok (.invokevirtual 58, 3) := by decide +kernel
theorem d_73_11 : decode (js_b 73) 11 = .ok (.aload_n 0, 1) := by decide +kernel
theorem d_73_12 : decode (js_b 73) 12 = .ok (.aload_n 0, 1) := by decide +kernel
theorem d_73_13 : decode (js_b 73) 13 = .ok (.getfield 10, 3) := by decide +kernel
theorem d_73_16 : decode (js_b 73) 16 = .ok (.iload_n 1, 1) := by decide +kernel
theorem d_73_17 : decode (js_b 73) 17 = .ok (.invokevirtual 139, 3) := by decide +kernel
theorem d_73_20 : decode (js_b 73) 20 = .ok (.invokevirtual 66, 3) := by decide +kernel
theorem d_73_23 : decode (js_b 73) 23 = .ok (.ireturn, 1) := by decide +kernel
theorem ki_73_13 : js_Ok 73 13 (o_gA 7 0 16) := js_St.ok (st_gA js_c7 (by decide) (by decide) kw_230 d_73_13)
theorem ki_73_12 : js_Ok 73 12 (o_al 0 13) := js_St.ok (st_aloadn rfl d_73_12)
theorem ki_73_11 : js_Ok 73 11 (o_al 0 12) := js_St.ok (st_aloadn rfl d_73_11)
theorem ki_73_8 : js_Ok 73 8 (o_cV 43 2 6 11) := ok_cV (site_V kk_73_43 (by decide) kw_279 kw_280 kw_281 (fun t ht => by cases ht; exact Or.inl ⟨by decide, _, rfl, rfl⟩) d_73_8) rfl
theorem ki_73_5 : js_Ok 73 5 (o_gA 7 0 8) := js_St.ok (st_gA js_c7 (by decide) (by decide) kw_230 d_73_5)
theorem ki_73_4 : js_Ok 73 4 (o_al 0 5) := js_St.ok (st_aloadn rfl d_73_4)
theorem ki_73_1 : js_Ok 73 1 (o_gA 7 3 4) := js_St.ok (st_gA js_c7 (by decide) (by decide) kw_232 d_73_1)
theorem ki_73_0 : js_Ok 73 0 (o_al 0 1) := js_St.ok (st_aloadn rfl d_73_0)
theorem ki_73_23 : js_Ok 73 23 (o_rI) := ok_rI rfl d_73_23
theorem ki_73_20 : js_Ok 73 20 (o_cI 114 2 8 23) := ok_cI (site_V kk_73_114 (by decide) kw_312 kw_314 ks_0 (fun t ht => by cases ht; exact Or.inl ⟨by decide, _, rfl, rfl⟩) d_73_20) rfl
theorem ki_73_17 : js_Ok 73 17 (o_cI 10 2 1 20) := ok_cI (site_V kk_73_10 (by decide) kw_617 kw_618 kw_619 (fun t ht => by cases ht; exact Or.inl ⟨by decide, _, rfl, rfl⟩) d_73_17) rfl
theorem ki_73_16 : js_Ok 73 16 (o_il 1 17) := js_St.ok (st_iloadn rfl d_73_16)
theorem d_74_0 : decode (js_b 74) 0 = .ok (.aload_n 0, 1) := by decide +kernel
theorem d_74_1 : decode (js_b 74) 1 = .ok (.getfield 22, 3) := by decide +kernel
theorem d_74_4 : decode (js_b 74) 4 = .ok (.aload_n 0, 1) := by decide +kernel
theorem d_74_5 : decode (js_b 74) 5 = .ok (.getfield 10, 3) := by decide +kernel
theorem d_74_8 : decode (js_b 74) 8 = .ok (.invokevirtual 58, 3) := by decide +kernel
theorem d_74_11 : decode (js_b 74) 11 = .ok (.aload_n 0, 1) := by decide +kernel
theorem d_74_12 : decode (js_b 74) 12 = .ok (.aload_n 0, 1) := by decide +kernel
theorem d_74_13 : decode (js_b 74) 13 = .ok (.getfield 10, 3) := by decide +kernel
theorem d_74_16 : decode (js_b 74) 16 = .ok (.iload_n 1, 1) := by decide +kernel
theorem d_74_17 : decode (js_b 74) 17 = .ok (.iload_n 2, 1) := by decide +kernel
theorem d_74_18 : decode (js_b 74) 18 = .ok (.invokevirtual 142, 3) := by decide +kernel
theorem d_74_21 : decode (js_b 74) 21 = .ok (.invokevirtual 66, 3) := by decide +kernel
theorem d_74_24 : decode (js_b 74) 24 = .ok (.ireturn, 1) := by decide +kernel
theorem ki_74_13 : js_Ok 74 13 (o_gA 7 0 16) := js_St.ok (st_gA js_c7 (by decide) (by decide) kw_230 d_74_13)
theorem ki_74_12 : js_Ok 74 12 (o_al 0 13) := js_St.ok (st_aloadn rfl d_74_12)
theorem ki_74_11 : js_Ok 74 11 (o_al 0 12) := js_St.ok (st_aloadn rfl d_74_11)
theorem ki_74_8 : js_Ok 74 8 (o_cV 43 2 6 11) := ok_cV (site_V kk_74_43 (by decide) kw_279 kw_280 kw_281 (fun t ht => by cases ht; exact Or.inl ⟨by decide, _, rfl, rfl⟩) d_74_8) rfl
theorem ki_74_5 : js_Ok 74 5 (o_gA 7 0 8) := js_St.ok (st_gA js_c7 (by decide) (by decide) kw_230 d_74_5)
theorem ki_74_4 : js_Ok 74 4 (o_al 0 5) := js_St.ok (st_aloadn rfl d_74_4)
theorem ki_74_1 : js_Ok 74 1 (o_gA 7 3 4) := js_St.ok (st_gA js_c7 (by decide) (by decide) kw_232 d_74_1)
theorem ki_74_0 : js_Ok 74 0 (o_al 0 1) := js_St.ok (st_aloadn rfl d_74_0)
theorem ki_74_24 : js_Ok 74 24 (o_rI) := ok_rI rfl d_74_24
theorem ki_74_21 : js_Ok 74 21 (o_cI 114 2 8 24) := ok_cI (site_V kk_74_114 (by decide) kw_312 kw_314 ks_0 (fun t ht => by cases ht; exact Or.inl ⟨by decide, _, rfl, rfl⟩) d_74_21) rfl
theorem ki_74_18 : js_Ok 74 18 (o_cI 11 3 1 21) := ok_cI (site_V kk_74_11 (by decide) kw_454 kw_455 kw_456 (fun t ht => by cases ht; exact Or.inl ⟨by decide, _, rfl, rfl⟩) d_74_18) rfl
theorem ki_74_17 : js_Ok 74 17 (o_il 2 18) := js_St.ok (st_iloadn rfl d_74_17)
theorem ki_74_16 : js_Ok 74 16 (o_il 1 17) := js_St.ok (st_iloadn rfl d_74_16)
theorem d_75_0 : decode (js_b 75) 0 = .ok (.aload_n 0, 1) := by decide +kernel
theorem d_75_1 : decode (js_b 75) 1 = .ok (.getfield 22, 3) := by decide +kernel
theorem d_75_4 : decode (js_b 75) 4 = .ok (.aload_n 0, 1) := by decide +kernel
theorem d_75_5 : decode (js_b 75) 5 = .ok (.getfield 10, 3) := by decide +kernel
theorem d_75_8 : decode (js_b 75) 8 = .ok (.invokevirtual 58, 3) := by decide +kernel
theorem d_75_11 : decode (js_b 75) 11 = .ok (.aload_n 0, 1) := by decide +kernel
theorem d_75_12 : decode (js_b 75) 12 = .ok (.aload_n 0, 1) := by decide +kernel
theorem d_75_13 : decode (js_b 75) 13 = .ok (.getfield 10, 3) := by decide +kernel
theorem d_75_16 : decode (js_b 75) 16 = .ok (.iload_n 1, 1) := by decide +kernel
theorem d_75_17 : decode (js_b 75) 17 = .ok (.iload_n 2, 1) := by decide +kernel
theorem d_75_18 : decode (js_b 75) 18 = .ok (.invokevirtual 146, 3) := by decide +kernel
theorem d_75_21 : decode (js_b 75) 21 = .ok (.invokevirtual 66, 3) := by decide +kernel
theorem d_75_24 : decode (js_b 75) 24 = .ok (.ireturn, 1) := by decide +kernel
theorem ki_75_13 : js_Ok 75 13 (o_gA 7 0 16) := js_St.ok (st_gA js_c7 (by decide) (by decide) kw_230 d_75_13)
theorem ki_75_12 : js_Ok 75 12 (o_al 0 13) := js_St.ok (st_aloadn rfl d_75_12)
theorem ki_75_11 : js_Ok 75 11 (o_al 0 12) := js_St.ok (st_aloadn rfl d_75_11)
theorem ki_75_8 : js_Ok 75 8 (o_cV 43 2 6 11) := ok_cV (site_V kk_75_43 (by decide) kw_279 kw_280 kw_281 (fun t ht => by cases ht; exact Or.inl ⟨by decide, _, rfl, rfl⟩) d_75_8) rfl
theorem ki_75_5 : js_Ok 75 5 (o_gA 7 0 8) := js_St.ok (st_gA js_c7 (by decide) (by decide) kw_230 d_75_5)
theorem ki_75_4 : js_Ok 75 4 (o_al 0 5) := js_St.ok (st_aloadn rfl d_75_4)
theorem ki_75_1 : js_Ok 75 1 (o_gA 7 3 4) := js_St.ok (st_gA js_c7 (by decide) (by decide) kw_232 d_75_1)
theorem ki_75_0 : js_Ok 75 0 (o_al 0 1) := js_St.ok (st_aloadn rfl d_75_0)
theorem ki_75_24 : js_Ok 75 24 (o_rI) := ok_rI rfl d_75_24
theorem ki_75_21 : js_Ok 75 21 (o_cI 114 2 8 24) := ok_cI (site_V kk_75_114 (by decide) kw_312 kw_314 ks_0 (fun t ht => by cases ht; exact Or.inl ⟨by decide, _, rfl, rfl⟩) d_75_21) rfl
theorem ki_75_18 : js_Ok 75 18 (o_cI 12 3 1 21) := ok_cI (site_V kk_75_12 (by decide) kw_1338 kw_1339 kw_1340 (fun t ht => by cases ht; exact Or.inl ⟨by decide, _, rfl, rfl⟩) d_75_18) rfl
theorem ki_75_17 : js_Ok 75 17 (o_il 2 18) := js_St.ok (st_iloadn rfl d_75_17)
theorem ki_75_16 : js_Ok 75 16 (o_il 1 17) := js_St.ok (st_iloadn rfl d_75_16)
theorem d_76_0 : decode (js_b 76) 0 = .ok (.aload_n 0, 1) := by decide +kernel
theorem d_76_1 : decode (js_b 76) 1 = .ok (.aload_n 0, 1) := by decide +kernel
theorem d_76_2 : decode (js_b 76) 2 = .ok (.iload_n 1, 1) := by decide +kernel
theorem d_76_3 : decode (js_b 76) 3 = .ok (.iload_n 2, 1) := by decide +kernel
theorem d_76_4 : decode (js_b 76) 4 = .ok (.invokevirtual 149, 3) := by decide +kernel
theorem d_76_7 : decode (js_b 76) 7 = .ok (.iconst 0, 1) := by decide +kernel
theorem d_76_8 : decode (js_b 76) 8 = .ok (.invokevirtual 152, 3) := by decide +kernel
theorem d_76_11 : decode (js_b 76) 11 = .ok (.astore_n 3, 1) := by decide +kernel
theorem d_76_12 : decode (js_b 76) 12 = .ok (.aload_n 0, 1) := by decide +kernel
theorem d_76_13 : decode (js_b 76) 13 = .ok (.getfield 22, 3) := by decide +kernel
theorem d_76_16 : decode (js_b 76) 16 = .ok (.aload_n 0, 1) := by decide +kernel
theorem d_76_17 : decode (js_b 76) 17 = .ok (.getfield 10, 3) := by decide +kernel
theorem d_76_20 : decode (js_b 76) 20 = .ok (.invokevirtual 58, 3) := by decide +kernel
theorem d_76_23 : decode (js_b 76) 23 = .ok (.aload_n 0, 1) := by decide +kernel
theorem d_76_24 : decode (js_b 76) 24 = .ok (.getfield 29, 3) := by decide +kernel
theorem d_76_27 : decode (js_b 76) 27 = .ok (.aload_n 0, 1) := by decide +kernel
theorem d_76_28 : decode (js_b 76) 28 = .ok (.getfield 10, 3) := by decide +kernel
theorem d_76_31 : decode (js_b 76) 31 = .ok (.aload_n 3, 1) := by decide +kernel
theorem d_76_32 : decode (js_b 76) 32 = .ok (.invokevirtual 156, 3) := by decide +kernel
theorem d_76_35 : decode (js_b 76) 35 = .ok (.aload_n 0, 1) := by decide +kernel
theorem d_76_36 : decode (js_b 76) 36 = .ok (.aload_n 3, 1) := by decide +kernel
theorem d_76_37 : decode (js_b 76) 37 = .ok (.getfield 91, 3) := by decide +kernel
theorem d_76_40 : decode (js_b 76) 40 = .ok (.invokevirtual 66, 3) := by decide +kernel
theorem d_76_43 : decode (js_b 76) 43 = .ok (.ireturn, 1) := by decide +kernel
theorem ki_76_13 : js_Ok 76 13 (o_gA 7 3 16) := js_St.ok (st_gA js_c7 (by decide) (by decide) kw_232 d_76_13)
theorem ki_76_12 : js_Ok 76 12 (o_al 0 13) := js_St.ok (st_aloadn rfl d_76_12)
theorem ki_76_11 : js_Ok 76 11 (o_as 3 12) := js_St.ok (st_astoren rfl (Nat.le_of_ble_eq_true rfl) d_76_11)
theorem ki_76_8 : js_Ok 76 8 (o_cA 121 3 8 11) := ok_cA (site_V kk_76_121 (by decide) kw_539 kw_541 ks_5 (fun t ht => by cases ht; exact Or.inl ⟨by decide, _, rfl, rfl⟩) d_76_8) rfl
theorem ki_76_7 : js_Ok 76 7 (o_ic 0 8) := js_St.ok (st_iconst rfl d_76_7)
theorem ki_76_4 : js_Ok 76 4 (o_cI 119 3 8 7) := ok_cI (site_V kk_76_119 (by decide) kw_495 kw_497 ks_3 (fun t ht => by cases ht; exact Or.inl ⟨by decide, _, rfl, rfl⟩) d_76_4) rfl
theorem ki_76_3 : js_Ok 76 3 (o_il 2 4) := js_St.ok (st_iloadn rfl d_76_3)
theorem ki_76_2 : js_Ok 76 2 (o_il 1 3) := js_St.ok (st_iloadn rfl d_76_2)
theorem ki_76_1 : js_Ok 76 1 (o_al 0 2) := js_St.ok (st_aloadn rfl d_76_1)
theorem ki_76_0 : js_Ok 76 0 (o_al 0 1) := js_St.ok (st_aloadn rfl d_76_0)
theorem ki_76_31 : js_Ok 76 31 (o_al 3 32) := js_St.ok (st_aloadn rfl d_76_31)
theorem ki_76_28 : js_Ok 76 28 (o_gA 7 0 31) := js_St.ok (st_gA js_c7 (by decide) (by decide) kw_230 d_76_28)
theorem ki_76_27 : js_Ok 76 27 (o_al 0 28) := js_St.ok (st_aloadn rfl d_76_27)
theorem ki_76_24 : js_Ok 76 24 (o_gA 7 4 27) := js_St.ok (st_gA js_c7 (by decide) (by decide) kw_233 d_76_24)
theorem ki_76_23 : js_Ok 76 23 (o_al 0 24) := js_St.ok (st_aloadn rfl d_76_23)
theorem ki_76_20 : js_Ok 76 20 (o_cV 43 2 6 23) := ok_cV (site_V kk_76_43 (by decide) kw_279 kw_280 kw_281 (fun t ht => by cases ht; exact Or.inl ⟨by decide, _, rfl, rfl⟩) d_76_20) rfl
theorem ki_76_17 : js_Ok 76 17 (o_gA 7 0 20) := js_St.ok (st_gA js_c7 (by decide) (by decide) kw_230 d_76_17)
theorem ki_76_16 : js_Ok 76 16 (o_al 0 17) := js_St.ok (st_aloadn rfl d_76_16)
theorem ki_76_43 : js_Ok 76 43 (o_rI) := ok_rI rfl d_76_43
theorem ki_76_40 : js_Ok 76 40 (o_cI 114 2 8 43) := ok_cI (site_V kk_76_114 (by decide) kw_312 kw_314 ks_0 (fun t ht => by cases ht; exact Or.inl ⟨by decide, _, rfl, rfl⟩) d_76_40) rfl
theorem ki_76_37 : js_Ok 76 37 (o_gI 2 0 40) := js_St.ok (st_gIn js_c2 (by decide) (by decide) kn_83 d_76_37)
theorem ki_76_36 : js_Ok 76 36 (o_al 3 37) := js_St.ok (st_aloadn rfl d_76_36)
theorem ki_76_35 : js_Ok 76 35 (o_al 0 36) := js_St.ok (st_aloadn rfl d_76_35)
theorem ki_76_32 : js_Ok 76 32 (o_cV 38 3 5 35) := ok_cV (site_V kk_76_38 (by decide) kw_576 kw_577 kw_578 (fun t ht => by cases ht; exact Or.inl ⟨by decide, _, rfl, rfl⟩) d_76_32) rfl
theorem d_77_0 : decode (js_b 77) 0 = .ok (.aload_n 0, 1) := by decide +kernel
theorem d_77_1 : decode (js_b 77) 1 = .ok (.getfield 22, 3) := by decide +kernel
theorem d_77_4 : decode (js_b 77) 4 = .ok (.aload_n 0, 1) := by decide +kernel
theorem d_77_5 : decode (js_b 77) 5 = .ok (.getfield 10, 3) := by decide +kernel
theorem d_77_8 : decode (js_b 77) 8 = .ok (.invokevirtual 58, 3) := by decide +kernel
theorem d_77_11 : decode (js_b 77) 11 = .ok (.aload_n 0, 1) := by decide +kernel
theorem d_77_12 : decode (js_b 77) 12 = .ok (.aload_n 0, 1) := by decide +kernel
theorem d_77_13 : decode (js_b 77) 13 = .ok (.getfield 29, 3) := by decide +kernel
theorem d_77_16 : decode (js_b 77) 16 = .ok (.aload_n 0, 1) := by decide +kernel
theorem d_77_17 : decode (js_b 77) 17 = .ok (.getfield 10, 3) := by decide +kernel
theorem d_77_20 : decode (js_b 77) 20 = .ok (.invokevirtual 160, 3) := by decide +kernel
theorem d_77_23 : decode (js_b 77) 23 = .ok (.invokevirtual 66, 3) := by decide +kernel
theorem d_77_26 : decode (js_b 77) 26 = .ok (.ireturn, 1) := by decide +kernel
theorem ki_77_13 : js_Ok 77 13 (o_gA 7 4 16) := js_St.ok (st_gA js_c7 (by decide) (by decide) kw_233 d_77_13)
theorem ki_77_12 : js_Ok 77 12 (o_al 0 13) := js_St.ok (st_aloadn rfl d_77_12)
theorem ki_77_11 : js_Ok 77 11 (o_al 0 12) := js_St.ok (st_aloadn rfl d_77_11)
theorem ki_77_8 : js_Ok 77 8 (o_cV 43 2 6 11) := ok_cV (site_V kk_77_43 (by decide) kw_279 kw_280 kw_281 (fun t ht => by cases ht; exact Or.inl ⟨by decide, _, rfl, rfl⟩) d_77_8) rfl
theorem ki_77_5 : js_Ok 77 5 (o_gA 7 0 8) := js_St.ok (st_gA js_c7 (by decide) (by decide) kw_230 d_77_5)
theorem ki_77_4 : js_Ok 77 4 (o_al 0 5) := js_St.ok (st_aloadn rfl d_77_4)
theorem ki_77_1 : js_Ok 77 1 (o_gA 7 3 4) := js_St.ok (st_gA js_c7 (by decide) (by decide) kw_232 d_77_1)
theorem ki_77_0 : js_Ok 77 0 (o_al 0 1) := js_St.ok (st_aloadn rfl d_77_0)
theorem ki_77_26 : js_Ok 77 26 (o_rI) := ok_rI rfl d_77_26
theorem ki_77_23 : js_Ok 77 23 (o_cI 114 2 8 26) := ok_cI (site_V kk_77_114 (by decide) kw_312 kw_314 ks_0 (fun t ht => by cases ht; exact Or.inl ⟨by decide, _, rfl, rfl⟩) d_77_23) rfl
theorem ki_77_20 : js_Ok 77 20 (o_cI 41 2 5 23) := ok_cI (site_V kk_77_41 (by decide) kw_1347 kw_1348 kw_1349 (fun t ht => by cases ht; exact Or.inl ⟨by decide, _, rfl, rfl⟩) d_77_20) rfl
theorem ki_77_17 : js_Ok 77 17 (o_gA 7 0 20) := js_St.ok (st_gA js_c7 (by decide) (by decide) kw_230 d_77_17)
theorem ki_77_16 : js_Ok 77 16 (o_al 0 17) := js_St.ok (st_aloadn rfl d_77_16)
theorem d_78_0 : decode (js_b 78) 0 = .ok (.aload_n 0, 1) := by decide +kernel
theorem d_78_1 : decode (js_b 78) 1 = .ok (.getfield 10, 3) := by decide +kernel
theorem d_78_4 : decode (js_b 78) 4 = .ok (.getfield 164, 3) := by decide +kernel
theorem d_78_7 : decode (js_b 78) 7 = .ok (.iload_n 1, 1) := by decide +kernel
theorem d_78_8 : decode (js_b 78) 8 = .ok (.iload_n 2, 1) := by decide +kernel
theorem d_78_9 : decode (js_b 78) 9 = .ok (.invokestatic 167, 3) := by decide +kernel
theorem d_78_12 : decode (js_b 78) 12 = .ok (.aaload, 1) := by decide +kernel
theorem d_78_13 : decode (js_b 78) 13 = .ok (.ifnonnull 7, 3) := by decide +kernel
theorem d_78_16 : decode (js_b 78) 16 = .ok (.iconst 1, 1) := by decide +kernel
theorem d_78_17 : decode (js_b 78) 17 = .ok (.goto 4, 3) := by decide +kernel
theorem d_78_20 : decode (js_b 78) 20 = .ok (.iconst 0, 1) := by decide +kernel
theorem d_78_21 : decode (js_b 78) 21 = .ok (.ireturn, 1) := by decide +kernel
theorem ki_78_13 : js_Ok 78 13 (o_nnl 20 16) := js_St.ok (st_ifnonnull (by decide) d_78_13)
theorem ki_78_12 : js_Ok 78 12 (o_lN 111 13) := js_St.ok (st_lN (by decide) rfl d_78_12)
theorem ki_78_9 : js_Ok 78 9 (o_cI 118 2 0 12) := ok_cI (site_S kk_78_118 kw_499 kw_500 d_78_9) rfl
theorem ki_78_8 : js_Ok 78 8 (o_il 2 9) := js_St.ok (st_iloadn rfl d_78_8)
theorem ki_78_7 : js_Ok 78 7 (o_il 1 8) := js_St.ok (st_iloadn rfl d_78_7)
theorem ki_78_4 : js_Ok 78 4 (o_gA 0 1 7) := js_St.ok (st_gAn js_c0 (by decide) (by decide) kn_116 d_78_4)
theorem ki_78_1 : js_Ok 78 1 (o_gA 7 0 4) := js_St.ok (st_gA js_c7 (by decide) (by decide) kw_230 d_78_1)
theorem ki_78_0 : js_Ok 78 0 (o_al 0 1) := js_St.ok (st_aloadn rfl d_78_0)
theorem ki_78_21 : js_Ok 78 21 (o_rZ) := ok_rZ rfl d_78_21
theorem ki_78_20 : js_Ok 78 20 (o_ic 0 21) := js_St.ok (st_iconst rfl d_78_20)
theorem ki_78_17 : js_Ok 78 17 (o_go 21) := js_St.ok (st_goto (by decide) d_78_17)
theorem ki_78_16 : js_Ok 78 16 (o_ic 1 17) := js_St.ok (st_iconst rfl d_78_16)
theorem d_79_0 : decode (js_b 79) 0 = .ok (.aload_n 0, 1) := by decide +kernel
theorem d_79_1 : decode (js_b 79) 1 = .ok (.getfield 10, 3) := by decide +kernel
theorem d_79_4 : decode (js_b 79) 4 = .ok (.getfield 164, 3) := by decide +kernel
theorem d_79_7 : decode (js_b 79) 7 = .ok (.iload_n 1, 1) := by decide +kernel
theorem d_79_8 : decode (js_b 79) 8 = .ok (.iload_n 2, 1) := by decide +kernel
theorem d_79_9 : decode (js_b 79) 9 = .ok (.invokestatic 167, 3) := by decide +kernel
theorem d_79_12 : decode (js_b 79) 12 = .ok (.aaload, 1) := by decide +kernel
theorem d_79_13 : decode (js_b 79) 13 = .ok (.astore_n 3, 1) := by decide +kernel
theorem d_79_14 : decode (js_b 79) 14 = .ok (.aload_n 3, 1) := by decide +kernel
theorem d_79_15 : decode (js_b 79) 15 = .ok (.ifnonnull 13, 3) := by decide +kernel
theorem d_79_18 : decode (js_b 79) 18 = .ok (.new 170, 3) := by decide +kernel
theorem d_79_21 : decode (js_b 79) 21 = .ok (.dup, 1) := by decide +kernel
theorem d_79_22 : decode (js_b 79) 22 = .ok (.ldc 172, 2) := by decide +kernel
theorem d_79_24 : decode (js_b 79) 24 = .ok (.invokespecial 174, 3) := by decide +kernel
theorem d_79_27 : decode (js_b 79) 27 = .ok (.athrow, 1) := by decide +kernel
theorem d_79_28 : decode (js_b 79) 28 = .ok (.aload_n 3, 1) := by decide +kernel
theorem d_79_29 : decode (js_b 79) 29 = .ok (.getfield 91, 3) := by decide +kernel
theorem d_79_32 : decode (js_b 79) 32 = .ok (.ireturn, 1) := by decide +kernel
theorem ki_79_15 : js_Ok 79 15 (o_nnl 28 18) := js_St.ok (st_ifnonnull (by decide) d_79_15)
theorem ki_79_14 : js_Ok 79 14 (o_al 3 15) := js_St.ok (st_aloadn rfl d_79_14)
theorem ki_79_13 : js_Ok 79 13 (o_as 3 14) := js_St.ok (st_astoren rfl (Nat.le_of_ble_eq_true rfl) d_79_13)
theorem ki_79_12 : js_Ok 79 12 (o_lN 111 13) := js_St.ok (st_lN (by decide) rfl d_79_12)
theorem ki_79_9 : js_Ok 79 9 (o_cI 118 2 0 12) := ok_cI (site_S kk_79_118 kw_499 kw_500 d_79_9) rfl
theorem ki_79_8 : js_Ok 79 8 (o_il 2 9) := js_St.ok (st_iloadn rfl d_79_8)
theorem ki_79_7 : js_Ok 79 7 (o_il 1 8) := js_St.ok (st_iloadn rfl d_79_7)
theorem ki_79_4 : js_Ok 79 4 (o_gA 0 1 7) := js_St.ok (st_gAn js_c0 (by decide) (by decide) kn_116 d_79_4)
theorem ki_79_1 : js_Ok 79 1 (o_gA 7 0 4) := js_St.ok (st_gA js_c7 (by decide) (by decide) kw_230 d_79_1)
theorem ki_79_0 : js_Ok 79 0 (o_al 0 1) := js_St.ok (st_aloadn rfl d_79_0)
theorem ki_79_29 : js_Ok 79 29 (o_gI 2 0 32) := js_St.ok (st_gIn js_c2 (by decide) (by decide) kn_83 d_79_29)
theorem ki_79_28 : js_Ok 79 28 (o_al 3 29) := js_St.ok (st_aloadn rfl d_79_28)
theorem ki_79_18 : js_Ok 79 18 (o_th "java/util/NoSuchElementException") := ok_tn (text := "the cell is empty") kx0 kx1 kx2 kx5 rfl (by decide) kw_319 kw_36 (by decide +kernel) kat_174 kot_174 d_79_18 d_79_21 d_79_22 d_79_24 d_79_27
theorem ki_79_32 : js_Ok 79 32 (o_rI) := ok_rI rfl d_79_32
theorem d_80_0 : decode (js_b 80) 0 = .ok (.lconst 0, 1) := by decide +kernel
theorem d_80_1 : decode (js_b 80) 1 = .ok (.lstore_n 1, 1) := by decide +kernel
theorem d_80_2 : decode (js_b 80) 2 = .ok (.iconst 0, 1) := by decide +kernel
theorem d_80_3 : decode (js_b 80) 3 = .ok (.istore_n 3, 1) := by decide +kernel
theorem d_80_4 : decode (js_b 80) 4 = .ok (.iload_n 3, 1) := by decide +kernel
theorem d_80_5 : decode (js_b 80) 5 = .ok (.bipush 64, 2) := by decide +kernel
theorem d_80_7 : decode (js_b 80) 7 = .ok (.if_icmp .ge 28, 3) := by decide +kernel
theorem d_80_10 : decode (js_b 80) 10 = .ok (.aload_n 0, 1) := by decide +kernel
theorem d_80_11 : decode (js_b 80) 11 = .ok (.getfield 10, 3) := by decide +kernel
theorem d_80_14 : decode (js_b 80) 14 = .ok (.getfield 164, 3) := by decide +kernel
theorem d_80_17 : decode (js_b 80) 17 = .ok (.iload_n 3, 1) := by decide +kernel
theorem d_80_18 : decode (js_b 80) 18 = .ok (.aaload, 1) := by decide +kernel
theorem d_80_19 : decode (js_b 80) 19 = .ok (.ifnull 10, 3) := by decide +kernel
theorem d_80_22 : decode (js_b 80) 22 = .ok (.lload_n 1, 1) := by decide +kernel
theorem d_80_23 : decode (js_b 80) 23 = .ok (.iload_n 3, 1) := by decide +kernel
theorem d_80_24 : decode (js_b 80) 24 = .ok (.invokestatic 175, 3) := by decide +kernel
theorem d_80_27 : decode (js_b 80) 27 = .ok (.lor, 1) := by decide +kernel
theorem d_80_28 : decode (js_b 80) 28 = .ok (.lstore_n 1, 1) := by decide +kernel
theorem d_80_29 : decode (js_b 80) 29 = .ok (.iinc 3 1, 3) := by decide +kernel
theorem d_80_32 : decode (js_b 80) 32 = .ok (.goto (-28), 3) := by decide +kernel
theorem d_80_35 : decode (js_b 80) 35 = .ok (.lload_n 1, 1) := by decide +kernel
theorem d_80_36 : decode (js_b 80) 36 = .ok (.lreturn, 1) := by decide +kernel
theorem ki_80_14 : js_Ok 80 14 (o_gA 0 1 17) := js_St.ok (st_gAn js_c0 (by decide) (by decide) kn_116 d_80_14)
theorem ki_80_11 : js_Ok 80 11 (o_gA 7 0 14) := js_St.ok (st_gA js_c7 (by decide) (by decide) kw_230 d_80_11)
theorem ki_80_10 : js_Ok 80 10 (o_al 0 11) := js_St.ok (st_aloadn rfl d_80_10)
theorem ki_80_7 : js_Ok 80 7 (o_cge 35 10) := js_St.ok (st_icge (by decide) d_80_7)
theorem ki_80_5 : js_Ok 80 5 (o_ic 64 7) := js_St.ok (st_bipush rfl d_80_5)
theorem ki_80_4 : js_Ok 80 4 (o_il 3 5) := js_St.ok (st_iloadn rfl d_80_4)
theorem ki_80_3 : js_Ok 80 3 (o_is 3 4) := js_St.ok (st_istoren rfl (Nat.le_of_ble_eq_true rfl) d_80_3)
theorem ki_80_2 : js_Ok 80 2 (o_ic 0 3) := js_St.ok (st_iconst rfl d_80_2)
theorem ki_80_1 : js_Ok 80 1 (o_ls 1 2) := js_St.ok (st_lstoren rfl (Nat.le_of_ble_eq_true rfl) d_80_1)
theorem ki_80_0 : js_Ok 80 0 (o_lc 0 1) := js_St.ok (st_lconst rfl d_80_0)
theorem ki_80_29 : js_Ok 80 29 (o_inc 3 1 32) := js_St.ok (st_iinc rfl (Nat.le_of_ble_eq_true rfl) d_80_29)
theorem ki_80_28 : js_Ok 80 28 (o_ls 1 29) := js_St.ok (st_lstoren rfl (Nat.le_of_ble_eq_true rfl) d_80_28)
theorem ki_80_27 : js_Ok 80 27 (o_B2 (fun x y => x ||| y) 28) := js_St.ok (st_lor d_80_27)
theorem ki_80_24 : js_Ok 80 24 (o_cL 129 1 0 27) := ok_cL (site_S kk_80_129 kw_808 kw_723 d_80_24) rfl
theorem ki_80_23 : js_Ok 80 23 (o_il 3 24) := js_St.ok (st_iloadn rfl d_80_23)
theorem ki_80_22 : js_Ok 80 22 (o_ll 1 23) := js_St.ok (st_lloadn rfl d_80_22)
theorem ki_80_19 : js_Ok 80 19 (o_nul 29 22) := js_St.ok (st_ifnull (by decide) d_80_19)
theorem ki_80_18 : js_Ok 80 18 (o_lN 111 19) := js_St.ok (st_lN (by decide) rfl d_80_18)
theorem ki_80_17 : js_Ok 80 17 (o_il 3 18) := js_St.ok (st_iloadn rfl d_80_17)
theorem ki_80_36 : js_Ok 80 36 (o_rL) := ok_rL rfl d_80_36
theorem ki_80_35 : js_Ok 80 35 (o_ll 1 36) := js_St.ok (st_lloadn rfl d_80_35)
theorem ki_80_32 : js_Ok 80 32 (o_go 4) := js_St.ok (st_goto (by decide) d_80_32)
theorem d_81_0 : decode (js_b 81) 0 = .ok (.iload_n 1, 1) := by decide +kernel
theorem d_81_1 : decode (js_b 81) 1 = .ok (.invokestatic 179, 3) := by decide +kernel
theorem d_81_4 : decode (js_b 81) 4 = .ok (.ifCond .ne 13, 3) := by decide +kernel
theorem d_81_7 : decode (js_b 81) 7 = .ok (.new 183, 3) := by decide +kernel
theorem d_81_10 : decode (js_b 81) 10 = .ok (.dup, 1) := by decide +kernel
theorem d_81_11 : decode (js_b 81) 11 = .ok (.ldc 185, 2) := by decide +kernel
theorem d_81_13 : decode (js_b 81) 13 = .ok (.invokespecial 187, 3) := by decide +kernel
theorem d_81_16 : decode (js_b 81) 16 = .ok (.athrow, 1) := by decide +kernel
theorem d_81_17 : decode (js_b 81) 17 = .ok (.lconst 0, 1) := by decide +kernel
theorem d_81_18 : decode (js_b 81) 18 = .ok (.lstore_n 2, 1) := by decide +kernel
theorem d_81_19 : decode (js_b 81) 19 = .ok (.iconst 0, 1) := by decide +kernel
theorem d_81_20 : decode (js_b 81) 20 = .ok (.istore 4, 2) := by decide +kernel
theorem d_81_22 : decode (js_b 81) 22 = .ok (.iload 4, 2) := by decide +kernel
theorem d_81_24 : decode (js_b 81) 24 = .ok (.bipush 64, 2) := by decide +kernel
theorem d_81_26 : decode (js_b 81) 26 = .ok (.if_icmp .ge 43, 3) := by decide +kernel
theorem d_81_29 : decode (js_b 81) 29 = .ok (.aload_n 0, 1) := by decide +kernel
theorem d_81_30 : decode (js_b 81) 30 = .ok (.getfield 10, 3) := by decide +kernel
theorem d_81_33 : decode (js_b 81) 33 = .ok (.getfield 164, 3) := by decide +kernel
theorem d_81_36 : decode (js_b 81) 36 = .ok (.iload 4, 2) := by decide +kernel
theorem d_81_38 : decode (js_b 81) 38 = .ok (.aaload, 1) := by decide +kernel
theorem d_81_39 : decode (js_b 81) 39 = .ok (.astore 5, 2) := by decide +kernel
theorem d_81_41 : decode (js_b 81) 41 = .ok (.aload 5, 2) := by decide +kernel
theorem d_81_43 : decode (js_b 81) 43 = .ok (.ifnull 20, 3) := by decide +kernel
theorem d_81_46 : decode (js_b 81) 46 = .ok (.aload 5, 2) := by decide +kernel
theorem d_81_48 : decode (js_b 81) 48 = .ok (.getfield 102, 3) := by decide +kernel
theorem d_81_51 : decode (js_b 81) 51 = .ok (.iload_n 1, 1) := by decide +kernel
theorem d_81_52 : decode (js_b 81) 52 = .ok (.if_icmp .ne 11, 3) := by decide +kernel
theorem d_81_55 : decode (js_b 81) 55 = .ok (.lload_n 2, 1) := by decide +kernel
theorem d_81_56 : decode (js_b 81) 56 = .ok (.iload 4, 2) := by decide +kernel
theorem d_81_58 : decode (js_b 81) 58 = .ok (.invokestatic 175, 3) := by decide +kernel
theorem d_81_61 : decode (js_b 81) 61 = .ok (.lor, 1) := by decide +kernel
theorem d_81_62 : decode (js_b 81) 62 = .ok (.lstore_n 2, 1) := by decide +kernel
theorem d_81_63 : decode (js_b 81) 63 = .ok (.iinc 4 1, 3) := by decide +kernel
theorem d_81_66 : decode (js_b 81) 66 = .ok (.goto (-44), 3) := by decide +kernel
theorem d_81_69 : decode (js_b 81) 69 = .ok (.lload_n 2, 1) := by decide +kernel
theorem d_81_70 : decode (js_b 81) 70 = .ok (.lreturn, 1) := by decide +kernel
theorem ki_81_7 : js_Ok 81 7 (o_th "java/lang/IllegalArgumentException") := ok_th (text := "a colour is from a to f") rfl (by decide) kw_407 kw_38 (by decide +kernel) kat_187 kot_187 d_81_7 d_81_10 d_81_11 d_81_13 d_81_16
theorem ki_81_4 : js_Ok 81 4 (o_ne 17 7) := js_St.ok (st_ifne (by decide) d_81_4)
theorem ki_81_1 : js_Ok 81 1 (o_cI 127 1 0 4) := ok_cI (site_S kk_81_127 kw_806 kw_307 d_81_1) rfl
theorem ki_81_0 : js_Ok 81 0 (o_il 1 1) := js_St.ok (st_iloadn rfl d_81_0)
theorem ki_81_30 : js_Ok 81 30 (o_gA 7 0 33) := js_St.ok (st_gA js_c7 (by decide) (by decide) kw_230 d_81_30)
theorem ki_81_29 : js_Ok 81 29 (o_al 0 30) := js_St.ok (st_aloadn rfl d_81_29)
theorem ki_81_26 : js_Ok 81 26 (o_cge 69 29) := js_St.ok (st_icge (by decide) d_81_26)
theorem ki_81_24 : js_Ok 81 24 (o_ic 64 26) := js_St.ok (st_bipush rfl d_81_24)
theorem ki_81_22 : js_Ok 81 22 (o_il 4 24) := js_St.ok (st_iload d_81_22)
theorem ki_81_20 : js_Ok 81 20 (o_is 4 22) := js_St.ok (st_istore (Nat.le_of_ble_eq_true rfl) d_81_20)
theorem ki_81_19 : js_Ok 81 19 (o_ic 0 20) := js_St.ok (st_iconst rfl d_81_19)
theorem ki_81_18 : js_Ok 81 18 (o_ls 2 19) := js_St.ok (st_lstoren rfl (Nat.le_of_ble_eq_true rfl) d_81_18)
theorem ki_81_17 : js_Ok 81 17 (o_lc 0 18) := js_St.ok (st_lconst rfl d_81_17)
theorem ki_81_46 : js_Ok 81 46 (o_al 5 48) := js_St.ok (st_aload d_81_46)
theorem ki_81_43 : js_Ok 81 43 (o_nul 63 46) := js_St.ok (st_ifnull (by decide) d_81_43)
theorem ki_81_41 : js_Ok 81 41 (o_al 5 43) := js_St.ok (st_aload d_81_41)
theorem ki_81_39 : js_Ok 81 39 (o_as 5 41) := js_St.ok (st_astore (Nat.le_of_ble_eq_true rfl) d_81_39)
theorem ki_81_38 : js_Ok 81 38 (o_lN 111 39) := js_St.ok (st_lN (by decide) rfl d_81_38)
theorem ki_81_36 : js_Ok 81 36 (o_il 4 38) := js_St.ok (st_iload d_81_36)
theorem ki_81_33 : js_Ok 81 33 (o_gA 0 1 36) := js_St.ok (st_gAn js_c0 (by decide) (by decide) kn_116 d_81_33)
theorem ki_81_63 : js_Ok 81 63 (o_inc 4 1 66) := js_St.ok (st_iinc rfl (Nat.le_of_ble_eq_true rfl) d_81_63)
theorem ki_81_62 : js_Ok 81 62 (o_ls 2 63) := js_St.ok (st_lstoren rfl (Nat.le_of_ble_eq_true rfl) d_81_62)
theorem ki_81_61 : js_Ok 81 61 (o_B2 (fun x y => x ||| y) 62) := js_St.ok (st_lor d_81_61)
theorem ki_81_58 : js_Ok 81 58 (o_cL 129 1 0 61) := ok_cL (site_S kk_81_129 kw_808 kw_723 d_81_58) rfl
theorem ki_81_56 : js_Ok 81 56 (o_il 4 58) := js_St.ok (st_iload d_81_56)
theorem ki_81_55 : js_Ok 81 55 (o_ll 2 56) := js_St.ok (st_lloadn rfl d_81_55)
theorem ki_81_52 : js_Ok 81 52 (o_cne 63 55) := js_St.ok (st_icne (by decide) d_81_52)
theorem ki_81_51 : js_Ok 81 51 (o_il 1 52) := js_St.ok (st_iloadn rfl d_81_51)
theorem ki_81_48 : js_Ok 81 48 (o_gI 2 1 51) := js_St.ok (st_gIn js_c2 (by decide) (by decide) kn_87 d_81_48)
theorem ki_81_70 : js_Ok 81 70 (o_rL) := ok_rL rfl d_81_70
theorem ki_81_69 : js_Ok 81 69 (o_ll 2 70) := js_St.ok (st_lloadn rfl d_81_69)
theorem ki_81_66 : js_Ok 81 66 (o_go 22) := js_St.ok (st_goto (by decide) d_81_66)
theorem d_82_0 : decode (js_b 82) 0 = .ok (.lconst 0, 1) := by decide +kernel
theorem d_82_1 : decode (js_b 82) 1 = .ok (.lstore_n 1, 1) := by decide +kernel
theorem d_82_2 : decode (js_b 82) 2 = .ok (.iconst 0, 1) := by decide +kernel
theorem d_82_3 : decode (js_b 82) 3 = .ok (.istore_n 3, 1) := by decide +kernel
theorem d_82_4 : decode (js_b 82) 4 = .ok (.iload_n 3, 1) := by decide +kernel
theorem d_82_5 : decode (js_b 82) 5 = .ok (.bipush 64, 2) := by decide +kernel
theorem d_82_7 : decode (js_b 82) 7 = .ok (.if_icmp .ge 27, 3) := by decide +kernel
theorem d_82_10 : decode (js_b 82) 10 = .ok (.aload_n 0, 1) := by decide +kernel
theorem d_82_11 : decode (js_b 82) 11 = .ok (.getfield 10, 3) := by decide +kernel
theorem d_82_14 : decode (js_b 82) 14 = .ok (.iload_n 3, 1) := by decide +kernel
theorem d_82_15 : decode (js_b 82) 15 = .ok (.invokevirtual 188, 3) := by decide +kernel
theorem d_82_18 : decode (js_b 82) 18 = .ok (.ifCond .eq 10, 3) := by decide +kernel
theorem d_82_21 : decode (js_b 82) 21 = .ok (.lload_n 1, 1) := by decide +kernel
theorem d_82_22 : decode (js_b 82) 22 = .ok (.iload_n 3, 1) := by decide +kernel
theorem d_82_23 : decode (js_b 82) 23 = .ok (.invokestatic 175, 3) := by decide +kernel
theorem d_82_26 : decode (js_b 82) 26 = .ok (.lor, 1) := by decide +kernel
theorem d_82_27 : decode (js_b 82) 27 = .ok (.lstore_n 1, 1) := by decide +kernel
theorem d_82_28 : decode (js_b 82) 28 = .ok (.iinc 3 1, 3) := by decide +kernel
theorem d_82_31 : decode (js_b 82) 31 = .ok (.goto (-27), 3) := by decide +kernel
theorem d_82_34 : decode (js_b 82) 34 = .ok (.lload_n 1, 1) := by decide +kernel
theorem d_82_35 : decode (js_b 82) 35 = .ok (.lreturn, 1) := by decide +kernel
theorem ki_82_15 : js_Ok 82 15 (o_cI 15 2 1 18) := ok_cI (site_V kk_82_15 (by decide) kw_507 kw_508 kw_509 (fun t ht => by cases ht; exact Or.inl ⟨by decide, _, rfl, rfl⟩) d_82_15) rfl
theorem ki_82_14 : js_Ok 82 14 (o_il 3 15) := js_St.ok (st_iloadn rfl d_82_14)
theorem ki_82_11 : js_Ok 82 11 (o_gA 7 0 14) := js_St.ok (st_gA js_c7 (by decide) (by decide) kw_230 d_82_11)
theorem ki_82_10 : js_Ok 82 10 (o_al 0 11) := js_St.ok (st_aloadn rfl d_82_10)
theorem ki_82_7 : js_Ok 82 7 (o_cge 34 10) := js_St.ok (st_icge (by decide) d_82_7)
theorem ki_82_5 : js_Ok 82 5 (o_ic 64 7) := js_St.ok (st_bipush rfl d_82_5)
theorem ki_82_4 : js_Ok 82 4 (o_il 3 5) := js_St.ok (st_iloadn rfl d_82_4)
theorem ki_82_3 : js_Ok 82 3 (o_is 3 4) := js_St.ok (st_istoren rfl (Nat.le_of_ble_eq_true rfl) d_82_3)
theorem ki_82_2 : js_Ok 82 2 (o_ic 0 3) := js_St.ok (st_iconst rfl d_82_2)
theorem ki_82_1 : js_Ok 82 1 (o_ls 1 2) := js_St.ok (st_lstoren rfl (Nat.le_of_ble_eq_true rfl) d_82_1)
theorem ki_82_0 : js_Ok 82 0 (o_lc 0 1) := js_St.ok (st_lconst rfl d_82_0)
theorem ki_82_31 : js_Ok 82 31 (o_go 4) := js_St.ok (st_goto (by decide) d_82_31)
theorem ki_82_28 : js_Ok 82 28 (o_inc 3 1 31) := js_St.ok (st_iinc rfl (Nat.le_of_ble_eq_true rfl) d_82_28)
theorem ki_82_27 : js_Ok 82 27 (o_ls 1 28) := js_St.ok (st_lstoren rfl (Nat.le_of_ble_eq_true rfl) d_82_27)
theorem ki_82_26 : js_Ok 82 26 (o_B2 (fun x y => x ||| y) 27) := js_St.ok (st_lor d_82_26)
theorem ki_82_23 : js_Ok 82 23 (o_cL 129 1 0 26) := ok_cL (site_S kk_82_129 kw_808 kw_723 d_82_23) rfl
theorem ki_82_22 : js_Ok 82 22 (o_il 3 23) := js_St.ok (st_iloadn rfl d_82_22)
theorem ki_82_21 : js_Ok 82 21 (o_ll 1 22) := js_St.ok (st_lloadn rfl d_82_21)
theorem ki_82_18 : js_Ok 82 18 (o_eq 28 21) := js_St.ok (st_ifeq (by decide) d_82_18)
theorem ki_82_35 : js_Ok 82 35 (o_rL) := ok_rL rfl d_82_35
theorem ki_82_34 : js_Ok 82 34 (o_ll 1 35) := js_St.ok (st_lloadn rfl d_82_34)
theorem d_83_0 : decode (js_b 83) 0 = .ok (.aload_n 0, 1) := by decide +kernel
theorem d_83_1 : decode (js_b 83) 1 = .ok (.invokevirtual 192, 3) := by decide +kernel
theorem d_83_4 : decode (js_b 83) 4 = .ok (.lstore_n 1, 1) := by decide +kernel
theorem d_83_5 : decode (js_b 83) 5 = .ok (.lload_n 1, 1) := by decide +kernel
theorem d_83_6 : decode (js_b 83) 6 = .ok (.bipush 8, 2) := by decide +kernel
theorem d_83_8 : decode (js_b 83) 8 = .ok (.lshl, 1) := by decide +kernel
theorem d_83_9 : decode (js_b 83) 9 = .ok (.lload_n 1, 1) := by decide +kernel
theorem d_83_10 : decode (js_b 83) 10 = .ok (.bipush 8, 2) := by decide +kernel
theorem d_83_12 : decode (js_b 83) 12 = .ok (.lushr, 1) := by decide +kernel
theorem d_83_13 : decode (js_b 83) 13 = .ok (.lor, 1) := by decide +kernel
theorem d_83_14 : decode (js_b 83) 14 = .ok (.lstore_n 3, 1) := by decide +kernel
theorem d_83_15 : decode (js_b 83) 15 = .ok (.lload_n 3, 1) := by decide +kernel
theorem d_83_16 : decode (js_b 83) 16 = .ok (.lload_n 1, 1) := by decide +kernel
theorem d_83_17 : decode (js_b 83) 17 = .ok (.ldc2_w 196, 3) := by decide +kernel
theorem d_83_20 : decode (js_b 83) 20 = .ok (.land, 1) := by decide +kernel
theorem d_83_21 : decode (js_b 83) 21 = .ok (.iconst 1, 1) := by decide +kernel
theorem d_83_22 : decode (js_b 83) 22 = .ok (.lshl, 1) := by decide +kernel
theorem d_83_23 : decode (js_b 83) 23 = .ok (.lload_n 1, 1) := by decide +kernel
theorem d_83_24 : decode (js_b 83) 24 = .ok (.ldc2_w 198, 3) := by decide +kernel
theorem d_83_27 : decode (js_b 83) 27 = .ok (.land, 1) := by decide +kernel
theorem d_83_28 : decode (js_b 83) 28 = .ok (.iconst 1, 1) := by decide +kernel
theorem d_83_29 : decode (js_b 83) 29 = .ok (.lushr, 1) := by decide +kernel
theorem d_83_30 : decode (js_b 83) 30 = .ok (.lor, 1) := by decide +kernel
theorem d_83_31 : decode (js_b 83) 31 = .ok (.lor, 1) := by decide +kernel
theorem d_83_32 : decode (js_b 83) 32 = .ok (.lstore_n 3, 1) := by decide +kernel
theorem d_83_33 : decode (js_b 83) 33 = .ok (.lload_n 3, 1) := by decide +kernel
theorem d_83_34 : decode (js_b 83) 34 = .ok (.lload_n 1, 1) := by decide +kernel
theorem d_83_35 : decode (js_b 83) 35 = .ok (.ldc2_w 200, 3) := by decide +kernel
theorem d_83_38 : decode (js_b 83) 38 = .ok (.lxor, 1) := by decide +kernel
theorem d_83_39 : decode (js_b 83) 39 = .ok (.land, 1) := by decide +kernel
theorem d_83_40 : decode (js_b 83) 40 = .ok (.lreturn, 1) := by decide +kernel
theorem ki_83_15 : js_Ok 83 15 (o_ll 3 16) := js_St.ok (st_lloadn rfl d_83_15)
theorem ki_83_14 : js_Ok 83 14 (o_ls 3 15) := js_St.ok (st_lstoren rfl (Nat.le_of_ble_eq_true rfl) d_83_14)
theorem ki_83_13 : js_Ok 83 13 (o_B2 (fun x y => x ||| y) 14) := js_St.ok (st_lor d_83_13)
theorem ki_83_12 : js_Ok 83 12 (o_Sh (fun x y => (x.toUInt64 >>> (y.toInt64.toUInt64 &&& Int64.toUInt64 63)).toInt64) 13) := js_St.ok (st_lushr d_83_12)
theorem ki_83_10 : js_Ok 83 10 (o_ic 8 12) := js_St.ok (st_bipush rfl d_83_10)
theorem ki_83_9 : js_Ok 83 9 (o_ll 1 10) := js_St.ok (st_lloadn rfl d_83_9)
theorem ki_83_8 : js_Ok 83 8 (o_Sh (fun x y => x <<< (y.toInt64 &&& 63)) 9) := js_St.ok (st_lshl d_83_8)
theorem ki_83_6 : js_Ok 83 6 (o_ic 8 8) := js_St.ok (st_bipush rfl d_83_6)
theorem ki_83_5 : js_Ok 83 5 (o_ll 1 6) := js_St.ok (st_lloadn rfl d_83_5)
theorem ki_83_4 : js_Ok 83 4 (o_ls 1 5) := js_St.ok (st_lstoren rfl (Nat.le_of_ble_eq_true rfl) d_83_4)
theorem ki_83_1 : js_Ok 83 1 (o_cL 80 1 8 4) := ok_cL (site_V kk_83_80 (by decide) kw_873 kw_862 kw_863 (fun t ht => by cases ht; exact Or.inl ⟨by decide, _, rfl, rfl⟩) d_83_1) rfl
theorem ki_83_0 : js_Ok 83 0 (o_al 0 1) := js_St.ok (st_aloadn rfl d_83_0)
theorem ki_83_31 : js_Ok 83 31 (o_B2 (fun x y => x ||| y) 32) := js_St.ok (st_lor d_83_31)
theorem ki_83_30 : js_Ok 83 30 (o_B2 (fun x y => x ||| y) 31) := js_St.ok (st_lor d_83_30)
theorem ki_83_29 : js_Ok 83 29 (o_Sh (fun x y => (x.toUInt64 >>> (y.toInt64.toUInt64 &&& Int64.toUInt64 63)).toInt64) 30) := js_St.ok (st_lushr d_83_29)
theorem ki_83_28 : js_Ok 83 28 (o_ic 1 29) := js_St.ok (st_iconst rfl d_83_28)
theorem ki_83_27 : js_Ok 83 27 (o_B2 (fun x y => x &&& y) 28) := js_St.ok (st_land d_83_27)
theorem ki_83_24 : js_Ok 83 24 (o_lc (-72340172838076674) 27) := js_St.ok (st_ldc2 kw_875 d_83_24)
theorem ki_83_23 : js_Ok 83 23 (o_ll 1 24) := js_St.ok (st_lloadn rfl d_83_23)
theorem ki_83_22 : js_Ok 83 22 (o_Sh (fun x y => x <<< (y.toInt64 &&& 63)) 23) := js_St.ok (st_lshl d_83_22)
theorem ki_83_21 : js_Ok 83 21 (o_ic 1 22) := js_St.ok (st_iconst rfl d_83_21)
theorem ki_83_20 : js_Ok 83 20 (o_B2 (fun x y => x &&& y) 21) := js_St.ok (st_land d_83_20)
theorem ki_83_17 : js_Ok 83 17 (o_lc 9187201950435737471 20) := js_St.ok (st_ldc2 kw_874 d_83_17)
theorem ki_83_16 : js_Ok 83 16 (o_ll 1 17) := js_St.ok (st_lloadn rfl d_83_16)
theorem ki_83_40 : js_Ok 83 40 (o_rL) := ok_rL rfl d_83_40
theorem ki_83_39 : js_Ok 83 39 (o_B2 (fun x y => x &&& y) 40) := js_St.ok (st_land d_83_39)
theorem ki_83_38 : js_Ok 83 38 (o_B2 (fun x y => x ^^^ y) 39) := js_St.ok (st_lxor d_83_38)
theorem ki_83_35 : js_Ok 83 35 (o_lc (-1) 38) := js_St.ok (st_ldc2 kw_876 d_83_35)
theorem ki_83_34 : js_Ok 83 34 (o_ll 1 35) := js_St.ok (st_lloadn rfl d_83_34)
theorem ki_83_33 : js_Ok 83 33 (o_ll 3 34) := js_St.ok (st_lloadn rfl d_83_33)
theorem ki_83_32 : js_Ok 83 32 (o_ls 3 33) := js_St.ok (st_lstoren rfl (Nat.le_of_ble_eq_true rfl) d_83_32)
theorem d_84_0 : decode (js_b 84) 0 = .ok (.aload_n 0, 1) := by decide +kernel
theorem d_84_1 : decode (js_b 84) 1 = .ok (.invokevirtual 202, 3) := by decide +kernel
theorem d_84_4 : decode (js_b 84) 4 = .ok (.invokestatic 205, 3) := by decide +kernel
theorem d_84_7 : decode (js_b 84) 7 = .ok (.ireturn, 1) := by decide +kernel
theorem ki_84_7 : js_Ok 84 7 (o_rI) := ok_rI rfl d_84_7
theorem ki_84_4 : js_Ok 84 4 (o_cI 245 1 0 7) := ok_cI (site_S kk_84_245 kw_727 kw_728 d_84_4) rfl
theorem ki_84_1 : js_Ok 84 1 (o_cL 82 1 8 4) := ok_cL (site_V kk_84_82 (by decide) kw_881 kw_866 kw_867 (fun t ht => by cases ht; exact Or.inl ⟨by decide, _, rfl, rfl⟩) d_84_1) rfl
theorem ki_84_0 : js_Ok 84 0 (o_al 0 1) := js_St.ok (st_aloadn rfl d_84_0)
theorem d_85_0 : decode (js_b 85) 0 = .ok (.aload_n 0, 1) := by decide +kernel
theorem d_85_1 : decode (js_b 85) 1 = .ok (.getfield 10, 3) := by decide +kernel
theorem d_85_4 : decode (js_b 85) 4 = .ok (.iconst 1, 1) := by decide +kernel
theorem d_85_5 : decode (js_b 85) 5 = .ok (.invokevirtual 210, 3) := by decide +kernel
theorem d_85_8 : decode (js_b 85) 8 = .ok (.ireturn, 1) := by decide +kernel
theorem ki_85_8 : js_Ok 85 8 (o_rI) := ok_rI rfl d_85_8
theorem ki_85_5 : js_Ok 85 5 (o_cI 18 2 1 8) := ok_cI (site_V kk_85_18 (by decide) kw_816 kw_817 kw_818 (fun t ht => by cases ht; exact Or.inl ⟨by decide, _, rfl, rfl⟩) d_85_5) rfl
theorem ki_85_4 : js_Ok 85 4 (o_ic 1 5) := js_St.ok (st_iconst rfl d_85_4)
theorem ki_85_1 : js_Ok 85 1 (o_gA 7 0 4) := js_St.ok (st_gA js_c7 (by decide) (by decide) kw_230 d_85_1)
theorem ki_85_0 : js_Ok 85 0 (o_al 0 1) := js_St.ok (st_aloadn rfl d_85_0)
theorem d_86_0 : decode (js_b 86) 0 = .ok (.aload_n 0, 1) := by decide +kernel
theorem d_86_1 : decode (js_b 86) 1 = .ok (.getfield 10, 3) := by decide +kernel
theorem d_86_4 : decode (js_b 86) 4 = .ok (.iconst 0, 1) := by decide +kernel
theorem d_86_5 : decode (js_b 86) 5 = .ok (.invokevirtual 210, 3) := by decide +kernel
theorem d_86_8 : decode (js_b 86) 8 = .ok (.ireturn, 1) := by decide +kernel
theorem ki_86_8 : js_Ok 86 8 (o_rI) := ok_rI rfl d_86_8
theorem ki_86_5 : js_Ok 86 5 (o_cI 18 2 1 8) := ok_cI (site_V kk_86_18 (by decide) kw_816 kw_817 kw_818 (fun t ht => by cases ht; exact Or.inl ⟨by decide, _, rfl, rfl⟩) d_86_5) rfl
theorem ki_86_4 : js_Ok 86 4 (o_ic 0 5) := js_St.ok (st_iconst rfl d_86_4)
theorem ki_86_1 : js_Ok 86 1 (o_gA 7 0 4) := js_St.ok (st_gA js_c7 (by decide) (by decide) kw_230 d_86_1)
theorem ki_86_0 : js_Ok 86 0 (o_al 0 1) := js_St.ok (st_aloadn rfl d_86_0)
theorem d_87_0 : decode (js_b 87) 0 = .ok (.aload_n 0, 1) := by decide +kernel
theorem d_87_1 : decode (js_b 87) 1 = .ok (.iload_n 1, 1) := by decide +kernel
theorem d_87_2 : decode (js_b 87) 2 = .ok (.invokevirtual 120, 3) := by decide +kernel
theorem d_87_5 : decode (js_b 87) 5 = .ok (.astore_n 3, 1) := by decide +kernel
theorem d_87_6 : decode (js_b 87) 6 = .ok (.iload_n 2, 1) := by decide +kernel
theorem d_87_7 : decode (js_b 87) 7 = .ok (.invokestatic 109, 3) := by decide +kernel
theorem d_87_10 : decode (js_b 87) 10 = .ok (.aload_n 0, 1) := by decide +kernel
theorem d_87_11 : decode (js_b 87) 11 = .ok (.getfield 10, 3) := by decide +kernel
theorem d_87_14 : decode (js_b 87) 14 = .ok (.aload_n 3, 1) := by decide +kernel
theorem d_87_15 : decode (js_b 87) 15 = .ok (.iload_n 2, 1) := by decide +kernel
theorem d_87_16 : decode (js_b 87) 16 = .ok (.iconst 1, 1) := by decide +kernel
theorem d_87_17 : decode (js_b 87) 17 = .ok (.invokevirtual 214, 3) := by decide +kernel
theorem d_87_20 : decode (js_b 87) 20 = .ok (.ireturn, 1) := by decide +kernel
theorem ki_87_15 : js_Ok 87 15 (o_il 2 16) := js_St.ok (st_iloadn rfl d_87_15)
theorem ki_87_14 : js_Ok 87 14 (o_al 3 15) := js_St.ok (st_aloadn rfl d_87_14)
theorem ki_87_11 : js_Ok 87 11 (o_gA 7 0 14) := js_St.ok (st_gA js_c7 (by decide) (by decide) kw_230 d_87_11)
theorem ki_87_10 : js_Ok 87 10 (o_al 0 11) := js_St.ok (st_aloadn rfl d_87_10)
theorem ki_87_7 : js_Ok 87 7 (o_cV 122 1 0 10) := ok_cV (site_S kk_87_122 kw_662 kw_663 d_87_7) rfl
theorem ki_87_6 : js_Ok 87 6 (o_il 2 7) := js_St.ok (st_iloadn rfl d_87_6)
theorem ki_87_5 : js_Ok 87 5 (o_as 3 6) := js_St.ok (st_astoren rfl (Nat.le_of_ble_eq_true rfl) d_87_5)
theorem ki_87_2 : js_Ok 87 2 (o_cA 117 2 8 5) := ok_cA (site_V kk_87_117 (by decide) kw_686 kw_688 ks_9 (fun t ht => by cases ht; exact Or.inl ⟨by decide, _, rfl, rfl⟩) d_87_2) rfl
theorem ki_87_1 : js_Ok 87 1 (o_il 1 2) := js_St.ok (st_iloadn rfl d_87_1)
theorem ki_87_0 : js_Ok 87 0 (o_al 0 1) := js_St.ok (st_aloadn rfl d_87_0)
theorem ki_87_20 : js_Ok 87 20 (o_rZ) := ok_rZ rfl d_87_20
theorem ki_87_17 : js_Ok 87 17 (o_cI 16 4 1 20) := ok_cI (site_V kk_87_16 (by decide) kw_698 kw_605 kw_606 (fun t ht => by cases ht; exact Or.inl ⟨by decide, _, rfl, rfl⟩) d_87_17) rfl
theorem ki_87_16 : js_Ok 87 16 (o_ic 1 17) := js_St.ok (st_iconst rfl d_87_16)
theorem d_88_0 : decode (js_b 88) 0 = .ok (.aload_n 0, 1) := by decide +kernel
theorem d_88_1 : decode (js_b 88) 1 = .ok (.getfield 10, 3) := by decide +kernel
theorem d_88_4 : decode (js_b 88) 4 = .ok (.aload_n 0, 1) := by decide +kernel
theorem d_88_5 : decode (js_b 88) 5 = .ok (.iload_n 1, 1) := by decide +kernel
theorem d_88_6 : decode (js_b 88) 6 = .ok (.invokevirtual 120, 3) := by decide +kernel
theorem d_88_9 : decode (js_b 88) 9 = .ok (.iconst 0, 1) := by decide +kernel
theorem d_88_10 : decode (js_b 88) 10 = .ok (.invokevirtual 218, 3) := by decide +kernel
theorem d_88_13 : decode (js_b 88) 13 = .ok (.ireturn, 1) := by decide +kernel
theorem ki_88_13 : js_Ok 88 13 (o_rI) := ok_rI rfl d_88_13
theorem ki_88_10 : js_Ok 88 10 (o_cI 17 3 1 13) := ok_cI (site_V kk_88_17 (by decide) kw_706 kw_601 kw_602 (fun t ht => by cases ht; exact Or.inl ⟨by decide, _, rfl, rfl⟩) d_88_10) rfl
theorem ki_88_9 : js_Ok 88 9 (o_ic 0 10) := js_St.ok (st_iconst rfl d_88_9)
theorem ki_88_6 : js_Ok 88 6 (o_cA 117 2 8 9) := ok_cA (site_V kk_88_117 (by decide) kw_686 kw_688 ks_9 (fun t ht => by cases ht; exact Or.inl ⟨by decide, _, rfl, rfl⟩) d_88_6) rfl
theorem ki_88_5 : js_Ok 88 5 (o_il 1 6) := js_St.ok (st_iloadn rfl d_88_5)
theorem ki_88_4 : js_Ok 88 4 (o_al 0 5) := js_St.ok (st_aloadn rfl d_88_4)
theorem ki_88_1 : js_Ok 88 1 (o_gA 7 0 4) := js_St.ok (st_gA js_c7 (by decide) (by decide) kw_230 d_88_1)
theorem ki_88_0 : js_Ok 88 0 (o_al 0 1) := js_St.ok (st_aloadn rfl d_88_0)
theorem d_89_0 : decode (js_b 89) 0 = .ok (.aload_n 0, 1) := by decide +kernel
theorem d_89_1 : decode (js_b 89) 1 = .ok (.getfield 10, 3) := by decide +kernel
theorem d_89_4 : decode (js_b 89) 4 = .ok (.aload_n 0, 1) := by decide +kernel
theorem d_89_5 : decode (js_b 89) 5 = .ok (.iload_n 1, 1) := by decide +kernel
theorem d_89_6 : decode (js_b 89) 6 = .ok (.iload_n 2, 1) := by decide +kernel
theorem d_89_7 : decode (js_b 89) 7 = .ok (.invokevirtual 149, 3) := by decide +kernel
theorem d_89_10 : decode (js_b 89) 10 = .ok (.invokevirtual 222, 3) := by decide +kernel
theorem d_89_13 : decode (js_b 89) 13 = .ok (.ireturn, 1) := by decide +kernel
theorem ki_89_13 : js_Ok 89 13 (o_rI) := ok_rI rfl d_89_13
theorem ki_89_10 : js_Ok 89 10 (o_cI 14 2 1 13) := ok_cI (site_V kk_89_14 (by decide) kw_798 kw_512 kw_513 (fun t ht => by cases ht; exact Or.inl ⟨by decide, _, rfl, rfl⟩) d_89_10) rfl
theorem ki_89_7 : js_Ok 89 7 (o_cI 119 3 8 10) := ok_cI (site_V kk_89_119 (by decide) kw_495 kw_497 ks_3 (fun t ht => by cases ht; exact Or.inl ⟨by decide, _, rfl, rfl⟩) d_89_7) rfl
theorem ki_89_6 : js_Ok 89 6 (o_il 2 7) := js_St.ok (st_iloadn rfl d_89_6)
theorem ki_89_5 : js_Ok 89 5 (o_il 1 6) := js_St.ok (st_iloadn rfl d_89_5)
theorem ki_89_4 : js_Ok 89 4 (o_al 0 5) := js_St.ok (st_aloadn rfl d_89_4)
theorem ki_89_1 : js_Ok 89 1 (o_gA 7 0 4) := js_St.ok (st_gA js_c7 (by decide) (by decide) kw_230 d_89_1)
theorem ki_89_0 : js_Ok 89 0 (o_al 0 1) := js_St.ok (st_aloadn rfl d_89_0)
theorem d_90_0 : decode (js_b 90) 0 = .ok (.aload_n 0, 1) := by decide +kernel
theorem d_90_1 : decode (js_b 90) 1 = .ok (.iload_n 1, 1) := by decide +kernel
theorem d_90_2 : decode (js_b 90) 2 = .ok (.invokevirtual 99, 3) := by decide +kernel
theorem d_90_5 : decode (js_b 90) 5 = .ok (.astore 5, 2) := by decide +kernel
theorem d_90_7 : decode (js_b 90) 7 = .ok (.iload_n 2, 1) := by decide +kernel
theorem d_90_8 : decode (js_b 90) 8 = .ok (.iload_n 3, 1) := by decide +kernel
theorem d_90_9 : decode (js_b 90) 9 = .ok (.invokestatic 167, 3) := by decide +kernel
theorem d_90_12 : decode (js_b 90) 12 = .ok (.istore 6, 2) := by decide +kernel
theorem d_90_14 : decode (js_b 90) 14 = .ok (.iload 4, 2) := by decide +kernel
theorem d_90_16 : decode (js_b 90) 16 = .ok (.iconst 3, 1) := by decide +kernel
theorem d_90_17 : decode (js_b 90) 17 = .ok (.invokestatic 225, 3) := by decide +kernel
theorem d_90_20 : decode (js_b 90) 20 = .ok (.ifCond .ne 13, 3) := by decide +kernel
theorem d_90_23 : decode (js_b 90) 23 = .ok (.new 183, 3) := by decide +kernel
theorem d_90_26 : decode (js_b 90) 26 = .ok (.dup, 1) := by decide +kernel
theorem d_90_27 : decode (js_b 90) 27 = .ok (.ldc 229, 2) := by decide +kernel
theorem d_90_29 : decode (js_b 90) 29 = .ok (.invokespecial 187, 3) := by decide +kernel
theorem d_90_32 : decode (js_b 90) 32 = .ok (.athrow, 1) := by decide +kernel
theorem d_90_33 : decode (js_b 90) 33 = .ok (.aload 5, 2) := by decide +kernel
theorem d_90_35 : decode (js_b 90) 35 = .ok (.invokestatic 231, 3) := by decide +kernel
theorem d_90_38 : decode (js_b 90) 38 = .ok (.aload_n 0, 1) := by decide +kernel
theorem d_90_39 : decode (js_b 90) 39 = .ok (.iload 6, 2) := by decide +kernel
theorem d_90_41 : decode (js_b 90) 41 = .ok (.invokevirtual 235, 3) := by decide +kernel
theorem d_90_44 : decode (js_b 90) 44 = .ok (.aload_n 0, 1) := by decide +kernel
theorem d_90_45 : decode (js_b 90) 45 = .ok (.getfield 29, 3) := by decide +kernel
theorem d_90_48 : decode (js_b 90) 48 = .ok (.aload_n 0, 1) := by decide +kernel
theorem d_90_49 : decode (js_b 90) 49 = .ok (.getfield 10, 3) := by decide +kernel
theorem d_90_52 : decode (js_b 90) 52 = .ok (.iload 6, 2) := by decide +kernel
theorem d_90_54 : decode (js_b 90) 54 = .ok (.invokevirtual 238, 3) := by decide +kernel
theorem d_90_57 : decode (js_b 90) 57 = .ok (.aload_n 0, 1) := by decide +kernel
theorem d_90_58 : decode (js_b 90) 58 = .ok (.getfield 29, 3) := by decide +kernel
theorem d_90_61 : decode (js_b 90) 61 = .ok (.aload 5, 2) := by decide +kernel
theorem d_90_63 : decode (js_b 90) 63 = .ok (.iload 4, 2) := by decide +kernel
theorem d_90_65 : decode (js_b 90) 65 = .ok (.invokevirtual 242, 3) := by decide +kernel
theorem d_90_68 : decode (js_b 90) 68 = .ok (.ireturn, 1) := by decide +kernel
theorem ki_90_14 : js_Ok 90 14 (o_il 4 16) := js_St.ok (st_iload d_90_14)
theorem ki_90_12 : js_Ok 90 12 (o_is 6 14) := js_St.ok (st_istore (Nat.le_of_ble_eq_true rfl) d_90_12)
theorem ki_90_9 : js_Ok 90 9 (o_cI 118 2 0 12) := ok_cI (site_S kk_90_118 kw_499 kw_500 d_90_9) rfl
theorem ki_90_8 : js_Ok 90 8 (o_il 3 9) := js_St.ok (st_iloadn rfl d_90_8)
theorem ki_90_7 : js_Ok 90 7 (o_il 2 8) := js_St.ok (st_iloadn rfl d_90_7)
theorem ki_90_5 : js_Ok 90 5 (o_as 5 7) := js_St.ok (st_astore (Nat.le_of_ble_eq_true rfl) d_90_5)
theorem ki_90_2 : js_Ok 90 2 (o_cA 116 2 8 5) := ok_cA (site_V kk_90_116 (by decide) kw_636 kw_638 ks_8 (fun t ht => by cases ht; exact Or.inl ⟨by decide, _, rfl, rfl⟩) d_90_2) rfl
theorem ki_90_1 : js_Ok 90 1 (o_il 1 2) := js_St.ok (st_iloadn rfl d_90_1)
theorem ki_90_0 : js_Ok 90 0 (o_al 0 1) := js_St.ok (st_aloadn rfl d_90_0)
theorem ki_90_23 : js_Ok 90 23 (o_th "java/lang/IllegalArgumentException") := ok_th (text := "a turn is from 0 to 3") rfl (by decide) kw_407 kw_38 (by decide +kernel) kat_187 kot_187 d_90_23 d_90_26 d_90_27 d_90_29 d_90_32
theorem ki_90_20 : js_Ok 90 20 (o_ne 33 23) := js_St.ok (st_ifne (by decide) d_90_20)
theorem ki_90_17 : js_Ok 90 17 (o_cI 126 2 0 20) := ok_cI (site_S kk_90_126 kw_502 kw_310 d_90_17) rfl
theorem ki_90_16 : js_Ok 90 16 (o_ic 3 17) := js_St.ok (st_iconst rfl d_90_16)
theorem ki_90_45 : js_Ok 90 45 (o_gA 7 4 48) := js_St.ok (st_gA js_c7 (by decide) (by decide) kw_233 d_90_45)
theorem ki_90_44 : js_Ok 90 44 (o_al 0 45) := js_St.ok (st_aloadn rfl d_90_44)
theorem ki_90_41 : js_Ok 90 41 (o_cV 120 2 8 44) := ok_cV (site_V kk_90_120 (by decide) kw_503 kw_505 ks_4 (fun t ht => by cases ht; exact Or.inl ⟨by decide, _, rfl, rfl⟩) d_90_41) rfl
theorem ki_90_39 : js_Ok 90 39 (o_il 6 41) := js_St.ok (st_iload d_90_39)
theorem ki_90_38 : js_Ok 90 38 (o_al 0 39) := js_St.ok (st_aloadn rfl d_90_38)
theorem ki_90_35 : js_Ok 90 35 (o_cV 123 1 0 38) := ok_cV (site_S kk_90_123 kw_918 kw_919 d_90_35) rfl
theorem ki_90_33 : js_Ok 90 33 (o_al 5 35) := js_St.ok (st_aload d_90_33)
theorem ki_90_63 : js_Ok 90 63 (o_il 4 65) := js_St.ok (st_iload d_90_63)
theorem ki_90_61 : js_Ok 90 61 (o_al 5 63) := js_St.ok (st_aload d_90_61)
theorem ki_90_58 : js_Ok 90 58 (o_gA 7 4 61) := js_St.ok (st_gA js_c7 (by decide) (by decide) kw_233 d_90_58)
theorem ki_90_57 : js_Ok 90 57 (o_al 0 58) := js_St.ok (st_aloadn rfl d_90_57)
theorem ki_90_54 : js_Ok 90 54 (o_cV 32 3 5 57) := ok_cV (site_V kk_90_32 (by decide) kw_543 kw_544 kw_545 (fun t ht => by cases ht; exact Or.inl ⟨by decide, _, rfl, rfl⟩) d_90_54) rfl
theorem ki_90_52 : js_Ok 90 52 (o_il 6 54) := js_St.ok (st_iload d_90_52)
theorem ki_90_49 : js_Ok 90 49 (o_gA 7 0 52) := js_St.ok (st_gA js_c7 (by decide) (by decide) kw_230 d_90_49)
theorem ki_90_48 : js_Ok 90 48 (o_al 0 49) := js_St.ok (st_aloadn rfl d_90_48)
theorem ki_90_68 : js_Ok 90 68 (o_rI) := ok_rI rfl d_90_68
theorem ki_90_65 : js_Ok 90 65 (o_cI 33 3 5 68) := ok_cI (site_V kk_90_33 (by decide) kw_922 kw_564 kw_565 (fun t ht => by cases ht; exact Or.inl ⟨by decide, _, rfl, rfl⟩) d_90_65) rfl
theorem d_91_0 : decode (js_b 91) 0 = .ok (.aload_n 0, 1) := by decide +kernel
theorem d_91_1 : decode (js_b 91) 1 = .ok (.iload_n 1, 1) := by decide +kernel
theorem d_91_2 : decode (js_b 91) 2 = .ok (.invokevirtual 99, 3) := by decide +kernel
theorem d_91_5 : decode (js_b 91) 5 = .ok (.astore 4, 2) := by decide +kernel
theorem d_91_7 : decode (js_b 91) 7 = .ok (.iload_n 2, 1) := by decide +kernel
theorem d_91_8 : decode (js_b 91) 8 = .ok (.iload_n 3, 1) := by decide +kernel
theorem d_91_9 : decode (js_b 91) 9 = .ok (.invokestatic 167, 3) := by decide +kernel
theorem d_91_12 : decode (js_b 91) 12 = .ok (.istore 5, 2) := by decide +kernel
theorem d_91_14 : decode (js_b 91) 14 = .ok (.aload 4, 2) := by decide +kernel
theorem d_91_16 : decode (js_b 91) 16 = .ok (.invokestatic 231, 3) := by decide +kernel
theorem d_91_19 : decode (js_b 91) 19 = .ok (.aload_n 0, 1) := by decide +kernel
theorem d_91_20 : decode (js_b 91) 20 = .ok (.iload 5, 2) := by decide +kernel
theorem d_91_22 : decode (js_b 91) 22 = .ok (.invokevirtual 235, 3) := by decide +kernel
theorem d_91_25 : decode (js_b 91) 25 = .ok (.aload_n 0, 1) := by decide +kernel
theorem d_91_26 : decode (js_b 91) 26 = .ok (.getfield 29, 3) := by decide +kernel
theorem d_91_29 : decode (js_b 91) 29 = .ok (.aload_n 0, 1) := by decide +kernel
theorem d_91_30 : decode (js_b 91) 30 = .ok (.getfield 10, 3) := by decide +kernel
theorem d_91_33 : decode (js_b 91) 33 = .ok (.iload 5, 2) := by decide +kernel
theorem d_91_35 : decode (js_b 91) 35 = .ok (.invokevirtual 238, 3) := by decide +kernel
theorem d_91_38 : decode (js_b 91) 38 = .ok (.aload_n 0, 1) := by decide +kernel
theorem d_91_39 : decode (js_b 91) 39 = .ok (.getfield 29, 3) := by decide +kernel
theorem d_91_42 : decode (js_b 91) 42 = .ok (.aload 4, 2) := by decide +kernel
theorem d_91_44 : decode (js_b 91) 44 = .ok (.invokevirtual 246, 3) := by decide +kernel
theorem d_91_47 : decode (js_b 91) 47 = .ok (.ireturn, 1) := by decide +kernel
theorem ki_91_14 : js_Ok 91 14 (o_al 4 16) := js_St.ok (st_aload d_91_14)
theorem ki_91_12 : js_Ok 91 12 (o_is 5 14) := js_St.ok (st_istore (Nat.le_of_ble_eq_true rfl) d_91_12)
theorem ki_91_9 : js_Ok 91 9 (o_cI 118 2 0 12) := ok_cI (site_S kk_91_118 kw_499 kw_500 d_91_9) rfl
theorem ki_91_8 : js_Ok 91 8 (o_il 3 9) := js_St.ok (st_iloadn rfl d_91_8)
theorem ki_91_7 : js_Ok 91 7 (o_il 2 8) := js_St.ok (st_iloadn rfl d_91_7)
theorem ki_91_5 : js_Ok 91 5 (o_as 4 7) := js_St.ok (st_astore (Nat.le_of_ble_eq_true rfl) d_91_5)
theorem ki_91_2 : js_Ok 91 2 (o_cA 116 2 8 5) := ok_cA (site_V kk_91_116 (by decide) kw_636 kw_638 ks_8 (fun t ht => by cases ht; exact Or.inl ⟨by decide, _, rfl, rfl⟩) d_91_2) rfl
theorem ki_91_1 : js_Ok 91 1 (o_il 1 2) := js_St.ok (st_iloadn rfl d_91_1)
theorem ki_91_0 : js_Ok 91 0 (o_al 0 1) := js_St.ok (st_aloadn rfl d_91_0)
theorem ki_91_30 : js_Ok 91 30 (o_gA 7 0 33) := js_St.ok (st_gA js_c7 (by decide) (by decide) kw_230 d_91_30)
theorem ki_91_29 : js_Ok 91 29 (o_al 0 30) := js_St.ok (st_aloadn rfl d_91_29)
theorem ki_91_26 : js_Ok 91 26 (o_gA 7 4 29) := js_St.ok (st_gA js_c7 (by decide) (by decide) kw_233 d_91_26)
theorem ki_91_25 : js_Ok 91 25 (o_al 0 26) := js_St.ok (st_aloadn rfl d_91_25)
theorem ki_91_22 : js_Ok 91 22 (o_cV 120 2 8 25) := ok_cV (site_V kk_91_120 (by decide) kw_503 kw_505 ks_4 (fun t ht => by cases ht; exact Or.inl ⟨by decide, _, rfl, rfl⟩) d_91_22) rfl
theorem ki_91_20 : js_Ok 91 20 (o_il 5 22) := js_St.ok (st_iload d_91_20)
theorem ki_91_19 : js_Ok 91 19 (o_al 0 20) := js_St.ok (st_aloadn rfl d_91_19)
theorem ki_91_16 : js_Ok 91 16 (o_cV 123 1 0 19) := ok_cV (site_S kk_91_123 kw_918 kw_919 d_91_16) rfl
theorem ki_91_47 : js_Ok 91 47 (o_rI) := ok_rI rfl d_91_47
theorem ki_91_44 : js_Ok 91 44 (o_cI 34 2 5 47) := ok_cI (site_V kk_91_34 (by decide) kw_942 kw_581 kw_582 (fun t ht => by cases ht; exact Or.inl ⟨by decide, _, rfl, rfl⟩) d_91_44) rfl
theorem ki_91_42 : js_Ok 91 42 (o_al 4 44) := js_St.ok (st_aload d_91_42)
theorem ki_91_39 : js_Ok 91 39 (o_gA 7 4 42) := js_St.ok (st_gA js_c7 (by decide) (by decide) kw_233 d_91_39)
theorem ki_91_38 : js_Ok 91 38 (o_al 0 39) := js_St.ok (st_aloadn rfl d_91_38)
theorem ki_91_35 : js_Ok 91 35 (o_cV 32 3 5 38) := ok_cV (site_V kk_91_32 (by decide) kw_543 kw_544 kw_545 (fun t ht => by cases ht; exact Or.inl ⟨by decide, _, rfl, rfl⟩) d_91_35) rfl
theorem ki_91_33 : js_Ok 91 33 (o_il 5 35) := js_St.ok (st_iload d_91_33)
theorem d_92_0 : decode (js_b 92) 0 = .ok (.aload_n 0, 1) := by decide +kernel
theorem d_92_1 : decode (js_b 92) 1 = .ok (.aload_n 0, 1) := by decide +kernel
theorem d_92_2 : decode (js_b 92) 2 = .ok (.iload_n 1, 1) := by decide +kernel
theorem d_92_3 : decode (js_b 92) 3 = .ok (.iload_n 2, 1) := by decide +kernel
theorem d_92_4 : decode (js_b 92) 4 = .ok (.invokevirtual 149, 3) := by decide +kernel
theorem d_92_7 : decode (js_b 92) 7 = .ok (.iconst 0, 1) := by decide +kernel
theorem d_92_8 : decode (js_b 92) 8 = .ok (.invokevirtual 152, 3) := by decide +kernel
theorem d_92_11 : decode (js_b 92) 11 = .ok (.getfield 91, 3) := by decide +kernel
theorem d_92_14 : decode (js_b 92) 14 = .ok (.ireturn, 1) := by decide +kernel
theorem ki_92_14 : js_Ok 92 14 (o_rI) := ok_rI rfl d_92_14
theorem ki_92_11 : js_Ok 92 11 (o_gI 2 0 14) := js_St.ok (st_gIn js_c2 (by decide) (by decide) kn_83 d_92_11)
theorem ki_92_8 : js_Ok 92 8 (o_cA 121 3 8 11) := ok_cA (site_V kk_92_121 (by decide) kw_539 kw_541 ks_5 (fun t ht => by cases ht; exact Or.inl ⟨by decide, _, rfl, rfl⟩) d_92_8) rfl
theorem ki_92_7 : js_Ok 92 7 (o_ic 0 8) := js_St.ok (st_iconst rfl d_92_7)
theorem ki_92_4 : js_Ok 92 4 (o_cI 119 3 8 7) := ok_cI (site_V kk_92_119 (by decide) kw_495 kw_497 ks_3 (fun t ht => by cases ht; exact Or.inl ⟨by decide, _, rfl, rfl⟩) d_92_4) rfl
theorem ki_92_3 : js_Ok 92 3 (o_il 2 4) := js_St.ok (st_iloadn rfl d_92_3)
theorem ki_92_2 : js_Ok 92 2 (o_il 1 3) := js_St.ok (st_iloadn rfl d_92_2)
theorem ki_92_1 : js_Ok 92 1 (o_al 0 2) := js_St.ok (st_aloadn rfl d_92_1)
theorem ki_92_0 : js_Ok 92 0 (o_al 0 1) := js_St.ok (st_aloadn rfl d_92_0)
theorem d_93_0 : decode (js_b 93) 0 = .ok (.aload_n 0, 1) := by decide +kernel
theorem d_93_1 : decode (js_b 93) 1 = .ok (.aload_n 0, 1) := by decide +kernel
theorem d_93_2 : decode (js_b 93) 2 = .ok (.iload_n 1, 1) := by decide +kernel
theorem d_93_3 : decode (js_b 93) 3 = .ok (.iload_n 2, 1) := by decide +kernel
theorem d_93_4 : decode (js_b 93) 4 = .ok (.invokevirtual 149, 3) := by decide +kernel
theorem d_93_7 : decode (js_b 93) 7 = .ok (.iload_n 3, 1) := by decide +kernel
theorem d_93_8 : decode (js_b 93) 8 = .ok (.invokevirtual 152, 3) := by decide +kernel
theorem d_93_11 : decode (js_b 93) 11 = .ok (.getfield 91, 3) := by decide +kernel
theorem d_93_14 : decode (js_b 93) 14 = .ok (.ireturn, 1) := by decide +kernel
theorem ki_93_14 : js_Ok 93 14 (o_rI) := ok_rI rfl d_93_14
theorem ki_93_11 : js_Ok 93 11 (o_gI 2 0 14) := js_St.ok (st_gIn js_c2 (by decide) (by decide) kn_83 d_93_11)
theorem ki_93_8 : js_Ok 93 8 (o_cA 121 3 8 11) := ok_cA (site_V kk_93_121 (by decide) kw_539 kw_541 ks_5 (fun t ht => by cases ht; exact Or.inl ⟨by decide, _, rfl, rfl⟩) d_93_8) rfl
theorem ki_93_7 : js_Ok 93 7 (o_il 3 8) := js_St.ok (st_iloadn rfl d_93_7)
theorem ki_93_4 : js_Ok 93 4 (o_cI 119 3 8 7) := ok_cI (site_V kk_93_119 (by decide) kw_495 kw_497 ks_3 (fun t ht => by cases ht; exact Or.inl ⟨by decide, _, rfl, rfl⟩) d_93_4) rfl
theorem ki_93_3 : js_Ok 93 3 (o_il 2 4) := js_St.ok (st_iloadn rfl d_93_3)
theorem ki_93_2 : js_Ok 93 2 (o_il 1 3) := js_St.ok (st_iloadn rfl d_93_2)
theorem ki_93_1 : js_Ok 93 1 (o_al 0 2) := js_St.ok (st_aloadn rfl d_93_1)
theorem ki_93_0 : js_Ok 93 0 (o_al 0 1) := js_St.ok (st_aloadn rfl d_93_0)
theorem d_94_0 : decode (js_b 94) 0 = .ok (.aload_n 0, 1) := by decide +kernel
theorem d_94_1 : decode (js_b 94) 1 = .ok (.getfield 36, 3) := by decide +kernel
theorem d_94_4 : decode (js_b 94) 4 = .ok (.aload_n 0, 1) := by decide +kernel
theorem d_94_5 : decode (js_b 94) 5 = .ok (.getfield 10, 3) := by decide +kernel
theorem d_94_8 : decode (js_b 94) 8 = .ok (.invokevirtual 250, 3) := by decide +kernel
theorem d_94_11 : decode (js_b 94) 11 = .ok (.ireturn, 1) := by decide +kernel
theorem ki_94_11 : js_Ok 94 11 (o_rI) := ok_rI rfl d_94_11
theorem ki_94_8 : js_Ok 94 8 (o_cI 26 2 4 11) := ok_cI (site_V kk_94_26 (by decide) kw_958 kw_959 kw_960 (fun t ht => by cases ht; exact Or.inl ⟨by decide, _, rfl, rfl⟩) d_94_8) rfl
theorem ki_94_5 : js_Ok 94 5 (o_gA 7 0 8) := js_St.ok (st_gA js_c7 (by decide) (by decide) kw_230 d_94_5)
theorem ki_94_4 : js_Ok 94 4 (o_al 0 5) := js_St.ok (st_aloadn rfl d_94_4)
theorem ki_94_1 : js_Ok 94 1 (o_gA 7 5 4) := js_St.ok (st_gA js_c7 (by decide) (by decide) kw_234 d_94_1)
theorem ki_94_0 : js_Ok 94 0 (o_al 0 1) := js_St.ok (st_aloadn rfl d_94_0)
theorem d_95_0 : decode (js_b 95) 0 = .ok (.aload_n 0, 1) := by decide +kernel
theorem d_95_1 : decode (js_b 95) 1 = .ok (.getfield 36, 3) := by decide +kernel
theorem d_95_4 : decode (js_b 95) 4 = .ok (.aload_n 0, 1) := by decide +kernel
theorem d_95_5 : decode (js_b 95) 5 = .ok (.getfield 10, 3) := by decide +kernel
theorem d_95_8 : decode (js_b 95) 8 = .ok (.invokevirtual 253, 3) := by decide +kernel
theorem d_95_11 : decode (js_b 95) 11 = .ok (.ireturn, 1) := by decide +kernel
theorem ki_95_11 : js_Ok 95 11 (o_rI) := ok_rI rfl d_95_11
theorem ki_95_8 : js_Ok 95 8 (o_cI 28 2 4 11) := ok_cI (site_V kk_95_28 (by decide) kw_968 kw_969 kw_970 (fun t ht => by cases ht; exact Or.inl ⟨by decide, _, rfl, rfl⟩) d_95_8) rfl
theorem ki_95_5 : js_Ok 95 5 (o_gA 7 0 8) := js_St.ok (st_gA js_c7 (by decide) (by decide) kw_230 d_95_5)
theorem ki_95_4 : js_Ok 95 4 (o_al 0 5) := js_St.ok (st_aloadn rfl d_95_4)
theorem ki_95_1 : js_Ok 95 1 (o_gA 7 5 4) := js_St.ok (st_gA js_c7 (by decide) (by decide) kw_234 d_95_1)
theorem ki_95_0 : js_Ok 95 0 (o_al 0 1) := js_St.ok (st_aloadn rfl d_95_0)
theorem d_96_0 : decode (js_b 96) 0 = .ok (.aload_n 0, 1) := by decide +kernel
theorem d_96_1 : decode (js_b 96) 1 = .ok (.iload_n 1, 1) := by decide +kernel
theorem d_96_2 : decode (js_b 96) 2 = .ok (.invokevirtual 256, 3) := by decide +kernel
theorem d_96_5 : decode (js_b 96) 5 = .ok (.invokestatic 205, 3) := by decide +kernel
theorem d_96_8 : decode (js_b 96) 8 = .ok (.ireturn, 1) := by decide +kernel
theorem ki_96_8 : js_Ok 96 8 (o_rI) := ok_rI rfl d_96_8
theorem ki_96_5 : js_Ok 96 5 (o_cI 245 1 0 8) := ok_cI (site_S kk_96_245 kw_727 kw_728 d_96_5) rfl
theorem ki_96_2 : js_Ok 96 2 (o_cL 97 2 8 5) := ok_cL (site_V kk_96_97 (by decide) kw_714 kw_715 kw_716 (fun t ht => by cases ht; exact Or.inl ⟨by decide, _, rfl, rfl⟩) d_96_2) rfl
theorem ki_96_1 : js_Ok 96 1 (o_il 1 2) := js_St.ok (st_iloadn rfl d_96_1)
theorem ki_96_0 : js_Ok 96 0 (o_al 0 1) := js_St.ok (st_aloadn rfl d_96_0)
theorem d_97_0 : decode (js_b 97) 0 = .ok (.aload_n 0, 1) := by decide +kernel
theorem d_97_1 : decode (js_b 97) 1 = .ok (.getfield 36, 3) := by decide +kernel
theorem d_97_4 : decode (js_b 97) 4 = .ok (.aload_n 0, 1) := by decide +kernel
theorem d_97_5 : decode (js_b 97) 5 = .ok (.getfield 10, 3) := by decide +kernel
theorem d_97_8 : decode (js_b 97) 8 = .ok (.aload_n 0, 1) := by decide +kernel
theorem d_97_9 : decode (js_b 97) 9 = .ok (.iload_n 1, 1) := by decide +kernel
theorem d_97_10 : decode (js_b 97) 10 = .ok (.invokevirtual 120, 3) := by decide +kernel
theorem d_97_13 : decode (js_b 97) 13 = .ok (.invokevirtual 259, 3) := by decide +kernel
theorem d_97_16 : decode (js_b 97) 16 = .ok (.lreturn, 1) := by decide +kernel
theorem ki_97_13 : js_Ok 97 13 (o_cL 25 3 4 16) := ok_cL (site_V kk_97_25 (by decide) kw_718 kw_719 kw_720 (fun t ht => by cases ht; exact Or.inl ⟨by decide, _, rfl, rfl⟩) d_97_13) rfl
theorem ki_97_10 : js_Ok 97 10 (o_cA 117 2 8 13) := ok_cA (site_V kk_97_117 (by decide) kw_686 kw_688 ks_9 (fun t ht => by cases ht; exact Or.inl ⟨by decide, _, rfl, rfl⟩) d_97_10) rfl
theorem ki_97_9 : js_Ok 97 9 (o_il 1 10) := js_St.ok (st_iloadn rfl d_97_9)
theorem ki_97_8 : js_Ok 97 8 (o_al 0 9) := js_St.ok (st_aloadn rfl d_97_8)
theorem ki_97_5 : js_Ok 97 5 (o_gA 7 0 8) := js_St.ok (st_gA js_c7 (by decide) (by decide) kw_230 d_97_5)
theorem ki_97_4 : js_Ok 97 4 (o_al 0 5) := js_St.ok (st_aloadn rfl d_97_4)
theorem ki_97_1 : js_Ok 97 1 (o_gA 7 5 4) := js_St.ok (st_gA js_c7 (by decide) (by decide) kw_234 d_97_1)
theorem ki_97_0 : js_Ok 97 0 (o_al 0 1) := js_St.ok (st_aloadn rfl d_97_0)
theorem ki_97_16 : js_Ok 97 16 (o_rL) := ok_rL rfl d_97_16
theorem d_98_0 : decode (js_b 98) 0 = .ok (.aload_n 0, 1) := by decide +kernel
theorem d_98_1 : decode (js_b 98) 1 = .ok (.getfield 36, 3) := by decide +kernel
theorem d_98_4 : decode (js_b 98) 4 = .ok (.aload_n 0, 1) := by decide +kernel
theorem d_98_5 : decode (js_b 98) 5 = .ok (.getfield 10, 3) := by decide +kernel
theorem d_98_8 : decode (js_b 98) 8 = .ok (.invokevirtual 263, 3) := by decide +kernel
theorem d_98_11 : decode (js_b 98) 11 = .ok (.istore_n 1, 1) := by decide +kernel
theorem d_98_12 : decode (js_b 98) 12 = .ok (.iload_n 1, 1) := by decide +kernel
theorem d_98_13 : decode (js_b 98) 13 = .ok (.ifCond .ne 14, 3) := by decide +kernel
theorem d_98_16 : decode (js_b 98) 16 = .ok (.new 170, 3) := by decide +kernel
theorem d_98_19 : decode (js_b 98) 19 = .ok (.dup, 1) := by decide +kernel
theorem d_98_20 : decode (js_b 98) 20 = .ok (.ldc_w 266, 3) := by decide +kernel
theorem d_98_23 : decode (js_b 98) 23 = .ok (.invokespecial 174, 3) := by decide +kernel
theorem d_98_26 : decode (js_b 98) 26 = .ok (.athrow, 1) := by decide +kernel
theorem d_98_27 : decode (js_b 98) 27 = .ok (.iload_n 1, 1) := by decide +kernel
theorem d_98_28 : decode (js_b 98) 28 = .ok (.ireturn, 1) := by decide +kernel
theorem ki_98_13 : js_Ok 98 13 (o_ne 27 16) := js_St.ok (st_ifne (by decide) d_98_13)
theorem ki_98_12 : js_Ok 98 12 (o_il 1 13) := js_St.ok (st_iloadn rfl d_98_12)
theorem ki_98_11 : js_Ok 98 11 (o_is 1 12) := js_St.ok (st_istoren rfl (Nat.le_of_ble_eq_true rfl) d_98_11)
theorem ki_98_8 : js_Ok 98 8 (o_cI 27 2 4 11) := ok_cI (site_V kk_98_27 (by decide) kw_988 kw_989 kw_990 (fun t ht => by cases ht; exact Or.inl ⟨by decide, _, rfl, rfl⟩) d_98_8) rfl
theorem ki_98_5 : js_Ok 98 5 (o_gA 7 0 8) := js_St.ok (st_gA js_c7 (by decide) (by decide) kw_230 d_98_5)
theorem ki_98_4 : js_Ok 98 4 (o_al 0 5) := js_St.ok (st_aloadn rfl d_98_4)
theorem ki_98_1 : js_Ok 98 1 (o_gA 7 5 4) := js_St.ok (st_gA js_c7 (by decide) (by decide) kw_234 d_98_1)
theorem ki_98_0 : js_Ok 98 0 (o_al 0 1) := js_St.ok (st_aloadn rfl d_98_0)
theorem ki_98_28 : js_Ok 98 28 (o_rI) := ok_rI rfl d_98_28
theorem ki_98_27 : js_Ok 98 27 (o_il 1 28) := js_St.ok (st_iloadn rfl d_98_27)
theorem ki_98_16 : js_Ok 98 16 (o_th "java/util/NoSuchElementException") := ok_tnw (text := "no fragment is placed") kx0 kx1 kx2 kx5 rfl (by decide) kw_319 kw_36 (by decide +kernel) kat_174 kot_174 d_98_16 d_98_19 d_98_20 d_98_23 d_98_26
theorem d_99_0 : decode (js_b 99) 0 = .ok (.aload_n 0, 1) := by decide +kernel
theorem d_99_1 : decode (js_b 99) 1 = .ok (.getfield 10, 3) := by decide +kernel
theorem d_99_4 : decode (js_b 99) 4 = .ok (.iconst 1, 1) := by decide +kernel
theorem d_99_5 : decode (js_b 99) 5 = .ok (.invokevirtual 210, 3) := by decide +kernel
theorem d_99_8 : decode (js_b 99) 8 = .ok (.istore_n 1, 1) := by decide +kernel
theorem d_99_9 : decode (js_b 99) 9 = .ok (.iload_n 1, 1) := by decide +kernel
theorem d_99_10 : decode (js_b 99) 10 = .ok (.aload_n 0, 1) := by decide +kernel
theorem d_99_11 : decode (js_b 99) 11 = .ok (.getfield 10, 3) := by decide +kernel
theorem d_99_14 : decode (js_b 99) 14 = .ok (.iconst 0, 1) := by decide +kernel
theorem d_99_15 : decode (js_b 99) 15 = .ok (.invokevirtual 210, 3) := by decide +kernel
theorem d_99_18 : decode (js_b 99) 18 = .ok (.iadd, 1) := by decide +kernel
theorem d_99_19 : decode (js_b 99) 19 = .ok (.istore_n 2, 1) := by decide +kernel
theorem d_99_20 : decode (js_b 99) 20 = .ok (.iload_n 2, 1) := by decide +kernel
theorem d_99_21 : decode (js_b 99) 21 = .ok (.ifCond .ne 14, 3) := by decide +kernel
theorem d_99_24 : decode (js_b 99) 24 = .ok (.new 268, 3) := by decide +kernel
theorem d_99_27 : decode (js_b 99) 27 = .ok (.dup, 1) := by decide +kernel
theorem d_99_28 : decode (js_b 99) 28 = .ok (.ldc_w 270, 3) := by decide +kernel
theorem d_99_31 : decode (js_b 99) 31 = .ok (.invokespecial 272, 3) := by decide +kernel
theorem d_99_34 : decode (js_b 99) 34 = .ok (.athrow, 1) := by decide +kernel
theorem d_99_35 : decode (js_b 99) 35 = .ok (.iload_n 1, 1) := by decide +kernel
theorem d_99_36 : decode (js_b 99) 36 = .ok (.i2f, 1) := by decide +kernel
theorem d_99_37 : decode (js_b 99) 37 = .ok (.iload_n 2, 1) := by decide +kernel
theorem d_99_38 : decode (js_b 99) 38 = .ok (.i2f, 1) := by decide +kernel
theorem d_99_39 : decode (js_b 99) 39 = .ok (.fdiv, 1) := by decide +kernel
theorem d_99_40 : decode (js_b 99) 40 = .ok (.freturn, 1) := by decide +kernel
theorem ki_99_15 : js_Ok 99 15 (o_cI 18 2 1 18) := ok_cI (site_V kk_99_18 (by decide) kw_816 kw_817 kw_818 (fun t ht => by cases ht; exact Or.inl ⟨by decide, _, rfl, rfl⟩) d_99_15) rfl
theorem ki_99_14 : js_Ok 99 14 (o_ic 0 15) := js_St.ok (st_iconst rfl d_99_14)
theorem ki_99_11 : js_Ok 99 11 (o_gA 7 0 14) := js_St.ok (st_gA js_c7 (by decide) (by decide) kw_230 d_99_11)
theorem ki_99_10 : js_Ok 99 10 (o_al 0 11) := js_St.ok (st_aloadn rfl d_99_10)
theorem ki_99_9 : js_Ok 99 9 (o_il 1 10) := js_St.ok (st_iloadn rfl d_99_9)
theorem ki_99_8 : js_Ok 99 8 (o_is 1 9) := js_St.ok (st_istoren rfl (Nat.le_of_ble_eq_true rfl) d_99_8)
theorem ki_99_5 : js_Ok 99 5 (o_cI 18 2 1 8) := ok_cI (site_V kk_99_18 (by decide) kw_816 kw_817 kw_818 (fun t ht => by cases ht; exact Or.inl ⟨by decide, _, rfl, rfl⟩) d_99_5) rfl
theorem ki_99_4 : js_Ok 99 4 (o_ic 1 5) := js_St.ok (st_iconst rfl d_99_4)
theorem ki_99_1 : js_Ok 99 1 (o_gA 7 0 4) := js_St.ok (st_gA js_c7 (by decide) (by decide) kw_230 d_99_1)
theorem ki_99_0 : js_Ok 99 0 (o_al 0 1) := js_St.ok (st_aloadn rfl d_99_0)
theorem ki_99_24 : js_Ok 99 24 (o_th "java/lang/ArithmeticException") := ok_thw (text := "there are no neighbouring fragments") rfl (by decide) kw_820 kw_47 (by decide +kernel) kat_272 kot_272 d_99_24 d_99_27 d_99_28 d_99_31 d_99_34
theorem ki_99_21 : js_Ok 99 21 (o_ne 35 24) := js_St.ok (st_ifne (by decide) d_99_21)
theorem ki_99_20 : js_Ok 99 20 (o_il 2 21) := js_St.ok (st_iloadn rfl d_99_20)
theorem ki_99_19 : js_Ok 99 19 (o_is 2 20) := js_St.ok (st_istoren rfl (Nat.le_of_ble_eq_true rfl) d_99_19)
theorem ki_99_18 : js_Ok 99 18 (o_b2 (fun x y => x + y) 19) := js_St.ok (st_iadd d_99_18)
theorem ki_99_40 : js_Ok 99 40 (o_rF) := ok_rF rfl d_99_40
theorem ki_99_39 : js_Ok 99 39 (o_F2 FP.fdiv 40) := js_St.ok (st_fdiv d_99_39)
theorem ki_99_38 : js_Ok 99 38 (o_i2f 39) := js_St.ok (st_i2f d_99_38)
theorem ki_99_37 : js_Ok 99 37 (o_il 2 38) := js_St.ok (st_iloadn rfl d_99_37)
theorem ki_99_36 : js_Ok 99 36 (o_i2f 37) := js_St.ok (st_i2f d_99_36)
theorem ki_99_35 : js_Ok 99 35 (o_il 1 36) := js_St.ok (st_iloadn rfl d_99_35)
theorem d_100_0 : decode (js_b 100) 0 = .ok (.aload_n 0, 1) := by decide +kernel
theorem d_100_1 : decode (js_b 100) 1 = .ok (.invokevirtual 273, 3) := by decide +kernel
theorem d_100_4 : decode (js_b 100) 4 = .ok (.invokestatic 277, 3) := by decide +kernel
theorem d_100_7 : decode (js_b 100) 7 = .ok (.ireturn, 1) := by decide +kernel
theorem ki_100_7 : js_Ok 100 7 (o_rI) := ok_rI rfl d_100_7
theorem ki_100_4 : js_Ok 100 4 (o_cI 132 1 0 7) := ok_cI (site_S kk_100_132 kw_842 kw_843 d_100_4) rfl
theorem ki_100_1 : js_Ok 100 1 (o_cF 99 1 8 4) := ok_cF (site_V kk_100_99 (by decide) kw_841 kw_813 kw_814 (fun t ht => by cases ht; exact Or.inl ⟨by decide, _, rfl, rfl⟩) d_100_1) rfl
theorem ki_100_0 : js_Ok 100 0 (o_al 0 1) := js_St.ok (st_aloadn rfl d_100_0)
theorem d_101_0 : decode (js_b 101) 0 = .ok (.aload_n 0, 1) := by decide +kernel
theorem d_101_1 : decode (js_b 101) 1 = .ok (.getfield 10, 3) := by decide +kernel
theorem d_101_4 : decode (js_b 101) 4 = .ok (.invokevirtual 76, 3) := by decide +kernel
theorem d_101_7 : decode (js_b 101) 7 = .ok (.istore_n 1, 1) := by decide +kernel
theorem d_101_8 : decode (js_b 101) 8 = .ok (.iload_n 1, 1) := by decide +kernel
theorem d_101_9 : decode (js_b 101) 9 = .ok (.ifCond .ne 14, 3) := by decide +kernel
theorem d_101_12 : decode (js_b 101) 12 = .ok (.new 268, 3) := by decide +kernel
theorem d_101_15 : decode (js_b 101) 15 = .ok (.dup, 1) := by decide +kernel
theorem d_101_16 : decode (js_b 101) 16 = .ok (.ldc_w 266, 3) := by decide +kernel
theorem d_101_19 : decode (js_b 101) 19 = .ok (.invokespecial 272, 3) := by decide +kernel
theorem d_101_22 : decode (js_b 101) 22 = .ok (.athrow, 1) := by decide +kernel
theorem d_101_23 : decode (js_b 101) 23 = .ok (.iconst 2, 1) := by decide +kernel
theorem d_101_24 : decode (js_b 101) 24 = .ok (.aload_n 0, 1) := by decide +kernel
theorem d_101_25 : decode (js_b 101) 25 = .ok (.getfield 10, 3) := by decide +kernel
theorem d_101_28 : decode (js_b 101) 28 = .ok (.iconst 1, 1) := by decide +kernel
theorem d_101_29 : decode (js_b 101) 29 = .ok (.invokevirtual 210, 3) := by decide +kernel
theorem d_101_32 : decode (js_b 101) 32 = .ok (.imul, 1) := by decide +kernel
theorem d_101_33 : decode (js_b 101) 33 = .ok (.i2d, 1) := by decide +kernel
theorem d_101_34 : decode (js_b 101) 34 = .ok (.iload_n 1, 1) := by decide +kernel
theorem d_101_35 : decode (js_b 101) 35 = .ok (.i2d, 1) := by decide +kernel
theorem d_101_36 : decode (js_b 101) 36 = .ok (.ddiv, 1) := by decide +kernel
theorem d_101_37 : decode (js_b 101) 37 = .ok (.dreturn, 1) := by decide +kernel
theorem ki_101_12 : js_Ok 101 12 (o_th "java/lang/ArithmeticException") := ok_thw (text := "no fragment is placed") rfl (by decide) kw_820 kw_47 (by decide +kernel) kat_272 kot_272 d_101_12 d_101_15 d_101_16 d_101_19 d_101_22
theorem ki_101_9 : js_Ok 101 9 (o_ne 23 12) := js_St.ok (st_ifne (by decide) d_101_9)
theorem ki_101_8 : js_Ok 101 8 (o_il 1 9) := js_St.ok (st_iloadn rfl d_101_8)
theorem ki_101_7 : js_Ok 101 7 (o_is 1 8) := js_St.ok (st_istoren rfl (Nat.le_of_ble_eq_true rfl) d_101_7)
theorem ki_101_4 : js_Ok 101 4 (o_cI 4 1 1 7) := ok_cI (site_V kk_101_4 (by decide) kw_754 kw_755 kw_756 (fun t ht => by cases ht; exact Or.inl ⟨by decide, _, rfl, rfl⟩) d_101_4) rfl
theorem ki_101_1 : js_Ok 101 1 (o_gA 7 0 4) := js_St.ok (st_gA js_c7 (by decide) (by decide) kw_230 d_101_1)
theorem ki_101_0 : js_Ok 101 0 (o_al 0 1) := js_St.ok (st_aloadn rfl d_101_0)
theorem ki_101_29 : js_Ok 101 29 (o_cI 18 2 1 32) := ok_cI (site_V kk_101_18 (by decide) kw_816 kw_817 kw_818 (fun t ht => by cases ht; exact Or.inl ⟨by decide, _, rfl, rfl⟩) d_101_29) rfl
theorem ki_101_28 : js_Ok 101 28 (o_ic 1 29) := js_St.ok (st_iconst rfl d_101_28)
theorem ki_101_25 : js_Ok 101 25 (o_gA 7 0 28) := js_St.ok (st_gA js_c7 (by decide) (by decide) kw_230 d_101_25)
theorem ki_101_24 : js_Ok 101 24 (o_al 0 25) := js_St.ok (st_aloadn rfl d_101_24)
theorem ki_101_23 : js_Ok 101 23 (o_ic 2 24) := js_St.ok (st_iconst rfl d_101_23)
theorem ki_101_37 : js_Ok 101 37 (o_rD) := ok_rD rfl d_101_37
theorem ki_101_36 : js_Ok 101 36 (o_D2 FP.ddiv 37) := js_St.ok (st_ddiv d_101_36)
theorem ki_101_35 : js_Ok 101 35 (o_i2d 36) := js_St.ok (st_i2d d_101_35)
theorem ki_101_34 : js_Ok 101 34 (o_il 1 35) := js_St.ok (st_iloadn rfl d_101_34)
theorem ki_101_33 : js_Ok 101 33 (o_i2d 34) := js_St.ok (st_i2d d_101_33)
theorem ki_101_32 : js_Ok 101 32 (o_b2 (fun x y => x * y) 33) := js_St.ok (st_imul d_101_32)
theorem d_102_0 : decode (js_b 102) 0 = .ok (.aload_n 0, 1) := by decide +kernel
theorem d_102_1 : decode (js_b 102) 1 = .ok (.invokevirtual 202, 3) := by decide +kernel
theorem d_102_4 : decode (js_b 102) 4 = .ok (.aload_n 0, 1) := by decide +kernel
theorem d_102_5 : decode (js_b 102) 5 = .ok (.invokevirtual 281, 3) := by decide +kernel
theorem d_102_8 : decode (js_b 102) 8 = .ok (.lcmp, 1) := by decide +kernel
theorem d_102_9 : decode (js_b 102) 9 = .ok (.ifCond .ne 18, 3) := by decide +kernel
theorem d_102_12 : decode (js_b 102) 12 = .ok (.aload_n 0, 1) := by decide +kernel
theorem d_102_13 : decode (js_b 102) 13 = .ok (.invokevirtual 284, 3) := by decide +kernel
theorem d_102_16 : decode (js_b 102) 16 = .ok (.aload_n 0, 1) := by decide +kernel
theorem d_102_17 : decode (js_b 102) 17 = .ok (.invokevirtual 287, 3) := by decide +kernel
theorem d_102_20 : decode (js_b 102) 20 = .ok (.if_icmp .ne 7, 3) := by decide +kernel
theorem d_102_23 : decode (js_b 102) 23 = .ok (.iconst 1, 1) := by decide +kernel
theorem d_102_24 : decode (js_b 102) 24 = .ok (.goto 4, 3) := by decide +kernel
theorem d_102_27 : decode (js_b 102) 27 = .ok (.iconst 0, 1) := by decide +kernel
theorem d_102_28 : decode (js_b 102) 28 = .ok (.ireturn, 1) := by decide +kernel
theorem ki_102_13 : js_Ok 102 13 (o_cI 94 1 8 16) := ok_cI (site_V kk_102_94 (by decide) kw_999 kw_955 kw_956 (fun t ht => by cases ht; exact Or.inl ⟨by decide, _, rfl, rfl⟩) d_102_13) rfl
theorem ki_102_12 : js_Ok 102 12 (o_al 0 13) := js_St.ok (st_aloadn rfl d_102_12)
theorem ki_102_9 : js_Ok 102 9 (o_ne 27 12) := js_St.ok (st_ifne (by decide) d_102_9)
theorem ki_102_8 : js_Ok 102 8 (o_lcmp 9) := js_St.ok (st_lcmp d_102_8)
theorem ki_102_5 : js_Ok 102 5 (o_cL 83 1 8 8) := ok_cL (site_V kk_102_83 (by decide) kw_998 kw_870 kw_871 (fun t ht => by cases ht; exact Or.inl ⟨by decide, _, rfl, rfl⟩) d_102_5) rfl
theorem ki_102_4 : js_Ok 102 4 (o_al 0 5) := js_St.ok (st_aloadn rfl d_102_4)
theorem ki_102_1 : js_Ok 102 1 (o_cL 82 1 8 4) := ok_cL (site_V kk_102_82 (by decide) kw_881 kw_866 kw_867 (fun t ht => by cases ht; exact Or.inl ⟨by decide, _, rfl, rfl⟩) d_102_1) rfl
theorem ki_102_0 : js_Ok 102 0 (o_al 0 1) := js_St.ok (st_aloadn rfl d_102_0)
theorem ki_102_28 : js_Ok 102 28 (o_rZ) := ok_rZ rfl d_102_28
theorem ki_102_27 : js_Ok 102 27 (o_ic 0 28) := js_St.ok (st_iconst rfl d_102_27)
theorem ki_102_24 : js_Ok 102 24 (o_go 28) := js_St.ok (st_goto (by decide) d_102_24)
theorem ki_102_23 : js_Ok 102 23 (o_ic 1 24) := js_St.ok (st_iconst rfl d_102_23)
theorem ki_102_20 : js_Ok 102 20 (o_cne 27 23) := js_St.ok (st_icne (by decide) d_102_20)
theorem ki_102_17 : js_Ok 102 17 (o_cI 95 1 8 20) := ok_cI (site_V kk_102_95 (by decide) kw_1000 kw_965 kw_966 (fun t ht => by cases ht; exact Or.inl ⟨by decide, _, rfl, rfl⟩) d_102_17) rfl
theorem ki_102_16 : js_Ok 102 16 (o_al 0 17) := js_St.ok (st_aloadn rfl d_102_16)
theorem d_103_0 : decode (js_b 103) 0 = .ok (.iload_n 1, 1) := by decide +kernel
theorem d_103_1 : decode (js_b 103) 1 = .ok (.iconst 0, 1) := by decide +kernel
theorem d_103_2 : decode (js_b 103) 2 = .ok (.invokestatic 167, 3) := by decide +kernel
theorem d_103_5 : decode (js_b 103) 5 = .ok (.istore_n 2, 1) := by decide +kernel
theorem d_103_6 : decode (js_b 103) 6 = .ok (.iconst 0, 1) := by decide +kernel
theorem d_103_7 : decode (js_b 103) 7 = .ok (.istore_n 3, 1) := by decide +kernel
theorem d_103_8 : decode (js_b 103) 8 = .ok (.iload_n 3, 1) := by decide +kernel
theorem d_103_9 : decode (js_b 103) 9 = .ok (.bipush 8, 2) := by decide +kernel
theorem d_103_11 : decode (js_b 103) 11 = .ok (.if_icmp .ge 22, 3) := by decide +kernel
theorem d_103_14 : decode (js_b 103) 14 = .ok (.aload_n 0, 1) := by decide +kernel
theorem d_103_15 : decode (js_b 103) 15 = .ok (.getfield 47, 3) := by decide +kernel
theorem d_103_18 : decode (js_b 103) 18 = .ok (.iload_n 3, 1) := by decide +kernel
theorem d_103_19 : decode (js_b 103) 19 = .ok (.aload_n 0, 1) := by decide +kernel
theorem d_103_20 : decode (js_b 103) 20 = .ok (.iload_n 2, 1) := by decide +kernel
theorem d_103_21 : decode (js_b 103) 21 = .ok (.iload_n 3, 1) := by decide +kernel
theorem d_103_22 : decode (js_b 103) 22 = .ok (.iadd, 1) := by decide +kernel
theorem d_103_23 : decode (js_b 103) 23 = .ok (.invokevirtual 290, 3) := by decide +kernel
theorem d_103_26 : decode (js_b 103) 26 = .ok (.castore, 1) := by decide +kernel
theorem d_103_27 : decode (js_b 103) 27 = .ok (.iinc 3 1, 3) := by decide +kernel
theorem d_103_30 : decode (js_b 103) 30 = .ok (.goto (-22), 3) := by decide +kernel
theorem d_103_33 : decode (js_b 103) 33 = .ok (.aload_n 0, 1) := by decide +kernel
theorem d_103_34 : decode (js_b 103) 34 = .ok (.bipush 8, 2) := by decide +kernel
theorem d_103_36 : decode (js_b 103) 36 = .ok (.putfield 294, 3) := by decide +kernel
theorem d_103_39 : decode (js_b 103) 39 = .ok (.aload_n 0, 1) := by decide +kernel
theorem d_103_40 : decode (js_b 103) 40 = .ok (.getfield 294, 3) := by decide +kernel
theorem d_103_43 : decode (js_b 103) 43 = .ok (.ireturn, 1) := by decide +kernel
theorem ki_103_15 : js_Ok 103 15 (o_gA 7 7 18) := js_St.ok (st_gA js_c7 (by decide) (by decide) kw_236 d_103_15)
theorem ki_103_14 : js_Ok 103 14 (o_al 0 15) := js_St.ok (st_aloadn rfl d_103_14)
theorem ki_103_11 : js_Ok 103 11 (o_cge 33 14) := js_St.ok (st_icge (by decide) d_103_11)
theorem ki_103_9 : js_Ok 103 9 (o_ic 8 11) := js_St.ok (st_bipush rfl d_103_9)
theorem ki_103_8 : js_Ok 103 8 (o_il 3 9) := js_St.ok (st_iloadn rfl d_103_8)
theorem ki_103_7 : js_Ok 103 7 (o_is 3 8) := js_St.ok (st_istoren rfl (Nat.le_of_ble_eq_true rfl) d_103_7)
theorem ki_103_6 : js_Ok 103 6 (o_ic 0 7) := js_St.ok (st_iconst rfl d_103_6)
theorem ki_103_5 : js_Ok 103 5 (o_is 2 6) := js_St.ok (st_istoren rfl (Nat.le_of_ble_eq_true rfl) d_103_5)
theorem ki_103_2 : js_Ok 103 2 (o_cI 118 2 0 5) := ok_cI (site_S kk_103_118 kw_499 kw_500 d_103_2) rfl
theorem ki_103_1 : js_Ok 103 1 (o_ic 0 2) := js_St.ok (st_iconst rfl d_103_1)
theorem ki_103_0 : js_Ok 103 0 (o_il 1 1) := js_St.ok (st_iloadn rfl d_103_0)
theorem ki_103_30 : js_Ok 103 30 (o_go 8) := js_St.ok (st_goto (by decide) d_103_30)
theorem ki_103_27 : js_Ok 103 27 (o_inc 3 1 30) := js_St.ok (st_iinc rfl (Nat.le_of_ble_eq_true rfl) d_103_27)
theorem ki_103_26 : js_Ok 103 26 (o_sC 101 27) := js_St.ok (st_sC d_103_26)
theorem ki_103_23 : js_Ok 103 23 (o_cI 124 2 8 26) := ok_cI (site_V kk_103_124 (by decide) kw_1266 kw_1268 ks_12 (fun t ht => by cases ht; exact Or.inl ⟨by decide, _, rfl, rfl⟩) d_103_23) rfl
theorem ki_103_22 : js_Ok 103 22 (o_b2 (fun x y => x + y) 23) := js_St.ok (st_iadd d_103_22)
theorem ki_103_21 : js_Ok 103 21 (o_il 3 22) := js_St.ok (st_iloadn rfl d_103_21)
theorem ki_103_20 : js_Ok 103 20 (o_il 2 21) := js_St.ok (st_iloadn rfl d_103_20)
theorem ki_103_19 : js_Ok 103 19 (o_al 0 20) := js_St.ok (st_aloadn rfl d_103_19)
theorem ki_103_18 : js_Ok 103 18 (o_il 3 19) := js_St.ok (st_iloadn rfl d_103_18)
theorem ki_103_43 : js_Ok 103 43 (o_rI) := ok_rI rfl d_103_43
theorem ki_103_40 : js_Ok 103 40 (o_gI 7 8 43) := js_St.ok (st_gI js_c7 (by decide) (by decide) kw_237 d_103_40)
theorem ki_103_39 : js_Ok 103 39 (o_al 0 40) := js_St.ok (st_aloadn rfl d_103_39)
theorem ki_103_36 : js_Ok 103 36 (o_pI 7 8 39) := js_St.ok (st_pIown js_c7 (by decide) rfl kw_237 (js_c7.2.2.1 8 (by decide)) d_103_36)
theorem ki_103_34 : js_Ok 103 34 (o_ic 8 36) := js_St.ok (st_bipush rfl d_103_34)
theorem ki_103_33 : js_Ok 103 33 (o_al 0 34) := js_St.ok (st_aloadn rfl d_103_33)
theorem d_104_0 : decode (js_b 104) 0 = .ok (.aload_n 0, 1) := by decide +kernel
theorem d_104_1 : decode (js_b 104) 1 = .ok (.iload_n 1, 1) := by decide +kernel
theorem d_104_2 : decode (js_b 104) 2 = .ok (.invokevirtual 99, 3) := by decide +kernel
theorem d_104_5 : decode (js_b 104) 5 = .ok (.astore_n 2, 1) := by decide +kernel
theorem d_104_6 : decode (js_b 104) 6 = .ok (.aload_n 0, 1) := by decide +kernel
theorem d_104_7 : decode (js_b 104) 7 = .ok (.getfield 47, 3) := by decide +kernel
theorem d_104_10 : decode (js_b 104) 10 = .ok (.iconst 0, 1) := by decide +kernel
theorem d_104_11 : decode (js_b 104) 11 = .ok (.aload_n 2, 1) := by decide +kernel
theorem d_104_12 : decode (js_b 104) 12 = .ok (.getfield 102, 3) := by decide +kernel
theorem d_104_15 : decode (js_b 104) 15 = .ok (.castore, 1) := by decide +kernel
theorem d_104_16 : decode (js_b 104) 16 = .ok (.iconst 0, 1) := by decide +kernel
theorem d_104_17 : decode (js_b 104) 17 = .ok (.istore_n 3, 1) := by decide +kernel
theorem d_104_18 : decode (js_b 104) 18 = .ok (.iload_n 3, 1) := by decide +kernel
theorem d_104_19 : decode (js_b 104) 19 = .ok (.iconst 4, 1) := by decide +kernel
theorem d_104_20 : decode (js_b 104) 20 = .ok (.if_icmp .ge 25, 3) := by decide +kernel
theorem d_104_23 : decode (js_b 104) 23 = .ok (.aload_n 0, 1) := by decide +kernel
theorem d_104_24 : decode (js_b 104) 24 = .ok (.getfield 47, 3) := by decide +kernel
theorem d_104_27 : decode (js_b 104) 27 = .ok (.iconst 1, 1) := by decide +kernel
theorem d_104_28 : decode (js_b 104) 28 = .ok (.iload_n 3, 1) := by decide +kernel
theorem d_104_29 : decode (js_b 104) 29 = .ok (.iadd, 1) := by decide +kernel
theorem d_104_30 : decode (js_b 104) 30 = .ok (.aload_n 2, 1) := by decide +kernel
theorem d_104_31 : decode (js_b 104) 31 = .ok (.iload_n 3, 1) := by decide +kernel
theorem d_104_32 : decode (js_b 104) 32 = .ok (.invokevirtual 113, 3) := by decide +kernel
theorem d_104_35 : decode (js_b 104) 35 = .ok (.invokestatic 297, 3) := by decide +kernel
theorem d_104_38 : decode (js_b 104) 38 = .ok (.castore, 1) := by decide +kernel
theorem d_104_39 : decode (js_b 104) 39 = .ok (.iinc 3 1, 3) := by decide +kernel
theorem d_104_42 : decode (js_b 104) 42 = .ok (.goto (-24), 3) := by decide +kernel
theorem d_104_45 : decode (js_b 104) 45 = .ok (.aload_n 0, 1) := by decide +kernel
theorem d_104_46 : decode (js_b 104) 46 = .ok (.iconst 5, 1) := by decide +kernel
theorem d_104_47 : decode (js_b 104) 47 = .ok (.putfield 294, 3) := by decide +kernel
theorem d_104_50 : decode (js_b 104) 50 = .ok (.aload_n 2, 1) := by decide +kernel
theorem d_104_51 : decode (js_b 104) 51 = .ok (.invokevirtual 116, 3) := by decide +kernel
theorem d_104_54 : decode (js_b 104) 54 = .ok (.ifCond .eq 51, 3) := by decide +kernel
theorem d_104_57 : decode (js_b 104) 57 = .ok (.aload_n 0, 1) := by decide +kernel
theorem d_104_58 : decode (js_b 104) 58 = .ok (.getfield 47, 3) := by decide +kernel
theorem d_104_61 : decode (js_b 104) 61 = .ok (.iconst 5, 1) := by decide +kernel
theorem d_104_62 : decode (js_b 104) 62 = .ok (.bipush 64, 2) := by decide +kernel
theorem d_104_64 : decode (js_b 104) 64 = .ok (.castore, 1) := by decide +kernel
theorem d_104_65 : decode (js_b 104) 65 = .ok (.aload_n 0, 1) := by decide +kernel
theorem d_104_66 : decode (js_b 104) 66 = .ok (.getfield 47, 3) := by decide +kernel
theorem d_104_69 : decode (js_b 104) 69 = .ok (.bipush 6, 2) := by decide +kernel
theorem d_104_71 : decode (js_b 104) 71 = .ok (.aload_n 2, 1) := by decide +kernel
theorem d_104_72 : decode (js_b 104) 72 = .ok (.getfield 123, 3) := by decide +kernel
theorem d_104_75 : decode (js_b 104) 75 = .ok (.bipush 8, 2) := by decide +kernel
theorem d_104_77 : decode (js_b 104) 77 = .ok (.idiv, 1) := by decide +kernel
theorem d_104_78 : decode (js_b 104) 78 = .ok (.invokestatic 297, 3) := by decide +kernel
theorem d_104_81 : decode (js_b 104) 81 = .ok (.castore, 1) := by decide +kernel
theorem d_104_82 : decode (js_b 104) 82 = .ok (.aload_n 0, 1) := by decide +kernel
theorem d_104_83 : decode (js_b 104) 83 = .ok (.getfield 47, 3) := by decide +kernel
theorem d_104_86 : decode (js_b 104) 86 = .ok (.bipush 7, 2) := by decide +kernel
theorem d_104_88 : decode (js_b 104) 88 = .ok (.aload_n 2, 1) := by decide +kernel
theorem d_104_89 : decode (js_b 104) 89 = .ok (.getfield 123, 3) := by decide +kernel
theorem d_104_92 : decode (js_b 104) 92 = .ok (.bipush 8, 2) := by decide +kernel
theorem d_104_94 : decode (js_b 104) 94 = .ok (.irem, 1) := by decide +kernel
theorem d_104_95 : decode (js_b 104) 95 = .ok (.invokestatic 297, 3) := by decide +kernel
theorem d_104_98 : decode (js_b 104) 98 = .ok (.castore, 1) := by decide +kernel
theorem d_104_99 : decode (js_b 104) 99 = .ok (.aload_n 0, 1) := by decide +kernel
theorem d_104_100 : decode (js_b 104) 100 = .ok (.bipush 8, 2) := by decide +kernel
theorem d_104_102 : decode (js_b 104) 102 = .ok (.putfield 294, 3) := by decide +kernel
theorem d_104_105 : decode (js_b 104) 105 = .ok (.aload_n 0, 1) := by decide +kernel
theorem d_104_106 : decode (js_b 104) 106 = .ok (.getfield 294, 3) := by decide +kernel
theorem d_104_109 : decode (js_b 104) 109 = .ok (.ireturn, 1) := by decide +kernel
theorem ki_104_15 : js_Ok 104 15 (o_sC 101 16) := js_St.ok (st_sC d_104_15)
theorem ki_104_12 : js_Ok 104 12 (o_gI 2 1 15) := js_St.ok (st_gIn js_c2 (by decide) (by decide) kn_87 d_104_12)
theorem ki_104_11 : js_Ok 104 11 (o_al 2 12) := js_St.ok (st_aloadn rfl d_104_11)
theorem ki_104_10 : js_Ok 104 10 (o_ic 0 11) := js_St.ok (st_iconst rfl d_104_10)
theorem ki_104_7 : js_Ok 104 7 (o_gA 7 7 10) := js_St.ok (st_gA js_c7 (by decide) (by decide) kw_236 d_104_7)
theorem ki_104_6 : js_Ok 104 6 (o_al 0 7) := js_St.ok (st_aloadn rfl d_104_6)
theorem ki_104_5 : js_Ok 104 5 (o_as 2 6) := js_St.ok (st_astoren rfl (Nat.le_of_ble_eq_true rfl) d_104_5)
theorem ki_104_2 : js_Ok 104 2 (o_cA 116 2 8 5) := ok_cA (site_V kk_104_116 (by decide) kw_636 kw_638 ks_8 (fun t ht => by cases ht; exact Or.inl ⟨by decide, _, rfl, rfl⟩) d_104_2) rfl
theorem ki_104_1 : js_Ok 104 1 (o_il 1 2) := js_St.ok (st_iloadn rfl d_104_1)
theorem ki_104_0 : js_Ok 104 0 (o_al 0 1) := js_St.ok (st_aloadn rfl d_104_0)
theorem ki_104_31 : js_Ok 104 31 (o_il 3 32) := js_St.ok (st_iloadn rfl d_104_31)
theorem ki_104_30 : js_Ok 104 30 (o_al 2 31) := js_St.ok (st_aloadn rfl d_104_30)
theorem ki_104_29 : js_Ok 104 29 (o_b2 (fun x y => x + y) 30) := js_St.ok (st_iadd d_104_29)
theorem ki_104_28 : js_Ok 104 28 (o_il 3 29) := js_St.ok (st_iloadn rfl d_104_28)
theorem ki_104_27 : js_Ok 104 27 (o_ic 1 28) := js_St.ok (st_iconst rfl d_104_27)
theorem ki_104_24 : js_Ok 104 24 (o_gA 7 7 27) := js_St.ok (st_gA js_c7 (by decide) (by decide) kw_236 d_104_24)
theorem ki_104_23 : js_Ok 104 23 (o_al 0 24) := js_St.ok (st_aloadn rfl d_104_23)
theorem ki_104_20 : js_Ok 104 20 (o_cge 45 23) := js_St.ok (st_icge (by decide) d_104_20)
theorem ki_104_19 : js_Ok 104 19 (o_ic 4 20) := js_St.ok (st_iconst rfl d_104_19)
theorem ki_104_18 : js_Ok 104 18 (o_il 3 19) := js_St.ok (st_iloadn rfl d_104_18)
theorem ki_104_17 : js_Ok 104 17 (o_is 3 18) := js_St.ok (st_istoren rfl (Nat.le_of_ble_eq_true rfl) d_104_17)
theorem ki_104_16 : js_Ok 104 16 (o_ic 0 17) := js_St.ok (st_iconst rfl d_104_16)
theorem ki_104_47 : js_Ok 104 47 (o_pI 7 8 50) := js_St.ok (st_pIown js_c7 (by decide) rfl kw_237 (js_c7.2.2.1 8 (by decide)) d_104_47)
theorem ki_104_46 : js_Ok 104 46 (o_ic 5 47) := js_St.ok (st_iconst rfl d_104_46)
theorem ki_104_45 : js_Ok 104 45 (o_al 0 46) := js_St.ok (st_aloadn rfl d_104_45)
theorem ki_104_42 : js_Ok 104 42 (o_go 18) := js_St.ok (st_goto (by decide) d_104_42)
theorem ki_104_39 : js_Ok 104 39 (o_inc 3 1 42) := js_St.ok (st_iinc rfl (Nat.le_of_ble_eq_true rfl) d_104_39)
theorem ki_104_38 : js_Ok 104 38 (o_sC 101 39) := js_St.ok (st_sC d_104_38)
theorem ki_104_35 : js_Ok 104 35 (o_cI 130 1 0 38) := ok_cI (site_S kk_104_130 kw_1305 kw_1306 d_104_35) rfl
theorem ki_104_32 : js_Ok 104 32 (o_cI 22 2 3 35) := ok_cI (site_V kk_104_22 (by decide) kw_666 kw_552 kw_553 (fun t ht => by cases ht; exact Or.inl ⟨by decide, _, rfl, rfl⟩) d_104_32) rfl
theorem ki_104_62 : js_Ok 104 62 (o_ic 64 64) := js_St.ok (st_bipush rfl d_104_62)
theorem ki_104_61 : js_Ok 104 61 (o_ic 5 62) := js_St.ok (st_iconst rfl d_104_61)
theorem ki_104_58 : js_Ok 104 58 (o_gA 7 7 61) := js_St.ok (st_gA js_c7 (by decide) (by decide) kw_236 d_104_58)
theorem ki_104_57 : js_Ok 104 57 (o_al 0 58) := js_St.ok (st_aloadn rfl d_104_57)
theorem ki_104_54 : js_Ok 104 54 (o_eq 105 57) := js_St.ok (st_ifeq (by decide) d_104_54)
theorem ki_104_51 : js_Ok 104 51 (o_cI 21 1 3 54) := ok_cI (site_V kk_104_21 (by decide) kw_654 kw_299 kw_300 (fun t ht => by cases ht; exact Or.inl ⟨by decide, _, rfl, rfl⟩) d_104_51) rfl
theorem ki_104_50 : js_Ok 104 50 (o_al 2 51) := js_St.ok (st_aloadn rfl d_104_50)
theorem ki_104_78 : js_Ok 104 78 (o_cI 130 1 0 81) := ok_cI (site_S kk_104_130 kw_1305 kw_1306 d_104_78) rfl
theorem ki_104_77 : js_Ok 104 77 (o_div 78) := js_St.ok (st_idiv d_104_77)
theorem ki_104_75 : js_Ok 104 75 (o_ic 8 77) := js_St.ok (st_bipush rfl d_104_75)
theorem ki_104_72 : js_Ok 104 72 (o_gI 2 4 75) := js_St.ok (st_gIn js_c2 (by decide) (by decide) kn_98 d_104_72)
theorem ki_104_71 : js_Ok 104 71 (o_al 2 72) := js_St.ok (st_aloadn rfl d_104_71)
theorem ki_104_69 : js_Ok 104 69 (o_ic 6 71) := js_St.ok (st_bipush rfl d_104_69)
theorem ki_104_66 : js_Ok 104 66 (o_gA 7 7 69) := js_St.ok (st_gA js_c7 (by decide) (by decide) kw_236 d_104_66)
theorem ki_104_65 : js_Ok 104 65 (o_al 0 66) := js_St.ok (st_aloadn rfl d_104_65)
theorem ki_104_64 : js_Ok 104 64 (o_sC 101 65) := js_St.ok (st_sC d_104_64)
theorem ki_104_95 : js_Ok 104 95 (o_cI 130 1 0 98) := ok_cI (site_S kk_104_130 kw_1305 kw_1306 d_104_95) rfl
theorem ki_104_94 : js_Ok 104 94 (o_rem 95) := js_St.ok (st_irem d_104_94)
theorem ki_104_92 : js_Ok 104 92 (o_ic 8 94) := js_St.ok (st_bipush rfl d_104_92)
theorem ki_104_89 : js_Ok 104 89 (o_gI 2 4 92) := js_St.ok (st_gIn js_c2 (by decide) (by decide) kn_98 d_104_89)
theorem ki_104_88 : js_Ok 104 88 (o_al 2 89) := js_St.ok (st_aloadn rfl d_104_88)
theorem ki_104_86 : js_Ok 104 86 (o_ic 7 88) := js_St.ok (st_bipush rfl d_104_86)
theorem ki_104_83 : js_Ok 104 83 (o_gA 7 7 86) := js_St.ok (st_gA js_c7 (by decide) (by decide) kw_236 d_104_83)
theorem ki_104_82 : js_Ok 104 82 (o_al 0 83) := js_St.ok (st_aloadn rfl d_104_82)
theorem ki_104_81 : js_Ok 104 81 (o_sC 101 82) := js_St.ok (st_sC d_104_81)
theorem ki_104_109 : js_Ok 104 109 (o_rI) := ok_rI rfl d_104_109
theorem ki_104_106 : js_Ok 104 106 (o_gI 7 8 109) := js_St.ok (st_gI js_c7 (by decide) (by decide) kw_237 d_104_106)
theorem ki_104_105 : js_Ok 104 105 (o_al 0 106) := js_St.ok (st_aloadn rfl d_104_105)
theorem ki_104_102 : js_Ok 104 102 (o_pI 7 8 105) := js_St.ok (st_pIown js_c7 (by decide) rfl kw_237 (js_c7.2.2.1 8 (by decide)) d_104_102)
theorem ki_104_100 : js_Ok 104 100 (o_ic 8 102) := js_St.ok (st_bipush rfl d_104_100)
theorem ki_104_99 : js_Ok 104 99 (o_al 0 100) := js_St.ok (st_aloadn rfl d_104_99)
theorem ki_104_98 : js_Ok 104 98 (o_sC 101 99) := js_St.ok (st_sC d_104_98)
theorem d_105_0 : decode (js_b 105) 0 = .ok (.iload_n 1, 1) := by decide +kernel
theorem d_105_1 : decode (js_b 105) 1 = .ok (.ifCond .lt 11, 3) := by decide +kernel
theorem d_105_4 : decode (js_b 105) 4 = .ok (.iload_n 1, 1) := by decide +kernel
theorem d_105_5 : decode (js_b 105) 5 = .ok (.aload_n 0, 1) := by decide +kernel
theorem d_105_6 : decode (js_b 105) 6 = .ok (.getfield 294, 3) := by decide +kernel
theorem d_105_9 : decode (js_b 105) 9 = .ok (.if_icmp .lt 14, 3) := by decide +kernel
theorem d_105_12 : decode (js_b 105) 12 = .ok (.new 84, 3) := by decide +kernel
theorem d_105_15 : decode (js_b 105) 15 = .ok (.dup, 1) := by decide +kernel
theorem d_105_16 : decode (js_b 105) 16 = .ok (.ldc_w 300, 3) := by decide +kernel
theorem d_105_19 : decode (js_b 105) 19 = .ok (.invokespecial 88, 3) := by decide +kernel
theorem d_105_22 : decode (js_b 105) 22 = .ok (.athrow, 1) := by decide +kernel
theorem d_105_23 : decode (js_b 105) 23 = .ok (.aload_n 0, 1) := by decide +kernel
theorem d_105_24 : decode (js_b 105) 24 = .ok (.getfield 47, 3) := by decide +kernel
theorem d_105_27 : decode (js_b 105) 27 = .ok (.iload_n 1, 1) := by decide +kernel
theorem d_105_28 : decode (js_b 105) 28 = .ok (.caload, 1) := by decide +kernel
theorem d_105_29 : decode (js_b 105) 29 = .ok (.ireturn, 1) := by decide +kernel
theorem ki_105_12 : js_Ok 105 12 (o_th "java/lang/IndexOutOfBoundsException") := ok_thw (text := "no such character in the output") rfl (by decide) kw_391 kw_37 (by decide +kernel) kat_88 kot_88 d_105_12 d_105_15 d_105_16 d_105_19 d_105_22
theorem ki_105_9 : js_Ok 105 9 (o_clt 23 12) := js_St.ok (st_iclt (by decide) d_105_9)
theorem ki_105_6 : js_Ok 105 6 (o_gI 7 8 9) := js_St.ok (st_gI js_c7 (by decide) (by decide) kw_237 d_105_6)
theorem ki_105_5 : js_Ok 105 5 (o_al 0 6) := js_St.ok (st_aloadn rfl d_105_5)
theorem ki_105_4 : js_Ok 105 4 (o_il 1 5) := js_St.ok (st_iloadn rfl d_105_4)
theorem ki_105_1 : js_Ok 105 1 (o_lt 12 4) := js_St.ok (st_iflt (by decide) d_105_1)
theorem ki_105_0 : js_Ok 105 0 (o_il 1 1) := js_St.ok (st_iloadn rfl d_105_0)
theorem ki_105_29 : js_Ok 105 29 (o_rC) := ok_rC rfl d_105_29
theorem ki_105_28 : js_Ok 105 28 (o_lI 101 29) := js_St.ok (st_lIc d_105_28)
theorem ki_105_27 : js_Ok 105 27 (o_il 1 28) := js_St.ok (st_iloadn rfl d_105_27)
theorem ki_105_24 : js_Ok 105 24 (o_gA 7 7 27) := js_St.ok (st_gA js_c7 (by decide) (by decide) kw_236 d_105_24)
theorem ki_105_23 : js_Ok 105 23 (o_al 0 24) := js_St.ok (st_aloadn rfl d_105_23)
theorem d_106_0 : decode (js_b 106) 0 = .ok (.aload_n 0, 1) := by decide +kernel
theorem d_106_1 : decode (js_b 106) 1 = .ok (.getfield 43, 3) := by decide +kernel
theorem d_106_4 : decode (js_b 106) 4 = .ok (.invokevirtual 302, 3) := by decide +kernel
theorem d_106_7 : decode (js_b 106) 7 = .ok (.ifCond .eq 14, 3) := by decide +kernel
theorem d_106_10 : decode (js_b 106) 10 = .ok (.new 305, 3) := by decide +kernel
theorem d_106_13 : decode (js_b 106) 13 = .ok (.dup, 1) := by decide +kernel
theorem d_106_14 : decode (js_b 106) 14 = .ok (.ldc_w 307, 3) := by decide +kernel
theorem d_106_17 : decode (js_b 106) 17 = .ok (.invokespecial 309, 3) := by decide +kernel
theorem d_106_20 : decode (js_b 106) 20 = .ok (.athrow, 1) := by decide +kernel
theorem d_106_21 : decode (js_b 106) 21 = .ok (.aload_n 0, 1) := by decide +kernel
theorem d_106_22 : decode (js_b 106) 22 = .ok (.getfield 43, 3) := by decide +kernel
theorem d_106_25 : decode (js_b 106) 25 = .ok (.iload_n 1, 1) := by decide +kernel
theorem d_106_26 : decode (js_b 106) 26 = .ok (.invokevirtual 310, 3) := by decide +kernel
theorem d_106_29 : decode (js_b 106) 29 = .ok (.ireturn, 1) := by decide +kernel
theorem ki_106_10 : js_Ok 106 10 (o_th "java/lang/IllegalStateException") := ok_thw (text := "the input buffer is full") rfl (by decide) kw_423 kw_39 (by decide +kernel) kat_309 kot_309 d_106_10 d_106_13 d_106_14 d_106_17 d_106_20
theorem ki_106_7 : js_Ok 106 7 (o_eq 21 10) := js_St.ok (st_ifeq (by decide) d_106_7)
theorem ki_106_4 : js_Ok 106 4 (o_cI 49 1 7 7) := ok_cI (site_V kk_106_49 (by decide) kw_1377 kw_1378 kw_1379 (fun t ht => by cases ht; exact Or.inl ⟨by decide, _, rfl, rfl⟩) d_106_4) rfl
theorem ki_106_1 : js_Ok 106 1 (o_gA 7 6 4) := js_St.ok (st_gA js_c7 (by decide) (by decide) kw_235 d_106_1)
theorem ki_106_0 : js_Ok 106 0 (o_al 0 1) := js_St.ok (st_aloadn rfl d_106_0)
theorem ki_106_29 : js_Ok 106 29 (o_rI) := ok_rI rfl d_106_29
theorem ki_106_26 : js_Ok 106 26 (o_cI 50 2 7 29) := ok_cI (site_V kk_106_50 (by decide) kw_1382 kw_1383 kw_1384 (fun t ht => by cases ht; exact Or.inl ⟨by decide, _, rfl, rfl⟩) d_106_26) rfl
theorem ki_106_25 : js_Ok 106 25 (o_il 1 26) := js_St.ok (st_iloadn rfl d_106_25)
theorem ki_106_22 : js_Ok 106 22 (o_gA 7 6 25) := js_St.ok (st_gA js_c7 (by decide) (by decide) kw_235 d_106_22)
theorem ki_106_21 : js_Ok 106 21 (o_al 0 22) := js_St.ok (st_aloadn rfl d_106_21)
theorem d_107_0 : decode (js_b 107) 0 = .ok (.aload_n 0, 1) := by decide +kernel
theorem d_107_1 : decode (js_b 107) 1 = .ok (.getfield 43, 3) := by decide +kernel
theorem d_107_4 : decode (js_b 107) 4 = .ok (.invokevirtual 314, 3) := by decide +kernel
theorem d_107_7 : decode (js_b 107) 7 = .ok (.istore_n 1, 1) := by decide +kernel
theorem d_107_8 : decode (js_b 107) 8 = .ok (.aload_n 0, 1) := by decide +kernel
theorem d_107_9 : decode (js_b 107) 9 = .ok (.getfield 43, 3) := by decide +kernel
theorem d_107_12 : decode (js_b 107) 12 = .ok (.invokevirtual 317, 3) := by decide +kernel
theorem d_107_15 : decode (js_b 107) 15 = .ok (.iload_n 1, 1) := by decide +kernel
theorem d_107_16 : decode (js_b 107) 16 = .ok (.ifCond .ne 25, 3) := by decide +kernel
theorem d_107_19 : decode (js_b 107) 19 = .ok (.aload_n 0, 1) := by decide +kernel
theorem d_107_20 : decode (js_b 107) 20 = .ok (.aload_n 0, 1) := by decide +kernel
theorem d_107_21 : decode (js_b 107) 21 = .ok (.getfield 43, 3) := by decide +kernel
theorem d_107_24 : decode (js_b 107) 24 = .ok (.getfield 320, 3) := by decide +kernel
theorem d_107_27 : decode (js_b 107) 27 = .ok (.putfield 51, 3) := by decide +kernel
theorem d_107_30 : decode (js_b 107) 30 = .ok (.new 183, 3) := by decide +kernel
theorem d_107_33 : decode (js_b 107) 33 = .ok (.dup, 1) := by decide +kernel
theorem d_107_34 : decode (js_b 107) 34 = .ok (.ldc_w 323, 3) := by decide +kernel
theorem d_107_37 : decode (js_b 107) 37 = .ok (.invokespecial 187, 3) := by decide +kernel
theorem d_107_40 : decode (js_b 107) 40 = .ok (.athrow, 1) := by decide +kernel
theorem d_107_41 : decode (js_b 107) 41 = .ok (.aload_n 0, 1) := by decide +kernel
theorem d_107_42 : decode (js_b 107) 42 = .ok (.getfield 22, 3) := by decide +kernel
theorem d_107_45 : decode (js_b 107) 45 = .ok (.aload_n 0, 1) := by decide +kernel
theorem d_107_46 : decode (js_b 107) 46 = .ok (.getfield 10, 3) := by decide +kernel
theorem d_107_49 : decode (js_b 107) 49 = .ok (.invokevirtual 58, 3) := by decide +kernel
theorem d_107_52 : decode (js_b 107) 52 = .ok (.iconst 0, 1) := by decide +kernel
theorem d_107_53 : decode (js_b 107) 53 = .ok (.istore_n 2, 1) := by decide +kernel
theorem d_107_54 : decode (js_b 107) 54 = .ok (.iload_n 2, 1) := by decide +kernel
theorem d_107_55 : decode (js_b 107) 55 = .ok (.aload_n 0, 1) := by decide +kernel
theorem d_107_56 : decode (js_b 107) 56 = .ok (.getfield 43, 3) := by decide +kernel
theorem d_107_59 : decode (js_b 107) 59 = .ok (.getfield 325, 3) := by decide +kernel
theorem d_107_62 : decode (js_b 107) 62 = .ok (.if_icmp .ge 55, 3) := by decide +kernel
theorem d_107_65 : decode (js_b 107) 65 = .ok (.aload_n 0, 1) := by decide +kernel
theorem d_107_66 : decode (js_b 107) 66 = .ok (.aload_n 0, 1) := by decide +kernel
theorem d_107_67 : decode (js_b 107) 67 = .ok (.getfield 43, 3) := by decide +kernel
theorem d_107_70 : decode (js_b 107) 70 = .ok (.getfield 328, 3) := by decide +kernel
theorem d_107_73 : decode (js_b 107) 73 = .ok (.iload_n 2, 1) := by decide +kernel
theorem d_107_74 : decode (js_b 107) 74 = .ok (.aaload, 1) := by decide +kernel
theorem d_107_75 : decode (js_b 107) 75 = .ok (.invokevirtual 332, 3) := by decide +kernel
theorem d_107_78 : decode (js_b 107) 78 = .ok (.ifCond .ge 33, 3) := by decide +kernel
theorem d_107_81 : decode (js_b 107) 81 = .ok (.aload_n 0, 1) := by decide +kernel
theorem d_107_82 : decode (js_b 107) 82 = .ok (.getfield 10, 3) := by decide +kernel
theorem d_107_85 : decode (js_b 107) 85 = .ok (.aload_n 0, 1) := by decide +kernel
theorem d_107_86 : decode (js_b 107) 86 = .ok (.getfield 22, 3) := by decide +kernel
theorem d_107_89 : decode (js_b 107) 89 = .ok (.invokevirtual 336, 3) := by decide +kernel
theorem d_107_92 : decode (js_b 107) 92 = .ok (.invokevirtual 340, 3) := by decide +kernel
theorem d_107_95 : decode (js_b 107) 95 = .ok (.aload_n 0, 1) := by decide +kernel
theorem d_107_96 : decode (js_b 107) 96 = .ok (.iload_n 2, 1) := by decide +kernel
theorem d_107_97 : decode (js_b 107) 97 = .ok (.putfield 55, 3) := by decide +kernel
theorem d_107_100 : decode (js_b 107) 100 = .ok (.new 343, 3) := by decide +kernel
theorem d_107_103 : decode (js_b 107) 103 = .ok (.dup, 1) := by decide +kernel
theorem d_107_104 : decode (js_b 107) 104 = .ok (.ldc_w 345, 3) := by decide +kernel
theorem d_107_107 : decode (js_b 107) 107 = .ok (.invokespecial 347, 3) := by decide +kernel
theorem d_107_110 : decode (js_b 107) 110 = .ok (.athrow, 1) := by decide +kernel
theorem d_107_111 : decode (js_b 107) 111 = .ok (.iinc 2 1, 3) := by decide +kernel
theorem d_107_114 : decode (js_b 107) 114 = .ok (.goto (-60), 3) := by decide +kernel
theorem d_107_117 : decode (js_b 107) 117 = .ok (.aload_n 0, 1) := by decide +kernel
theorem d_107_118 : decode (js_b 107) 118 = .ok (.aload_n 0, 1) := by decide +kernel
theorem d_107_119 : decode (js_b 107) 119 = .ok (.getfield 43, 3) := by decide +kernel
theorem d_107_122 : decode (js_b 107) 122 = .ok (.getfield 325, 3) := by decide +kernel
theorem d_107_125 : decode (js_b 107) 125 = .ok (.invokevirtual 66, 3) := by decide +kernel
theorem d_107_128 : decode (js_b 107) 128 = .ok (.ireturn, 1) := by decide +kernel
theorem ki_107_15 : js_Ok 107 15 (o_il 1 16) := js_St.ok (st_iloadn rfl d_107_15)
theorem ki_107_12 : js_Ok 107 12 (o_cV 51 1 7 15) := ok_cV (site_V kk_107_51 (by decide) kw_1429 kw_1430 kw_1431 (fun t ht => by cases ht; exact Or.inl ⟨by decide, _, rfl, rfl⟩) d_107_12) rfl
theorem ki_107_9 : js_Ok 107 9 (o_gA 7 6 12) := js_St.ok (st_gA js_c7 (by decide) (by decide) kw_235 d_107_9)
theorem ki_107_8 : js_Ok 107 8 (o_al 0 9) := js_St.ok (st_aloadn rfl d_107_8)
theorem ki_107_7 : js_Ok 107 7 (o_is 1 8) := js_St.ok (st_istoren rfl (Nat.le_of_ble_eq_true rfl) d_107_7)
theorem ki_107_4 : js_Ok 107 4 (o_cI 52 1 7 7) := ok_cI (site_V kk_107_52 (by decide) kw_1393 kw_1394 kw_1395 (fun t ht => by cases ht; exact Or.inl ⟨by decide, _, rfl, rfl⟩) d_107_4) rfl
theorem ki_107_1 : js_Ok 107 1 (o_gA 7 6 4) := js_St.ok (st_gA js_c7 (by decide) (by decide) kw_235 d_107_1)
theorem ki_107_0 : js_Ok 107 0 (o_al 0 1) := js_St.ok (st_aloadn rfl d_107_0)
theorem ki_107_30 : js_Ok 107 30 (o_th "java/lang/IllegalArgumentException") := ok_thw (text := "the text is malformed") rfl (by decide) kw_407 kw_38 (by decide +kernel) kat_187 kot_187 d_107_30 d_107_33 d_107_34 d_107_37 d_107_40
theorem ki_107_27 : js_Ok 107 27 (o_pI 7 9 30) := js_St.ok (st_pIown js_c7 (by decide) rfl kw_238 (js_c7.2.2.1 9 (by decide)) d_107_27)
theorem ki_107_24 : js_Ok 107 24 (o_gI 6 2 27) := js_St.ok (st_gIn js_c6 (by decide) (by decide) kn_214 d_107_24)
theorem ki_107_21 : js_Ok 107 21 (o_gA 7 6 24) := js_St.ok (st_gA js_c7 (by decide) (by decide) kw_235 d_107_21)
theorem ki_107_20 : js_Ok 107 20 (o_al 0 21) := js_St.ok (st_aloadn rfl d_107_20)
theorem ki_107_19 : js_Ok 107 19 (o_al 0 20) := js_St.ok (st_aloadn rfl d_107_19)
theorem ki_107_16 : js_Ok 107 16 (o_ne 41 19) := js_St.ok (st_ifne (by decide) d_107_16)
theorem ki_107_46 : js_Ok 107 46 (o_gA 7 0 49) := js_St.ok (st_gA js_c7 (by decide) (by decide) kw_230 d_107_46)
theorem ki_107_45 : js_Ok 107 45 (o_al 0 46) := js_St.ok (st_aloadn rfl d_107_45)
theorem ki_107_42 : js_Ok 107 42 (o_gA 7 3 45) := js_St.ok (st_gA js_c7 (by decide) (by decide) kw_232 d_107_42)
theorem ki_107_41 : js_Ok 107 41 (o_al 0 42) := js_St.ok (st_aloadn rfl d_107_41)
theorem ki_107_62 : js_Ok 107 62 (o_cge 117 65) := js_St.ok (st_icge (by decide) d_107_62)
theorem ki_107_59 : js_Ok 107 59 (o_gI 6 4 62) := js_St.ok (st_gIn js_c6 (by decide) (by decide) kn_218 d_107_59)
theorem ki_107_56 : js_Ok 107 56 (o_gA 7 6 59) := js_St.ok (st_gA js_c7 (by decide) (by decide) kw_235 d_107_56)
theorem ki_107_55 : js_Ok 107 55 (o_al 0 56) := js_St.ok (st_aloadn rfl d_107_55)
theorem ki_107_54 : js_Ok 107 54 (o_il 2 55) := js_St.ok (st_iloadn rfl d_107_54)
theorem ki_107_53 : js_Ok 107 53 (o_is 2 54) := js_St.ok (st_istoren rfl (Nat.le_of_ble_eq_true rfl) d_107_53)
theorem ki_107_52 : js_Ok 107 52 (o_ic 0 53) := js_St.ok (st_iconst rfl d_107_52)
theorem ki_107_49 : js_Ok 107 49 (o_cV 43 2 6 52) := ok_cV (site_V kk_107_43 (by decide) kw_279 kw_280 kw_281 (fun t ht => by cases ht; exact Or.inl ⟨by decide, _, rfl, rfl⟩) d_107_49) rfl
theorem ki_107_78 : js_Ok 107 78 (o_ge 111 81) := js_St.ok (st_ifge (by decide) d_107_78)
theorem ki_107_75 : js_Ok 107 75 (o_cI 125 2 8 78) := ok_cI (site_V kk_107_125 (by decide) kw_1434 kw_1436 ks_20 (fun t ht => by cases ht; exact Or.inl ⟨by decide, _, rfl, rfl⟩) d_107_75) rfl
theorem ki_107_74 : js_Ok 107 74 (o_lA 112 75) := js_St.ok (st_lA (by decide) rfl d_107_74)
theorem ki_107_73 : js_Ok 107 73 (o_il 2 74) := js_St.ok (st_iloadn rfl d_107_73)
theorem ki_107_70 : js_Ok 107 70 (o_gA 6 3 73) := js_St.ok (st_gAn js_c6 (by decide) (by decide) kn_216 d_107_70)
theorem ki_107_67 : js_Ok 107 67 (o_gA 7 6 70) := js_St.ok (st_gA js_c7 (by decide) (by decide) kw_235 d_107_67)
theorem ki_107_66 : js_Ok 107 66 (o_al 0 67) := js_St.ok (st_aloadn rfl d_107_66)
theorem ki_107_65 : js_Ok 107 65 (o_al 0 66) := js_St.ok (st_aloadn rfl d_107_65)
theorem ki_107_95 : js_Ok 107 95 (o_al 0 96) := js_St.ok (st_aloadn rfl d_107_95)
theorem ki_107_92 : js_Ok 107 92 (o_cV 1 2 1 95) := ok_cV (site_V kk_107_1 (by decide) kw_1447 kw_288 kw_289 (fun t ht => by cases ht; exact Or.inl ⟨by decide, _, rfl, rfl⟩) d_107_92) rfl
theorem ki_107_89 : js_Ok 107 89 (o_cA 44 1 6 92) := ok_cA (site_V kk_107_44 (by decide) kw_1446 kw_284 kw_285 (fun t ht => by cases ht; exact Or.inl ⟨by decide, _, rfl, rfl⟩) d_107_89) rfl
theorem ki_107_86 : js_Ok 107 86 (o_gA 7 3 89) := js_St.ok (st_gA js_c7 (by decide) (by decide) kw_232 d_107_86)
theorem ki_107_85 : js_Ok 107 85 (o_al 0 86) := js_St.ok (st_aloadn rfl d_107_85)
theorem ki_107_82 : js_Ok 107 82 (o_gA 7 0 85) := js_St.ok (st_gA js_c7 (by decide) (by decide) kw_230 d_107_82)
theorem ki_107_81 : js_Ok 107 81 (o_al 0 82) := js_St.ok (st_aloadn rfl d_107_81)
theorem ki_107_111 : js_Ok 107 111 (o_inc 2 1 114) := js_St.ok (st_iinc rfl (Nat.le_of_ble_eq_true rfl) d_107_111)
theorem ki_107_100 : js_Ok 107 100 (o_th "java/lang/UnsupportedOperationException") := ok_thw (text := "a command failed") rfl (by decide) kw_523 kw_43 (by decide +kernel) kat_347 kot_347 d_107_100 d_107_103 d_107_104 d_107_107 d_107_110
theorem ki_107_97 : js_Ok 107 97 (o_pI 7 10 100) := js_St.ok (st_pIown js_c7 (by decide) rfl kw_239 (js_c7.2.2.1 10 (by decide)) d_107_97)
theorem ki_107_96 : js_Ok 107 96 (o_il 2 97) := js_St.ok (st_iloadn rfl d_107_96)
theorem ki_107_125 : js_Ok 107 125 (o_cI 114 2 8 128) := ok_cI (site_V kk_107_114 (by decide) kw_312 kw_314 ks_0 (fun t ht => by cases ht; exact Or.inl ⟨by decide, _, rfl, rfl⟩) d_107_125) rfl
theorem ki_107_122 : js_Ok 107 122 (o_gI 6 4 125) := js_St.ok (st_gIn js_c6 (by decide) (by decide) kn_218 d_107_122)
theorem ki_107_119 : js_Ok 107 119 (o_gA 7 6 122) := js_St.ok (st_gA js_c7 (by decide) (by decide) kw_235 d_107_119)
theorem ki_107_118 : js_Ok 107 118 (o_al 0 119) := js_St.ok (st_aloadn rfl d_107_118)
theorem ki_107_117 : js_Ok 107 117 (o_al 0 118) := js_St.ok (st_aloadn rfl d_107_117)
theorem ki_107_114 : js_Ok 107 114 (o_go 54) := js_St.ok (st_goto (by decide) d_107_114)
theorem ki_107_128 : js_Ok 107 128 (o_rI) := ok_rI rfl d_107_128
theorem d_110_0 : decode (js_b 110) 0 = .ok (.aload_n 0, 1) := by decide +kernel
theorem d_110_1 : decode (js_b 110) 1 = .ok (.getfield 22, 3) := by decide +kernel
theorem d_110_4 : decode (js_b 110) 4 = .ok (.getfield 352, 3) := by decide +kernel
theorem d_110_7 : decode (js_b 110) 7 = .ok (.ifCond .ne 14, 3) := by decide +kernel
theorem d_110_10 : decode (js_b 110) 10 = .ok (.new 305, 3) := by decide +kernel
theorem d_110_13 : decode (js_b 110) 13 = .ok (.dup, 1) := by decide +kernel
theorem d_110_14 : decode (js_b 110) 14 = .ok (.ldc_w 353, 3) := by decide +kernel
theorem d_110_17 : decode (js_b 110) 17 = .ok (.invokespecial 309, 3) := by decide +kernel
theorem d_110_20 : decode (js_b 110) 20 = .ok (.athrow, 1) := by decide +kernel
theorem d_110_21 : decode (js_b 110) 21 = .ok (.aload_n 0, 1) := by decide +kernel
theorem d_110_22 : decode (js_b 110) 22 = .ok (.getfield 10, 3) := by decide +kernel
theorem d_110_25 : decode (js_b 110) 25 = .ok (.aload_n 0, 1) := by decide +kernel
theorem d_110_26 : decode (js_b 110) 26 = .ok (.getfield 22, 3) := by decide +kernel
theorem d_110_29 : decode (js_b 110) 29 = .ok (.invokevirtual 355, 3) := by decide +kernel
theorem d_110_32 : decode (js_b 110) 32 = .ok (.invokevirtual 340, 3) := by decide +kernel
theorem d_110_35 : decode (js_b 110) 35 = .ok (.aload_n 0, 1) := by decide +kernel
theorem d_110_36 : decode (js_b 110) 36 = .ok (.getfield 22, 3) := by decide +kernel
theorem d_110_39 : decode (js_b 110) 39 = .ok (.getfield 352, 3) := by decide +kernel
theorem d_110_42 : decode (js_b 110) 42 = .ok (.ireturn, 1) := by decide +kernel
theorem ki_110_10 : js_Ok 110 10 (o_th "java/lang/IllegalStateException") := ok_thw (text := "there is no change to undo") rfl (by decide) kw_423 kw_39 (by decide +kernel) kat_309 kot_309 d_110_10 d_110_13 d_110_14 d_110_17 d_110_20
theorem ki_110_7 : js_Ok 110 7 (o_ne 21 10) := js_St.ok (st_ifne (by decide) d_110_7)
theorem ki_110_4 : js_Ok 110 4 (o_gI 5 2 7) := js_St.ok (st_gIn js_c5 (by decide) (by decide) kn_143 d_110_4)
theorem ki_110_1 : js_Ok 110 1 (o_gA 7 3 4) := js_St.ok (st_gA js_c7 (by decide) (by decide) kw_232 d_110_1)
theorem ki_110_0 : js_Ok 110 0 (o_al 0 1) := js_St.ok (st_aloadn rfl d_110_0)
theorem ki_110_29 : js_Ok 110 29 (o_cA 46 1 6 32) := ok_cA (site_V kk_110_46 (by decide) kw_1461 kw_1462 kw_1463 (fun t ht => by cases ht; exact Or.inl ⟨by decide, _, rfl, rfl⟩) d_110_29) rfl
theorem ki_110_26 : js_Ok 110 26 (o_gA 7 3 29) := js_St.ok (st_gA js_c7 (by decide) (by decide) kw_232 d_110_26)
theorem ki_110_25 : js_Ok 110 25 (o_al 0 26) := js_St.ok (st_aloadn rfl d_110_25)
theorem ki_110_22 : js_Ok 110 22 (o_gA 7 0 25) := js_St.ok (st_gA js_c7 (by decide) (by decide) kw_230 d_110_22)
theorem ki_110_21 : js_Ok 110 21 (o_al 0 22) := js_St.ok (st_aloadn rfl d_110_21)
theorem ki_110_42 : js_Ok 110 42 (o_rI) := ok_rI rfl d_110_42
theorem ki_110_39 : js_Ok 110 39 (o_gI 5 2 42) := js_St.ok (st_gIn js_c5 (by decide) (by decide) kn_143 d_110_39)
theorem ki_110_36 : js_Ok 110 36 (o_gA 7 3 39) := js_St.ok (st_gA js_c7 (by decide) (by decide) kw_232 d_110_36)
theorem ki_110_35 : js_Ok 110 35 (o_al 0 36) := js_St.ok (st_aloadn rfl d_110_35)
theorem ki_110_32 : js_Ok 110 32 (o_cV 1 2 1 35) := ok_cV (site_V kk_110_1 (by decide) kw_1447 kw_288 kw_289 (fun t ht => by cases ht; exact Or.inl ⟨by decide, _, rfl, rfl⟩) d_110_32) rfl
theorem d_111_0 : decode (js_b 111) 0 = .ok (.aload_n 0, 1) := by decide +kernel
theorem d_111_1 : decode (js_b 111) 1 = .ok (.getfield 22, 3) := by decide +kernel
theorem d_111_4 : decode (js_b 111) 4 = .ok (.getfield 352, 3) := by decide +kernel
theorem d_111_7 : decode (js_b 111) 7 = .ok (.ireturn, 1) := by decide +kernel
theorem ki_111_7 : js_Ok 111 7 (o_rI) := ok_rI rfl d_111_7
theorem ki_111_4 : js_Ok 111 4 (o_gI 5 2 7) := js_St.ok (st_gIn js_c5 (by decide) (by decide) kn_143 d_111_4)
theorem ki_111_1 : js_Ok 111 1 (o_gA 7 3 4) := js_St.ok (st_gA js_c7 (by decide) (by decide) kw_232 d_111_1)
theorem ki_111_0 : js_Ok 111 0 (o_al 0 1) := js_St.ok (st_aloadn rfl d_111_0)
theorem d_114_0 : decode (js_b 114) 0 = .ok (.iload_n 1, 1) := by decide +kernel
theorem d_114_1 : decode (js_b 114) 1 = .ok (.invokestatic 365, 3) := by decide +kernel
theorem d_114_4 : decode (js_b 114) 4 = .ok (.aload_n 0, 1) := by decide +kernel
theorem d_114_5 : decode (js_b 114) 5 = .ok (.getfield 22, 3) := by decide +kernel
theorem d_114_8 : decode (js_b 114) 8 = .ok (.invokevirtual 368, 3) := by decide +kernel
theorem d_114_11 : decode (js_b 114) 11 = .ok (.iload_n 1, 1) := by decide +kernel
theorem d_114_12 : decode (js_b 114) 12 = .ok (.ireturn, 1) := by decide +kernel
theorem ki_114_12 : js_Ok 114 12 (o_rI) := ok_rI rfl d_114_12
theorem ki_114_11 : js_Ok 114 11 (o_il 1 12) := js_St.ok (st_iloadn rfl d_114_11)
theorem ki_114_8 : js_Ok 114 8 (o_cV 45 1 6 11) := ok_cV (site_V kk_114_45 (by decide) kw_439 kw_440 kw_441 (fun t ht => by cases ht; exact Or.inl ⟨by decide, _, rfl, rfl⟩) d_114_8) rfl
theorem ki_114_5 : js_Ok 114 5 (o_gA 7 3 8) := js_St.ok (st_gA js_c7 (by decide) (by decide) kw_232 d_114_5)
theorem ki_114_4 : js_Ok 114 4 (o_al 0 5) := js_St.ok (st_aloadn rfl d_114_4)
theorem ki_114_1 : js_Ok 114 1 (o_cV 115 1 0 4) := ok_cV (site_S kk_114_115 kw_316 kw_317 d_114_1) rfl
theorem ki_114_0 : js_Ok 114 0 (o_il 1 1) := js_St.ok (st_iloadn rfl d_114_0)
theorem d_115_0 : decode (js_b 115) 0 = .ok (.iload_n 0, 1) := by decide +kernel
theorem d_115_1 : decode (js_b 115) 1 = .ok (.tableswitch 75 (-4) (-1) #[64, 53, 42, 31], 31) := by decide +kernel
theorem d_115_32 : decode (js_b 115) 32 = .ok (.new 170, 3) := by decide +kernel
theorem d_115_35 : decode (js_b 115) 35 = .ok (.dup, 1) := by decide +kernel
theorem d_115_36 : decode (js_b 115) 36 = .ok (.ldc_w 371, 3) := by decide +kernel
theorem d_115_39 : decode (js_b 115) 39 = .ok (.invokespecial 174, 3) := by decide +kernel
theorem d_115_42 : decode (js_b 115) 42 = .ok (.athrow, 1) := by decide +kernel
theorem d_115_43 : decode (js_b 115) 43 = .ok (.new 84, 3) := by decide +kernel
theorem d_115_46 : decode (js_b 115) 46 = .ok (.dup, 1) := by decide +kernel
theorem d_115_47 : decode (js_b 115) 47 = .ok (.ldc_w 373, 3) := by decide +kernel
theorem d_115_50 : decode (js_b 115) 50 = .ok (.invokespecial 88, 3) := by decide +kernel
theorem d_115_53 : decode (js_b 115) 53 = .ok (.athrow, 1) := by decide +kernel
theorem d_115_54 : decode (js_b 115) 54 = .ok (.new 183, 3) := by decide +kernel
theorem d_115_57 : decode (js_b 115) 57 = .ok (.dup, 1) := by decide +kernel
theorem d_115_58 : decode (js_b 115) 58 = .ok (.ldc_w 375, 3) := by decide +kernel
theorem d_115_61 : decode (js_b 115) 61 = .ok (.invokespecial 187, 3) := by decide +kernel
theorem d_115_64 : decode (js_b 115) 64 = .ok (.athrow, 1) := by decide +kernel
theorem d_115_65 : decode (js_b 115) 65 = .ok (.new 305, 3) := by decide +kernel
theorem d_115_68 : decode (js_b 115) 68 = .ok (.dup, 1) := by decide +kernel
theorem d_115_69 : decode (js_b 115) 69 = .ok (.ldc_w 377, 3) := by decide +kernel
theorem d_115_72 : decode (js_b 115) 72 = .ok (.invokespecial 309, 3) := by decide +kernel
theorem d_115_75 : decode (js_b 115) 75 = .ok (.athrow, 1) := by decide +kernel
theorem d_115_76 : decode (js_b 115) 76 = .ok (.return_, 1) := by decide +kernel
theorem ki_115_1 : js_Ok 115 1 (o_sw 76 [(-4, 65), (-3, 54), (-2, 43), (-1, 32)]) := js_St.ok (st_tsw (by decide +kernel) (by decide +kernel) (by decide +kernel) d_115_1)
theorem ki_115_0 : js_Ok 115 0 (o_il 0 1) := js_St.ok (st_iloadn rfl d_115_0)
theorem ki_115_43 : js_Ok 115 43 (o_th "java/lang/IndexOutOfBoundsException") := ok_thw (text := "rows and columns are from 0 to 7") rfl (by decide) kw_391 kw_37 (by decide +kernel) kat_88 kot_88 d_115_43 d_115_46 d_115_47 d_115_50 d_115_53
theorem ki_115_32 : js_Ok 115 32 (o_th "java/util/NoSuchElementException") := ok_tnw (text := "no such fragment") kx0 kx1 kx2 kx5 rfl (by decide) kw_319 kw_36 (by decide +kernel) kat_174 kot_174 d_115_32 d_115_35 d_115_36 d_115_39 d_115_42
theorem ki_115_54 : js_Ok 115 54 (o_th "java/lang/IllegalArgumentException") := ok_thw (text := "an argument is not allowed") rfl (by decide) kw_407 kw_38 (by decide +kernel) kat_187 kot_187 d_115_54 d_115_57 d_115_58 d_115_61 d_115_64
theorem ki_115_76 : js_Ok 115 76 (o_rV) := ok_rV rfl d_115_76
theorem ki_115_65 : js_Ok 115 65 (o_th "java/lang/IllegalStateException") := ok_thw (text := "the fragments do not allow it") rfl (by decide) kw_423 kw_39 (by decide +kernel) kat_309 kot_309 d_115_65 d_115_68 d_115_69 d_115_72 d_115_75
theorem d_116_0 : decode (js_b 116) 0 = .ok (.aload_n 0, 1) := by decide +kernel
theorem d_116_1 : decode (js_b 116) 1 = .ok (.getfield 10, 3) := by decide +kernel
theorem d_116_4 : decode (js_b 116) 4 = .ok (.iload_n 1, 1) := by decide +kernel
theorem d_116_5 : decode (js_b 116) 5 = .ok (.invokevirtual 96, 3) := by decide +kernel
theorem d_116_8 : decode (js_b 116) 8 = .ok (.astore_n 2, 1) := by decide +kernel
theorem d_116_9 : decode (js_b 116) 9 = .ok (.aload_n 2, 1) := by decide +kernel
theorem d_116_10 : decode (js_b 116) 10 = .ok (.ifnonnull 14, 3) := by decide +kernel
theorem d_116_13 : decode (js_b 116) 13 = .ok (.new 170, 3) := by decide +kernel
theorem d_116_16 : decode (js_b 116) 16 = .ok (.dup, 1) := by decide +kernel
theorem d_116_17 : decode (js_b 116) 17 = .ok (.ldc_w 371, 3) := by decide +kernel
theorem d_116_20 : decode (js_b 116) 20 = .ok (.invokespecial 174, 3) := by decide +kernel
theorem d_116_23 : decode (js_b 116) 23 = .ok (.athrow, 1) := by decide +kernel
theorem d_116_24 : decode (js_b 116) 24 = .ok (.aload_n 2, 1) := by decide +kernel
theorem d_116_25 : decode (js_b 116) 25 = .ok (.areturn, 1) := by decide +kernel
theorem ki_116_13 : js_Ok 116 13 (o_th "java/util/NoSuchElementException") := ok_tnw (text := "no such fragment") kx0 kx1 kx2 kx5 rfl (by decide) kw_319 kw_36 (by decide +kernel) kat_174 kot_174 d_116_13 d_116_16 d_116_17 d_116_20 d_116_23
theorem ki_116_10 : js_Ok 116 10 (o_nnl 24 13) := js_St.ok (st_ifnonnull (by decide) d_116_10)
theorem ki_116_9 : js_Ok 116 9 (o_al 2 10) := js_St.ok (st_aloadn rfl d_116_9)
theorem ki_116_8 : js_Ok 116 8 (o_as 2 9) := js_St.ok (st_astoren rfl (Nat.le_of_ble_eq_true rfl) d_116_8)
theorem ki_116_5 : js_Ok 116 5 (o_cN 3 2 1 8) := ok_cN (site_V kk_116_3 (by decide) kw_628 kw_459 kw_460 (fun t ht => by cases ht; exact Or.inl ⟨by decide, _, rfl, rfl⟩) d_116_5) rfl
theorem ki_116_4 : js_Ok 116 4 (o_il 1 5) := js_St.ok (st_iloadn rfl d_116_4)
theorem ki_116_1 : js_Ok 116 1 (o_gA 7 0 4) := js_St.ok (st_gA js_c7 (by decide) (by decide) kw_230 d_116_1)
theorem ki_116_0 : js_Ok 116 0 (o_al 0 1) := js_St.ok (st_aloadn rfl d_116_0)
theorem ki_116_25 : js_Ok 116 25 (o_rA) := ok_rA (Or.inl ⟨_, rfl⟩) rfl d_116_25
theorem ki_116_24 : js_Ok 116 24 (o_al 2 25) := js_St.ok (st_aloadn rfl d_116_24)
theorem d_117_0 : decode (js_b 117) 0 = .ok (.aload_n 0, 1) := by decide +kernel
theorem d_117_1 : decode (js_b 117) 1 = .ok (.iload_n 1, 1) := by decide +kernel
theorem d_117_2 : decode (js_b 117) 2 = .ok (.invokevirtual 99, 3) := by decide +kernel
theorem d_117_5 : decode (js_b 117) 5 = .ok (.astore_n 2, 1) := by decide +kernel
theorem d_117_6 : decode (js_b 117) 6 = .ok (.aload_n 2, 1) := by decide +kernel
theorem d_117_7 : decode (js_b 117) 7 = .ok (.invokevirtual 116, 3) := by decide +kernel
theorem d_117_10 : decode (js_b 117) 10 = .ok (.ifCond .ne 14, 3) := by decide +kernel
theorem d_117_13 : decode (js_b 117) 13 = .ok (.new 170, 3) := by decide +kernel
theorem d_117_16 : decode (js_b 117) 16 = .ok (.dup, 1) := by decide +kernel
theorem d_117_17 : decode (js_b 117) 17 = .ok (.ldc_w 379, 3) := by decide +kernel
theorem d_117_20 : decode (js_b 117) 20 = .ok (.invokespecial 174, 3) := by decide +kernel
theorem d_117_23 : decode (js_b 117) 23 = .ok (.athrow, 1) := by decide +kernel
theorem d_117_24 : decode (js_b 117) 24 = .ok (.aload_n 2, 1) := by decide +kernel
theorem d_117_25 : decode (js_b 117) 25 = .ok (.areturn, 1) := by decide +kernel
theorem ki_117_13 : js_Ok 117 13 (o_th "java/util/NoSuchElementException") := ok_tnw (text := "the fragment is in the tray") kx0 kx1 kx2 kx5 rfl (by decide) kw_319 kw_36 (by decide +kernel) kat_174 kot_174 d_117_13 d_117_16 d_117_17 d_117_20 d_117_23
theorem ki_117_10 : js_Ok 117 10 (o_ne 24 13) := js_St.ok (st_ifne (by decide) d_117_10)
theorem ki_117_7 : js_Ok 117 7 (o_cI 21 1 3 10) := ok_cI (site_V kk_117_21 (by decide) kw_654 kw_299 kw_300 (fun t ht => by cases ht; exact Or.inl ⟨by decide, _, rfl, rfl⟩) d_117_7) rfl
theorem ki_117_6 : js_Ok 117 6 (o_al 2 7) := js_St.ok (st_aloadn rfl d_117_6)
theorem ki_117_5 : js_Ok 117 5 (o_as 2 6) := js_St.ok (st_astoren rfl (Nat.le_of_ble_eq_true rfl) d_117_5)
theorem ki_117_2 : js_Ok 117 2 (o_cA 116 2 8 5) := ok_cA (site_V kk_117_116 (by decide) kw_636 kw_638 ks_8 (fun t ht => by cases ht; exact Or.inl ⟨by decide, _, rfl, rfl⟩) d_117_2) rfl
theorem ki_117_1 : js_Ok 117 1 (o_il 1 2) := js_St.ok (st_iloadn rfl d_117_1)
theorem ki_117_0 : js_Ok 117 0 (o_al 0 1) := js_St.ok (st_aloadn rfl d_117_0)
theorem ki_117_25 : js_Ok 117 25 (o_rA) := ok_rA (Or.inl ⟨_, rfl⟩) rfl d_117_25
theorem ki_117_24 : js_Ok 117 24 (o_al 2 25) := js_St.ok (st_aloadn rfl d_117_24)
theorem d_118_0 : decode (js_b 118) 0 = .ok (.iload_n 0, 1) := by decide +kernel
theorem d_118_1 : decode (js_b 118) 1 = .ok (.bipush 7, 2) := by decide +kernel
theorem d_118_3 : decode (js_b 118) 3 = .ok (.invokestatic 225, 3) := by decide +kernel
theorem d_118_6 : decode (js_b 118) 6 = .ok (.ifCond .eq 12, 3) := by decide +kernel
theorem d_118_9 : decode (js_b 118) 9 = .ok (.iload_n 1, 1) := by decide +kernel
theorem d_118_10 : decode (js_b 118) 10 = .ok (.bipush 7, 2) := by decide +kernel
theorem d_118_12 : decode (js_b 118) 12 = .ok (.invokestatic 225, 3) := by decide +kernel
theorem d_118_15 : decode (js_b 118) 15 = .ok (.ifCond .ne 14, 3) := by decide +kernel
theorem d_118_18 : decode (js_b 118) 18 = .ok (.new 84, 3) := by decide +kernel
theorem d_118_21 : decode (js_b 118) 21 = .ok (.dup, 1) := by decide +kernel
theorem d_118_22 : decode (js_b 118) 22 = .ok (.ldc_w 373, 3) := by decide +kernel
theorem d_118_25 : decode (js_b 118) 25 = .ok (.invokespecial 88, 3) := by decide +kernel
theorem d_118_28 : decode (js_b 118) 28 = .ok (.athrow, 1) := by decide +kernel
theorem d_118_29 : decode (js_b 118) 29 = .ok (.bipush 8, 2) := by decide +kernel
theorem d_118_31 : decode (js_b 118) 31 = .ok (.iload_n 0, 1) := by decide +kernel
theorem d_118_32 : decode (js_b 118) 32 = .ok (.imul, 1) := by decide +kernel
theorem d_118_33 : decode (js_b 118) 33 = .ok (.iload_n 1, 1) := by decide +kernel
theorem d_118_34 : decode (js_b 118) 34 = .ok (.iadd, 1) := by decide +kernel
theorem d_118_35 : decode (js_b 118) 35 = .ok (.ireturn, 1) := by decide +kernel
theorem ki_118_15 : js_Ok 118 15 (o_ne 29 18) := js_St.ok (st_ifne (by decide) d_118_15)
theorem ki_118_12 : js_Ok 118 12 (o_cI 126 2 0 15) := ok_cI (site_S kk_118_126 kw_502 kw_310 d_118_12) rfl
theorem ki_118_10 : js_Ok 118 10 (o_ic 7 12) := js_St.ok (st_bipush rfl d_118_10)
theorem ki_118_9 : js_Ok 118 9 (o_il 1 10) := js_St.ok (st_iloadn rfl d_118_9)
theorem ki_118_6 : js_Ok 118 6 (o_eq 18 9) := js_St.ok (st_ifeq (by decide) d_118_6)
theorem ki_118_3 : js_Ok 118 3 (o_cI 126 2 0 6) := ok_cI (site_S kk_118_126 kw_502 kw_310 d_118_3) rfl
theorem ki_118_1 : js_Ok 118 1 (o_ic 7 3) := js_St.ok (st_bipush rfl d_118_1)
theorem ki_118_0 : js_Ok 118 0 (o_il 0 1) := js_St.ok (st_iloadn rfl d_118_0)
theorem ki_118_31 : js_Ok 118 31 (o_il 0 32) := js_St.ok (st_iloadn rfl d_118_31)
theorem ki_118_29 : js_Ok 118 29 (o_ic 8 31) := js_St.ok (st_bipush rfl d_118_29)
theorem ki_118_18 : js_Ok 118 18 (o_th "java/lang/IndexOutOfBoundsException") := ok_thw (text := "rows and columns are from 0 to 7") rfl (by decide) kw_391 kw_37 (by decide +kernel) kat_88 kot_88 d_118_18 d_118_21 d_118_22 d_118_25 d_118_28
theorem ki_118_35 : js_Ok 118 35 (o_rI) := ok_rI rfl d_118_35
theorem ki_118_34 : js_Ok 118 34 (o_b2 (fun x y => x + y) 35) := js_St.ok (st_iadd d_118_34)
theorem ki_118_33 : js_Ok 118 33 (o_il 1 34) := js_St.ok (st_iloadn rfl d_118_33)
theorem ki_118_32 : js_Ok 118 32 (o_b2 (fun x y => x * y) 33) := js_St.ok (st_imul d_118_32)
theorem d_119_0 : decode (js_b 119) 0 = .ok (.iload_n 1, 1) := by decide +kernel
theorem d_119_1 : decode (js_b 119) 1 = .ok (.iload_n 2, 1) := by decide +kernel
theorem d_119_2 : decode (js_b 119) 2 = .ok (.invokestatic 167, 3) := by decide +kernel
theorem d_119_5 : decode (js_b 119) 5 = .ok (.istore_n 3, 1) := by decide +kernel
theorem d_119_6 : decode (js_b 119) 6 = .ok (.aload_n 0, 1) := by decide +kernel
theorem d_119_7 : decode (js_b 119) 7 = .ok (.iload_n 3, 1) := by decide +kernel
theorem d_119_8 : decode (js_b 119) 8 = .ok (.invokevirtual 235, 3) := by decide +kernel
theorem d_119_11 : decode (js_b 119) 11 = .ok (.iload_n 3, 1) := by decide +kernel
theorem d_119_12 : decode (js_b 119) 12 = .ok (.ireturn, 1) := by decide +kernel
theorem ki_119_12 : js_Ok 119 12 (o_rI) := ok_rI rfl d_119_12
theorem ki_119_11 : js_Ok 119 11 (o_il 3 12) := js_St.ok (st_iloadn rfl d_119_11)
theorem ki_119_8 : js_Ok 119 8 (o_cV 120 2 8 11) := ok_cV (site_V kk_119_120 (by decide) kw_503 kw_505 ks_4 (fun t ht => by cases ht; exact Or.inl ⟨by decide, _, rfl, rfl⟩) d_119_8) rfl
theorem ki_119_7 : js_Ok 119 7 (o_il 3 8) := js_St.ok (st_iloadn rfl d_119_7)
theorem ki_119_6 : js_Ok 119 6 (o_al 0 7) := js_St.ok (st_aloadn rfl d_119_6)
theorem ki_119_5 : js_Ok 119 5 (o_is 3 6) := js_St.ok (st_istoren rfl (Nat.le_of_ble_eq_true rfl) d_119_5)
theorem ki_119_2 : js_Ok 119 2 (o_cI 118 2 0 5) := ok_cI (site_S kk_119_118 kw_499 kw_500 d_119_2) rfl
theorem ki_119_1 : js_Ok 119 1 (o_il 2 2) := js_St.ok (st_iloadn rfl d_119_1)
theorem ki_119_0 : js_Ok 119 0 (o_il 1 1) := js_St.ok (st_iloadn rfl d_119_0)
theorem d_120_0 : decode (js_b 120) 0 = .ok (.aload_n 0, 1) := by decide +kernel
theorem d_120_1 : decode (js_b 120) 1 = .ok (.getfield 10, 3) := by decide +kernel
theorem d_120_4 : decode (js_b 120) 4 = .ok (.iload_n 1, 1) := by decide +kernel
theorem d_120_5 : decode (js_b 120) 5 = .ok (.invokevirtual 188, 3) := by decide +kernel
theorem d_120_8 : decode (js_b 120) 8 = .ok (.ifCond .ne 14, 3) := by decide +kernel
theorem d_120_11 : decode (js_b 120) 11 = .ok (.new 343, 3) := by decide +kernel
theorem d_120_14 : decode (js_b 120) 14 = .ok (.dup, 1) := by decide +kernel
theorem d_120_15 : decode (js_b 120) 15 = .ok (.ldc_w 381, 3) := by decide +kernel
theorem d_120_18 : decode (js_b 120) 18 = .ok (.invokespecial 347, 3) := by decide +kernel
theorem d_120_21 : decode (js_b 120) 21 = .ok (.athrow, 1) := by decide +kernel
theorem d_120_22 : decode (js_b 120) 22 = .ok (.return_, 1) := by decide +kernel
theorem ki_120_11 : js_Ok 120 11 (o_th "java/lang/UnsupportedOperationException") := ok_thw (text := "the cell is not a gap") rfl (by decide) kw_523 kw_43 (by decide +kernel) kat_347 kot_347 d_120_11 d_120_14 d_120_15 d_120_18 d_120_21
theorem ki_120_8 : js_Ok 120 8 (o_ne 22 11) := js_St.ok (st_ifne (by decide) d_120_8)
theorem ki_120_5 : js_Ok 120 5 (o_cI 15 2 1 8) := ok_cI (site_V kk_120_15 (by decide) kw_507 kw_508 kw_509 (fun t ht => by cases ht; exact Or.inl ⟨by decide, _, rfl, rfl⟩) d_120_5) rfl
theorem ki_120_4 : js_Ok 120 4 (o_il 1 5) := js_St.ok (st_iloadn rfl d_120_4)
theorem ki_120_1 : js_Ok 120 1 (o_gA 7 0 4) := js_St.ok (st_gA js_c7 (by decide) (by decide) kw_230 d_120_1)
theorem ki_120_0 : js_Ok 120 0 (o_al 0 1) := js_St.ok (st_aloadn rfl d_120_0)
theorem ki_120_22 : js_Ok 120 22 (o_rV) := ok_rV rfl d_120_22
theorem d_121_0 : decode (js_b 121) 0 = .ok (.aload_n 0, 1) := by decide +kernel
theorem d_121_1 : decode (js_b 121) 1 = .ok (.getfield 29, 3) := by decide +kernel
theorem d_121_4 : decode (js_b 121) 4 = .ok (.aload_n 0, 1) := by decide +kernel
theorem d_121_5 : decode (js_b 121) 5 = .ok (.getfield 10, 3) := by decide +kernel
theorem d_121_8 : decode (js_b 121) 8 = .ok (.iload_n 1, 1) := by decide +kernel
theorem d_121_9 : decode (js_b 121) 9 = .ok (.invokevirtual 238, 3) := by decide +kernel
theorem d_121_12 : decode (js_b 121) 12 = .ok (.aload_n 0, 1) := by decide +kernel
theorem d_121_13 : decode (js_b 121) 13 = .ok (.getfield 29, 3) := by decide +kernel
theorem d_121_16 : decode (js_b 121) 16 = .ok (.aload_n 0, 1) := by decide +kernel
theorem d_121_17 : decode (js_b 121) 17 = .ok (.getfield 10, 3) := by decide +kernel
theorem d_121_20 : decode (js_b 121) 20 = .ok (.iload_n 2, 1) := by decide +kernel
theorem d_121_21 : decode (js_b 121) 21 = .ok (.invokevirtual 383, 3) := by decide +kernel
theorem d_121_24 : decode (js_b 121) 24 = .ok (.astore_n 3, 1) := by decide +kernel
theorem d_121_25 : decode (js_b 121) 25 = .ok (.aload_n 3, 1) := by decide +kernel
theorem d_121_26 : decode (js_b 121) 26 = .ok (.ifnonnull 14, 3) := by decide +kernel
theorem d_121_29 : decode (js_b 121) 29 = .ok (.new 170, 3) := by decide +kernel
theorem d_121_32 : decode (js_b 121) 32 = .ok (.dup, 1) := by decide +kernel
theorem d_121_33 : decode (js_b 121) 33 = .ok (.ldc_w 387, 3) := by decide +kernel
theorem d_121_36 : decode (js_b 121) 36 = .ok (.invokespecial 174, 3) := by decide +kernel
theorem d_121_39 : decode (js_b 121) 39 = .ok (.athrow, 1) := by decide +kernel
theorem d_121_40 : decode (js_b 121) 40 = .ok (.aload_n 3, 1) := by decide +kernel
theorem d_121_41 : decode (js_b 121) 41 = .ok (.areturn, 1) := by decide +kernel
theorem ki_121_13 : js_Ok 121 13 (o_gA 7 4 16) := js_St.ok (st_gA js_c7 (by decide) (by decide) kw_233 d_121_13)
theorem ki_121_12 : js_Ok 121 12 (o_al 0 13) := js_St.ok (st_aloadn rfl d_121_12)
theorem ki_121_9 : js_Ok 121 9 (o_cV 32 3 5 12) := ok_cV (site_V kk_121_32 (by decide) kw_543 kw_544 kw_545 (fun t ht => by cases ht; exact Or.inl ⟨by decide, _, rfl, rfl⟩) d_121_9) rfl
theorem ki_121_8 : js_Ok 121 8 (o_il 1 9) := js_St.ok (st_iloadn rfl d_121_8)
theorem ki_121_5 : js_Ok 121 5 (o_gA 7 0 8) := js_St.ok (st_gA js_c7 (by decide) (by decide) kw_230 d_121_5)
theorem ki_121_4 : js_Ok 121 4 (o_al 0 5) := js_St.ok (st_aloadn rfl d_121_4)
theorem ki_121_1 : js_Ok 121 1 (o_gA 7 4 4) := js_St.ok (st_gA js_c7 (by decide) (by decide) kw_233 d_121_1)
theorem ki_121_0 : js_Ok 121 0 (o_al 0 1) := js_St.ok (st_aloadn rfl d_121_0)
theorem ki_121_29 : js_Ok 121 29 (o_th "java/util/NoSuchElementException") := ok_tnw (text := "the tray has no such guess") kx0 kx1 kx2 kx5 rfl (by decide) kw_319 kw_36 (by decide +kernel) kat_174 kot_174 d_121_29 d_121_32 d_121_33 d_121_36 d_121_39
theorem ki_121_26 : js_Ok 121 26 (o_nnl 40 29) := js_St.ok (st_ifnonnull (by decide) d_121_26)
theorem ki_121_25 : js_Ok 121 25 (o_al 3 26) := js_St.ok (st_aloadn rfl d_121_25)
theorem ki_121_24 : js_Ok 121 24 (o_as 3 25) := js_St.ok (st_astoren rfl (Nat.le_of_ble_eq_true rfl) d_121_24)
theorem ki_121_21 : js_Ok 121 21 (o_cN 36 3 5 24) := ok_cN (site_V kk_121_36 (by decide) kw_555 kw_556 kw_557 (fun t ht => by cases ht; exact Or.inl ⟨by decide, _, rfl, rfl⟩) d_121_21) rfl
theorem ki_121_20 : js_Ok 121 20 (o_il 2 21) := js_St.ok (st_iloadn rfl d_121_20)
theorem ki_121_17 : js_Ok 121 17 (o_gA 7 0 20) := js_St.ok (st_gA js_c7 (by decide) (by decide) kw_230 d_121_17)
theorem ki_121_16 : js_Ok 121 16 (o_al 0 17) := js_St.ok (st_aloadn rfl d_121_16)
theorem ki_121_41 : js_Ok 121 41 (o_rA) := ok_rA (Or.inl ⟨_, rfl⟩) rfl d_121_41
theorem ki_121_40 : js_Ok 121 40 (o_al 3 41) := js_St.ok (st_aloadn rfl d_121_40)
theorem d_122_0 : decode (js_b 122) 0 = .ok (.iload_n 0, 1) := by decide +kernel
theorem d_122_1 : decode (js_b 122) 1 = .ok (.iconst 3, 1) := by decide +kernel
theorem d_122_2 : decode (js_b 122) 2 = .ok (.invokestatic 225, 3) := by decide +kernel
theorem d_122_5 : decode (js_b 122) 5 = .ok (.ifCond .ne 14, 3) := by decide +kernel
theorem d_122_8 : decode (js_b 122) 8 = .ok (.new 183, 3) := by decide +kernel
theorem d_122_11 : decode (js_b 122) 11 = .ok (.dup, 1) := by decide +kernel
theorem d_122_12 : decode (js_b 122) 12 = .ok (.ldc_w 389, 3) := by decide +kernel
theorem d_122_15 : decode (js_b 122) 15 = .ok (.invokespecial 187, 3) := by decide +kernel
theorem d_122_18 : decode (js_b 122) 18 = .ok (.athrow, 1) := by decide +kernel
theorem d_122_19 : decode (js_b 122) 19 = .ok (.return_, 1) := by decide +kernel
theorem ki_122_8 : js_Ok 122 8 (o_th "java/lang/IllegalArgumentException") := ok_thw (text := "a side is from 0 to 3") rfl (by decide) kw_407 kw_38 (by decide +kernel) kat_187 kot_187 d_122_8 d_122_11 d_122_12 d_122_15 d_122_18
theorem ki_122_5 : js_Ok 122 5 (o_ne 19 8) := js_St.ok (st_ifne (by decide) d_122_5)
theorem ki_122_2 : js_Ok 122 2 (o_cI 126 2 0 5) := ok_cI (site_S kk_122_126 kw_502 kw_310 d_122_2) rfl
theorem ki_122_1 : js_Ok 122 1 (o_ic 3 2) := js_St.ok (st_iconst rfl d_122_1)
theorem ki_122_0 : js_Ok 122 0 (o_il 0 1) := js_St.ok (st_iloadn rfl d_122_0)
theorem ki_122_19 : js_Ok 122 19 (o_rV) := ok_rV rfl d_122_19
theorem d_123_0 : decode (js_b 123) 0 = .ok (.aload_n 0, 1) := by decide +kernel
theorem d_123_1 : decode (js_b 123) 1 = .ok (.invokevirtual 116, 3) := by decide +kernel
theorem d_123_4 : decode (js_b 123) 4 = .ok (.ifCond .eq 14, 3) := by decide +kernel
theorem d_123_7 : decode (js_b 123) 7 = .ok (.new 305, 3) := by decide +kernel
theorem d_123_10 : decode (js_b 123) 10 = .ok (.dup, 1) := by decide +kernel
theorem d_123_11 : decode (js_b 123) 11 = .ok (.ldc_w 391, 3) := by decide +kernel
theorem d_123_14 : decode (js_b 123) 14 = .ok (.invokespecial 309, 3) := by decide +kernel
theorem d_123_17 : decode (js_b 123) 17 = .ok (.athrow, 1) := by decide +kernel
theorem d_123_18 : decode (js_b 123) 18 = .ok (.return_, 1) := by decide +kernel
theorem ki_123_7 : js_Ok 123 7 (o_th "java/lang/IllegalStateException") := ok_thw (text := "the fragment is placed") rfl (by decide) kw_423 kw_39 (by decide +kernel) kat_309 kot_309 d_123_7 d_123_10 d_123_11 d_123_14 d_123_17
theorem ki_123_4 : js_Ok 123 4 (o_eq 18 7) := js_St.ok (st_ifeq (by decide) d_123_4)
theorem ki_123_1 : js_Ok 123 1 (o_cI 21 1 3 4) := ok_cI (site_V kk_123_21 (by decide) kw_654 kw_299 kw_300 (fun t ht => by cases ht; exact Or.inl ⟨by decide, _, rfl, rfl⟩) d_123_1) rfl
theorem ki_123_0 : js_Ok 123 0 (o_al 0 1) := js_St.ok (st_aloadn rfl d_123_0)
theorem ki_123_18 : js_Ok 123 18 (o_rV) := ok_rV rfl d_123_18
theorem d_124_0 : decode (js_b 124) 0 = .ok (.aload_n 0, 1) := by decide +kernel
theorem d_124_1 : decode (js_b 124) 1 = .ok (.getfield 10, 3) := by decide +kernel
theorem d_124_4 : decode (js_b 124) 4 = .ok (.getfield 164, 3) := by decide +kernel
theorem d_124_7 : decode (js_b 124) 7 = .ok (.iload_n 1, 1) := by decide +kernel
theorem d_124_8 : decode (js_b 124) 8 = .ok (.aaload, 1) := by decide +kernel
theorem d_124_9 : decode (js_b 124) 9 = .ok (.astore_n 2, 1) := by decide +kernel
theorem d_124_10 : decode (js_b 124) 10 = .ok (.aload_n 2, 1) := by decide +kernel
theorem d_124_11 : decode (js_b 124) 11 = .ok (.ifnull 8, 3) := by decide +kernel
theorem d_124_14 : decode (js_b 124) 14 = .ok (.aload_n 2, 1) := by decide +kernel
theorem d_124_15 : decode (js_b 124) 15 = .ok (.getfield 102, 3) := by decide +kernel
theorem d_124_18 : decode (js_b 124) 18 = .ok (.ireturn, 1) := by decide +kernel
theorem d_124_19 : decode (js_b 124) 19 = .ok (.aload_n 0, 1) := by decide +kernel
theorem d_124_20 : decode (js_b 124) 20 = .ok (.getfield 10, 3) := by decide +kernel
theorem d_124_23 : decode (js_b 124) 23 = .ok (.iload_n 1, 1) := by decide +kernel
theorem d_124_24 : decode (js_b 124) 24 = .ok (.invokevirtual 188, 3) := by decide +kernel
theorem d_124_27 : decode (js_b 124) 27 = .ok (.ifCond .eq 8, 3) := by decide +kernel
theorem d_124_30 : decode (js_b 124) 30 = .ok (.bipush 43, 2) := by decide +kernel
theorem d_124_32 : decode (js_b 124) 32 = .ok (.goto 5, 3) := by decide +kernel
theorem d_124_35 : decode (js_b 124) 35 = .ok (.bipush 46, 2) := by decide +kernel
theorem d_124_37 : decode (js_b 124) 37 = .ok (.ireturn, 1) := by decide +kernel
theorem ki_124_15 : js_Ok 124 15 (o_gI 2 1 18) := js_St.ok (st_gIn js_c2 (by decide) (by decide) kn_87 d_124_15)
theorem ki_124_14 : js_Ok 124 14 (o_al 2 15) := js_St.ok (st_aloadn rfl d_124_14)
theorem ki_124_11 : js_Ok 124 11 (o_nul 19 14) := js_St.ok (st_ifnull (by decide) d_124_11)
theorem ki_124_10 : js_Ok 124 10 (o_al 2 11) := js_St.ok (st_aloadn rfl d_124_10)
theorem ki_124_9 : js_Ok 124 9 (o_as 2 10) := js_St.ok (st_astoren rfl (Nat.le_of_ble_eq_true rfl) d_124_9)
theorem ki_124_8 : js_Ok 124 8 (o_lN 111 9) := js_St.ok (st_lN (by decide) rfl d_124_8)
theorem ki_124_7 : js_Ok 124 7 (o_il 1 8) := js_St.ok (st_iloadn rfl d_124_7)
theorem ki_124_4 : js_Ok 124 4 (o_gA 0 1 7) := js_St.ok (st_gAn js_c0 (by decide) (by decide) kn_116 d_124_4)
theorem ki_124_1 : js_Ok 124 1 (o_gA 7 0 4) := js_St.ok (st_gA js_c7 (by decide) (by decide) kw_230 d_124_1)
theorem ki_124_0 : js_Ok 124 0 (o_al 0 1) := js_St.ok (st_aloadn rfl d_124_0)
theorem ki_124_30 : js_Ok 124 30 (o_ic 43 32) := js_St.ok (st_bipush rfl d_124_30)
theorem ki_124_27 : js_Ok 124 27 (o_eq 35 30) := js_St.ok (st_ifeq (by decide) d_124_27)
theorem ki_124_24 : js_Ok 124 24 (o_cI 15 2 1 27) := ok_cI (site_V kk_124_15 (by decide) kw_507 kw_508 kw_509 (fun t ht => by cases ht; exact Or.inl ⟨by decide, _, rfl, rfl⟩) d_124_24) rfl
theorem ki_124_23 : js_Ok 124 23 (o_il 1 24) := js_St.ok (st_iloadn rfl d_124_23)
theorem ki_124_20 : js_Ok 124 20 (o_gA 7 0 23) := js_St.ok (st_gA js_c7 (by decide) (by decide) kw_230 d_124_20)
theorem ki_124_19 : js_Ok 124 19 (o_al 0 20) := js_St.ok (st_aloadn rfl d_124_19)
theorem ki_124_18 : js_Ok 124 18 (o_rC) := ok_rC rfl d_124_18
theorem ki_124_37 : js_Ok 124 37 (o_rC) := ok_rC rfl d_124_37
theorem ki_124_35 : js_Ok 124 35 (o_ic 46 37) := js_St.ok (st_bipush rfl d_124_35)
theorem ki_124_32 : js_Ok 124 32 (o_go 37) := js_St.ok (st_goto (by decide) d_124_32)
theorem d_125_0 : decode (js_b 125) 0 = .ok (.aload_n 1, 1) := by decide +kernel
theorem d_125_1 : decode (js_b 125) 1 = .ok (.getfield 393, 3) := by decide +kernel
theorem d_125_4 : decode (js_b 125) 4 = .ok (.astore_n 2, 1) := by decide +kernel
theorem d_125_5 : decode (js_b 125) 5 = .ok (.getstatic 399, 3) := by decide +kernel
theorem d_125_8 : decode (js_b 125) 8 = .ok (.aload_n 1, 1) := by decide +kernel
theorem d_125_9 : decode (js_b 125) 9 = .ok (.getfield 404, 3) := by decide +kernel
theorem d_125_12 : decode (js_b 125) 12 = .ok (.invokevirtual 408, 3) := by decide +kernel
theorem d_125_15 : decode (js_b 125) 15 = .ok (.iaload, 1) := by decide +kernel
theorem d_125_16 : decode (js_b 125) 16 = .ok (.tableswitch 131 1 6 #[40, 64, 81, 92, 106, 120], 40) := by decide +kernel
theorem d_125_56 : decode (js_b 125) 56 = .ok (.aload_n 0, 1) := by decide +kernel
theorem d_125_57 : decode (js_b 125) 57 = .ok (.getfield 10, 3) := by decide +kernel
theorem d_125_60 : decode (js_b 125) 60 = .ok (.aload_n 2, 1) := by decide +kernel
theorem d_125_61 : decode (js_b 125) 61 = .ok (.iconst 0, 1) := by decide +kernel
theorem d_125_62 : decode (js_b 125) 62 = .ok (.iaload, 1) := by decide +kernel
theorem d_125_63 : decode (js_b 125) 63 = .ok (.i2c, 1) := by decide +kernel
theorem d_125_64 : decode (js_b 125) 64 = .ok (.aload_n 2, 1) := by decide +kernel
theorem d_125_65 : decode (js_b 125) 65 = .ok (.iconst 1, 1) := by decide +kernel
theorem d_125_66 : decode (js_b 125) 66 = .ok (.iaload, 1) := by decide +kernel
theorem d_125_67 : decode (js_b 125) 67 = .ok (.aload_n 2, 1) := by decide +kernel
theorem d_125_68 : decode (js_b 125) 68 = .ok (.iconst 2, 1) := by decide +kernel
theorem d_125_69 : decode (js_b 125) 69 = .ok (.iaload, 1) := by decide +kernel
theorem d_125_70 : decode (js_b 125) 70 = .ok (.aload_n 2, 1) := by decide +kernel
theorem d_125_71 : decode (js_b 125) 71 = .ok (.iconst 3, 1) := by decide +kernel
theorem d_125_72 : decode (js_b 125) 72 = .ok (.iaload, 1) := by decide +kernel
theorem d_125_73 : decode (js_b 125) 73 = .ok (.aload_n 2, 1) := by decide +kernel
theorem d_125_74 : decode (js_b 125) 74 = .ok (.iconst 4, 1) := by decide +kernel
theorem d_125_75 : decode (js_b 125) 75 = .ok (.iaload, 1) := by decide +kernel
theorem d_125_76 : decode (js_b 125) 76 = .ok (.invokevirtual 62, 3) := by decide +kernel
theorem d_125_79 : decode (js_b 125) 79 = .ok (.ireturn, 1) := by decide +kernel
theorem d_125_80 : decode (js_b 125) 80 = .ok (.aload_n 0, 1) := by decide +kernel
theorem d_125_81 : decode (js_b 125) 81 = .ok (.getfield 10, 3) := by decide +kernel
theorem d_125_84 : decode (js_b 125) 84 = .ok (.aload_n 2, 1) := by decide +kernel
theorem d_125_85 : decode (js_b 125) 85 = .ok (.iconst 0, 1) := by decide +kernel
theorem d_125_86 : decode (js_b 125) 86 = .ok (.iaload, 1) := by decide +kernel
theorem d_125_87 : decode (js_b 125) 87 = .ok (.aload_n 2, 1) := by decide +kernel
theorem d_125_88 : decode (js_b 125) 88 = .ok (.iconst 2, 1) := by decide +kernel
theorem d_125_89 : decode (js_b 125) 89 = .ok (.iaload, 1) := by decide +kernel
theorem d_125_90 : decode (js_b 125) 90 = .ok (.aload_n 2, 1) := by decide +kernel
theorem d_125_91 : decode (js_b 125) 91 = .ok (.iconst 3, 1) := by decide +kernel
theorem d_125_92 : decode (js_b 125) 92 = .ok (.iaload, 1) := by decide +kernel
theorem d_125_93 : decode (js_b 125) 93 = .ok (.invokevirtual 135, 3) := by decide +kernel
theorem d_125_96 : decode (js_b 125) 96 = .ok (.ireturn, 1) := by decide +kernel
theorem d_125_97 : decode (js_b 125) 97 = .ok (.aload_n 0, 1) := by decide +kernel
theorem d_125_98 : decode (js_b 125) 98 = .ok (.getfield 10, 3) := by decide +kernel
theorem d_125_101 : decode (js_b 125) 101 = .ok (.aload_n 2, 1) := by decide +kernel
theorem d_125_102 : decode (js_b 125) 102 = .ok (.iconst 0, 1) := by decide +kernel
theorem d_125_103 : decode (js_b 125) 103 = .ok (.iaload, 1) := by decide +kernel
theorem d_125_104 : decode (js_b 125) 104 = .ok (.invokevirtual 139, 3) := by decide +kernel
theorem d_125_107 : decode (js_b 125) 107 = .ok (.ireturn, 1) := by decide +kernel
theorem d_125_108 : decode (js_b 125) 108 = .ok (.aload_n 0, 1) := by decide +kernel
theorem d_125_109 : decode (js_b 125) 109 = .ok (.getfield 10, 3) := by decide +kernel
theorem d_125_112 : decode (js_b 125) 112 = .ok (.aload_n 2, 1) := by decide +kernel
theorem d_125_113 : decode (js_b 125) 113 = .ok (.iconst 0, 1) := by decide +kernel
theorem d_125_114 : decode (js_b 125) 114 = .ok (.iaload, 1) := by decide +kernel
theorem d_125_115 : decode (js_b 125) 115 = .ok (.aload_n 2, 1) := by decide +kernel
theorem d_125_116 : decode (js_b 125) 116 = .ok (.iconst 2, 1) := by decide +kernel
theorem d_125_117 : decode (js_b 125) 117 = .ok (.iaload, 1) := by decide +kernel
theorem d_125_118 : decode (js_b 125) 118 = .ok (.invokevirtual 142, 3) := by decide +kernel
theorem d_125_121 : decode (js_b 125) 121 = .ok (.ireturn, 1) := by decide +kernel
theorem d_125_122 : decode (js_b 125) 122 = .ok (.aload_n 0, 1) := by decide +kernel
theorem d_125_123 : decode (js_b 125) 123 = .ok (.getfield 10, 3) := by decide +kernel
theorem d_125_126 : decode (js_b 125) 126 = .ok (.aload_n 2, 1) := by decide +kernel
theorem d_125_127 : decode (js_b 125) 127 = .ok (.iconst 0, 1) := by decide +kernel
theorem d_125_128 : decode (js_b 125) 128 = .ok (.iaload, 1) := by decide +kernel
theorem d_125_129 : decode (js_b 125) 129 = .ok (.aload_n 2, 1) := by decide +kernel
theorem d_125_130 : decode (js_b 125) 130 = .ok (.iconst 2, 1) := by decide +kernel
theorem d_125_131 : decode (js_b 125) 131 = .ok (.iaload, 1) := by decide +kernel
theorem d_125_132 : decode (js_b 125) 132 = .ok (.invokevirtual 146, 3) := by decide +kernel
theorem d_125_135 : decode (js_b 125) 135 = .ok (.ireturn, 1) := by decide +kernel
theorem d_125_136 : decode (js_b 125) 136 = .ok (.aload_n 0, 1) := by decide +kernel
theorem d_125_137 : decode (js_b 125) 137 = .ok (.getfield 10, 3) := by decide +kernel
theorem d_125_140 : decode (js_b 125) 140 = .ok (.aload_n 2, 1) := by decide +kernel
theorem d_125_141 : decode (js_b 125) 141 = .ok (.iconst 0, 1) := by decide +kernel
theorem d_125_142 : decode (js_b 125) 142 = .ok (.iaload, 1) := by decide +kernel
theorem d_125_143 : decode (js_b 125) 143 = .ok (.invokevirtual 70, 3) := by decide +kernel
theorem d_125_146 : decode (js_b 125) 146 = .ok (.ireturn, 1) := by decide +kernel
theorem d_125_147 : decode (js_b 125) 147 = .ok (.aload_n 0, 1) := by decide +kernel
theorem d_125_148 : decode (js_b 125) 148 = .ok (.getfield 29, 3) := by decide +kernel
theorem d_125_151 : decode (js_b 125) 151 = .ok (.aload_n 0, 1) := by decide +kernel
theorem d_125_152 : decode (js_b 125) 152 = .ok (.getfield 10, 3) := by decide +kernel
theorem d_125_155 : decode (js_b 125) 155 = .ok (.invokevirtual 160, 3) := by decide +kernel
theorem d_125_158 : decode (js_b 125) 158 = .ok (.ireturn, 1) := by decide +kernel
theorem ki_125_15 : js_Ok 125 15 (o_lI 100 16) := js_St.ok (st_lI d_125_15)
theorem ki_125_12 : js_Ok 125 12 (o_cI 241 1 22 15) := ok_cI (site_U kk_125_241 (by decide) rfl kw_1440 kw_1441 kw_1443 kw_1444 rfl (fun t ht => by cases ht; exact Or.inr (Or.inr ⟨rfl, rfl⟩)) d_125_12) rfl
theorem ki_125_9 : js_Ok 125 9 (o_gA 1 0 12) := js_St.ok (st_gAn js_c1 (by decide) (by decide) kn_202 d_125_9)
theorem ki_125_8 : js_Ok 125 8 (o_al 1 9) := js_St.ok (st_aloadn rfl d_125_8)
theorem ki_125_5 : js_Ok 125 5 (o_rc 0 8) := js_St.ok (st_gsR (by decide +kernel) kw_1438 d_125_5)
theorem ki_125_4 : js_Ok 125 4 (o_as 2 5) := js_St.ok (st_astoren rfl (Nat.le_of_ble_eq_true rfl) d_125_4)
theorem ki_125_1 : js_Ok 125 1 (o_gA 1 1 4) := js_St.ok (st_gAn js_c1 (by decide) (by decide) kn_205 d_125_1)
theorem ki_125_0 : js_Ok 125 0 (o_al 1 1) := js_St.ok (st_aloadn rfl d_125_0)
theorem ki_125_16 : js_Ok 125 16 (o_sw 147 [(1, 56), (2, 80), (3, 97), (4, 108), (5, 122), (6, 136)]) := js_St.ok (st_tsw (by decide +kernel) (by decide +kernel) (by decide +kernel) d_125_16)
theorem ki_125_63 : js_Ok 125 63 (o_u (fun x => (x.toUInt32 % 65536).toInt32) 64) := js_St.ok (st_i2c d_125_63)
theorem ki_125_62 : js_Ok 125 62 (o_lI 100 63) := js_St.ok (st_lI d_125_62)
theorem ki_125_61 : js_Ok 125 61 (o_ic 0 62) := js_St.ok (st_iconst rfl d_125_61)
theorem ki_125_60 : js_Ok 125 60 (o_al 2 61) := js_St.ok (st_aloadn rfl d_125_60)
theorem ki_125_57 : js_Ok 125 57 (o_gA 7 0 60) := js_St.ok (st_gA js_c7 (by decide) (by decide) kw_230 d_125_57)
theorem ki_125_56 : js_Ok 125 56 (o_al 0 57) := js_St.ok (st_aloadn rfl d_125_56)
theorem ki_125_79 : js_Ok 125 79 (o_rI) := ok_rI rfl d_125_79
theorem ki_125_76 : js_Ok 125 76 (o_cI 6 6 1 79) := ok_cI (site_V kk_125_6 (by decide) kw_302 kw_303 kw_304 (fun t ht => by cases ht; exact Or.inl ⟨by decide, _, rfl, rfl⟩) d_125_76) rfl
theorem ki_125_75 : js_Ok 125 75 (o_lI 100 76) := js_St.ok (st_lI d_125_75)
theorem ki_125_74 : js_Ok 125 74 (o_ic 4 75) := js_St.ok (st_iconst rfl d_125_74)
theorem ki_125_73 : js_Ok 125 73 (o_al 2 74) := js_St.ok (st_aloadn rfl d_125_73)
theorem ki_125_72 : js_Ok 125 72 (o_lI 100 73) := js_St.ok (st_lI d_125_72)
theorem ki_125_71 : js_Ok 125 71 (o_ic 3 72) := js_St.ok (st_iconst rfl d_125_71)
theorem ki_125_70 : js_Ok 125 70 (o_al 2 71) := js_St.ok (st_aloadn rfl d_125_70)
theorem ki_125_69 : js_Ok 125 69 (o_lI 100 70) := js_St.ok (st_lI d_125_69)
theorem ki_125_68 : js_Ok 125 68 (o_ic 2 69) := js_St.ok (st_iconst rfl d_125_68)
theorem ki_125_67 : js_Ok 125 67 (o_al 2 68) := js_St.ok (st_aloadn rfl d_125_67)
theorem ki_125_66 : js_Ok 125 66 (o_lI 100 67) := js_St.ok (st_lI d_125_66)
theorem ki_125_65 : js_Ok 125 65 (o_ic 1 66) := js_St.ok (st_iconst rfl d_125_65)
theorem ki_125_64 : js_Ok 125 64 (o_al 2 65) := js_St.ok (st_aloadn rfl d_125_64)
theorem ki_125_93 : js_Ok 125 93 (o_cI 8 4 1 96) := ok_cI (site_V kk_125_8 (by decide) kw_595 kw_596 kw_597 (fun t ht => by cases ht; exact Or.inl ⟨by decide, _, rfl, rfl⟩) d_125_93) rfl
theorem ki_125_92 : js_Ok 125 92 (o_lI 100 93) := js_St.ok (st_lI d_125_92)
theorem ki_125_91 : js_Ok 125 91 (o_ic 3 92) := js_St.ok (st_iconst rfl d_125_91)
theorem ki_125_90 : js_Ok 125 90 (o_al 2 91) := js_St.ok (st_aloadn rfl d_125_90)
theorem ki_125_89 : js_Ok 125 89 (o_lI 100 90) := js_St.ok (st_lI d_125_89)
theorem ki_125_88 : js_Ok 125 88 (o_ic 2 89) := js_St.ok (st_iconst rfl d_125_88)
theorem ki_125_87 : js_Ok 125 87 (o_al 2 88) := js_St.ok (st_aloadn rfl d_125_87)
theorem ki_125_86 : js_Ok 125 86 (o_lI 100 87) := js_St.ok (st_lI d_125_86)
theorem ki_125_85 : js_Ok 125 85 (o_ic 0 86) := js_St.ok (st_iconst rfl d_125_85)
theorem ki_125_84 : js_Ok 125 84 (o_al 2 85) := js_St.ok (st_aloadn rfl d_125_84)
theorem ki_125_81 : js_Ok 125 81 (o_gA 7 0 84) := js_St.ok (st_gA js_c7 (by decide) (by decide) kw_230 d_125_81)
theorem ki_125_80 : js_Ok 125 80 (o_al 0 81) := js_St.ok (st_aloadn rfl d_125_80)
theorem ki_125_109 : js_Ok 125 109 (o_gA 7 0 112) := js_St.ok (st_gA js_c7 (by decide) (by decide) kw_230 d_125_109)
theorem ki_125_108 : js_Ok 125 108 (o_al 0 109) := js_St.ok (st_aloadn rfl d_125_108)
theorem ki_125_107 : js_Ok 125 107 (o_rI) := ok_rI rfl d_125_107
theorem ki_125_104 : js_Ok 125 104 (o_cI 10 2 1 107) := ok_cI (site_V kk_125_10 (by decide) kw_617 kw_618 kw_619 (fun t ht => by cases ht; exact Or.inl ⟨by decide, _, rfl, rfl⟩) d_125_104) rfl
theorem ki_125_103 : js_Ok 125 103 (o_lI 100 104) := js_St.ok (st_lI d_125_103)
theorem ki_125_102 : js_Ok 125 102 (o_ic 0 103) := js_St.ok (st_iconst rfl d_125_102)
theorem ki_125_101 : js_Ok 125 101 (o_al 2 102) := js_St.ok (st_aloadn rfl d_125_101)
theorem ki_125_98 : js_Ok 125 98 (o_gA 7 0 101) := js_St.ok (st_gA js_c7 (by decide) (by decide) kw_230 d_125_98)
theorem ki_125_97 : js_Ok 125 97 (o_al 0 98) := js_St.ok (st_aloadn rfl d_125_97)
theorem ki_125_96 : js_Ok 125 96 (o_rI) := ok_rI rfl d_125_96
theorem ki_125_127 : js_Ok 125 127 (o_ic 0 128) := js_St.ok (st_iconst rfl d_125_127)
theorem ki_125_126 : js_Ok 125 126 (o_al 2 127) := js_St.ok (st_aloadn rfl d_125_126)
theorem ki_125_123 : js_Ok 125 123 (o_gA 7 0 126) := js_St.ok (st_gA js_c7 (by decide) (by decide) kw_230 d_125_123)
theorem ki_125_122 : js_Ok 125 122 (o_al 0 123) := js_St.ok (st_aloadn rfl d_125_122)
theorem ki_125_121 : js_Ok 125 121 (o_rI) := ok_rI rfl d_125_121
theorem ki_125_118 : js_Ok 125 118 (o_cI 11 3 1 121) := ok_cI (site_V kk_125_11 (by decide) kw_454 kw_455 kw_456 (fun t ht => by cases ht; exact Or.inl ⟨by decide, _, rfl, rfl⟩) d_125_118) rfl
theorem ki_125_117 : js_Ok 125 117 (o_lI 100 118) := js_St.ok (st_lI d_125_117)
theorem ki_125_116 : js_Ok 125 116 (o_ic 2 117) := js_St.ok (st_iconst rfl d_125_116)
theorem ki_125_115 : js_Ok 125 115 (o_al 2 116) := js_St.ok (st_aloadn rfl d_125_115)
theorem ki_125_114 : js_Ok 125 114 (o_lI 100 115) := js_St.ok (st_lI d_125_114)
theorem ki_125_113 : js_Ok 125 113 (o_ic 0 114) := js_St.ok (st_iconst rfl d_125_113)
theorem ki_125_112 : js_Ok 125 112 (o_al 2 113) := js_St.ok (st_aloadn rfl d_125_112)
theorem ki_125_143 : js_Ok 125 143 (o_cI 7 2 1 146) := ok_cI (site_V kk_125_7 (by decide) kw_1327 kw_1328 kw_1329 (fun t ht => by cases ht; exact Or.inl ⟨by decide, _, rfl, rfl⟩) d_125_143) rfl
theorem ki_125_142 : js_Ok 125 142 (o_lI 100 143) := js_St.ok (st_lI d_125_142)
theorem ki_125_141 : js_Ok 125 141 (o_ic 0 142) := js_St.ok (st_iconst rfl d_125_141)
theorem ki_125_140 : js_Ok 125 140 (o_al 2 141) := js_St.ok (st_aloadn rfl d_125_140)
theorem ki_125_137 : js_Ok 125 137 (o_gA 7 0 140) := js_St.ok (st_gA js_c7 (by decide) (by decide) kw_230 d_125_137)
theorem ki_125_136 : js_Ok 125 136 (o_al 0 137) := js_St.ok (st_aloadn rfl d_125_136)
theorem ki_125_135 : js_Ok 125 135 (o_rI) := ok_rI rfl d_125_135
theorem ki_125_132 : js_Ok 125 132 (o_cI 12 3 1 135) := ok_cI (site_V kk_125_12 (by decide) kw_1338 kw_1339 kw_1340 (fun t ht => by cases ht; exact Or.inl ⟨by decide, _, rfl, rfl⟩) d_125_132) rfl
theorem ki_125_131 : js_Ok 125 131 (o_lI 100 132) := js_St.ok (st_lI d_125_131)
theorem ki_125_130 : js_Ok 125 130 (o_ic 2 131) := js_St.ok (st_iconst rfl d_125_130)
theorem ki_125_129 : js_Ok 125 129 (o_al 2 130) := js_St.ok (st_aloadn rfl d_125_129)
theorem ki_125_128 : js_Ok 125 128 (o_lI 100 129) := js_St.ok (st_lI d_125_128)
theorem ki_125_158 : js_Ok 125 158 (o_rI) := ok_rI rfl d_125_158
theorem ki_125_155 : js_Ok 125 155 (o_cI 41 2 5 158) := ok_cI (site_V kk_125_41 (by decide) kw_1347 kw_1348 kw_1349 (fun t ht => by cases ht; exact Or.inl ⟨by decide, _, rfl, rfl⟩) d_125_155) rfl
theorem ki_125_152 : js_Ok 125 152 (o_gA 7 0 155) := js_St.ok (st_gA js_c7 (by decide) (by decide) kw_230 d_125_152)
theorem ki_125_151 : js_Ok 125 151 (o_al 0 152) := js_St.ok (st_aloadn rfl d_125_151)
theorem ki_125_148 : js_Ok 125 148 (o_gA 7 4 151) := js_St.ok (st_gA js_c7 (by decide) (by decide) kw_233 d_125_148)
theorem ki_125_147 : js_Ok 125 147 (o_al 0 148) := js_St.ok (st_aloadn rfl d_125_147)
theorem ki_125_146 : js_Ok 125 146 (o_rI) := ok_rI rfl d_125_146
theorem d_126_0 : decode (js_b 126) 0 = .ok (.iload_n 0, 1) := by decide +kernel
theorem d_126_1 : decode (js_b 126) 1 = .ok (.ifCond .lt 12, 3) := by decide +kernel
theorem d_126_4 : decode (js_b 126) 4 = .ok (.iload_n 0, 1) := by decide +kernel
theorem d_126_5 : decode (js_b 126) 5 = .ok (.iload_n 1, 1) := by decide +kernel
theorem d_126_6 : decode (js_b 126) 6 = .ok (.if_icmp .gt 7, 3) := by decide +kernel
theorem d_126_9 : decode (js_b 126) 9 = .ok (.iconst 1, 1) := by decide +kernel
theorem d_126_10 : decode (js_b 126) 10 = .ok (.goto 4, 3) := by decide +kernel
theorem d_126_13 : decode (js_b 126) 13 = .ok (.iconst 0, 1) := by decide +kernel
theorem d_126_14 : decode (js_b 126) 14 = .ok (.ireturn, 1) := by decide +kernel
theorem ki_126_14 : js_Ok 126 14 (o_rZ) := ok_rZ rfl d_126_14
theorem ki_126_13 : js_Ok 126 13 (o_ic 0 14) := js_St.ok (st_iconst rfl d_126_13)
theorem ki_126_10 : js_Ok 126 10 (o_go 14) := js_St.ok (st_goto (by decide) d_126_10)
theorem ki_126_9 : js_Ok 126 9 (o_ic 1 10) := js_St.ok (st_iconst rfl d_126_9)
theorem ki_126_6 : js_Ok 126 6 (o_cgt 13 9) := js_St.ok (st_icgt (by decide) d_126_6)
theorem ki_126_5 : js_Ok 126 5 (o_il 1 6) := js_St.ok (st_iloadn rfl d_126_5)
theorem ki_126_4 : js_Ok 126 4 (o_il 0 5) := js_St.ok (st_iloadn rfl d_126_4)
theorem ki_126_1 : js_Ok 126 1 (o_lt 13 4) := js_St.ok (st_iflt (by decide) d_126_1)
theorem ki_126_0 : js_Ok 126 0 (o_il 0 1) := js_St.ok (st_iloadn rfl d_126_0)
theorem d_127_0 : decode (js_b 127) 0 = .ok (.iload_n 0, 1) := by decide +kernel
theorem d_127_1 : decode (js_b 127) 1 = .ok (.bipush 97, 2) := by decide +kernel
theorem d_127_3 : decode (js_b 127) 3 = .ok (.if_icmp .lt 13, 3) := by decide +kernel
theorem d_127_6 : decode (js_b 127) 6 = .ok (.iload_n 0, 1) := by decide +kernel
theorem d_127_7 : decode (js_b 127) 7 = .ok (.bipush 102, 2) := by decide +kernel
theorem d_127_9 : decode (js_b 127) 9 = .ok (.if_icmp .gt 7, 3) := by decide +kernel
theorem d_127_12 : decode (js_b 127) 12 = .ok (.iconst 1, 1) := by decide +kernel
theorem d_127_13 : decode (js_b 127) 13 = .ok (.goto 4, 3) := by decide +kernel
theorem d_127_16 : decode (js_b 127) 16 = .ok (.iconst 0, 1) := by decide +kernel
theorem d_127_17 : decode (js_b 127) 17 = .ok (.ireturn, 1) := by decide +kernel
theorem ki_127_13 : js_Ok 127 13 (o_go 17) := js_St.ok (st_goto (by decide) d_127_13)
theorem ki_127_12 : js_Ok 127 12 (o_ic 1 13) := js_St.ok (st_iconst rfl d_127_12)
theorem ki_127_9 : js_Ok 127 9 (o_cgt 16 12) := js_St.ok (st_icgt (by decide) d_127_9)
theorem ki_127_7 : js_Ok 127 7 (o_ic 102 9) := js_St.ok (st_bipush rfl d_127_7)
theorem ki_127_6 : js_Ok 127 6 (o_il 0 7) := js_St.ok (st_iloadn rfl d_127_6)
theorem ki_127_3 : js_Ok 127 3 (o_clt 16 6) := js_St.ok (st_iclt (by decide) d_127_3)
theorem ki_127_1 : js_Ok 127 1 (o_ic 97 3) := js_St.ok (st_bipush rfl d_127_1)
theorem ki_127_0 : js_Ok 127 0 (o_il 0 1) := js_St.ok (st_iloadn rfl d_127_0)
theorem ki_127_17 : js_Ok 127 17 (o_rZ) := ok_rZ rfl d_127_17
theorem ki_127_16 : js_Ok 127 16 (o_ic 0 17) := js_St.ok (st_iconst rfl d_127_16)
theorem d_128_0 : decode (js_b 128) 0 = .ok (.iload_n 0, 1) := by decide +kernel
theorem d_128_1 : decode (js_b 128) 1 = .ok (.iconst 2, 1) := by decide +kernel
theorem d_128_2 : decode (js_b 128) 2 = .ok (.iadd, 1) := by decide +kernel
theorem d_128_3 : decode (js_b 128) 3 = .ok (.iconst 3, 1) := by decide +kernel
theorem d_128_4 : decode (js_b 128) 4 = .ok (.iand, 1) := by decide +kernel
theorem d_128_5 : decode (js_b 128) 5 = .ok (.ireturn, 1) := by decide +kernel
theorem ki_128_5 : js_Ok 128 5 (o_rI) := ok_rI rfl d_128_5
theorem ki_128_4 : js_Ok 128 4 (o_b2 (fun x y => x &&& y) 5) := js_St.ok (st_iand d_128_4)
theorem ki_128_3 : js_Ok 128 3 (o_ic 3 4) := js_St.ok (st_iconst rfl d_128_3)
theorem ki_128_2 : js_Ok 128 2 (o_b2 (fun x y => x + y) 3) := js_St.ok (st_iadd d_128_2)
theorem ki_128_1 : js_Ok 128 1 (o_ic 2 2) := js_St.ok (st_iconst rfl d_128_1)
theorem ki_128_0 : js_Ok 128 0 (o_il 0 1) := js_St.ok (st_iloadn rfl d_128_0)
theorem d_129_0 : decode (js_b 129) 0 = .ok (.lconst 1, 1) := by decide +kernel
theorem d_129_1 : decode (js_b 129) 1 = .ok (.iload_n 0, 1) := by decide +kernel
theorem d_129_2 : decode (js_b 129) 2 = .ok (.lshl, 1) := by decide +kernel
theorem d_129_3 : decode (js_b 129) 3 = .ok (.lreturn, 1) := by decide +kernel
theorem ki_129_3 : js_Ok 129 3 (o_rL) := ok_rL rfl d_129_3
theorem ki_129_2 : js_Ok 129 2 (o_Sh (fun x y => x <<< (y.toInt64 &&& 63)) 3) := js_St.ok (st_lshl d_129_2)
theorem ki_129_1 : js_Ok 129 1 (o_il 0 2) := js_St.ok (st_iloadn rfl d_129_1)
theorem ki_129_0 : js_Ok 129 0 (o_lc 1 1) := js_St.ok (st_lconst rfl d_129_0)
theorem d_130_0 : decode (js_b 130) 0 = .ok (.iload_n 0, 1) := by decide +kernel
theorem d_130_1 : decode (js_b 130) 1 = .ok (.bipush 10, 2) := by decide +kernel
theorem d_130_3 : decode (js_b 130) 3 = .ok (.if_icmp .ge 10, 3) := by decide +kernel
theorem d_130_6 : decode (js_b 130) 6 = .ok (.bipush 48, 2) := by decide +kernel
theorem d_130_8 : decode (js_b 130) 8 = .ok (.iload_n 0, 1) := by decide +kernel
theorem d_130_9 : decode (js_b 130) 9 = .ok (.iadd, 1) := by decide +kernel
theorem d_130_10 : decode (js_b 130) 10 = .ok (.goto 10, 3) := by decide +kernel
theorem d_130_13 : decode (js_b 130) 13 = .ok (.bipush 97, 2) := by decide +kernel
theorem d_130_15 : decode (js_b 130) 15 = .ok (.iload_n 0, 1) := by decide +kernel
theorem d_130_16 : decode (js_b 130) 16 = .ok (.iadd, 1) := by decide +kernel
theorem d_130_17 : decode (js_b 130) 17 = .ok (.bipush 10, 2) := by decide +kernel
theorem d_130_19 : decode (js_b 130) 19 = .ok (.isub, 1) := by decide +kernel
theorem d_130_20 : decode (js_b 130) 20 = .ok (.i2c, 1) := by decide +kernel
theorem d_130_21 : decode (js_b 130) 21 = .ok (.ireturn, 1) := by decide +kernel
theorem ki_130_15 : js_Ok 130 15 (o_il 0 16) := js_St.ok (st_iloadn rfl d_130_15)
theorem ki_130_13 : js_Ok 130 13 (o_ic 97 15) := js_St.ok (st_bipush rfl d_130_13)
theorem ki_130_10 : js_Ok 130 10 (o_go 20) := js_St.ok (st_goto (by decide) d_130_10)
theorem ki_130_9 : js_Ok 130 9 (o_b2 (fun x y => x + y) 10) := js_St.ok (st_iadd d_130_9)
theorem ki_130_8 : js_Ok 130 8 (o_il 0 9) := js_St.ok (st_iloadn rfl d_130_8)
theorem ki_130_6 : js_Ok 130 6 (o_ic 48 8) := js_St.ok (st_bipush rfl d_130_6)
theorem ki_130_3 : js_Ok 130 3 (o_cge 13 6) := js_St.ok (st_icge (by decide) d_130_3)
theorem ki_130_1 : js_Ok 130 1 (o_ic 10 3) := js_St.ok (st_bipush rfl d_130_1)
theorem ki_130_0 : js_Ok 130 0 (o_il 0 1) := js_St.ok (st_iloadn rfl d_130_0)
theorem ki_130_21 : js_Ok 130 21 (o_rC) := ok_rC rfl d_130_21
theorem ki_130_20 : js_Ok 130 20 (o_u (fun x => (x.toUInt32 % 65536).toInt32) 21) := js_St.ok (st_i2c d_130_20)
theorem ki_130_19 : js_Ok 130 19 (o_b2 (fun x y => x - y) 20) := js_St.ok (st_isub d_130_19)
theorem ki_130_17 : js_Ok 130 17 (o_ic 10 19) := js_St.ok (st_bipush rfl d_130_17)
theorem ki_130_16 : js_Ok 130 16 (o_b2 (fun x y => x + y) 17) := js_St.ok (st_iadd d_130_16)
theorem d_131_0 : decode (js_b 131) 0 = .ok (.iload_n 0, 1) := by decide +kernel
theorem d_131_1 : decode (js_b 131) 1 = .ok (.bipush 48, 2) := by decide +kernel
theorem d_131_3 : decode (js_b 131) 3 = .ok (.if_icmp .lt 16, 3) := by decide +kernel
theorem d_131_6 : decode (js_b 131) 6 = .ok (.iload_n 0, 1) := by decide +kernel
theorem d_131_7 : decode (js_b 131) 7 = .ok (.bipush 57, 2) := by decide +kernel
theorem d_131_9 : decode (js_b 131) 9 = .ok (.if_icmp .gt 10, 3) := by decide +kernel
theorem d_131_12 : decode (js_b 131) 12 = .ok (.iload_n 0, 1) := by decide +kernel
theorem d_131_13 : decode (js_b 131) 13 = .ok (.bipush 48, 2) := by decide +kernel
theorem d_131_15 : decode (js_b 131) 15 = .ok (.isub, 1) := by decide +kernel
theorem d_131_16 : decode (js_b 131) 16 = .ok (.goto 4, 3) := by decide +kernel
theorem d_131_19 : decode (js_b 131) 19 = .ok (.iconst (-1), 1) := by decide +kernel
theorem d_131_20 : decode (js_b 131) 20 = .ok (.ireturn, 1) := by decide +kernel
theorem ki_131_15 : js_Ok 131 15 (o_b2 (fun x y => x - y) 16) := js_St.ok (st_isub d_131_15)
theorem ki_131_13 : js_Ok 131 13 (o_ic 48 15) := js_St.ok (st_bipush rfl d_131_13)
theorem ki_131_12 : js_Ok 131 12 (o_il 0 13) := js_St.ok (st_iloadn rfl d_131_12)
theorem ki_131_9 : js_Ok 131 9 (o_cgt 19 12) := js_St.ok (st_icgt (by decide) d_131_9)
theorem ki_131_7 : js_Ok 131 7 (o_ic 57 9) := js_St.ok (st_bipush rfl d_131_7)
theorem ki_131_6 : js_Ok 131 6 (o_il 0 7) := js_St.ok (st_iloadn rfl d_131_6)
theorem ki_131_3 : js_Ok 131 3 (o_clt 19 6) := js_St.ok (st_iclt (by decide) d_131_3)
theorem ki_131_1 : js_Ok 131 1 (o_ic 48 3) := js_St.ok (st_bipush rfl d_131_1)
theorem ki_131_0 : js_Ok 131 0 (o_il 0 1) := js_St.ok (st_iloadn rfl d_131_0)
theorem ki_131_20 : js_Ok 131 20 (o_rI) := ok_rI rfl d_131_20
theorem ki_131_19 : js_Ok 131 19 (o_ic (-1) 20) := js_St.ok (st_iconst rfl d_131_19)
theorem ki_131_16 : js_Ok 131 16 (o_go 20) := js_St.ok (st_goto (by decide) d_131_16)
theorem d_132_0 : decode (js_b 132) 0 = .ok (.fload_n 0, 1) := by decide +kernel
theorem d_132_1 : decode (js_b 132) 1 = .ok (.fconst 0, 1) := by decide +kernel
theorem d_132_2 : decode (js_b 132) 2 = .ok (.fcmp .g, 1) := by decide +kernel
theorem d_132_3 : decode (js_b 132) 3 = .ok (.ifCond .gt 5, 3) := by decide +kernel
theorem d_132_6 : decode (js_b 132) 6 = .ok (.iconst 0, 1) := by decide +kernel
theorem d_132_7 : decode (js_b 132) 7 = .ok (.ireturn, 1) := by decide +kernel
theorem d_132_8 : decode (js_b 132) 8 = .ok (.fload_n 0, 1) := by decide +kernel
theorem d_132_9 : decode (js_b 132) 9 = .ok (.fstore_n 1, 1) := by decide +kernel
theorem d_132_10 : decode (js_b 132) 10 = .ok (.bipush 127, 2) := by decide +kernel
theorem d_132_12 : decode (js_b 132) 12 = .ok (.istore_n 2, 1) := by decide +kernel
theorem d_132_13 : decode (js_b 132) 13 = .ok (.iconst 0, 1) := by decide +kernel
theorem d_132_14 : decode (js_b 132) 14 = .ok (.istore_n 3, 1) := by decide +kernel
theorem d_132_15 : decode (js_b 132) 15 = .ok (.iload_n 3, 1) := by decide +kernel
theorem d_132_16 : decode (js_b 132) 16 = .ok (.bipush 126, 2) := by decide +kernel
theorem d_132_18 : decode (js_b 132) 18 = .ok (.if_icmp .ge 22, 3) := by decide +kernel
theorem d_132_21 : decode (js_b 132) 21 = .ok (.fload_n 1, 1) := by decide +kernel
theorem d_132_22 : decode (js_b 132) 22 = .ok (.fconst 1, 1) := by decide +kernel
theorem d_132_23 : decode (js_b 132) 23 = .ok (.fcmp .g, 1) := by decide +kernel
theorem d_132_24 : decode (js_b 132) 24 = .ok (.ifCond .ge 16, 3) := by decide +kernel
theorem d_132_27 : decode (js_b 132) 27 = .ok (.fload_n 1, 1) := by decide +kernel
theorem d_132_28 : decode (js_b 132) 28 = .ok (.fconst 2, 1) := by decide +kernel
theorem d_132_29 : decode (js_b 132) 29 = .ok (.fmul, 1) := by decide +kernel
theorem d_132_30 : decode (js_b 132) 30 = .ok (.fstore_n 1, 1) := by decide +kernel
theorem d_132_31 : decode (js_b 132) 31 = .ok (.iinc 2 (-1), 3) := by decide +kernel
theorem d_132_34 : decode (js_b 132) 34 = .ok (.iinc 3 1, 3) := by decide +kernel
theorem d_132_37 : decode (js_b 132) 37 = .ok (.goto (-22), 3) := by decide +kernel
theorem d_132_40 : decode (js_b 132) 40 = .ok (.iload_n 2, 1) := by decide +kernel
theorem d_132_41 : decode (js_b 132) 41 = .ok (.bipush 23, 2) := by decide +kernel
theorem d_132_43 : decode (js_b 132) 43 = .ok (.ishl, 1) := by decide +kernel
theorem d_132_44 : decode (js_b 132) 44 = .ok (.fload_n 1, 1) := by decide +kernel
theorem d_132_45 : decode (js_b 132) 45 = .ok (.fconst 1, 1) := by decide +kernel
theorem d_132_46 : decode (js_b 132) 46 = .ok (.fsub, 1) := by decide +kernel
theorem d_132_47 : decode (js_b 132) 47 = .ok (.ldc_w 413, 3) := by decide +kernel
theorem d_132_50 : decode (js_b 132) 50 = .ok (.fmul, 1) := by decide +kernel
theorem d_132_51 : decode (js_b 132) 51 = .ok (.f2i, 1) := by decide +kernel
theorem d_132_52 : decode (js_b 132) 52 = .ok (.ior, 1) := by decide +kernel
theorem d_132_53 : decode (js_b 132) 53 = .ok (.ireturn, 1) := by decide +kernel
theorem ki_132_15 : js_Ok 132 15 (o_il 3 16) := js_St.ok (st_iloadn rfl d_132_15)
theorem ki_132_14 : js_Ok 132 14 (o_is 3 15) := js_St.ok (st_istoren rfl (Nat.le_of_ble_eq_true rfl) d_132_14)
theorem ki_132_13 : js_Ok 132 13 (o_ic 0 14) := js_St.ok (st_iconst rfl d_132_13)
theorem ki_132_12 : js_Ok 132 12 (o_is 2 13) := js_St.ok (st_istoren rfl (Nat.le_of_ble_eq_true rfl) d_132_12)
theorem ki_132_10 : js_Ok 132 10 (o_ic 127 12) := js_St.ok (st_bipush rfl d_132_10)
theorem ki_132_9 : js_Ok 132 9 (o_fs 1 10) := js_St.ok (st_fstoren rfl (Nat.le_of_ble_eq_true rfl) d_132_9)
theorem ki_132_8 : js_Ok 132 8 (o_fl 0 9) := js_St.ok (st_floadn rfl d_132_8)
theorem ki_132_7 : js_Ok 132 7 (o_rI) := ok_rI rfl d_132_7
theorem ki_132_6 : js_Ok 132 6 (o_ic 0 7) := js_St.ok (st_iconst rfl d_132_6)
theorem ki_132_3 : js_Ok 132 3 (o_gt 8 6) := js_St.ok (st_ifgt (by decide) d_132_3)
theorem ki_132_2 : js_Ok 132 2 (o_fcmp .g 3) := js_St.ok (st_fcmp d_132_2)
theorem ki_132_1 : js_Ok 132 1 (o_fc FP.fconst0 2) := js_St.ok (st_fconst0 d_132_1)
theorem ki_132_0 : js_Ok 132 0 (o_fl 0 1) := js_St.ok (st_floadn rfl d_132_0)
theorem ki_132_31 : js_Ok 132 31 (o_inc 2 (-1) 34) := js_St.ok (st_iinc rfl (Nat.le_of_ble_eq_true rfl) d_132_31)
theorem ki_132_30 : js_Ok 132 30 (o_fs 1 31) := js_St.ok (st_fstoren rfl (Nat.le_of_ble_eq_true rfl) d_132_30)
theorem ki_132_29 : js_Ok 132 29 (o_F2 FP.fmul 30) := js_St.ok (st_fmul d_132_29)
theorem ki_132_28 : js_Ok 132 28 (o_fc FP.fconst2 29) := js_St.ok (st_fconst2 d_132_28)
theorem ki_132_27 : js_Ok 132 27 (o_fl 1 28) := js_St.ok (st_floadn rfl d_132_27)
theorem ki_132_24 : js_Ok 132 24 (o_ge 40 27) := js_St.ok (st_ifge (by decide) d_132_24)
theorem ki_132_23 : js_Ok 132 23 (o_fcmp .g 24) := js_St.ok (st_fcmp d_132_23)
theorem ki_132_22 : js_Ok 132 22 (o_fc FP.fconst1 23) := js_St.ok (st_fconst1 d_132_22)
theorem ki_132_21 : js_Ok 132 21 (o_fl 1 22) := js_St.ok (st_floadn rfl d_132_21)
theorem ki_132_18 : js_Ok 132 18 (o_cge 40 21) := js_St.ok (st_icge (by decide) d_132_18)
theorem ki_132_16 : js_Ok 132 16 (o_ic 126 18) := js_St.ok (st_bipush rfl d_132_16)
theorem ki_132_47 : js_Ok 132 47 (o_fc 1258291200 50) := js_St.ok (st_ldcfw kw_845 d_132_47)
theorem ki_132_46 : js_Ok 132 46 (o_F2 FP.fsub 47) := js_St.ok (st_fsub d_132_46)
theorem ki_132_45 : js_Ok 132 45 (o_fc FP.fconst1 46) := js_St.ok (st_fconst1 d_132_45)
theorem ki_132_44 : js_Ok 132 44 (o_fl 1 45) := js_St.ok (st_floadn rfl d_132_44)
theorem ki_132_43 : js_Ok 132 43 (o_b2 (fun x y => x <<< (y &&& 31)) 44) := js_St.ok (st_ishl d_132_43)
theorem ki_132_41 : js_Ok 132 41 (o_ic 23 43) := js_St.ok (st_bipush rfl d_132_41)
theorem ki_132_40 : js_Ok 132 40 (o_il 2 41) := js_St.ok (st_iloadn rfl d_132_40)
theorem ki_132_37 : js_Ok 132 37 (o_go 15) := js_St.ok (st_goto (by decide) d_132_37)
theorem ki_132_34 : js_Ok 132 34 (o_inc 3 1 37) := js_St.ok (st_iinc rfl (Nat.le_of_ble_eq_true rfl) d_132_34)
theorem ki_132_53 : js_Ok 132 53 (o_rI) := ok_rI rfl d_132_53
theorem ki_132_52 : js_Ok 132 52 (o_b2 (fun x y => x ||| y) 53) := js_St.ok (st_ior d_132_52)
theorem ki_132_51 : js_Ok 132 51 (o_f2i 52) := js_St.ok (st_f2i d_132_51)
theorem ki_132_50 : js_Ok 132 50 (o_F2 FP.fmul 51) := js_St.ok (st_fmul d_132_50)
theorem d_241_0 : decode (js_b 241) 0 = .ok (.aload_n 0, 1) := by decide +kernel
theorem d_241_1 : decode (js_b 241) 1 = .ok (.getfield 7, 3) := by decide +kernel
theorem d_241_4 : decode (js_b 241) 4 = .ok (.ireturn, 1) := by decide +kernel
theorem ki_241_4 : js_Ok 241 4 (o_rI) := ok_rI rfl d_241_4
theorem ki_241_1 : js_Ok 241 1 (o_gI 21 0 4) := js_St.ok (st_gIc (by decide) (by decide) kw_1497 d_241_1)
theorem ki_241_0 : js_Ok 241 0 (o_al 0 1) := js_St.ok (st_aloadn rfl d_241_0)
theorem d_242_0 : decode (js_b 242) 0 = .ok (.fload_n 0, 1) := by decide +kernel
theorem d_242_1 : decode (js_b 242) 1 = .ok (.fload_n 0, 1) := by decide +kernel
theorem d_242_2 : decode (js_b 242) 2 = .ok (.fcmp .l, 1) := by decide +kernel
theorem d_242_3 : decode (js_b 242) 3 = .ok (.ifCond .eq 7, 3) := by decide +kernel
theorem d_242_6 : decode (js_b 242) 6 = .ok (.iconst 1, 1) := by decide +kernel
theorem d_242_7 : decode (js_b 242) 7 = .ok (.goto 4, 3) := by decide +kernel
theorem d_242_10 : decode (js_b 242) 10 = .ok (.iconst 0, 1) := by decide +kernel
theorem d_242_11 : decode (js_b 242) 11 = .ok (.ireturn, 1) := by decide +kernel
theorem ki_242_11 : js_Ok 242 11 (o_rZ) := ok_rZ rfl d_242_11
theorem ki_242_10 : js_Ok 242 10 (o_ic 0 11) := js_St.ok (st_iconst rfl d_242_10)
theorem ki_242_7 : js_Ok 242 7 (o_go 11) := js_St.ok (st_goto (by decide) d_242_7)
theorem ki_242_6 : js_Ok 242 6 (o_ic 1 7) := js_St.ok (st_iconst rfl d_242_6)
theorem ki_242_3 : js_Ok 242 3 (o_eq 10 6) := js_St.ok (st_ifeq (by decide) d_242_3)
theorem ki_242_2 : js_Ok 242 2 (o_fcmp .l 3) := js_St.ok (st_fcmp d_242_2)
theorem ki_242_1 : js_Ok 242 1 (o_fl 0 2) := js_St.ok (st_floadn rfl d_242_1)
theorem ki_242_0 : js_Ok 242 0 (o_fl 0 1) := js_St.ok (st_floadn rfl d_242_0)
theorem d_243_0 : decode (js_b 243) 0 = .ok (.fload_n 0, 1) := by decide +kernel
theorem d_243_1 : decode (js_b 243) 1 = .ok (.invokestatic 59, 3) := by decide +kernel
theorem d_243_4 : decode (js_b 243) 4 = .ok (.ifCond .ne 8, 3) := by decide +kernel
theorem d_243_7 : decode (js_b 243) 7 = .ok (.fload_n 0, 1) := by decide +kernel
theorem d_243_8 : decode (js_b 243) 8 = .ok (.invokestatic 74, 3) := by decide +kernel
theorem d_243_11 : decode (js_b 243) 11 = .ok (.ireturn, 1) := by decide +kernel
theorem d_243_12 : decode (js_b 243) 12 = .ok (.ldc 77, 2) := by decide +kernel
theorem d_243_14 : decode (js_b 243) 14 = .ok (.ireturn, 1) := by decide +kernel
theorem ki_243_14 : js_Ok 243 14 (o_rI) := ok_rI rfl d_243_14
theorem ki_243_12 : js_Ok 243 12 (o_ic 2143289344 14) := js_St.ok (st_ldc kw_855 d_243_12)
theorem ki_243_11 : js_Ok 243 11 (o_rI) := ok_rI rfl d_243_11
theorem ki_243_8 : js_Ok 243 8 (o_raw 11) := js_St.ok (st_raw kw_852 kw_854 kw_853 kw_48 d_243_8)
theorem ki_243_7 : js_Ok 243 7 (o_fl 0 8) := js_St.ok (st_floadn rfl d_243_7)
theorem ki_243_4 : js_Ok 243 4 (o_ne 12 7) := js_St.ok (st_ifne (by decide) d_243_4)
theorem ki_243_1 : js_Ok 243 1 (o_cI 242 1 0 4) := ok_cI (site_S kk_243_242 kw_849 kw_850 d_243_1) rfl
theorem ki_243_0 : js_Ok 243 0 (o_fl 0 1) := js_St.ok (st_floadn rfl d_243_0)
theorem d_244_0 : decode (js_b 244) 0 = .ok (.iload_n 0, 1) := by decide +kernel
theorem d_244_1 : decode (js_b 244) 1 = .ok (.iload_n 0, 1) := by decide +kernel
theorem d_244_2 : decode (js_b 244) 2 = .ok (.iconst 1, 1) := by decide +kernel
theorem d_244_3 : decode (js_b 244) 3 = .ok (.iushr, 1) := by decide +kernel
theorem d_244_4 : decode (js_b 244) 4 = .ok (.ldc_w 265, 3) := by decide +kernel
theorem d_244_7 : decode (js_b 244) 7 = .ok (.iand, 1) := by decide +kernel
theorem d_244_8 : decode (js_b 244) 8 = .ok (.isub, 1) := by decide +kernel
theorem d_244_9 : decode (js_b 244) 9 = .ok (.istore_n 0, 1) := by decide +kernel
theorem d_244_10 : decode (js_b 244) 10 = .ok (.iload_n 0, 1) := by decide +kernel
theorem d_244_11 : decode (js_b 244) 11 = .ok (.ldc_w 266, 3) := by decide +kernel
theorem d_244_14 : decode (js_b 244) 14 = .ok (.iand, 1) := by decide +kernel
theorem d_244_15 : decode (js_b 244) 15 = .ok (.iload_n 0, 1) := by decide +kernel
theorem d_244_16 : decode (js_b 244) 16 = .ok (.iconst 2, 1) := by decide +kernel
theorem d_244_17 : decode (js_b 244) 17 = .ok (.iushr, 1) := by decide +kernel
theorem d_244_18 : decode (js_b 244) 18 = .ok (.ldc_w 266, 3) := by decide +kernel
theorem d_244_21 : decode (js_b 244) 21 = .ok (.iand, 1) := by decide +kernel
theorem d_244_22 : decode (js_b 244) 22 = .ok (.iadd, 1) := by decide +kernel
theorem d_244_23 : decode (js_b 244) 23 = .ok (.istore_n 0, 1) := by decide +kernel
theorem d_244_24 : decode (js_b 244) 24 = .ok (.iload_n 0, 1) := by decide +kernel
theorem d_244_25 : decode (js_b 244) 25 = .ok (.iload_n 0, 1) := by decide +kernel
theorem d_244_26 : decode (js_b 244) 26 = .ok (.iconst 4, 1) := by decide +kernel
theorem d_244_27 : decode (js_b 244) 27 = .ok (.iushr, 1) := by decide +kernel
theorem d_244_28 : decode (js_b 244) 28 = .ok (.iadd, 1) := by decide +kernel
theorem d_244_29 : decode (js_b 244) 29 = .ok (.ldc_w 267, 3) := by decide +kernel
theorem d_244_32 : decode (js_b 244) 32 = .ok (.iand, 1) := by decide +kernel
theorem d_244_33 : decode (js_b 244) 33 = .ok (.istore_n 0, 1) := by decide +kernel
theorem d_244_34 : decode (js_b 244) 34 = .ok (.iload_n 0, 1) := by decide +kernel
theorem d_244_35 : decode (js_b 244) 35 = .ok (.iload_n 0, 1) := by decide +kernel
theorem d_244_36 : decode (js_b 244) 36 = .ok (.bipush 8, 2) := by decide +kernel
theorem d_244_38 : decode (js_b 244) 38 = .ok (.iushr, 1) := by decide +kernel
theorem d_244_39 : decode (js_b 244) 39 = .ok (.iadd, 1) := by decide +kernel
theorem d_244_40 : decode (js_b 244) 40 = .ok (.istore_n 0, 1) := by decide +kernel
theorem d_244_41 : decode (js_b 244) 41 = .ok (.iload_n 0, 1) := by decide +kernel
theorem d_244_42 : decode (js_b 244) 42 = .ok (.iload_n 0, 1) := by decide +kernel
theorem d_244_43 : decode (js_b 244) 43 = .ok (.bipush 16, 2) := by decide +kernel
theorem d_244_45 : decode (js_b 244) 45 = .ok (.iushr, 1) := by decide +kernel
theorem d_244_46 : decode (js_b 244) 46 = .ok (.iadd, 1) := by decide +kernel
theorem d_244_47 : decode (js_b 244) 47 = .ok (.istore_n 0, 1) := by decide +kernel
theorem d_244_48 : decode (js_b 244) 48 = .ok (.iload_n 0, 1) := by decide +kernel
theorem d_244_49 : decode (js_b 244) 49 = .ok (.bipush 63, 2) := by decide +kernel
theorem d_244_51 : decode (js_b 244) 51 = .ok (.iand, 1) := by decide +kernel
theorem d_244_52 : decode (js_b 244) 52 = .ok (.ireturn, 1) := by decide +kernel
theorem ki_244_15 : js_Ok 244 15 (o_il 0 16) := js_St.ok (st_iloadn rfl d_244_15)
theorem ki_244_14 : js_Ok 244 14 (o_b2 (fun x y => x &&& y) 15) := js_St.ok (st_iand d_244_14)
theorem ki_244_11 : js_Ok 244 11 (o_ic 858993459 14) := js_St.ok (st_ldcw kw_766 d_244_11)
theorem ki_244_10 : js_Ok 244 10 (o_il 0 11) := js_St.ok (st_iloadn rfl d_244_10)
theorem ki_244_9 : js_Ok 244 9 (o_is 0 10) := js_St.ok (st_istoren rfl (Nat.le_of_ble_eq_true rfl) d_244_9)
theorem ki_244_8 : js_Ok 244 8 (o_b2 (fun x y => x - y) 9) := js_St.ok (st_isub d_244_8)
theorem ki_244_7 : js_Ok 244 7 (o_b2 (fun x y => x &&& y) 8) := js_St.ok (st_iand d_244_7)
theorem ki_244_4 : js_Ok 244 4 (o_ic 1431655765 7) := js_St.ok (st_ldcw kw_765 d_244_4)
theorem ki_244_3 : js_Ok 244 3 (o_b2 (fun x y => (x.toUInt32 >>> (y.toUInt32 &&& Int32.toUInt32 31)).toInt32) 4) := js_St.ok (st_iushr d_244_3)
theorem ki_244_2 : js_Ok 244 2 (o_ic 1 3) := js_St.ok (st_iconst rfl d_244_2)
theorem ki_244_1 : js_Ok 244 1 (o_il 0 2) := js_St.ok (st_iloadn rfl d_244_1)
theorem ki_244_0 : js_Ok 244 0 (o_il 0 1) := js_St.ok (st_iloadn rfl d_244_0)
theorem ki_244_29 : js_Ok 244 29 (o_ic 252645135 32) := js_St.ok (st_ldcw kw_767 d_244_29)
theorem ki_244_28 : js_Ok 244 28 (o_b2 (fun x y => x + y) 29) := js_St.ok (st_iadd d_244_28)
theorem ki_244_27 : js_Ok 244 27 (o_b2 (fun x y => (x.toUInt32 >>> (y.toUInt32 &&& Int32.toUInt32 31)).toInt32) 28) := js_St.ok (st_iushr d_244_27)
theorem ki_244_26 : js_Ok 244 26 (o_ic 4 27) := js_St.ok (st_iconst rfl d_244_26)
theorem ki_244_25 : js_Ok 244 25 (o_il 0 26) := js_St.ok (st_iloadn rfl d_244_25)
theorem ki_244_24 : js_Ok 244 24 (o_il 0 25) := js_St.ok (st_iloadn rfl d_244_24)
theorem ki_244_23 : js_Ok 244 23 (o_is 0 24) := js_St.ok (st_istoren rfl (Nat.le_of_ble_eq_true rfl) d_244_23)
theorem ki_244_22 : js_Ok 244 22 (o_b2 (fun x y => x + y) 23) := js_St.ok (st_iadd d_244_22)
theorem ki_244_21 : js_Ok 244 21 (o_b2 (fun x y => x &&& y) 22) := js_St.ok (st_iand d_244_21)
theorem ki_244_18 : js_Ok 244 18 (o_ic 858993459 21) := js_St.ok (st_ldcw kw_766 d_244_18)
theorem ki_244_17 : js_Ok 244 17 (o_b2 (fun x y => (x.toUInt32 >>> (y.toUInt32 &&& Int32.toUInt32 31)).toInt32) 18) := js_St.ok (st_iushr d_244_17)
theorem ki_244_16 : js_Ok 244 16 (o_ic 2 17) := js_St.ok (st_iconst rfl d_244_16)
theorem ki_244_47 : js_Ok 244 47 (o_is 0 48) := js_St.ok (st_istoren rfl (Nat.le_of_ble_eq_true rfl) d_244_47)
theorem ki_244_46 : js_Ok 244 46 (o_b2 (fun x y => x + y) 47) := js_St.ok (st_iadd d_244_46)
theorem ki_244_45 : js_Ok 244 45 (o_b2 (fun x y => (x.toUInt32 >>> (y.toUInt32 &&& Int32.toUInt32 31)).toInt32) 46) := js_St.ok (st_iushr d_244_45)
theorem ki_244_43 : js_Ok 244 43 (o_ic 16 45) := js_St.ok (st_bipush rfl d_244_43)
theorem ki_244_42 : js_Ok 244 42 (o_il 0 43) := js_St.ok (st_iloadn rfl d_244_42)
theorem ki_244_41 : js_Ok 244 41 (o_il 0 42) := js_St.ok (st_iloadn rfl d_244_41)
theorem ki_244_40 : js_Ok 244 40 (o_is 0 41) := js_St.ok (st_istoren rfl (Nat.le_of_ble_eq_true rfl) d_244_40)
theorem ki_244_39 : js_Ok 244 39 (o_b2 (fun x y => x + y) 40) := js_St.ok (st_iadd d_244_39)
theorem ki_244_38 : js_Ok 244 38 (o_b2 (fun x y => (x.toUInt32 >>> (y.toUInt32 &&& Int32.toUInt32 31)).toInt32) 39) := js_St.ok (st_iushr d_244_38)
theorem ki_244_36 : js_Ok 244 36 (o_ic 8 38) := js_St.ok (st_bipush rfl d_244_36)
theorem ki_244_35 : js_Ok 244 35 (o_il 0 36) := js_St.ok (st_iloadn rfl d_244_35)
theorem ki_244_34 : js_Ok 244 34 (o_il 0 35) := js_St.ok (st_iloadn rfl d_244_34)
theorem ki_244_33 : js_Ok 244 33 (o_is 0 34) := js_St.ok (st_istoren rfl (Nat.le_of_ble_eq_true rfl) d_244_33)
theorem ki_244_32 : js_Ok 244 32 (o_b2 (fun x y => x &&& y) 33) := js_St.ok (st_iand d_244_32)
theorem ki_244_52 : js_Ok 244 52 (o_rI) := ok_rI rfl d_244_52
theorem ki_244_51 : js_Ok 244 51 (o_b2 (fun x y => x &&& y) 52) := js_St.ok (st_iand d_244_51)
theorem ki_244_49 : js_Ok 244 49 (o_ic 63 51) := js_St.ok (st_bipush rfl d_244_49)
theorem ki_244_48 : js_Ok 244 48 (o_il 0 49) := js_St.ok (st_iloadn rfl d_244_48)
theorem d_245_0 : decode (js_b 245) 0 = .ok (.lload_n 0, 1) := by decide +kernel
theorem d_245_1 : decode (js_b 245) 1 = .ok (.lload_n 0, 1) := by decide +kernel
theorem d_245_2 : decode (js_b 245) 2 = .ok (.iconst 1, 1) := by decide +kernel
theorem d_245_3 : decode (js_b 245) 3 = .ok (.lushr, 1) := by decide +kernel
theorem d_245_4 : decode (js_b 245) 4 = .ok (.ldc2_w 314, 3) := by decide +kernel
theorem d_245_7 : decode (js_b 245) 7 = .ok (.land, 1) := by decide +kernel
theorem d_245_8 : decode (js_b 245) 8 = .ok (.lsub, 1) := by decide +kernel
theorem d_245_9 : decode (js_b 245) 9 = .ok (.lstore_n 0, 1) := by decide +kernel
theorem d_245_10 : decode (js_b 245) 10 = .ok (.lload_n 0, 1) := by decide +kernel
theorem d_245_11 : decode (js_b 245) 11 = .ok (.ldc2_w 316, 3) := by decide +kernel
theorem d_245_14 : decode (js_b 245) 14 = .ok (.land, 1) := by decide +kernel
theorem d_245_15 : decode (js_b 245) 15 = .ok (.lload_n 0, 1) := by decide +kernel
theorem d_245_16 : decode (js_b 245) 16 = .ok (.iconst 2, 1) := by decide +kernel
theorem d_245_17 : decode (js_b 245) 17 = .ok (.lushr, 1) := by decide +kernel
theorem d_245_18 : decode (js_b 245) 18 = .ok (.ldc2_w 316, 3) := by decide +kernel
theorem d_245_21 : decode (js_b 245) 21 = .ok (.land, 1) := by decide +kernel
theorem d_245_22 : decode (js_b 245) 22 = .ok (.ladd, 1) := by decide +kernel
theorem d_245_23 : decode (js_b 245) 23 = .ok (.lstore_n 0, 1) := by decide +kernel
theorem d_245_24 : decode (js_b 245) 24 = .ok (.lload_n 0, 1) := by decide +kernel
theorem d_245_25 : decode (js_b 245) 25 = .ok (.lload_n 0, 1) := by decide +kernel
theorem d_245_26 : decode (js_b 245) 26 = .ok (.iconst 4, 1) := by decide +kernel
theorem d_245_27 : decode (js_b 245) 27 = .ok (.lushr, 1) := by decide +kernel
theorem d_245_28 : decode (js_b 245) 28 = .ok (.ladd, 1) := by decide +kernel
theorem d_245_29 : decode (js_b 245) 29 = .ok (.ldc2_w 318, 3) := by decide +kernel
theorem d_245_32 : decode (js_b 245) 32 = .ok (.land, 1) := by decide +kernel
theorem d_245_33 : decode (js_b 245) 33 = .ok (.lstore_n 0, 1) := by decide +kernel
theorem d_245_34 : decode (js_b 245) 34 = .ok (.lload_n 0, 1) := by decide +kernel
theorem d_245_35 : decode (js_b 245) 35 = .ok (.lload_n 0, 1) := by decide +kernel
theorem d_245_36 : decode (js_b 245) 36 = .ok (.bipush 8, 2) := by decide +kernel
theorem d_245_38 : decode (js_b 245) 38 = .ok (.lushr, 1) := by decide +kernel
theorem d_245_39 : decode (js_b 245) 39 = .ok (.ladd, 1) := by decide +kernel
theorem d_245_40 : decode (js_b 245) 40 = .ok (.lstore_n 0, 1) := by decide +kernel
theorem d_245_41 : decode (js_b 245) 41 = .ok (.lload_n 0, 1) := by decide +kernel
theorem d_245_42 : decode (js_b 245) 42 = .ok (.lload_n 0, 1) := by decide +kernel
theorem d_245_43 : decode (js_b 245) 43 = .ok (.bipush 16, 2) := by decide +kernel
theorem d_245_45 : decode (js_b 245) 45 = .ok (.lushr, 1) := by decide +kernel
theorem d_245_46 : decode (js_b 245) 46 = .ok (.ladd, 1) := by decide +kernel
theorem d_245_47 : decode (js_b 245) 47 = .ok (.lstore_n 0, 1) := by decide +kernel
theorem d_245_48 : decode (js_b 245) 48 = .ok (.lload_n 0, 1) := by decide +kernel
theorem d_245_49 : decode (js_b 245) 49 = .ok (.lload_n 0, 1) := by decide +kernel
theorem d_245_50 : decode (js_b 245) 50 = .ok (.bipush 32, 2) := by decide +kernel
theorem d_245_52 : decode (js_b 245) 52 = .ok (.lushr, 1) := by decide +kernel
theorem d_245_53 : decode (js_b 245) 53 = .ok (.ladd, 1) := by decide +kernel
theorem d_245_54 : decode (js_b 245) 54 = .ok (.lstore_n 0, 1) := by decide +kernel
theorem d_245_55 : decode (js_b 245) 55 = .ok (.lload_n 0, 1) := by decide +kernel
theorem d_245_56 : decode (js_b 245) 56 = .ok (.l2i, 1) := by decide +kernel
theorem d_245_57 : decode (js_b 245) 57 = .ok (.bipush 127, 2) := by decide +kernel
theorem d_245_59 : decode (js_b 245) 59 = .ok (.iand, 1) := by decide +kernel
theorem d_245_60 : decode (js_b 245) 60 = .ok (.ireturn, 1) := by decide +kernel
theorem ki_245_15 : js_Ok 245 15 (o_ll 0 16) := js_St.ok (st_lloadn rfl d_245_15)
theorem ki_245_14 : js_Ok 245 14 (o_B2 (fun x y => x &&& y) 15) := js_St.ok (st_land d_245_14)
theorem ki_245_11 : js_Ok 245 11 (o_lc 3689348814741910323 14) := js_St.ok (st_ldc2 kw_731 d_245_11)
theorem ki_245_10 : js_Ok 245 10 (o_ll 0 11) := js_St.ok (st_lloadn rfl d_245_10)
theorem ki_245_9 : js_Ok 245 9 (o_ls 0 10) := js_St.ok (st_lstoren rfl (Nat.le_of_ble_eq_true rfl) d_245_9)
theorem ki_245_8 : js_Ok 245 8 (o_B2 (fun x y => x - y) 9) := js_St.ok (st_lsub d_245_8)
theorem ki_245_7 : js_Ok 245 7 (o_B2 (fun x y => x &&& y) 8) := js_St.ok (st_land d_245_7)
theorem ki_245_4 : js_Ok 245 4 (o_lc 6148914691236517205 7) := js_St.ok (st_ldc2 kw_730 d_245_4)
theorem ki_245_3 : js_Ok 245 3 (o_Sh (fun x y => (x.toUInt64 >>> (y.toInt64.toUInt64 &&& Int64.toUInt64 63)).toInt64) 4) := js_St.ok (st_lushr d_245_3)
theorem ki_245_2 : js_Ok 245 2 (o_ic 1 3) := js_St.ok (st_iconst rfl d_245_2)
theorem ki_245_1 : js_Ok 245 1 (o_ll 0 2) := js_St.ok (st_lloadn rfl d_245_1)
theorem ki_245_0 : js_Ok 245 0 (o_ll 0 1) := js_St.ok (st_lloadn rfl d_245_0)
theorem ki_245_29 : js_Ok 245 29 (o_lc 1085102592571150095 32) := js_St.ok (st_ldc2 kw_732 d_245_29)
theorem ki_245_28 : js_Ok 245 28 (o_B2 (fun x y => x + y) 29) := js_St.ok (st_ladd d_245_28)
theorem ki_245_27 : js_Ok 245 27 (o_Sh (fun x y => (x.toUInt64 >>> (y.toInt64.toUInt64 &&& Int64.toUInt64 63)).toInt64) 28) := js_St.ok (st_lushr d_245_27)
theorem ki_245_26 : js_Ok 245 26 (o_ic 4 27) := js_St.ok (st_iconst rfl d_245_26)
theorem ki_245_25 : js_Ok 245 25 (o_ll 0 26) := js_St.ok (st_lloadn rfl d_245_25)
theorem ki_245_24 : js_Ok 245 24 (o_ll 0 25) := js_St.ok (st_lloadn rfl d_245_24)
theorem ki_245_23 : js_Ok 245 23 (o_ls 0 24) := js_St.ok (st_lstoren rfl (Nat.le_of_ble_eq_true rfl) d_245_23)
theorem ki_245_22 : js_Ok 245 22 (o_B2 (fun x y => x + y) 23) := js_St.ok (st_ladd d_245_22)
theorem ki_245_21 : js_Ok 245 21 (o_B2 (fun x y => x &&& y) 22) := js_St.ok (st_land d_245_21)
theorem ki_245_18 : js_Ok 245 18 (o_lc 3689348814741910323 21) := js_St.ok (st_ldc2 kw_731 d_245_18)
theorem ki_245_17 : js_Ok 245 17 (o_Sh (fun x y => (x.toUInt64 >>> (y.toInt64.toUInt64 &&& Int64.toUInt64 63)).toInt64) 18) := js_St.ok (st_lushr d_245_17)
theorem ki_245_16 : js_Ok 245 16 (o_ic 2 17) := js_St.ok (st_iconst rfl d_245_16)
theorem ki_245_47 : js_Ok 245 47 (o_ls 0 48) := js_St.ok (st_lstoren rfl (Nat.le_of_ble_eq_true rfl) d_245_47)
theorem ki_245_46 : js_Ok 245 46 (o_B2 (fun x y => x + y) 47) := js_St.ok (st_ladd d_245_46)
theorem ki_245_45 : js_Ok 245 45 (o_Sh (fun x y => (x.toUInt64 >>> (y.toInt64.toUInt64 &&& Int64.toUInt64 63)).toInt64) 46) := js_St.ok (st_lushr d_245_45)
theorem ki_245_43 : js_Ok 245 43 (o_ic 16 45) := js_St.ok (st_bipush rfl d_245_43)
theorem ki_245_42 : js_Ok 245 42 (o_ll 0 43) := js_St.ok (st_lloadn rfl d_245_42)
theorem ki_245_41 : js_Ok 245 41 (o_ll 0 42) := js_St.ok (st_lloadn rfl d_245_41)
theorem ki_245_40 : js_Ok 245 40 (o_ls 0 41) := js_St.ok (st_lstoren rfl (Nat.le_of_ble_eq_true rfl) d_245_40)
theorem ki_245_39 : js_Ok 245 39 (o_B2 (fun x y => x + y) 40) := js_St.ok (st_ladd d_245_39)
theorem ki_245_38 : js_Ok 245 38 (o_Sh (fun x y => (x.toUInt64 >>> (y.toInt64.toUInt64 &&& Int64.toUInt64 63)).toInt64) 39) := js_St.ok (st_lushr d_245_38)
theorem ki_245_36 : js_Ok 245 36 (o_ic 8 38) := js_St.ok (st_bipush rfl d_245_36)
theorem ki_245_35 : js_Ok 245 35 (o_ll 0 36) := js_St.ok (st_lloadn rfl d_245_35)
theorem ki_245_34 : js_Ok 245 34 (o_ll 0 35) := js_St.ok (st_lloadn rfl d_245_34)
theorem ki_245_33 : js_Ok 245 33 (o_ls 0 34) := js_St.ok (st_lstoren rfl (Nat.le_of_ble_eq_true rfl) d_245_33)
theorem ki_245_32 : js_Ok 245 32 (o_B2 (fun x y => x &&& y) 33) := js_St.ok (st_land d_245_32)
theorem ki_245_60 : js_Ok 245 60 (o_rI) := ok_rI rfl d_245_60
theorem ki_245_59 : js_Ok 245 59 (o_b2 (fun x y => x &&& y) 60) := js_St.ok (st_iand d_245_59)
theorem ki_245_57 : js_Ok 245 57 (o_ic 127 59) := js_St.ok (st_bipush rfl d_245_57)
theorem ki_245_56 : js_Ok 245 56 (o_l2i 57) := js_St.ok (st_l2i d_245_56)
theorem ki_245_55 : js_Ok 245 55 (o_ll 0 56) := js_St.ok (st_lloadn rfl d_245_55)
theorem ki_245_54 : js_Ok 245 54 (o_ls 0 55) := js_St.ok (st_lstoren rfl (Nat.le_of_ble_eq_true rfl) d_245_54)
theorem ki_245_53 : js_Ok 245 53 (o_B2 (fun x y => x + y) 54) := js_St.ok (st_ladd d_245_53)
theorem ki_245_52 : js_Ok 245 52 (o_Sh (fun x y => (x.toUInt64 >>> (y.toInt64.toUInt64 &&& Int64.toUInt64 63)).toInt64) 53) := js_St.ok (st_lushr d_245_52)
theorem ki_245_50 : js_Ok 245 50 (o_ic 32 52) := js_St.ok (st_bipush rfl d_245_50)
theorem ki_245_49 : js_Ok 245 49 (o_ll 0 50) := js_St.ok (st_lloadn rfl d_245_49)
theorem ki_245_48 : js_Ok 245 48 (o_ll 0 49) := js_St.ok (st_lloadn rfl d_245_48)
theorem d_246_0 : decode (js_b 246) 0 = .ok (.iload_n 0, 1) := by decide +kernel
theorem d_246_1 : decode (js_b 246) 1 = .ok (.iload_n 1, 1) := by decide +kernel
theorem d_246_2 : decode (js_b 246) 2 = .ok (.if_icmp .lt 7, 3) := by decide +kernel
theorem d_246_5 : decode (js_b 246) 5 = .ok (.iload_n 0, 1) := by decide +kernel
theorem d_246_6 : decode (js_b 246) 6 = .ok (.goto 4, 3) := by decide +kernel
theorem d_246_9 : decode (js_b 246) 9 = .ok (.iload_n 1, 1) := by decide +kernel
theorem d_246_10 : decode (js_b 246) 10 = .ok (.ireturn, 1) := by decide +kernel
theorem ki_246_10 : js_Ok 246 10 (o_rI) := ok_rI rfl d_246_10
theorem ki_246_9 : js_Ok 246 9 (o_il 1 10) := js_St.ok (st_iloadn rfl d_246_9)
theorem ki_246_6 : js_Ok 246 6 (o_go 10) := js_St.ok (st_goto (by decide) d_246_6)
theorem ki_246_5 : js_Ok 246 5 (o_il 0 6) := js_St.ok (st_iloadn rfl d_246_5)
theorem ki_246_2 : js_Ok 246 2 (o_clt 9 5) := js_St.ok (st_iclt (by decide) d_246_2)
theorem ki_246_1 : js_Ok 246 1 (o_il 1 2) := js_St.ok (st_iloadn rfl d_246_1)
theorem ki_246_0 : js_Ok 246 0 (o_il 0 1) := js_St.ok (st_iloadn rfl d_246_0)
theorem d_247_0 : decode (js_b 247) 0 = .ok (.iload_n 0, 1) := by decide +kernel
theorem d_247_1 : decode (js_b 247) 1 = .ok (.iload_n 1, 1) := by decide +kernel
theorem d_247_2 : decode (js_b 247) 2 = .ok (.if_icmp .gt 7, 3) := by decide +kernel
theorem d_247_5 : decode (js_b 247) 5 = .ok (.iload_n 0, 1) := by decide +kernel
theorem d_247_6 : decode (js_b 247) 6 = .ok (.goto 4, 3) := by decide +kernel
theorem d_247_9 : decode (js_b 247) 9 = .ok (.iload_n 1, 1) := by decide +kernel
theorem d_247_10 : decode (js_b 247) 10 = .ok (.ireturn, 1) := by decide +kernel
theorem ki_247_10 : js_Ok 247 10 (o_rI) := ok_rI rfl d_247_10
theorem ki_247_9 : js_Ok 247 9 (o_il 1 10) := js_St.ok (st_iloadn rfl d_247_9)
theorem ki_247_6 : js_Ok 247 6 (o_go 10) := js_St.ok (st_goto (by decide) d_247_6)
theorem ki_247_5 : js_Ok 247 5 (o_il 0 6) := js_St.ok (st_iloadn rfl d_247_5)
theorem ki_247_2 : js_Ok 247 2 (o_cgt 9 5) := js_St.ok (st_icgt (by decide) d_247_2)
theorem ki_247_1 : js_Ok 247 1 (o_il 1 2) := js_St.ok (st_iloadn rfl d_247_1)
theorem ki_247_0 : js_Ok 247 0 (o_il 0 1) := js_St.ok (st_iloadn rfl d_247_0)
theorem d_248_0 : decode (js_b 248) 0 = .ok (.aload_n 0, 1) := by decide +kernel
theorem d_248_1 : decode (js_b 248) 1 = .ok (.getfield 9, 3) := by decide +kernel
theorem d_248_4 : decode (js_b 248) 4 = .ok (.arraylength, 1) := by decide +kernel
theorem d_248_5 : decode (js_b 248) 5 = .ok (.aload_n 0, 1) := by decide +kernel
theorem d_248_6 : decode (js_b 248) 6 = .ok (.invokevirtual 335, 3) := by decide +kernel
theorem d_248_9 : decode (js_b 248) 9 = .ok (.ishr, 1) := by decide +kernel
theorem d_248_10 : decode (js_b 248) 10 = .ok (.ireturn, 1) := by decide +kernel
theorem ki_248_10 : js_Ok 248 10 (o_rI) := ok_rI rfl d_248_10
theorem ki_248_9 : js_Ok 248 9 (o_b2 (fun x y => x >>> (y &&& 31)) 10) := js_St.ok (st_ishr d_248_9)
theorem ki_248_6 : js_Ok 248 6 (o_cI 250 1 21 9) := ok_cI (site_V kk_248_250 (by decide) kw_1111 kw_1112 kw_1113 (fun t ht => by cases ht; exact Or.inr (Or.inl ⟨rfl, rfl⟩)) d_248_6) rfl
theorem ki_248_5 : js_Ok 248 5 (o_al 0 6) := js_St.ok (st_aloadn rfl d_248_5)
theorem ki_248_4 : js_Ok 248 4 (o_len 5) := js_St.ok (st_len d_248_4)
theorem ki_248_1 : js_Ok 248 1 (o_gA 20 0 4) := js_St.ok (st_gA20 (by decide) rfl kw_1252 d_248_1)
theorem ki_248_0 : js_Ok 248 0 (o_al 0 1) := js_St.ok (st_aloadn rfl d_248_0)
theorem d_249_0 : decode (js_b 249) 0 = .ok (.aload_n 0, 1) := by decide +kernel
theorem d_249_1 : decode (js_b 249) 1 = .ok (.invokevirtual 492, 3) := by decide +kernel
theorem d_249_4 : decode (js_b 249) 4 = .ok (.ifCond .eq 12, 3) := by decide +kernel
theorem d_249_7 : decode (js_b 249) 7 = .ok (.aload_n 0, 1) := by decide +kernel
theorem d_249_8 : decode (js_b 249) 8 = .ok (.getfield 9, 3) := by decide +kernel
theorem d_249_11 : decode (js_b 249) 11 = .ok (.iload_n 1, 1) := by decide +kernel
theorem d_249_12 : decode (js_b 249) 12 = .ok (.invokestatic 495, 3) := by decide +kernel
theorem d_249_15 : decode (js_b 249) 15 = .ok (.ireturn, 1) := by decide +kernel
theorem d_249_16 : decode (js_b 249) 16 = .ok (.aload_n 0, 1) := by decide +kernel
theorem d_249_17 : decode (js_b 249) 17 = .ok (.getfield 9, 3) := by decide +kernel
theorem d_249_20 : decode (js_b 249) 20 = .ok (.iload_n 1, 1) := by decide +kernel
theorem d_249_21 : decode (js_b 249) 21 = .ok (.invokestatic 498, 3) := by decide +kernel
theorem ki_249_15 : js_Ok 249 15 (o_rC) := ok_rC rfl d_249_15
theorem ki_249_12 : js_Ok 249 12 (o_cI 253 2 0 15) := ok_cI (site_S kk_249_253 kw_1290 kw_1291 d_249_12) rfl
theorem ki_249_11 : js_Ok 249 11 (o_il 1 12) := js_St.ok (st_iloadn rfl d_249_11)
theorem ki_249_8 : js_Ok 249 8 (o_gA 20 0 11) := js_St.ok (st_gA20 (by decide) rfl kw_1252 d_249_8)
theorem ki_249_7 : js_Ok 249 7 (o_al 0 8) := js_St.ok (st_aloadn rfl d_249_7)
theorem ki_249_4 : js_Ok 249 4 (o_eq 16 7) := js_St.ok (st_ifeq (by decide) d_249_4)
theorem ki_249_1 : js_Ok 249 1 (o_cI 251 1 21 4) := ok_cI (site_V kk_249_251 (by decide) kw_1286 kw_1287 kw_1288 (fun t ht => by cases ht; exact Or.inr (Or.inl ⟨rfl, rfl⟩)) d_249_1) rfl
theorem ki_249_0 : js_Ok 249 0 (o_al 0 1) := js_St.ok (st_aloadn rfl d_249_0)
theorem ki_249_21 : js_Ok 249 21 (o_bad) := js_St.ok st_bad
theorem ki_249_20 : js_Ok 249 20 (o_il 1 21) := js_St.ok (st_iloadn rfl d_249_20)
theorem ki_249_17 : js_Ok 249 17 (o_gA 20 0 20) := js_St.ok (st_gA20 (by decide) rfl kw_1252 d_249_17)
theorem ki_249_16 : js_Ok 249 16 (o_al 0 17) := js_St.ok (st_aloadn rfl d_249_16)
theorem d_250_0 : decode (js_b 250) 0 = .ok (.getstatic 38, 3) := by decide +kernel
theorem d_250_3 : decode (js_b 250) 3 = .ok (.ifCond .eq 10, 3) := by decide +kernel
theorem d_250_6 : decode (js_b 250) 6 = .ok (.aload_n 0, 1) := by decide +kernel
theorem d_250_7 : decode (js_b 250) 7 = .ok (.getfield 15, 3) := by decide +kernel
theorem d_250_10 : decode (js_b 250) 10 = .ok (.goto 4, 3) := by decide +kernel
theorem d_250_13 : decode (js_b 250) 13 = .ok (.iconst 1, 1) := by decide +kernel
theorem d_250_14 : decode (js_b 250) 14 = .ok (.ireturn, 1) := by decide +kernel
theorem ki_250_14 : js_Ok 250 14 (o_rB) := ok_rB rfl d_250_14
theorem ki_250_13 : js_Ok 250 13 (o_ic 1 14) := js_St.ok (st_iconst rfl d_250_13)
theorem ki_250_10 : js_Ok 250 10 (o_go 14) := js_St.ok (st_goto (by decide) d_250_10)
theorem ki_250_7 : js_Ok 250 7 (o_gI 20 1 10) := js_St.ok (st_gI20 (by decide) rfl kw_1253 d_250_7)
theorem ki_250_6 : js_Ok 250 6 (o_al 0 7) := js_St.ok (st_aloadn rfl d_250_6)
theorem ki_250_3 : js_Ok 250 3 (o_eq 13 6) := js_St.ok (st_ifeq (by decide) d_250_3)
theorem ki_250_0 : js_Ok 250 0 (o_ic 1 3) := js_St.ok (st_gsI (by decide +kernel) kw_1115 d_250_0)
theorem d_251_0 : decode (js_b 251) 0 = .ok (.getstatic 38, 3) := by decide +kernel
theorem d_251_3 : decode (js_b 251) 3 = .ok (.ifCond .eq 14, 3) := by decide +kernel
theorem d_251_6 : decode (js_b 251) 6 = .ok (.aload_n 0, 1) := by decide +kernel
theorem d_251_7 : decode (js_b 251) 7 = .ok (.getfield 15, 3) := by decide +kernel
theorem d_251_10 : decode (js_b 251) 10 = .ok (.ifCond .ne 7, 3) := by decide +kernel
theorem d_251_13 : decode (js_b 251) 13 = .ok (.iconst 1, 1) := by decide +kernel
theorem d_251_14 : decode (js_b 251) 14 = .ok (.goto 4, 3) := by decide +kernel
theorem d_251_17 : decode (js_b 251) 17 = .ok (.iconst 0, 1) := by decide +kernel
theorem d_251_18 : decode (js_b 251) 18 = .ok (.ireturn, 1) := by decide +kernel
theorem ki_251_14 : js_Ok 251 14 (o_go 18) := js_St.ok (st_goto (by decide) d_251_14)
theorem ki_251_13 : js_Ok 251 13 (o_ic 1 14) := js_St.ok (st_iconst rfl d_251_13)
theorem ki_251_10 : js_Ok 251 10 (o_ne 17 13) := js_St.ok (st_ifne (by decide) d_251_10)
theorem ki_251_7 : js_Ok 251 7 (o_gI 20 1 10) := js_St.ok (st_gI20 (by decide) rfl kw_1253 d_251_7)
theorem ki_251_6 : js_Ok 251 6 (o_al 0 7) := js_St.ok (st_aloadn rfl d_251_6)
theorem ki_251_3 : js_Ok 251 3 (o_eq 17 6) := js_St.ok (st_ifeq (by decide) d_251_3)
theorem ki_251_0 : js_Ok 251 0 (o_ic 1 3) := js_St.ok (st_gsI (by decide +kernel) kw_1115 d_251_0)
theorem ki_251_18 : js_Ok 251 18 (o_rZ) := ok_rZ rfl d_251_18
theorem ki_251_17 : js_Ok 251 17 (o_ic 0 18) := js_St.ok (st_iconst rfl d_251_17)
theorem d_252_0 : decode (js_b 252) 0 = .ok (.iload_n 0, 1) := by decide +kernel
theorem d_252_1 : decode (js_b 252) 1 = .ok (.iload_n 1, 1) := by decide +kernel
theorem d_252_2 : decode (js_b 252) 2 = .ok (.getstatic 1053, 3) := by decide +kernel
theorem d_252_5 : decode (js_b 252) 5 = .ok (.invokestatic 1059, 3) := by decide +kernel
theorem d_252_8 : decode (js_b 252) 8 = .ok (.pop, 1) := by decide +kernel
theorem d_252_9 : decode (js_b 252) 9 = .ok (.return_, 1) := by decide +kernel
theorem ki_252_9 : js_Ok 252 9 (o_rV) := ok_rV rfl d_252_9
theorem ki_252_8 : js_Ok 252 8 (o_pop 9) := js_St.ok (st_pop d_252_8)
theorem ki_252_5 : js_Ok 252 5 (o_cI 254 3 0 8) := ok_cI (site_S kk_252_254 kw_1169 kw_1170 d_252_5) rfl
theorem ki_252_2 : js_Ok 252 2 (o_jc 5) := js_St.ok (st_gsJ kw_1093 d_252_2)
theorem ki_252_1 : js_Ok 252 1 (o_il 1 2) := js_St.ok (st_iloadn rfl d_252_1)
theorem ki_252_0 : js_Ok 252 0 (o_il 0 1) := js_St.ok (st_iloadn rfl d_252_0)
theorem d_253_0 : decode (js_b 253) 0 = .ok (.iload_n 1, 1) := by decide +kernel
theorem d_253_1 : decode (js_b 253) 1 = .ok (.aload_n 0, 1) := by decide +kernel
theorem d_253_2 : decode (js_b 253) 2 = .ok (.arraylength, 1) := by decide +kernel
theorem d_253_3 : decode (js_b 253) 3 = .ok (.invokestatic 9, 3) := by decide +kernel
theorem d_253_6 : decode (js_b 253) 6 = .ok (.aload_n 0, 1) := by decide +kernel
theorem d_253_7 : decode (js_b 253) 7 = .ok (.iload_n 1, 1) := by decide +kernel
theorem d_253_8 : decode (js_b 253) 8 = .ok (.baload, 1) := by decide +kernel
theorem d_253_9 : decode (js_b 253) 9 = .ok (.sipush 255, 3) := by decide +kernel
theorem d_253_12 : decode (js_b 253) 12 = .ok (.iand, 1) := by decide +kernel
theorem d_253_13 : decode (js_b 253) 13 = .ok (.i2c, 1) := by decide +kernel
theorem d_253_14 : decode (js_b 253) 14 = .ok (.ireturn, 1) := by decide +kernel
theorem ki_253_14 : js_Ok 253 14 (o_rC) := ok_rC rfl d_253_14
theorem ki_253_13 : js_Ok 253 13 (o_u (fun x => (x.toUInt32 % 65536).toInt32) 14) := js_St.ok (st_i2c d_253_13)
theorem ki_253_12 : js_Ok 253 12 (o_b2 (fun x y => x &&& y) 13) := js_St.ok (st_iand d_253_12)
theorem ki_253_9 : js_Ok 253 9 (o_ic 255 12) := js_St.ok (st_sipush rfl d_253_9)
theorem ki_253_8 : js_Ok 253 8 (o_lI 104 9) := js_St.ok (st_lIb d_253_8)
theorem ki_253_7 : js_Ok 253 7 (o_il 1 8) := js_St.ok (st_iloadn rfl d_253_7)
theorem ki_253_6 : js_Ok 253 6 (o_al 0 7) := js_St.ok (st_aloadn rfl d_253_6)
theorem ki_253_3 : js_Ok 253 3 (o_cV 252 2 0 6) := ok_cV (site_S kk_253_252 kw_1293 kw_1167 d_253_3) rfl
theorem ki_253_2 : js_Ok 253 2 (o_len 3) := js_St.ok (st_len d_253_2)
theorem ki_253_1 : js_Ok 253 1 (o_al 0 2) := js_St.ok (st_aloadn rfl d_253_1)
theorem ki_253_0 : js_Ok 253 0 (o_il 1 1) := js_St.ok (st_iloadn rfl d_253_0)
theorem d_254_0 : decode (js_b 254) 0 = .ok (.iload_n 0, 1) := by decide +kernel
theorem d_254_1 : decode (js_b 254) 1 = .ok (.ifCond .lt 8, 3) := by decide +kernel
theorem d_254_4 : decode (js_b 254) 4 = .ok (.iload_n 0, 1) := by decide +kernel
theorem d_254_5 : decode (js_b 254) 5 = .ok (.iload_n 1, 1) := by decide +kernel
theorem d_254_6 : decode (js_b 254) 6 = .ok (.if_icmp .lt 10, 3) := by decide +kernel
theorem d_254_9 : decode (js_b 254) 9 = .ok (.aload_n 2, 1) := by decide +kernel
theorem d_254_10 : decode (js_b 254) 10 = .ok (.iload_n 0, 1) := by decide +kernel
theorem d_254_11 : decode (js_b 254) 11 = .ok (.iload_n 1, 1) := by decide +kernel
theorem d_254_12 : decode (js_b 254) 12 = .ok (.invokestatic 95, 3) := by decide +kernel
theorem d_254_16 : decode (js_b 254) 16 = .ok (.iload_n 0, 1) := by decide +kernel
theorem d_254_17 : decode (js_b 254) 17 = .ok (.ireturn, 1) := by decide +kernel
theorem ki_254_12 : js_Ok 254 12 (o_bad) := js_St.ok st_bad
theorem ki_254_11 : js_Ok 254 11 (o_il 1 12) := js_St.ok (st_iloadn rfl d_254_11)
theorem ki_254_10 : js_Ok 254 10 (o_il 0 11) := js_St.ok (st_iloadn rfl d_254_10)
theorem ki_254_9 : js_Ok 254 9 (o_al 2 10) := js_St.ok (st_aloadn rfl d_254_9)
theorem ki_254_6 : js_Ok 254 6 (o_clt 16 9) := js_St.ok (st_iclt (by decide) d_254_6)
theorem ki_254_5 : js_Ok 254 5 (o_il 1 6) := js_St.ok (st_iloadn rfl d_254_5)
theorem ki_254_4 : js_Ok 254 4 (o_il 0 5) := js_St.ok (st_iloadn rfl d_254_4)
theorem ki_254_1 : js_Ok 254 1 (o_lt 9 4) := js_St.ok (st_iflt (by decide) d_254_1)
theorem ki_254_0 : js_Ok 254 0 (o_il 0 1) := js_St.ok (st_iloadn rfl d_254_0)
theorem ki_254_17 : js_Ok 254 17 (o_rI) := ok_rI rfl d_254_17
theorem ki_254_16 : js_Ok 254 16 (o_il 0 17) := js_St.ok (st_iloadn rfl d_254_16)
theorem d_255_0 : decode (js_b 255) 0 = .ok (.aload_n 0, 1) := by decide +kernel
theorem d_255_1 : decode (js_b 255) 1 = .ok (.bipush 16, 2) := by decide +kernel
theorem d_255_3 : decode (js_b 255) 3 = .ok (.invokespecial 1, 3) := by decide +kernel
theorem d_255_6 : decode (js_b 255) 6 = .ok (.return_, 1) := by decide +kernel
theorem ki_255_6 : js_Ok 255 6 (o_rV) := ok_rV rfl d_255_6
theorem ki_255_3 : js_Ok 255 3 (o_cV 256 2 9 6) := ok_cV (site_I kk_255_256 (by decide) rfl rfl kw_1010 kw_1011 d_255_3) rfl
theorem ki_255_1 : js_Ok 255 1 (o_ic 16 3) := js_St.ok (st_bipush rfl d_255_1)
theorem ki_255_0 : js_Ok 255 0 (o_al 0 1) := js_St.ok (st_aloadn rfl d_255_0)
theorem d_256_0 : decode (js_b 256) 0 = .ok (.aload_n 0, 1) := by decide +kernel
theorem d_256_1 : decode (js_b 256) 1 = .ok (.invokespecial 3, 3) := by decide +kernel
theorem d_256_4 : decode (js_b 256) 4 = .ok (.getstatic 18, 3) := by decide +kernel
theorem d_256_7 : decode (js_b 256) 7 = .ok (.ifCond .eq 18, 3) := by decide +kernel
theorem d_256_10 : decode (js_b 256) 10 = .ok (.aload_n 0, 1) := by decide +kernel
theorem d_256_11 : decode (js_b 256) 11 = .ok (.iload_n 1, 1) := by decide +kernel
theorem d_256_12 : decode (js_b 256) 12 = .ok (.newarray .byte, 2) := by decide +kernel
theorem d_256_14 : decode (js_b 256) 14 = .ok (.putfield 15, 3) := by decide +kernel
theorem d_256_17 : decode (js_b 256) 17 = .ok (.aload_n 0, 1) := by decide +kernel
theorem d_256_18 : decode (js_b 256) 18 = .ok (.iconst 0, 1) := by decide +kernel
theorem d_256_19 : decode (js_b 256) 19 = .ok (.putfield 22, 3) := by decide +kernel
theorem d_256_22 : decode (js_b 256) 22 = .ok (.goto 16, 3) := by decide +kernel
theorem d_256_25 : decode (js_b 256) 25 = .ok (.aload_n 0, 1) := by decide +kernel
theorem d_256_26 : decode (js_b 256) 26 = .ok (.iload_n 1, 1) := by decide +kernel
theorem d_256_27 : decode (js_b 256) 27 = .ok (.invokestatic 26, 3) := by decide +kernel
theorem d_256_38 : decode (js_b 256) 38 = .ok (.return_, 1) := by decide +kernel
theorem ki_256_14 : js_Ok 256 14 (o_pA 8 0 104 17) := js_St.ok (st_pAown js_c8 (by decide) rfl kw_1023 (Or.inr ⟨_, rfl⟩) (js_c8.2.2.1 0 (by decide)) d_256_14)
theorem ki_256_12 : js_Ok 256 12 (o_na 104 (.int 0) 14) := js_St.ok (st_na (by decide) rfl (fun _ h => by cases h) (by decide) (fun _ => rfl) kw_390 d_256_12)
theorem ki_256_11 : js_Ok 256 11 (o_il 1 12) := js_St.ok (st_iloadn rfl d_256_11)
theorem ki_256_10 : js_Ok 256 10 (o_al 0 11) := js_St.ok (st_aloadn rfl d_256_10)
theorem ki_256_7 : js_Ok 256 7 (o_eq 25 10) := js_St.ok (st_ifeq (by decide) d_256_7)
theorem ki_256_4 : js_Ok 256 4 (o_ic 1 7) := js_St.ok (st_gsI (by decide +kernel) kw_1014 d_256_4)
theorem ki_256_1 : js_Ok 256 1 (o_obj 4) := js_St.ok (st_obj kw_1013 kw_66 kw_67 d_256_1)
theorem ki_256_0 : js_Ok 256 0 (o_al 0 1) := js_St.ok (st_aloadn rfl d_256_0)
theorem ki_256_27 : js_Ok 256 27 (o_bad) := js_St.ok st_bad
theorem ki_256_26 : js_Ok 256 26 (o_il 1 27) := js_St.ok (st_iloadn rfl d_256_26)
theorem ki_256_25 : js_Ok 256 25 (o_al 0 26) := js_St.ok (st_aloadn rfl d_256_25)
theorem ki_256_22 : js_Ok 256 22 (o_go 38) := js_St.ok (st_goto (by decide) d_256_22)
theorem ki_256_19 : js_Ok 256 19 (o_pB 8 1 22) := js_St.ok (st_pBown js_c8 (by decide) rfl kw_1024 (js_c8.2.2.1 1 (by decide)) d_256_19)
theorem ki_256_18 : js_Ok 256 18 (o_ic 0 19) := js_St.ok (st_iconst rfl d_256_18)
theorem ki_256_17 : js_Ok 256 17 (o_al 0 18) := js_St.ok (st_aloadn rfl d_256_17)
theorem ki_256_38 : js_Ok 256 38 (o_rV) := ok_rV rfl d_256_38
theorem d_257_0 : decode (js_b 257) 0 = .ok (.aload_n 0, 1) := by decide +kernel
theorem d_257_1 : decode (js_b 257) 1 = .ok (.aload_n 1, 1) := by decide +kernel
theorem d_257_2 : decode (js_b 257) 2 = .ok (.invokespecial 29, 3) := by decide +kernel
theorem d_257_5 : decode (js_b 257) 5 = .ok (.pop, 1) := by decide +kernel
theorem d_257_6 : decode (js_b 257) 6 = .ok (.aload_n 0, 1) := by decide +kernel
theorem d_257_7 : decode (js_b 257) 7 = .ok (.areturn, 1) := by decide +kernel
theorem ki_257_7 : js_Ok 257 7 (o_rA) := ok_rA (Or.inl ⟨_, rfl⟩) rfl d_257_7
theorem ki_257_6 : js_Ok 257 6 (o_al 0 7) := js_St.ok (st_aloadn rfl d_257_6)
theorem ki_257_5 : js_Ok 257 5 (o_pop 6) := js_St.ok (st_pop d_257_5)
theorem ki_257_2 : js_Ok 257 2 (o_cA 261 2 9 5) := ok_cA (site_SU kk_257_261 rfl (by decide) kw_1040 kw_1041 kw_1466 kw_1035 d_257_2) rfl
theorem ki_257_1 : js_Ok 257 1 (o_al 1 2) := js_St.ok (st_aloadn rfl d_257_1)
theorem ki_257_0 : js_Ok 257 0 (o_al 0 1) := js_St.ok (st_aloadn rfl d_257_0)
theorem d_258_0 : decode (js_b 258) 0 = .ok (.aload_n 0, 1) := by decide +kernel
theorem d_258_1 : decode (js_b 258) 1 = .ok (.iload_n 1, 1) := by decide +kernel
theorem d_258_2 : decode (js_b 258) 2 = .ok (.invokespecial 50, 3) := by decide +kernel
theorem d_258_5 : decode (js_b 258) 5 = .ok (.pop, 1) := by decide +kernel
theorem d_258_6 : decode (js_b 258) 6 = .ok (.aload_n 0, 1) := by decide +kernel
theorem d_258_7 : decode (js_b 258) 7 = .ok (.areturn, 1) := by decide +kernel
theorem ki_258_7 : js_Ok 258 7 (o_rA) := ok_rA (Or.inl ⟨_, rfl⟩) rfl d_258_7
theorem ki_258_6 : js_Ok 258 6 (o_al 0 7) := js_St.ok (st_aloadn rfl d_258_6)
theorem ki_258_5 : js_Ok 258 5 (o_pop 6) := js_St.ok (st_pop d_258_5)
theorem ki_258_2 : js_Ok 258 2 (o_cA 262 2 9 5) := ok_cA (site_SU kk_258_262 rfl (by decide) kw_1154 kw_1155 kw_1473 kw_1035 d_258_2) rfl
theorem ki_258_1 : js_Ok 258 1 (o_il 1 2) := js_St.ok (st_iloadn rfl d_258_1)
theorem ki_258_0 : js_Ok 258 0 (o_al 0 1) := js_St.ok (st_aloadn rfl d_258_0)
set_option maxRecDepth 20000 in
theorem mk_55 : js_mok 55 := ⟨by decide +kernel, jk_tab (fun _ => js_St.ok st_bad) (show jk_all (js_Ok 55) 0 tb_55 from ⟨⟨ki_55_0, ⟨ki_55_1, ⟨ki_55_2, ⟨ki_55_3, ⟨ki_55_4, ⟨kbad, ⟨kbad, ⟨ki_55_7, ⟨kbad, ⟨kbad, ⟨ki_55_10, ⟨ki_55_11, ⟨kbad, ⟨kbad, ⟨ki_55_14, ⟨ki_55_15, trivial⟩⟩⟩⟩⟩⟩⟩⟩⟩⟩⟩⟩⟩⟩⟩⟩, ⟨⟨ki_55_16, ⟨ki_55_17, ⟨kbad, ⟨kbad, ⟨ki_55_20, ⟨kbad, ⟨kbad, ⟨ki_55_23, ⟨ki_55_24, ⟨kbad, ⟨kbad, ⟨ki_55_27, ⟨ki_55_28, ⟨kbad, ⟨kbad, ⟨ki_55_31, trivial⟩⟩⟩⟩⟩⟩⟩⟩⟩⟩⟩⟩⟩⟩⟩⟩, ⟨⟨ki_55_32, ⟨ki_55_33, ⟨ki_55_34, ⟨ki_55_35, ⟨ki_55_36, ⟨kbad, ⟨kbad, ⟨ki_55_39, ⟨kbad, ⟨kbad, ⟨ki_55_42, ⟨kbad, ⟨kbad, ⟨ki_55_45, ⟨kbad, ⟨kbad, trivial⟩⟩⟩⟩⟩⟩⟩⟩⟩⟩⟩⟩⟩⟩⟩⟩, ⟨⟨ki_55_48, ⟨ki_55_49, trivial⟩⟩, trivial⟩⟩⟩⟩)⟩
set_option maxRecDepth 20000 in
theorem mk_56 : js_mok 56 := ⟨by decide +kernel, jk_tab (fun _ => js_St.ok st_bad) (show jk_all (js_Ok 56) 0 tb_56 from ⟨⟨ki_56_0, ⟨ki_56_1, ⟨kbad, ⟨ki_56_3, ⟨kbad, ⟨kbad, ⟨ki_56_6, ⟨ki_56_7, ⟨ki_56_8, ⟨ki_56_9, ⟨kbad, ⟨kbad, ⟨ki_56_12, ⟨ki_56_13, ⟨ki_56_14, ⟨ki_56_15, trivial⟩⟩⟩⟩⟩⟩⟩⟩⟩⟩⟩⟩⟩⟩⟩⟩, ⟨⟨kbad, ⟨ki_56_17, ⟨kbad, ⟨kbad, ⟨ki_56_20, ⟨ki_56_21, ⟨ki_56_22, ⟨ki_56_23, ⟨kbad, ⟨kbad, ⟨ki_56_26, ⟨ki_56_27, ⟨kbad, ⟨kbad, ⟨ki_56_30, ⟨kbad, trivial⟩⟩⟩⟩⟩⟩⟩⟩⟩⟩⟩⟩⟩⟩⟩⟩, ⟨⟨ki_56_32, ⟨ki_56_33, ⟨ki_56_34, ⟨ki_56_35, ⟨ki_56_36, trivial⟩⟩⟩⟩⟩, trivial⟩⟩⟩)⟩
set_option maxRecDepth 20000 in
theorem mk_57 : js_mok 57 := ⟨by decide +kernel, jk_tab (fun _ => js_St.ok st_bad) (show jk_all (js_Ok 57) 0 tb_57 from ⟨⟨ki_57_0, ⟨ki_57_1, ⟨kbad, ⟨kbad, ⟨ki_57_4, ⟨ki_57_5, ⟨kbad, ⟨kbad, ⟨ki_57_8, ⟨kbad, ⟨kbad, ⟨ki_57_11, ⟨ki_57_12, ⟨ki_57_13, ⟨ki_57_14, ⟨ki_57_15, trivial⟩⟩⟩⟩⟩⟩⟩⟩⟩⟩⟩⟩⟩⟩⟩⟩, ⟨⟨kbad, ⟨kbad, ⟨ki_57_18, ⟨ki_57_19, ⟨kbad, ⟨kbad, ⟨ki_57_22, ⟨ki_57_23, ⟨kbad, ⟨kbad, ⟨ki_57_26, ⟨ki_57_27, ⟨ki_57_28, ⟨ki_57_29, ⟨kbad, ⟨kbad, trivial⟩⟩⟩⟩⟩⟩⟩⟩⟩⟩⟩⟩⟩⟩⟩⟩, ⟨⟨ki_57_32, ⟨ki_57_33, ⟨ki_57_34, ⟨kbad, ⟨kbad, ⟨ki_57_37, ⟨ki_57_38, ⟨ki_57_39, ⟨kbad, ⟨kbad, ⟨ki_57_42, ⟨ki_57_43, trivial⟩⟩⟩⟩⟩⟩⟩⟩⟩⟩⟩⟩, trivial⟩⟩⟩)⟩
set_option maxRecDepth 20000 in
theorem mk_58 : js_mok 58 := ⟨by decide +kernel, jk_tab (fun _ => js_St.ok st_bad) (show jk_all (js_Ok 58) 0 tb_58 from ⟨⟨ki_58_0, ⟨ki_58_1, ⟨kbad, ⟨ki_58_3, ⟨kbad, ⟨kbad, ⟨ki_58_6, ⟨ki_58_7, ⟨kbad, ⟨kbad, ⟨ki_58_10, ⟨kbad, ⟨kbad, ⟨ki_58_13, ⟨ki_58_14, ⟨kbad, trivial⟩⟩⟩⟩⟩⟩⟩⟩⟩⟩⟩⟩⟩⟩⟩⟩, ⟨⟨kbad, ⟨ki_58_17, ⟨ki_58_18, ⟨ki_58_19, ⟨ki_58_20, ⟨kbad, ⟨ki_58_22, ⟨kbad, ⟨kbad, ⟨ki_58_25, ⟨ki_58_26, ⟨kbad, ⟨ki_58_28, ⟨kbad, ⟨kbad, ⟨ki_58_31, trivial⟩⟩⟩⟩⟩⟩⟩⟩⟩⟩⟩⟩⟩⟩⟩⟩, ⟨⟨ki_58_32, ⟨kbad, ⟨ki_58_34, ⟨kbad, ⟨kbad, ⟨ki_58_37, ⟨ki_58_38, ⟨kbad, ⟨ki_58_40, ⟨ki_58_41, ⟨kbad, ⟨ki_58_43, ⟨ki_58_44, ⟨kbad, ⟨kbad, ⟨ki_58_47, trivial⟩⟩⟩⟩⟩⟩⟩⟩⟩⟩⟩⟩⟩⟩⟩⟩, ⟨⟨ki_58_48, ⟨kbad, ⟨kbad, ⟨ki_58_51, ⟨ki_58_52, ⟨ki_58_53, ⟨kbad, ⟨ki_58_55, ⟨kbad, ⟨kbad, ⟨ki_58_58, ⟨ki_58_59, ⟨kbad, ⟨kbad, ⟨ki_58_62, ⟨ki_58_63, trivial⟩⟩⟩⟩⟩⟩⟩⟩⟩⟩⟩⟩⟩⟩⟩⟩, ⟨⟨ki_58_64, ⟨ki_58_65, ⟨kbad, ⟨kbad, ⟨ki_58_68, ⟨ki_58_69, ⟨kbad, ⟨kbad, ⟨ki_58_72, ⟨ki_58_73, trivial⟩⟩⟩⟩⟩⟩⟩⟩⟩⟩, trivial⟩⟩⟩⟩⟩)⟩
set_option maxRecDepth 20000 in
theorem mk_59 : js_mok 59 := ⟨by decide +kernel, jk_tab (fun _ => js_St.ok st_bad) (show jk_all (js_Ok 59) 0 tb_59 from ⟨⟨ki_59_0, ⟨ki_59_1, ⟨kbad, ⟨kbad, ⟨ki_59_4, ⟨ki_59_5, ⟨kbad, ⟨kbad, ⟨ki_59_8, ⟨ki_59_9, ⟨kbad, ⟨kbad, ⟨ki_59_12, ⟨kbad, ⟨kbad, ⟨ki_59_15, trivial⟩⟩⟩⟩⟩⟩⟩⟩⟩⟩⟩⟩⟩⟩⟩⟩, ⟨⟨ki_59_16, ⟨kbad, ⟨kbad, ⟨ki_59_19, ⟨ki_59_20, ⟨kbad, ⟨kbad, ⟨ki_59_23, ⟨kbad, ⟨kbad, ⟨ki_59_26, ⟨ki_59_27, ⟨kbad, ⟨kbad, ⟨ki_59_30, ⟨ki_59_31, trivial⟩⟩⟩⟩⟩⟩⟩⟩⟩⟩⟩⟩⟩⟩⟩⟩, ⟨⟨kbad, ⟨kbad, ⟨ki_59_34, ⟨kbad, ⟨kbad, ⟨ki_59_37, ⟨ki_59_38, ⟨kbad, ⟨kbad, ⟨ki_59_41, ⟨ki_59_42, ⟨kbad, ⟨kbad, ⟨ki_59_45, ⟨kbad, ⟨kbad, trivial⟩⟩⟩⟩⟩⟩⟩⟩⟩⟩⟩⟩⟩⟩⟩⟩, ⟨⟨ki_59_48, ⟨ki_59_49, ⟨kbad, ⟨kbad, ⟨ki_59_52, ⟨ki_59_53, ⟨kbad, ⟨kbad, ⟨ki_59_56, ⟨kbad, ⟨kbad, ⟨ki_59_59, ⟨ki_59_60, ⟨kbad, ⟨kbad, ⟨ki_59_63, trivial⟩⟩⟩⟩⟩⟩⟩⟩⟩⟩⟩⟩⟩⟩⟩⟩, ⟨⟨ki_59_64, ⟨kbad, ⟨kbad, ⟨ki_59_67, ⟨kbad, ⟨kbad, ⟨ki_59_70, ⟨ki_59_71, ⟨kbad, ⟨ki_59_73, ⟨kbad, ⟨ki_59_75, ⟨kbad, ⟨kbad, ⟨ki_59_78, ⟨ki_59_79, trivial⟩⟩⟩⟩⟩⟩⟩⟩⟩⟩⟩⟩⟩⟩⟩⟩, ⟨⟨ki_59_80, ⟨kbad, ⟨kbad, ⟨ki_59_83, ⟨ki_59_84, ⟨ki_59_85, ⟨kbad, ⟨kbad, ⟨ki_59_88, trivial⟩⟩⟩⟩⟩⟩⟩⟩⟩, trivial⟩⟩⟩⟩⟩⟩)⟩
set_option maxRecDepth 20000 in
theorem mk_60 : js_mok 60 := ⟨by decide +kernel, jk_tab (fun _ => js_St.ok st_bad) (show jk_all (js_Ok 60) 0 tb_60 from ⟨⟨ki_60_0, ⟨ki_60_1, ⟨kbad, ⟨kbad, ⟨ki_60_4, ⟨ki_60_5, ⟨kbad, ⟨kbad, ⟨ki_60_8, ⟨kbad, ⟨kbad, ⟨ki_60_11, ⟨ki_60_12, ⟨ki_60_13, ⟨kbad, ⟨kbad, trivial⟩⟩⟩⟩⟩⟩⟩⟩⟩⟩⟩⟩⟩⟩⟩⟩, ⟨⟨ki_60_16, ⟨ki_60_17, ⟨ki_60_18, ⟨ki_60_19, ⟨kbad, ⟨ki_60_21, ⟨kbad, ⟨ki_60_23, ⟨kbad, ⟨kbad, ⟨ki_60_26, ⟨kbad, ⟨kbad, ⟨ki_60_29, trivial⟩⟩⟩⟩⟩⟩⟩⟩⟩⟩⟩⟩⟩⟩, trivial⟩⟩)⟩
set_option maxRecDepth 20000 in
theorem mk_61 : js_mok 61 := ⟨by decide +kernel, jk_tab (fun _ => js_St.ok st_bad) (show jk_all (js_Ok 61) 0 tb_61 from ⟨⟨ki_61_0, ⟨ki_61_1, ⟨kbad, ⟨kbad, ⟨ki_61_4, ⟨ki_61_5, ⟨kbad, ⟨kbad, ⟨ki_61_8, ⟨kbad, ⟨kbad, ⟨ki_61_11, ⟨ki_61_12, ⟨ki_61_13, ⟨kbad, ⟨kbad, trivial⟩⟩⟩⟩⟩⟩⟩⟩⟩⟩⟩⟩⟩⟩⟩⟩, ⟨⟨ki_61_16, ⟨ki_61_17, ⟨kbad, ⟨kbad, ⟨ki_61_20, ⟨kbad, ⟨kbad, ⟨ki_61_23, trivial⟩⟩⟩⟩⟩⟩⟩⟩, trivial⟩⟩)⟩
set_option maxRecDepth 20000 in
theorem mk_62 : js_mok 62 := ⟨by decide +kernel, jk_tab (fun _ => js_St.ok st_bad) (show jk_all (js_Ok 62) 0 tb_62 from ⟨⟨ki_62_0, ⟨ki_62_1, ⟨kbad, ⟨kbad, ⟨ki_62_4, ⟨kbad, ⟨kbad, ⟨ki_62_7, trivial⟩⟩⟩⟩⟩⟩⟩⟩, trivial⟩)⟩
set_option maxRecDepth 20000 in
theorem mk_63 : js_mok 63 := ⟨by decide +kernel, jk_tab (fun _ => js_St.ok st_bad) (show jk_all (js_Ok 63) 0 tb_63 from ⟨⟨ki_63_0, ⟨ki_63_1, ⟨kbad, ⟨kbad, ⟨ki_63_4, ⟨kbad, ⟨kbad, ⟨ki_63_7, ⟨ki_63_8, ⟨kbad, ⟨kbad, ⟨ki_63_11, ⟨kbad, ⟨kbad, ⟨ki_63_14, ⟨ki_63_15, trivial⟩⟩⟩⟩⟩⟩⟩⟩⟩⟩⟩⟩⟩⟩⟩⟩, trivial⟩)⟩
set_option maxRecDepth 20000 in
theorem mk_64 : js_mok 64 := ⟨by decide +kernel, jk_tab (fun _ => js_St.ok st_bad) (show jk_all (js_Ok 64) 0 tb_64 from ⟨⟨ki_64_0, ⟨ki_64_1, ⟨kbad, ⟨kbad, ⟨ki_64_4, ⟨ki_64_5, ⟨kbad, ⟨kbad, ⟨ki_64_8, ⟨ki_64_9, ⟨ki_64_10, ⟨kbad, ⟨kbad, ⟨ki_64_13, ⟨kbad, ⟨kbad, trivial⟩⟩⟩⟩⟩⟩⟩⟩⟩⟩⟩⟩⟩⟩⟩⟩, ⟨⟨kbad, ⟨kbad, ⟨kbad, ⟨kbad, ⟨kbad, ⟨kbad, ⟨kbad, ⟨ki_64_23, ⟨ki_64_24, ⟨kbad, ⟨kbad, ⟨ki_64_27, trivial⟩⟩⟩⟩⟩⟩⟩⟩⟩⟩⟩⟩, trivial⟩⟩)⟩
set_option maxRecDepth 20000 in
theorem mk_65 : js_mok 65 := ⟨by decide +kernel, jk_tab (fun _ => js_St.ok st_bad) (show jk_all (js_Ok 65) 0 tb_65 from ⟨⟨ki_65_0, ⟨ki_65_1, ⟨kbad, ⟨kbad, ⟨ki_65_4, ⟨ki_65_5, ⟨kbad, ⟨kbad, ⟨ki_65_8, ⟨kbad, ⟨kbad, ⟨ki_65_11, ⟨ki_65_12, ⟨kbad, ⟨kbad, ⟨ki_65_15, trivial⟩⟩⟩⟩⟩⟩⟩⟩⟩⟩⟩⟩⟩⟩⟩⟩, ⟨⟨ki_65_16, trivial⟩, trivial⟩⟩)⟩
set_option maxRecDepth 20000 in
theorem mk_66 : js_mok 66 := ⟨by decide +kernel, jk_tab (fun _ => js_St.ok st_bad) (show jk_all (js_Ok 66) 0 tb_66 from ⟨⟨ki_66_0, ⟨ki_66_1, ⟨ki_66_2, ⟨kbad, ⟨kbad, ⟨ki_66_5, ⟨kbad, ⟨kbad, ⟨ki_66_8, trivial⟩⟩⟩⟩⟩⟩⟩⟩⟩, trivial⟩)⟩
set_option maxRecDepth 20000 in
theorem mk_67 : js_mok 67 := ⟨by decide +kernel, jk_tab (fun _ => js_St.ok st_bad) (show jk_all (js_Ok 67) 0 tb_67 from ⟨⟨ki_67_0, ⟨ki_67_1, ⟨ki_67_2, ⟨kbad, ⟨kbad, ⟨ki_67_5, ⟨kbad, ⟨kbad, ⟨ki_67_8, trivial⟩⟩⟩⟩⟩⟩⟩⟩⟩, trivial⟩)⟩
set_option maxRecDepth 20000 in
theorem mk_68 : js_mok 68 := ⟨by decide +kernel, jk_tab (fun _ => js_St.ok st_bad) (show jk_all (js_Ok 68) 0 tb_68 from ⟨⟨ki_68_0, ⟨ki_68_1, ⟨ki_68_2, ⟨kbad, ⟨kbad, ⟨ki_68_5, ⟨ki_68_6, ⟨ki_68_7, ⟨kbad, ⟨kbad, ⟨ki_68_10, ⟨ki_68_11, ⟨ki_68_12, ⟨kbad, ⟨kbad, ⟨ki_68_15, trivial⟩⟩⟩⟩⟩⟩⟩⟩⟩⟩⟩⟩⟩⟩⟩⟩, trivial⟩)⟩
set_option maxRecDepth 20000 in
theorem mk_69 : js_mok 69 := ⟨by decide +kernel, jk_tab (fun _ => js_St.ok st_bad) (show jk_all (js_Ok 69) 0 tb_69 from ⟨⟨ki_69_0, ⟨ki_69_1, ⟨ki_69_2, ⟨kbad, ⟨kbad, ⟨ki_69_5, ⟨kbad, ⟨kbad, ⟨ki_69_8, trivial⟩⟩⟩⟩⟩⟩⟩⟩⟩, trivial⟩)⟩
set_option maxRecDepth 20000 in
theorem mk_70 : js_mok 70 := ⟨by decide +kernel, jk_tab (fun _ => js_St.ok st_bad) (show jk_all (js_Ok 70) 0 tb_70 from ⟨⟨ki_70_0, ⟨ki_70_1, ⟨ki_70_2, ⟨kbad, ⟨kbad, ⟨ki_70_5, ⟨kbad, ⟨kbad, ⟨ki_70_8, trivial⟩⟩⟩⟩⟩⟩⟩⟩⟩, trivial⟩)⟩
set_option maxRecDepth 20000 in
theorem mk_71 : js_mok 71 := ⟨by decide +kernel, jk_tab (fun _ => js_St.ok st_bad) (show jk_all (js_Ok 71) 0 tb_71 from ⟨⟨ki_71_0, ⟨ki_71_1, ⟨ki_71_2, ⟨ki_71_3, ⟨ki_71_4, ⟨ki_71_5, ⟨ki_71_6, ⟨kbad, ⟨kbad, ⟨ki_71_9, ⟨kbad, ⟨kbad, ⟨ki_71_12, ⟨kbad, ⟨kbad, ⟨ki_71_15, trivial⟩⟩⟩⟩⟩⟩⟩⟩⟩⟩⟩⟩⟩⟩⟩⟩, ⟨⟨ki_71_16, ⟨ki_71_17, ⟨ki_71_18, ⟨ki_71_19, ⟨kbad, ⟨kbad, ⟨ki_71_22, ⟨ki_71_23, ⟨ki_71_24, ⟨ki_71_25, ⟨kbad, ⟨kbad, ⟨ki_71_28, ⟨kbad, ⟨kbad, ⟨ki_71_31, trivial⟩⟩⟩⟩⟩⟩⟩⟩⟩⟩⟩⟩⟩⟩⟩⟩, ⟨⟨ki_71_32, ⟨ki_71_33, ⟨ki_71_34, ⟨kbad, ⟨kbad, ⟨ki_71_37, ⟨ki_71_38, ⟨ki_71_39, ⟨ki_71_40, ⟨kbad, ⟨kbad, ⟨ki_71_43, ⟨kbad, ⟨kbad, ⟨ki_71_46, ⟨kbad, trivial⟩⟩⟩⟩⟩⟩⟩⟩⟩⟩⟩⟩⟩⟩⟩⟩, ⟨⟨kbad, ⟨ki_71_49, ⟨kbad, ⟨kbad, ⟨ki_71_52, ⟨ki_71_53, ⟨kbad, ⟨kbad, ⟨ki_71_56, trivial⟩⟩⟩⟩⟩⟩⟩⟩⟩, trivial⟩⟩⟩⟩)⟩
set_option maxRecDepth 20000 in
theorem mk_72 : js_mok 72 := ⟨by decide +kernel, jk_tab (fun _ => js_St.ok st_bad) (show jk_all (js_Ok 72) 0 tb_72 from ⟨⟨ki_72_0, ⟨ki_72_1, ⟨kbad, ⟨kbad, ⟨ki_72_4, ⟨ki_72_5, ⟨kbad, ⟨kbad, ⟨ki_72_8, ⟨kbad, ⟨kbad, ⟨ki_72_11, ⟨ki_72_12, ⟨ki_72_13, ⟨kbad, ⟨kbad, trivial⟩⟩⟩⟩⟩⟩⟩⟩⟩⟩⟩⟩⟩⟩⟩⟩, ⟨⟨ki_72_16, ⟨ki_72_17, ⟨ki_72_18, ⟨ki_72_19, ⟨kbad, ⟨kbad, ⟨ki_72_22, ⟨kbad, ⟨kbad, ⟨ki_72_25, trivial⟩⟩⟩⟩⟩⟩⟩⟩⟩⟩, trivial⟩⟩)⟩
set_option maxRecDepth 20000 in
theorem mk_73 : js_mok 73 := ⟨by decide +kernel, jk_tab (fun _ => js_St.ok st_bad) (show jk_all (js_Ok 73) 0 tb_73 from ⟨⟨ki_73_0, ⟨ki_73_1, ⟨kbad, ⟨kbad, ⟨ki_73_4, ⟨ki_73_5, ⟨kbad, ⟨kbad, ⟨ki_73_8, ⟨kbad, ⟨kbad, ⟨ki_73_11, ⟨ki_73_12, ⟨ki_73_13, ⟨kbad, ⟨kbad, trivial⟩⟩⟩⟩⟩⟩⟩⟩⟩⟩⟩⟩⟩⟩⟩⟩, ⟨⟨ki_73_16, ⟨ki_73_17, ⟨kbad, ⟨kbad, ⟨ki_73_20, ⟨kbad, ⟨kbad, ⟨ki_73_23, trivial⟩⟩⟩⟩⟩⟩⟩⟩, trivial⟩⟩)⟩
set_option maxRecDepth 20000 in
theorem mk_74 : js_mok 74 := ⟨by decide +kernel, jk_tab (fun _ => js_St.ok st_bad) (show jk_all (js_Ok 74) 0 tb_74 from ⟨⟨ki_74_0, ⟨ki_74_1, ⟨kbad, ⟨kbad, ⟨ki_74_4, ⟨ki_74_5, ⟨kbad, ⟨kbad, ⟨ki_74_8, ⟨kbad, ⟨kbad, ⟨ki_74_11, ⟨ki_74_12, ⟨ki_74_13, ⟨kbad, ⟨kbad, trivial⟩⟩⟩⟩⟩⟩⟩⟩⟩⟩⟩⟩⟩⟩⟩⟩, ⟨⟨ki_74_16, ⟨ki_74_17, ⟨ki_74_18, ⟨kbad, ⟨kbad, ⟨ki_74_21, ⟨kbad, ⟨kbad, ⟨ki_74_24, trivial⟩⟩⟩⟩⟩⟩⟩⟩⟩, trivial⟩⟩)⟩
set_option maxRecDepth 20000 in
theorem mk_75 : js_mok 75 := ⟨by decide +kernel, jk_tab (fun _ => js_St.ok st_bad) (show jk_all (js_Ok 75) 0 tb_75 from ⟨⟨ki_75_0, ⟨ki_75_1, ⟨kbad, ⟨kbad, ⟨ki_75_4, ⟨ki_75_5, ⟨kbad, ⟨kbad, ⟨ki_75_8, ⟨kbad, ⟨kbad, ⟨ki_75_11, ⟨ki_75_12, ⟨ki_75_13, ⟨kbad, ⟨kbad, trivial⟩⟩⟩⟩⟩⟩⟩⟩⟩⟩⟩⟩⟩⟩⟩⟩, ⟨⟨ki_75_16, ⟨ki_75_17, ⟨ki_75_18, ⟨kbad, ⟨kbad, ⟨ki_75_21, ⟨kbad, ⟨kbad, ⟨ki_75_24, trivial⟩⟩⟩⟩⟩⟩⟩⟩⟩, trivial⟩⟩)⟩
set_option maxRecDepth 20000 in
theorem mk_76 : js_mok 76 := ⟨by decide +kernel, jk_tab (fun _ => js_St.ok st_bad) (show jk_all (js_Ok 76) 0 tb_76 from ⟨⟨ki_76_0, ⟨ki_76_1, ⟨ki_76_2, ⟨ki_76_3, ⟨ki_76_4, ⟨kbad, ⟨kbad, ⟨ki_76_7, ⟨ki_76_8, ⟨kbad, ⟨kbad, ⟨ki_76_11, ⟨ki_76_12, ⟨ki_76_13, ⟨kbad, ⟨kbad, trivial⟩⟩⟩⟩⟩⟩⟩⟩⟩⟩⟩⟩⟩⟩⟩⟩, ⟨⟨ki_76_16, ⟨ki_76_17, ⟨kbad, ⟨kbad, ⟨ki_76_20, ⟨kbad, ⟨kbad, ⟨ki_76_23, ⟨ki_76_24, ⟨kbad, ⟨kbad, ⟨ki_76_27, ⟨ki_76_28, ⟨kbad, ⟨kbad, ⟨ki_76_31, trivial⟩⟩⟩⟩⟩⟩⟩⟩⟩⟩⟩⟩⟩⟩⟩⟩, ⟨⟨ki_76_32, ⟨kbad, ⟨kbad, ⟨ki_76_35, ⟨ki_76_36, ⟨ki_76_37, ⟨kbad, ⟨kbad, ⟨ki_76_40, ⟨kbad, ⟨kbad, ⟨ki_76_43, trivial⟩⟩⟩⟩⟩⟩⟩⟩⟩⟩⟩⟩, trivial⟩⟩⟩)⟩
set_option maxRecDepth 20000 in
theorem mk_77 : js_mok 77 := ⟨by decide +kernel, jk_tab (fun _ => js_St.ok st_bad) (show jk_all (js_Ok 77) 0 tb_77 from ⟨⟨ki_77_0, ⟨ki_77_1, ⟨kbad, ⟨kbad, ⟨ki_77_4, ⟨ki_77_5, ⟨kbad, ⟨kbad, ⟨ki_77_8, ⟨kbad, ⟨kbad, ⟨ki_77_11, ⟨ki_77_12, ⟨ki_77_13, ⟨kbad, ⟨kbad, trivial⟩⟩⟩⟩⟩⟩⟩⟩⟩⟩⟩⟩⟩⟩⟩⟩, ⟨⟨ki_77_16, ⟨ki_77_17, ⟨kbad, ⟨kbad, ⟨ki_77_20, ⟨kbad, ⟨kbad, ⟨ki_77_23, ⟨kbad, ⟨kbad, ⟨ki_77_26, trivial⟩⟩⟩⟩⟩⟩⟩⟩⟩⟩⟩, trivial⟩⟩)⟩
set_option maxRecDepth 20000 in
theorem mk_78 : js_mok 78 := ⟨by decide +kernel, jk_tab (fun _ => js_St.ok st_bad) (show jk_all (js_Ok 78) 0 tb_78 from ⟨⟨ki_78_0, ⟨ki_78_1, ⟨kbad, ⟨kbad, ⟨ki_78_4, ⟨kbad, ⟨kbad, ⟨ki_78_7, ⟨ki_78_8, ⟨ki_78_9, ⟨kbad, ⟨kbad, ⟨ki_78_12, ⟨ki_78_13, ⟨kbad, ⟨kbad, trivial⟩⟩⟩⟩⟩⟩⟩⟩⟩⟩⟩⟩⟩⟩⟩⟩, ⟨⟨ki_78_16, ⟨ki_78_17, ⟨kbad, ⟨kbad, ⟨ki_78_20, ⟨ki_78_21, trivial⟩⟩⟩⟩⟩⟩, trivial⟩⟩)⟩
set_option maxRecDepth 20000 in
theorem mk_79 : js_mok 79 := ⟨by decide +kernel, jk_tab (fun _ => js_St.ok st_bad) (show jk_all (js_Ok 79) 0 tb_79 from ⟨⟨ki_79_0, ⟨ki_79_1, ⟨kbad, ⟨kbad, ⟨ki_79_4, ⟨kbad, ⟨kbad, ⟨ki_79_7, ⟨ki_79_8, ⟨ki_79_9, ⟨kbad, ⟨kbad, ⟨ki_79_12, ⟨ki_79_13, ⟨ki_79_14, ⟨ki_79_15, trivial⟩⟩⟩⟩⟩⟩⟩⟩⟩⟩⟩⟩⟩⟩⟩⟩, ⟨⟨kbad, ⟨kbad, ⟨ki_79_18, ⟨kbad, ⟨kbad, ⟨kbad, ⟨kbad, ⟨kbad, ⟨kbad, ⟨kbad, ⟨kbad, ⟨kbad, ⟨ki_79_28, ⟨ki_79_29, ⟨kbad, ⟨kbad, trivial⟩⟩⟩⟩⟩⟩⟩⟩⟩⟩⟩⟩⟩⟩⟩⟩, ⟨⟨ki_79_32, trivial⟩, trivial⟩⟩⟩)⟩
set_option maxRecDepth 20000 in
theorem mk_80 : js_mok 80 := ⟨by decide +kernel, jk_tab (fun _ => js_St.ok st_bad) (show jk_all (js_Ok 80) 0 tb_80 from ⟨⟨ki_80_0, ⟨ki_80_1, ⟨ki_80_2, ⟨ki_80_3, ⟨ki_80_4, ⟨ki_80_5, ⟨kbad, ⟨ki_80_7, ⟨kbad, ⟨kbad, ⟨ki_80_10, ⟨ki_80_11, ⟨kbad, ⟨kbad, ⟨ki_80_14, ⟨kbad, trivial⟩⟩⟩⟩⟩⟩⟩⟩⟩⟩⟩⟩⟩⟩⟩⟩, ⟨⟨kbad, ⟨ki_80_17, ⟨ki_80_18, ⟨ki_80_19, ⟨kbad, ⟨kbad, ⟨ki_80_22, ⟨ki_80_23, ⟨ki_80_24, ⟨kbad, ⟨kbad, ⟨ki_80_27, ⟨ki_80_28, ⟨ki_80_29, ⟨kbad, ⟨kbad, trivial⟩⟩⟩⟩⟩⟩⟩⟩⟩⟩⟩⟩⟩⟩⟩⟩, ⟨⟨ki_80_32, ⟨kbad, ⟨kbad, ⟨ki_80_35, ⟨ki_80_36, trivial⟩⟩⟩⟩⟩, trivial⟩⟩⟩)⟩
set_option maxRecDepth 20000 in
theorem mk_81 : js_mok 81 := ⟨by decide +kernel, jk_tab (fun _ => js_St.ok st_bad) (show jk_all (js_Ok 81) 0 tb_81 from ⟨⟨ki_81_0, ⟨ki_81_1, ⟨kbad, ⟨kbad, ⟨ki_81_4, ⟨kbad, ⟨kbad, ⟨ki_81_7, ⟨kbad, ⟨kbad, ⟨kbad, ⟨kbad, ⟨kbad, ⟨kbad, ⟨kbad, ⟨kbad, trivial⟩⟩⟩⟩⟩⟩⟩⟩⟩⟩⟩⟩⟩⟩⟩⟩, ⟨⟨kbad, ⟨ki_81_17, ⟨ki_81_18, ⟨ki_81_19, ⟨ki_81_20, ⟨kbad, ⟨ki_81_22, ⟨kbad, ⟨ki_81_24, ⟨kbad, ⟨ki_81_26, ⟨kbad, ⟨kbad, ⟨ki_81_29, ⟨ki_81_30, ⟨kbad, trivial⟩⟩⟩⟩⟩⟩⟩⟩⟩⟩⟩⟩⟩⟩⟩⟩, ⟨⟨kbad, ⟨ki_81_33, ⟨kbad, ⟨kbad, ⟨ki_81_36, ⟨kbad, ⟨ki_81_38, ⟨ki_81_39, ⟨kbad, ⟨ki_81_41, ⟨kbad, ⟨ki_81_43, ⟨kbad, ⟨kbad, ⟨ki_81_46, ⟨kbad, trivial⟩⟩⟩⟩⟩⟩⟩⟩⟩⟩⟩⟩⟩⟩⟩⟩, ⟨⟨ki_81_48, ⟨kbad, ⟨kbad, ⟨ki_81_51, ⟨ki_81_52, ⟨kbad, ⟨kbad, ⟨ki_81_55, ⟨ki_81_56, ⟨kbad, ⟨ki_81_58, ⟨kbad, ⟨kbad, ⟨ki_81_61, ⟨ki_81_62, ⟨ki_81_63, trivial⟩⟩⟩⟩⟩⟩⟩⟩⟩⟩⟩⟩⟩⟩⟩⟩, ⟨⟨kbad, ⟨kbad, ⟨ki_81_66, ⟨kbad, ⟨kbad, ⟨ki_81_69, ⟨ki_81_70, trivial⟩⟩⟩⟩⟩⟩⟩, trivial⟩⟩⟩⟩⟩)⟩
set_option maxRecDepth 20000 in
theorem mk_82 : js_mok 82 := ⟨by decide +kernel, jk_tab (fun _ => js_St.ok st_bad) (show jk_all (js_Ok 82) 0 tb_82 from ⟨⟨ki_82_0, ⟨ki_82_1, ⟨ki_82_2, ⟨ki_82_3, ⟨ki_82_4, ⟨ki_82_5, ⟨kbad, ⟨ki_82_7, ⟨kbad, ⟨kbad, ⟨ki_82_10, ⟨ki_82_11, ⟨kbad, ⟨kbad, ⟨ki_82_14, ⟨ki_82_15, trivial⟩⟩⟩⟩⟩⟩⟩⟩⟩⟩⟩⟩⟩⟩⟩⟩, ⟨⟨kbad, ⟨kbad, ⟨ki_82_18, ⟨kbad, ⟨kbad, ⟨ki_82_21, ⟨ki_82_22, ⟨ki_82_23, ⟨kbad, ⟨kbad, ⟨ki_82_26, ⟨ki_82_27, ⟨ki_82_28, ⟨kbad, ⟨kbad, ⟨ki_82_31, trivial⟩⟩⟩⟩⟩⟩⟩⟩⟩⟩⟩⟩⟩⟩⟩⟩, ⟨⟨kbad, ⟨kbad, ⟨ki_82_34, ⟨ki_82_35, trivial⟩⟩⟩⟩, trivial⟩⟩⟩)⟩
set_option maxRecDepth 20000 in
theorem mk_83 : js_mok 83 := ⟨by decide +kernel, jk_tab (fun _ => js_St.ok st_bad) (show jk_all (js_Ok 83) 0 tb_83 from ⟨⟨ki_83_0, ⟨ki_83_1, ⟨kbad, ⟨kbad, ⟨ki_83_4, ⟨ki_83_5, ⟨ki_83_6, ⟨kbad, ⟨ki_83_8, ⟨ki_83_9, ⟨ki_83_10, ⟨kbad, ⟨ki_83_12, ⟨ki_83_13, ⟨ki_83_14, ⟨ki_83_15, trivial⟩⟩⟩⟩⟩⟩⟩⟩⟩⟩⟩⟩⟩⟩⟩⟩, ⟨⟨ki_83_16, ⟨ki_83_17, ⟨kbad, ⟨kbad, ⟨ki_83_20, ⟨ki_83_21, ⟨ki_83_22, ⟨ki_83_23, ⟨ki_83_24, ⟨kbad, ⟨kbad, ⟨ki_83_27, ⟨ki_83_28, ⟨ki_83_29, ⟨ki_83_30, ⟨ki_83_31, trivial⟩⟩⟩⟩⟩⟩⟩⟩⟩⟩⟩⟩⟩⟩⟩⟩, ⟨⟨ki_83_32, ⟨ki_83_33, ⟨ki_83_34, ⟨ki_83_35, ⟨kbad, ⟨kbad, ⟨ki_83_38, ⟨ki_83_39, ⟨ki_83_40, trivial⟩⟩⟩⟩⟩⟩⟩⟩⟩, trivial⟩⟩⟩)⟩
set_option maxRecDepth 20000 in
theorem mk_84 : js_mok 84 := ⟨by decide +kernel, jk_tab (fun _ => js_St.ok st_bad) (show jk_all (js_Ok 84) 0 tb_84 from ⟨⟨ki_84_0, ⟨ki_84_1, ⟨kbad, ⟨kbad, ⟨ki_84_4, ⟨kbad, ⟨kbad, ⟨ki_84_7, trivial⟩⟩⟩⟩⟩⟩⟩⟩, trivial⟩)⟩
set_option maxRecDepth 20000 in
theorem mk_85 : js_mok 85 := ⟨by decide +kernel, jk_tab (fun _ => js_St.ok st_bad) (show jk_all (js_Ok 85) 0 tb_85 from ⟨⟨ki_85_0, ⟨ki_85_1, ⟨kbad, ⟨kbad, ⟨ki_85_4, ⟨ki_85_5, ⟨kbad, ⟨kbad, ⟨ki_85_8, trivial⟩⟩⟩⟩⟩⟩⟩⟩⟩, trivial⟩)⟩
set_option maxRecDepth 20000 in
theorem mk_86 : js_mok 86 := ⟨by decide +kernel, jk_tab (fun _ => js_St.ok st_bad) (show jk_all (js_Ok 86) 0 tb_86 from ⟨⟨ki_86_0, ⟨ki_86_1, ⟨kbad, ⟨kbad, ⟨ki_86_4, ⟨ki_86_5, ⟨kbad, ⟨kbad, ⟨ki_86_8, trivial⟩⟩⟩⟩⟩⟩⟩⟩⟩, trivial⟩)⟩
set_option maxRecDepth 20000 in
theorem mk_87 : js_mok 87 := ⟨by decide +kernel, jk_tab (fun _ => js_St.ok st_bad) (show jk_all (js_Ok 87) 0 tb_87 from ⟨⟨ki_87_0, ⟨ki_87_1, ⟨ki_87_2, ⟨kbad, ⟨kbad, ⟨ki_87_5, ⟨ki_87_6, ⟨ki_87_7, ⟨kbad, ⟨kbad, ⟨ki_87_10, ⟨ki_87_11, ⟨kbad, ⟨kbad, ⟨ki_87_14, ⟨ki_87_15, trivial⟩⟩⟩⟩⟩⟩⟩⟩⟩⟩⟩⟩⟩⟩⟩⟩, ⟨⟨ki_87_16, ⟨ki_87_17, ⟨kbad, ⟨kbad, ⟨ki_87_20, trivial⟩⟩⟩⟩⟩, trivial⟩⟩)⟩
set_option maxRecDepth 20000 in
theorem mk_88 : js_mok 88 := ⟨by decide +kernel, jk_tab (fun _ => js_St.ok st_bad) (show jk_all (js_Ok 88) 0 tb_88 from ⟨⟨ki_88_0, ⟨ki_88_1, ⟨kbad, ⟨kbad, ⟨ki_88_4, ⟨ki_88_5, ⟨ki_88_6, ⟨kbad, ⟨kbad, ⟨ki_88_9, ⟨ki_88_10, ⟨kbad, ⟨kbad, ⟨ki_88_13, trivial⟩⟩⟩⟩⟩⟩⟩⟩⟩⟩⟩⟩⟩⟩, trivial⟩)⟩
set_option maxRecDepth 20000 in
theorem mk_89 : js_mok 89 := ⟨by decide +kernel, jk_tab (fun _ => js_St.ok st_bad) (show jk_all (js_Ok 89) 0 tb_89 from ⟨⟨ki_89_0, ⟨ki_89_1, ⟨kbad, ⟨kbad, ⟨ki_89_4, ⟨ki_89_5, ⟨ki_89_6, ⟨ki_89_7, ⟨kbad, ⟨kbad, ⟨ki_89_10, ⟨kbad, ⟨kbad, ⟨ki_89_13, trivial⟩⟩⟩⟩⟩⟩⟩⟩⟩⟩⟩⟩⟩⟩, trivial⟩)⟩
set_option maxRecDepth 20000 in
theorem mk_90 : js_mok 90 := ⟨by decide +kernel, jk_tab (fun _ => js_St.ok st_bad) (show jk_all (js_Ok 90) 0 tb_90 from ⟨⟨ki_90_0, ⟨ki_90_1, ⟨ki_90_2, ⟨kbad, ⟨kbad, ⟨ki_90_5, ⟨kbad, ⟨ki_90_7, ⟨ki_90_8, ⟨ki_90_9, ⟨kbad, ⟨kbad, ⟨ki_90_12, ⟨kbad, ⟨ki_90_14, ⟨kbad, trivial⟩⟩⟩⟩⟩⟩⟩⟩⟩⟩⟩⟩⟩⟩⟩⟩, ⟨⟨ki_90_16, ⟨ki_90_17, ⟨kbad, ⟨kbad, ⟨ki_90_20, ⟨kbad, ⟨kbad, ⟨ki_90_23, ⟨kbad, ⟨kbad, ⟨kbad, ⟨kbad, ⟨kbad, ⟨kbad, ⟨kbad, ⟨kbad, trivial⟩⟩⟩⟩⟩⟩⟩⟩⟩⟩⟩⟩⟩⟩⟩⟩, ⟨⟨kbad, ⟨ki_90_33, ⟨kbad, ⟨ki_90_35, ⟨kbad, ⟨kbad, ⟨ki_90_38, ⟨ki_90_39, ⟨kbad, ⟨ki_90_41, ⟨kbad, ⟨kbad, ⟨ki_90_44, ⟨ki_90_45, ⟨kbad, ⟨kbad, trivial⟩⟩⟩⟩⟩⟩⟩⟩⟩⟩⟩⟩⟩⟩⟩⟩, ⟨⟨ki_90_48, ⟨ki_90_49, ⟨kbad, ⟨kbad, ⟨ki_90_52, ⟨kbad, ⟨ki_90_54, ⟨kbad, ⟨kbad, ⟨ki_90_57, ⟨ki_90_58, ⟨kbad, ⟨kbad, ⟨ki_90_61, ⟨kbad, ⟨ki_90_63, trivial⟩⟩⟩⟩⟩⟩⟩⟩⟩⟩⟩⟩⟩⟩⟩⟩, ⟨⟨kbad, ⟨ki_90_65, ⟨kbad, ⟨kbad, ⟨ki_90_68, trivial⟩⟩⟩⟩⟩, trivial⟩⟩⟩⟩⟩)⟩
set_option maxRecDepth 20000 in
theorem mk_91 : js_mok 91 := ⟨by decide +kernel, jk_tab (fun _ => js_St.ok st_bad) (show jk_all (js_Ok 91) 0 tb_91 from ⟨⟨ki_91_0, ⟨ki_91_1, ⟨ki_91_2, ⟨kbad, ⟨kbad, ⟨ki_91_5, ⟨kbad, ⟨ki_91_7, ⟨ki_91_8, ⟨ki_91_9, ⟨kbad, ⟨kbad, ⟨ki_91_12, ⟨kbad, ⟨ki_91_14, ⟨kbad, trivial⟩⟩⟩⟩⟩⟩⟩⟩⟩⟩⟩⟩⟩⟩⟩⟩, ⟨⟨ki_91_16, ⟨kbad, ⟨kbad, ⟨ki_91_19, ⟨ki_91_20, ⟨kbad, ⟨ki_91_22, ⟨kbad, ⟨kbad, ⟨ki_91_25, ⟨ki_91_26, ⟨kbad, ⟨kbad, ⟨ki_91_29, ⟨ki_91_30, ⟨kbad, trivial⟩⟩⟩⟩⟩⟩⟩⟩⟩⟩⟩⟩⟩⟩⟩⟩, ⟨⟨kbad, ⟨ki_91_33, ⟨kbad, ⟨ki_91_35, ⟨kbad, ⟨kbad, ⟨ki_91_38, ⟨ki_91_39, ⟨kbad, ⟨kbad, ⟨ki_91_42, ⟨kbad, ⟨ki_91_44, ⟨kbad, ⟨kbad, ⟨ki_91_47, trivial⟩⟩⟩⟩⟩⟩⟩⟩⟩⟩⟩⟩⟩⟩⟩⟩, trivial⟩⟩⟩)⟩
set_option maxRecDepth 20000 in
theorem mk_92 : js_mok 92 := ⟨by decide +kernel, jk_tab (fun _ => js_St.ok st_bad) (show jk_all (js_Ok 92) 0 tb_92 from ⟨⟨ki_92_0, ⟨ki_92_1, ⟨ki_92_2, ⟨ki_92_3, ⟨ki_92_4, ⟨kbad, ⟨kbad, ⟨ki_92_7, ⟨ki_92_8, ⟨kbad, ⟨kbad, ⟨ki_92_11, ⟨kbad, ⟨kbad, ⟨ki_92_14, trivial⟩⟩⟩⟩⟩⟩⟩⟩⟩⟩⟩⟩⟩⟩⟩, trivial⟩)⟩
set_option maxRecDepth 20000 in
theorem mk_93 : js_mok 93 := ⟨by decide +kernel, jk_tab (fun _ => js_St.ok st_bad) (show jk_all (js_Ok 93) 0 tb_93 from ⟨⟨ki_93_0, ⟨ki_93_1, ⟨ki_93_2, ⟨ki_93_3, ⟨ki_93_4, ⟨kbad, ⟨kbad, ⟨ki_93_7, ⟨ki_93_8, ⟨kbad, ⟨kbad, ⟨ki_93_11, ⟨kbad, ⟨kbad, ⟨ki_93_14, trivial⟩⟩⟩⟩⟩⟩⟩⟩⟩⟩⟩⟩⟩⟩⟩, trivial⟩)⟩
set_option maxRecDepth 20000 in
theorem mk_94 : js_mok 94 := ⟨by decide +kernel, jk_tab (fun _ => js_St.ok st_bad) (show jk_all (js_Ok 94) 0 tb_94 from ⟨⟨ki_94_0, ⟨ki_94_1, ⟨kbad, ⟨kbad, ⟨ki_94_4, ⟨ki_94_5, ⟨kbad, ⟨kbad, ⟨ki_94_8, ⟨kbad, ⟨kbad, ⟨ki_94_11, trivial⟩⟩⟩⟩⟩⟩⟩⟩⟩⟩⟩⟩, trivial⟩)⟩
set_option maxRecDepth 20000 in
theorem mk_95 : js_mok 95 := ⟨by decide +kernel, jk_tab (fun _ => js_St.ok st_bad) (show jk_all (js_Ok 95) 0 tb_95 from ⟨⟨ki_95_0, ⟨ki_95_1, ⟨kbad, ⟨kbad, ⟨ki_95_4, ⟨ki_95_5, ⟨kbad, ⟨kbad, ⟨ki_95_8, ⟨kbad, ⟨kbad, ⟨ki_95_11, trivial⟩⟩⟩⟩⟩⟩⟩⟩⟩⟩⟩⟩, trivial⟩)⟩
set_option maxRecDepth 20000 in
theorem mk_96 : js_mok 96 := ⟨by decide +kernel, jk_tab (fun _ => js_St.ok st_bad) (show jk_all (js_Ok 96) 0 tb_96 from ⟨⟨ki_96_0, ⟨ki_96_1, ⟨ki_96_2, ⟨kbad, ⟨kbad, ⟨ki_96_5, ⟨kbad, ⟨kbad, ⟨ki_96_8, trivial⟩⟩⟩⟩⟩⟩⟩⟩⟩, trivial⟩)⟩
set_option maxRecDepth 20000 in
theorem mk_97 : js_mok 97 := ⟨by decide +kernel, jk_tab (fun _ => js_St.ok st_bad) (show jk_all (js_Ok 97) 0 tb_97 from ⟨⟨ki_97_0, ⟨ki_97_1, ⟨kbad, ⟨kbad, ⟨ki_97_4, ⟨ki_97_5, ⟨kbad, ⟨kbad, ⟨ki_97_8, ⟨ki_97_9, ⟨ki_97_10, ⟨kbad, ⟨kbad, ⟨ki_97_13, ⟨kbad, ⟨kbad, trivial⟩⟩⟩⟩⟩⟩⟩⟩⟩⟩⟩⟩⟩⟩⟩⟩, ⟨⟨ki_97_16, trivial⟩, trivial⟩⟩)⟩
set_option maxRecDepth 20000 in
theorem mk_98 : js_mok 98 := ⟨by decide +kernel, jk_tab (fun _ => js_St.ok st_bad) (show jk_all (js_Ok 98) 0 tb_98 from ⟨⟨ki_98_0, ⟨ki_98_1, ⟨kbad, ⟨kbad, ⟨ki_98_4, ⟨ki_98_5, ⟨kbad, ⟨kbad, ⟨ki_98_8, ⟨kbad, ⟨kbad, ⟨ki_98_11, ⟨ki_98_12, ⟨ki_98_13, ⟨kbad, ⟨kbad, trivial⟩⟩⟩⟩⟩⟩⟩⟩⟩⟩⟩⟩⟩⟩⟩⟩, ⟨⟨ki_98_16, ⟨kbad, ⟨kbad, ⟨kbad, ⟨kbad, ⟨kbad, ⟨kbad, ⟨kbad, ⟨kbad, ⟨kbad, ⟨kbad, ⟨ki_98_27, ⟨ki_98_28, trivial⟩⟩⟩⟩⟩⟩⟩⟩⟩⟩⟩⟩⟩, trivial⟩⟩)⟩
set_option maxRecDepth 20000 in
theorem mk_99 : js_mok 99 := ⟨by decide +kernel, jk_tab (fun _ => js_St.ok st_bad) (show jk_all (js_Ok 99) 0 tb_99 from ⟨⟨ki_99_0, ⟨ki_99_1, ⟨kbad, ⟨kbad, ⟨ki_99_4, ⟨ki_99_5, ⟨kbad, ⟨kbad, ⟨ki_99_8, ⟨ki_99_9, ⟨ki_99_10, ⟨ki_99_11, ⟨kbad, ⟨kbad, ⟨ki_99_14, ⟨ki_99_15, trivial⟩⟩⟩⟩⟩⟩⟩⟩⟩⟩⟩⟩⟩⟩⟩⟩, ⟨⟨kbad, ⟨kbad, ⟨ki_99_18, ⟨ki_99_19, ⟨ki_99_20, ⟨ki_99_21, ⟨kbad, ⟨kbad, ⟨ki_99_24, ⟨kbad, ⟨kbad, ⟨kbad, ⟨kbad, ⟨kbad, ⟨kbad, ⟨kbad, trivial⟩⟩⟩⟩⟩⟩⟩⟩⟩⟩⟩⟩⟩⟩⟩⟩, ⟨⟨kbad, ⟨kbad, ⟨kbad, ⟨ki_99_35, ⟨ki_99_36, ⟨ki_99_37, ⟨ki_99_38, ⟨ki_99_39, ⟨ki_99_40, trivial⟩⟩⟩⟩⟩⟩⟩⟩⟩, trivial⟩⟩⟩)⟩
set_option maxRecDepth 20000 in
theorem mk_100 : js_mok 100 := ⟨by decide +kernel, jk_tab (fun _ => js_St.ok st_bad) (show jk_all (js_Ok 100) 0 tb_100 from ⟨⟨ki_100_0, ⟨ki_100_1, ⟨kbad, ⟨kbad, ⟨ki_100_4, ⟨kbad, ⟨kbad, ⟨ki_100_7, trivial⟩⟩⟩⟩⟩⟩⟩⟩, trivial⟩)⟩
set_option maxRecDepth 20000 in
theorem mk_101 : js_mok 101 := ⟨by decide +kernel, jk_tab (fun _ => js_St.ok st_bad) (show jk_all (js_Ok 101) 0 tb_101 from ⟨⟨ki_101_0, ⟨ki_101_1, ⟨kbad, ⟨kbad, ⟨ki_101_4, ⟨kbad, ⟨kbad, ⟨ki_101_7, ⟨ki_101_8, ⟨ki_101_9, ⟨kbad, ⟨kbad, ⟨ki_101_12, ⟨kbad, ⟨kbad, ⟨kbad, trivial⟩⟩⟩⟩⟩⟩⟩⟩⟩⟩⟩⟩⟩⟩⟩⟩, ⟨⟨kbad, ⟨kbad, ⟨kbad, ⟨kbad, ⟨kbad, ⟨kbad, ⟨kbad, ⟨ki_101_23, ⟨ki_101_24, ⟨ki_101_25, ⟨kbad, ⟨kbad, ⟨ki_101_28, ⟨ki_101_29, ⟨kbad, ⟨kbad, trivial⟩⟩⟩⟩⟩⟩⟩⟩⟩⟩⟩⟩⟩⟩⟩⟩, ⟨⟨ki_101_32, ⟨ki_101_33, ⟨ki_101_34, ⟨ki_101_35, ⟨ki_101_36, ⟨ki_101_37, trivial⟩⟩⟩⟩⟩⟩, trivial⟩⟩⟩)⟩
set_option maxRecDepth 20000 in
theorem mk_102 : js_mok 102 := ⟨by decide +kernel, jk_tab (fun _ => js_St.ok st_bad) (show jk_all (js_Ok 102) 0 tb_102 from ⟨⟨ki_102_0, ⟨ki_102_1, ⟨kbad, ⟨kbad, ⟨ki_102_4, ⟨ki_102_5, ⟨kbad, ⟨kbad, ⟨ki_102_8, ⟨ki_102_9, ⟨kbad, ⟨kbad, ⟨ki_102_12, ⟨ki_102_13, ⟨kbad, ⟨kbad, trivial⟩⟩⟩⟩⟩⟩⟩⟩⟩⟩⟩⟩⟩⟩⟩⟩, ⟨⟨ki_102_16, ⟨ki_102_17, ⟨kbad, ⟨kbad, ⟨ki_102_20, ⟨kbad, ⟨kbad, ⟨ki_102_23, ⟨ki_102_24, ⟨kbad, ⟨kbad, ⟨ki_102_27, ⟨ki_102_28, trivial⟩⟩⟩⟩⟩⟩⟩⟩⟩⟩⟩⟩⟩, trivial⟩⟩)⟩
set_option maxRecDepth 20000 in
theorem mk_103 : js_mok 103 := ⟨by decide +kernel, jk_tab (fun _ => js_St.ok st_bad) (show jk_all (js_Ok 103) 0 tb_103 from ⟨⟨ki_103_0, ⟨ki_103_1, ⟨ki_103_2, ⟨kbad, ⟨kbad, ⟨ki_103_5, ⟨ki_103_6, ⟨ki_103_7, ⟨ki_103_8, ⟨ki_103_9, ⟨kbad, ⟨ki_103_11, ⟨kbad, ⟨kbad, ⟨ki_103_14, ⟨ki_103_15, trivial⟩⟩⟩⟩⟩⟩⟩⟩⟩⟩⟩⟩⟩⟩⟩⟩, ⟨⟨kbad, ⟨kbad, ⟨ki_103_18, ⟨ki_103_19, ⟨ki_103_20, ⟨ki_103_21, ⟨ki_103_22, ⟨ki_103_23, ⟨kbad, ⟨kbad, ⟨ki_103_26, ⟨ki_103_27, ⟨kbad, ⟨kbad, ⟨ki_103_30, ⟨kbad, trivial⟩⟩⟩⟩⟩⟩⟩⟩⟩⟩⟩⟩⟩⟩⟩⟩, ⟨⟨kbad, ⟨ki_103_33, ⟨ki_103_34, ⟨kbad, ⟨ki_103_36, ⟨kbad, ⟨kbad, ⟨ki_103_39, ⟨ki_103_40, ⟨kbad, ⟨kbad, ⟨ki_103_43, trivial⟩⟩⟩⟩⟩⟩⟩⟩⟩⟩⟩⟩, trivial⟩⟩⟩)⟩
set_option maxRecDepth 20000 in
theorem mk_104 : js_mok 104 := ⟨by decide +kernel, jk_tab (fun _ => js_St.ok st_bad) (show jk_all (js_Ok 104) 0 tb_104 from ⟨⟨ki_104_0, ⟨ki_104_1, ⟨ki_104_2, ⟨kbad, ⟨kbad, ⟨ki_104_5, ⟨ki_104_6, ⟨ki_104_7, ⟨kbad, ⟨kbad, ⟨ki_104_10, ⟨ki_104_11, ⟨ki_104_12, ⟨kbad, ⟨kbad, ⟨ki_104_15, trivial⟩⟩⟩⟩⟩⟩⟩⟩⟩⟩⟩⟩⟩⟩⟩⟩, ⟨⟨ki_104_16, ⟨ki_104_17, ⟨ki_104_18, ⟨ki_104_19, ⟨ki_104_20, ⟨kbad, ⟨kbad, ⟨ki_104_23, ⟨ki_104_24, ⟨kbad, ⟨kbad, ⟨ki_104_27, ⟨ki_104_28, ⟨ki_104_29, ⟨ki_104_30, ⟨ki_104_31, trivial⟩⟩⟩⟩⟩⟩⟩⟩⟩⟩⟩⟩⟩⟩⟩⟩, ⟨⟨ki_104_32, ⟨kbad, ⟨kbad, ⟨ki_104_35, ⟨kbad, ⟨kbad, ⟨ki_104_38, ⟨ki_104_39, ⟨kbad, ⟨kbad, ⟨ki_104_42, ⟨kbad, ⟨kbad, ⟨ki_104_45, ⟨ki_104_46, ⟨ki_104_47, trivial⟩⟩⟩⟩⟩⟩⟩⟩⟩⟩⟩⟩⟩⟩⟩⟩, ⟨⟨kbad, ⟨kbad, ⟨ki_104_50, ⟨ki_104_51, ⟨kbad, ⟨kbad, ⟨ki_104_54, ⟨kbad, ⟨kbad, ⟨ki_104_57, ⟨ki_104_58, ⟨kbad, ⟨kbad, ⟨ki_104_61, ⟨ki_104_62, ⟨kbad, trivial⟩⟩⟩⟩⟩⟩⟩⟩⟩⟩⟩⟩⟩⟩⟩⟩, ⟨⟨ki_104_64, ⟨ki_104_65, ⟨ki_104_66, ⟨kbad, ⟨kbad, ⟨ki_104_69, ⟨kbad, ⟨ki_104_71, ⟨ki_104_72, ⟨kbad, ⟨kbad, ⟨ki_104_75, ⟨kbad, ⟨ki_104_77, ⟨ki_104_78, ⟨kbad, trivial⟩⟩⟩⟩⟩⟩⟩⟩⟩⟩⟩⟩⟩⟩⟩⟩, ⟨⟨kbad, ⟨ki_104_81, ⟨ki_104_82, ⟨ki_104_83, ⟨kbad, ⟨kbad, ⟨ki_104_86, ⟨kbad, ⟨ki_104_88, ⟨ki_104_89, ⟨kbad, ⟨kbad, ⟨ki_104_92, ⟨kbad, ⟨ki_104_94, ⟨ki_104_95, trivial⟩⟩⟩⟩⟩⟩⟩⟩⟩⟩⟩⟩⟩⟩⟩⟩, ⟨⟨kbad, ⟨kbad, ⟨ki_104_98, ⟨ki_104_99, ⟨ki_104_100, ⟨kbad, ⟨ki_104_102, ⟨kbad, ⟨kbad, ⟨ki_104_105, ⟨ki_104_106, ⟨kbad, ⟨kbad, ⟨ki_104_109, trivial⟩⟩⟩⟩⟩⟩⟩⟩⟩⟩⟩⟩⟩⟩, trivial⟩⟩⟩⟩⟩⟩⟩)⟩
set_option maxRecDepth 20000 in
theorem mk_105 : js_mok 105 := ⟨by decide +kernel, jk_tab (fun _ => js_St.ok st_bad) (show jk_all (js_Ok 105) 0 tb_105 from ⟨⟨ki_105_0, ⟨ki_105_1, ⟨kbad, ⟨kbad, ⟨ki_105_4, ⟨ki_105_5, ⟨ki_105_6, ⟨kbad, ⟨kbad, ⟨ki_105_9, ⟨kbad, ⟨kbad, ⟨ki_105_12, ⟨kbad, ⟨kbad, ⟨kbad, trivial⟩⟩⟩⟩⟩⟩⟩⟩⟩⟩⟩⟩⟩⟩⟩⟩, ⟨⟨kbad, ⟨kbad, ⟨kbad, ⟨kbad, ⟨kbad, ⟨kbad, ⟨kbad, ⟨ki_105_23, ⟨ki_105_24, ⟨kbad, ⟨kbad, ⟨ki_105_27, ⟨ki_105_28, ⟨ki_105_29, trivial⟩⟩⟩⟩⟩⟩⟩⟩⟩⟩⟩⟩⟩⟩, trivial⟩⟩)⟩
set_option maxRecDepth 20000 in
theorem mk_106 : js_mok 106 := ⟨by decide +kernel, jk_tab (fun _ => js_St.ok st_bad) (show jk_all (js_Ok 106) 0 tb_106 from ⟨⟨ki_106_0, ⟨ki_106_1, ⟨kbad, ⟨kbad, ⟨ki_106_4, ⟨kbad, ⟨kbad, ⟨ki_106_7, ⟨kbad, ⟨kbad, ⟨ki_106_10, ⟨kbad, ⟨kbad, ⟨kbad, ⟨kbad, ⟨kbad, trivial⟩⟩⟩⟩⟩⟩⟩⟩⟩⟩⟩⟩⟩⟩⟩⟩, ⟨⟨kbad, ⟨kbad, ⟨kbad, ⟨kbad, ⟨kbad, ⟨ki_106_21, ⟨ki_106_22, ⟨kbad, ⟨kbad, ⟨ki_106_25, ⟨ki_106_26, ⟨kbad, ⟨kbad, ⟨ki_106_29, trivial⟩⟩⟩⟩⟩⟩⟩⟩⟩⟩⟩⟩⟩⟩, trivial⟩⟩)⟩
set_option maxRecDepth 20000 in
theorem mk_107 : js_mok 107 := ⟨by decide +kernel, jk_tab (fun _ => js_St.ok st_bad) (show jk_all (js_Ok 107) 0 tb_107 from ⟨⟨ki_107_0, ⟨ki_107_1, ⟨kbad, ⟨kbad, ⟨ki_107_4, ⟨kbad, ⟨kbad, ⟨ki_107_7, ⟨ki_107_8, ⟨ki_107_9, ⟨kbad, ⟨kbad, ⟨ki_107_12, ⟨kbad, ⟨kbad, ⟨ki_107_15, trivial⟩⟩⟩⟩⟩⟩⟩⟩⟩⟩⟩⟩⟩⟩⟩⟩, ⟨⟨ki_107_16, ⟨kbad, ⟨kbad, ⟨ki_107_19, ⟨ki_107_20, ⟨ki_107_21, ⟨kbad, ⟨kbad, ⟨ki_107_24, ⟨kbad, ⟨kbad, ⟨ki_107_27, ⟨kbad, ⟨kbad, ⟨ki_107_30, ⟨kbad, trivial⟩⟩⟩⟩⟩⟩⟩⟩⟩⟩⟩⟩⟩⟩⟩⟩, ⟨⟨kbad, ⟨kbad, ⟨kbad, ⟨kbad, ⟨kbad, ⟨kbad, ⟨kbad, ⟨kbad, ⟨kbad, ⟨ki_107_41, ⟨ki_107_42, ⟨kbad, ⟨kbad, ⟨ki_107_45, ⟨ki_107_46, ⟨kbad, trivial⟩⟩⟩⟩⟩⟩⟩⟩⟩⟩⟩⟩⟩⟩⟩⟩, ⟨⟨kbad, ⟨ki_107_49, ⟨kbad, ⟨kbad, ⟨ki_107_52, ⟨ki_107_53, ⟨ki_107_54, ⟨ki_107_55, ⟨ki_107_56, ⟨kbad, ⟨kbad, ⟨ki_107_59, ⟨kbad, ⟨kbad, ⟨ki_107_62, ⟨kbad, trivial⟩⟩⟩⟩⟩⟩⟩⟩⟩⟩⟩⟩⟩⟩⟩⟩, ⟨⟨kbad, ⟨ki_107_65, ⟨ki_107_66, ⟨ki_107_67, ⟨kbad, ⟨kbad, ⟨ki_107_70, ⟨kbad, ⟨kbad, ⟨ki_107_73, ⟨ki_107_74, ⟨ki_107_75, ⟨kbad, ⟨kbad, ⟨ki_107_78, ⟨kbad, trivial⟩⟩⟩⟩⟩⟩⟩⟩⟩⟩⟩⟩⟩⟩⟩⟩, ⟨⟨kbad, ⟨ki_107_81, ⟨ki_107_82, ⟨kbad, ⟨kbad, ⟨ki_107_85, ⟨ki_107_86, ⟨kbad, ⟨kbad, ⟨ki_107_89, ⟨kbad, ⟨kbad, ⟨ki_107_92, ⟨kbad, ⟨kbad, ⟨ki_107_95, trivial⟩⟩⟩⟩⟩⟩⟩⟩⟩⟩⟩⟩⟩⟩⟩⟩, ⟨⟨ki_107_96, ⟨ki_107_97, ⟨kbad, ⟨kbad, ⟨ki_107_100, ⟨kbad, ⟨kbad, ⟨kbad, ⟨kbad, ⟨kbad, ⟨kbad, ⟨kbad, ⟨kbad, ⟨kbad, ⟨kbad, ⟨ki_107_111, trivial⟩⟩⟩⟩⟩⟩⟩⟩⟩⟩⟩⟩⟩⟩⟩⟩, ⟨⟨kbad, ⟨kbad, ⟨ki_107_114, ⟨kbad, ⟨kbad, ⟨ki_107_117, ⟨ki_107_118, ⟨ki_107_119, ⟨kbad, ⟨kbad, ⟨ki_107_122, ⟨kbad, ⟨kbad, ⟨ki_107_125, ⟨kbad, ⟨kbad, trivial⟩⟩⟩⟩⟩⟩⟩⟩⟩⟩⟩⟩⟩⟩⟩⟩, ⟨⟨ki_107_128, trivial⟩, trivial⟩⟩⟩⟩⟩⟩⟩⟩⟩)⟩
set_option maxRecDepth 20000 in
theorem mk_110 : js_mok 110 := ⟨by decide +kernel, jk_tab (fun _ => js_St.ok st_bad) (show jk_all (js_Ok 110) 0 tb_110 from ⟨⟨ki_110_0, ⟨ki_110_1, ⟨kbad, ⟨kbad, ⟨ki_110_4, ⟨kbad, ⟨kbad, ⟨ki_110_7, ⟨kbad, ⟨kbad, ⟨ki_110_10, ⟨kbad, ⟨kbad, ⟨kbad, ⟨kbad, ⟨kbad, trivial⟩⟩⟩⟩⟩⟩⟩⟩⟩⟩⟩⟩⟩⟩⟩⟩, ⟨⟨kbad, ⟨kbad, ⟨kbad, ⟨kbad, ⟨kbad, ⟨ki_110_21, ⟨ki_110_22, ⟨kbad, ⟨kbad, ⟨ki_110_25, ⟨ki_110_26, ⟨kbad, ⟨kbad, ⟨ki_110_29, ⟨kbad, ⟨kbad, trivial⟩⟩⟩⟩⟩⟩⟩⟩⟩⟩⟩⟩⟩⟩⟩⟩, ⟨⟨ki_110_32, ⟨kbad, ⟨kbad, ⟨ki_110_35, ⟨ki_110_36, ⟨kbad, ⟨kbad, ⟨ki_110_39, ⟨kbad, ⟨kbad, ⟨ki_110_42, trivial⟩⟩⟩⟩⟩⟩⟩⟩⟩⟩⟩, trivial⟩⟩⟩)⟩
set_option maxRecDepth 20000 in
theorem mk_111 : js_mok 111 := ⟨by decide +kernel, jk_tab (fun _ => js_St.ok st_bad) (show jk_all (js_Ok 111) 0 tb_111 from ⟨⟨ki_111_0, ⟨ki_111_1, ⟨kbad, ⟨kbad, ⟨ki_111_4, ⟨kbad, ⟨kbad, ⟨ki_111_7, trivial⟩⟩⟩⟩⟩⟩⟩⟩, trivial⟩)⟩
set_option maxRecDepth 20000 in
theorem mk_114 : js_mok 114 := ⟨by decide +kernel, jk_tab (fun _ => js_St.ok st_bad) (show jk_all (js_Ok 114) 0 tb_114 from ⟨⟨ki_114_0, ⟨ki_114_1, ⟨kbad, ⟨kbad, ⟨ki_114_4, ⟨ki_114_5, ⟨kbad, ⟨kbad, ⟨ki_114_8, ⟨kbad, ⟨kbad, ⟨ki_114_11, ⟨ki_114_12, trivial⟩⟩⟩⟩⟩⟩⟩⟩⟩⟩⟩⟩⟩, trivial⟩)⟩
set_option maxRecDepth 20000 in
theorem mk_115 : js_mok 115 := ⟨by decide +kernel, jk_tab (fun _ => js_St.ok st_bad) (show jk_all (js_Ok 115) 0 tb_115 from ⟨⟨ki_115_0, ⟨ki_115_1, ⟨kbad, ⟨kbad, ⟨kbad, ⟨kbad, ⟨kbad, ⟨kbad, ⟨kbad, ⟨kbad, ⟨kbad, ⟨kbad, ⟨kbad, ⟨kbad, ⟨kbad, ⟨kbad, trivial⟩⟩⟩⟩⟩⟩⟩⟩⟩⟩⟩⟩⟩⟩⟩⟩, ⟨⟨kbad, ⟨kbad, ⟨kbad, ⟨kbad, ⟨kbad, ⟨kbad, ⟨kbad, ⟨kbad, ⟨kbad, ⟨kbad, ⟨kbad, ⟨kbad, ⟨kbad, ⟨kbad, ⟨kbad, ⟨kbad, trivial⟩⟩⟩⟩⟩⟩⟩⟩⟩⟩⟩⟩⟩⟩⟩⟩, ⟨⟨ki_115_32, ⟨kbad, ⟨kbad, ⟨kbad, ⟨kbad, ⟨kbad, ⟨kbad, ⟨kbad, ⟨kbad, ⟨kbad, ⟨kbad, ⟨ki_115_43, ⟨kbad, ⟨kbad, ⟨kbad, ⟨kbad, trivial⟩⟩⟩⟩⟩⟩⟩⟩⟩⟩⟩⟩⟩⟩⟩⟩, ⟨⟨kbad, ⟨kbad, ⟨kbad, ⟨kbad, ⟨kbad, ⟨kbad, ⟨ki_115_54, ⟨kbad, ⟨kbad, ⟨kbad, ⟨kbad, ⟨kbad, ⟨kbad, ⟨kbad, ⟨kbad, ⟨kbad, trivial⟩⟩⟩⟩⟩⟩⟩⟩⟩⟩⟩⟩⟩⟩⟩⟩, ⟨⟨kbad, ⟨ki_115_65, ⟨kbad, ⟨kbad, ⟨kbad, ⟨kbad, ⟨kbad, ⟨kbad, ⟨kbad, ⟨kbad, ⟨kbad, ⟨kbad, ⟨ki_115_76, trivial⟩⟩⟩⟩⟩⟩⟩⟩⟩⟩⟩⟩⟩, trivial⟩⟩⟩⟩⟩)⟩
set_option maxRecDepth 20000 in
theorem mk_116 : js_mok 116 := ⟨by decide +kernel, jk_tab (fun _ => js_St.ok st_bad) (show jk_all (js_Ok 116) 0 tb_116 from ⟨⟨ki_116_0, ⟨ki_116_1, ⟨kbad, ⟨kbad, ⟨ki_116_4, ⟨ki_116_5, ⟨kbad, ⟨kbad, ⟨ki_116_8, ⟨ki_116_9, ⟨ki_116_10, ⟨kbad, ⟨kbad, ⟨ki_116_13, ⟨kbad, ⟨kbad, trivial⟩⟩⟩⟩⟩⟩⟩⟩⟩⟩⟩⟩⟩⟩⟩⟩, ⟨⟨kbad, ⟨kbad, ⟨kbad, ⟨kbad, ⟨kbad, ⟨kbad, ⟨kbad, ⟨kbad, ⟨ki_116_24, ⟨ki_116_25, trivial⟩⟩⟩⟩⟩⟩⟩⟩⟩⟩, trivial⟩⟩)⟩
set_option maxRecDepth 20000 in
theorem mk_117 : js_mok 117 := ⟨by decide +kernel, jk_tab (fun _ => js_St.ok st_bad) (show jk_all (js_Ok 117) 0 tb_117 from ⟨⟨ki_117_0, ⟨ki_117_1, ⟨ki_117_2, ⟨kbad, ⟨kbad, ⟨ki_117_5, ⟨ki_117_6, ⟨ki_117_7, ⟨kbad, ⟨kbad, ⟨ki_117_10, ⟨kbad, ⟨kbad, ⟨ki_117_13, ⟨kbad, ⟨kbad, trivial⟩⟩⟩⟩⟩⟩⟩⟩⟩⟩⟩⟩⟩⟩⟩⟩, ⟨⟨kbad, ⟨kbad, ⟨kbad, ⟨kbad, ⟨kbad, ⟨kbad, ⟨kbad, ⟨kbad, ⟨ki_117_24, ⟨ki_117_25, trivial⟩⟩⟩⟩⟩⟩⟩⟩⟩⟩, trivial⟩⟩)⟩
set_option maxRecDepth 20000 in
theorem mk_118 : js_mok 118 := ⟨by decide +kernel, jk_tab (fun _ => js_St.ok st_bad) (show jk_all (js_Ok 118) 0 tb_118 from ⟨⟨ki_118_0, ⟨ki_118_1, ⟨kbad, ⟨ki_118_3, ⟨kbad, ⟨kbad, ⟨ki_118_6, ⟨kbad, ⟨kbad, ⟨ki_118_9, ⟨ki_118_10, ⟨kbad, ⟨ki_118_12, ⟨kbad, ⟨kbad, ⟨ki_118_15, trivial⟩⟩⟩⟩⟩⟩⟩⟩⟩⟩⟩⟩⟩⟩⟩⟩, ⟨⟨kbad, ⟨kbad, ⟨ki_118_18, ⟨kbad, ⟨kbad, ⟨kbad, ⟨kbad, ⟨kbad, ⟨kbad, ⟨kbad, ⟨kbad, ⟨kbad, ⟨kbad, ⟨ki_118_29, ⟨kbad, ⟨ki_118_31, trivial⟩⟩⟩⟩⟩⟩⟩⟩⟩⟩⟩⟩⟩⟩⟩⟩, ⟨⟨ki_118_32, ⟨ki_118_33, ⟨ki_118_34, ⟨ki_118_35, trivial⟩⟩⟩⟩, trivial⟩⟩⟩)⟩
set_option maxRecDepth 20000 in
theorem mk_119 : js_mok 119 := ⟨by decide +kernel, jk_tab (fun _ => js_St.ok st_bad) (show jk_all (js_Ok 119) 0 tb_119 from ⟨⟨ki_119_0, ⟨ki_119_1, ⟨ki_119_2, ⟨kbad, ⟨kbad, ⟨ki_119_5, ⟨ki_119_6, ⟨ki_119_7, ⟨ki_119_8, ⟨kbad, ⟨kbad, ⟨ki_119_11, ⟨ki_119_12, trivial⟩⟩⟩⟩⟩⟩⟩⟩⟩⟩⟩⟩⟩, trivial⟩)⟩
set_option maxRecDepth 20000 in
theorem mk_120 : js_mok 120 := ⟨by decide +kernel, jk_tab (fun _ => js_St.ok st_bad) (show jk_all (js_Ok 120) 0 tb_120 from ⟨⟨ki_120_0, ⟨ki_120_1, ⟨kbad, ⟨kbad, ⟨ki_120_4, ⟨ki_120_5, ⟨kbad, ⟨kbad, ⟨ki_120_8, ⟨kbad, ⟨kbad, ⟨ki_120_11, ⟨kbad, ⟨kbad, ⟨kbad, ⟨kbad, trivial⟩⟩⟩⟩⟩⟩⟩⟩⟩⟩⟩⟩⟩⟩⟩⟩, ⟨⟨kbad, ⟨kbad, ⟨kbad, ⟨kbad, ⟨kbad, ⟨kbad, ⟨ki_120_22, trivial⟩⟩⟩⟩⟩⟩⟩, trivial⟩⟩)⟩
set_option maxRecDepth 20000 in
theorem mk_121 : js_mok 121 := ⟨by decide +kernel, jk_tab (fun _ => js_St.ok st_bad) (show jk_all (js_Ok 121) 0 tb_121 from ⟨⟨ki_121_0, ⟨ki_121_1, ⟨kbad, ⟨kbad, ⟨ki_121_4, ⟨ki_121_5, ⟨kbad, ⟨kbad, ⟨ki_121_8, ⟨ki_121_9, ⟨kbad, ⟨kbad, ⟨ki_121_12, ⟨ki_121_13, ⟨kbad, ⟨kbad, trivial⟩⟩⟩⟩⟩⟩⟩⟩⟩⟩⟩⟩⟩⟩⟩⟩, ⟨⟨ki_121_16, ⟨ki_121_17, ⟨kbad, ⟨kbad, ⟨ki_121_20, ⟨ki_121_21, ⟨kbad, ⟨kbad, ⟨ki_121_24, ⟨ki_121_25, ⟨ki_121_26, ⟨kbad, ⟨kbad, ⟨ki_121_29, ⟨kbad, ⟨kbad, trivial⟩⟩⟩⟩⟩⟩⟩⟩⟩⟩⟩⟩⟩⟩⟩⟩, ⟨⟨kbad, ⟨kbad, ⟨kbad, ⟨kbad, ⟨kbad, ⟨kbad, ⟨kbad, ⟨kbad, ⟨ki_121_40, ⟨ki_121_41, trivial⟩⟩⟩⟩⟩⟩⟩⟩⟩⟩, trivial⟩⟩⟩)⟩
set_option maxRecDepth 20000 in
theorem mk_122 : js_mok 122 := ⟨by decide +kernel, jk_tab (fun _ => js_St.ok st_bad) (show jk_all (js_Ok 122) 0 tb_122 from ⟨⟨ki_122_0, ⟨ki_122_1, ⟨ki_122_2, ⟨kbad, ⟨kbad, ⟨ki_122_5, ⟨kbad, ⟨kbad, ⟨ki_122_8, ⟨kbad, ⟨kbad, ⟨kbad, ⟨kbad, ⟨kbad, ⟨kbad, ⟨kbad, trivial⟩⟩⟩⟩⟩⟩⟩⟩⟩⟩⟩⟩⟩⟩⟩⟩, ⟨⟨kbad, ⟨kbad, ⟨kbad, ⟨ki_122_19, trivial⟩⟩⟩⟩, trivial⟩⟩)⟩
set_option maxRecDepth 20000 in
theorem mk_123 : js_mok 123 := ⟨by decide +kernel, jk_tab (fun _ => js_St.ok st_bad) (show jk_all (js_Ok 123) 0 tb_123 from ⟨⟨ki_123_0, ⟨ki_123_1, ⟨kbad, ⟨kbad, ⟨ki_123_4, ⟨kbad, ⟨kbad, ⟨ki_123_7, ⟨kbad, ⟨kbad, ⟨kbad, ⟨kbad, ⟨kbad, ⟨kbad, ⟨kbad, ⟨kbad, trivial⟩⟩⟩⟩⟩⟩⟩⟩⟩⟩⟩⟩⟩⟩⟩⟩, ⟨⟨kbad, ⟨kbad, ⟨ki_123_18, trivial⟩⟩⟩, trivial⟩⟩)⟩
set_option maxRecDepth 20000 in
theorem mk_124 : js_mok 124 := ⟨by decide +kernel, jk_tab (fun _ => js_St.ok st_bad) (show jk_all (js_Ok 124) 0 tb_124 from ⟨⟨ki_124_0, ⟨ki_124_1, ⟨kbad, ⟨kbad, ⟨ki_124_4, ⟨kbad, ⟨kbad, ⟨ki_124_7, ⟨ki_124_8, ⟨ki_124_9, ⟨ki_124_10, ⟨ki_124_11, ⟨kbad, ⟨kbad, ⟨ki_124_14, ⟨ki_124_15, trivial⟩⟩⟩⟩⟩⟩⟩⟩⟩⟩⟩⟩⟩⟩⟩⟩, ⟨⟨kbad, ⟨kbad, ⟨ki_124_18, ⟨ki_124_19, ⟨ki_124_20, ⟨kbad, ⟨kbad, ⟨ki_124_23, ⟨ki_124_24, ⟨kbad, ⟨kbad, ⟨ki_124_27, ⟨kbad, ⟨kbad, ⟨ki_124_30, ⟨kbad, trivial⟩⟩⟩⟩⟩⟩⟩⟩⟩⟩⟩⟩⟩⟩⟩⟩, ⟨⟨ki_124_32, ⟨kbad, ⟨kbad, ⟨ki_124_35, ⟨kbad, ⟨ki_124_37, trivial⟩⟩⟩⟩⟩⟩, trivial⟩⟩⟩)⟩
set_option maxRecDepth 20000 in
theorem mk_125 : js_mok 125 := ⟨by decide +kernel, jk_tab (fun _ => js_St.ok st_bad) (show jk_all (js_Ok 125) 0 tb_125 from ⟨⟨ki_125_0, ⟨ki_125_1, ⟨kbad, ⟨kbad, ⟨ki_125_4, ⟨ki_125_5, ⟨kbad, ⟨kbad, ⟨ki_125_8, ⟨ki_125_9, ⟨kbad, ⟨kbad, ⟨ki_125_12, ⟨kbad, ⟨kbad, ⟨ki_125_15, trivial⟩⟩⟩⟩⟩⟩⟩⟩⟩⟩⟩⟩⟩⟩⟩⟩, ⟨⟨ki_125_16, ⟨kbad, ⟨kbad, ⟨kbad, ⟨kbad, ⟨kbad, ⟨kbad, ⟨kbad, ⟨kbad, ⟨kbad, ⟨kbad, ⟨kbad, ⟨kbad, ⟨kbad, ⟨kbad, ⟨kbad, trivial⟩⟩⟩⟩⟩⟩⟩⟩⟩⟩⟩⟩⟩⟩⟩⟩, ⟨⟨kbad, ⟨kbad, ⟨kbad, ⟨kbad, ⟨kbad, ⟨kbad, ⟨kbad, ⟨kbad, ⟨kbad, ⟨kbad, ⟨kbad, ⟨kbad, ⟨kbad, ⟨kbad, ⟨kbad, ⟨kbad, trivial⟩⟩⟩⟩⟩⟩⟩⟩⟩⟩⟩⟩⟩⟩⟩⟩, ⟨⟨kbad, ⟨kbad, ⟨kbad, ⟨kbad, ⟨kbad, ⟨kbad, ⟨kbad, ⟨kbad, ⟨ki_125_56, ⟨ki_125_57, ⟨kbad, ⟨kbad, ⟨ki_125_60, ⟨ki_125_61, ⟨ki_125_62, ⟨ki_125_63, trivial⟩⟩⟩⟩⟩⟩⟩⟩⟩⟩⟩⟩⟩⟩⟩⟩, ⟨⟨ki_125_64, ⟨ki_125_65, ⟨ki_125_66, ⟨ki_125_67, ⟨ki_125_68, ⟨ki_125_69, ⟨ki_125_70, ⟨ki_125_71, ⟨ki_125_72, ⟨ki_125_73, ⟨ki_125_74, ⟨ki_125_75, ⟨ki_125_76, ⟨kbad, ⟨kbad, ⟨ki_125_79, trivial⟩⟩⟩⟩⟩⟩⟩⟩⟩⟩⟩⟩⟩⟩⟩⟩, ⟨⟨ki_125_80, ⟨ki_125_81, ⟨kbad, ⟨kbad, ⟨ki_125_84, ⟨ki_125_85, ⟨ki_125_86, ⟨ki_125_87, ⟨ki_125_88, ⟨ki_125_89, ⟨ki_125_90, ⟨ki_125_91, ⟨ki_125_92, ⟨ki_125_93, ⟨kbad, ⟨kbad, trivial⟩⟩⟩⟩⟩⟩⟩⟩⟩⟩⟩⟩⟩⟩⟩⟩, ⟨⟨ki_125_96, ⟨ki_125_97, ⟨ki_125_98, ⟨kbad, ⟨kbad, ⟨ki_125_101, ⟨ki_125_102, ⟨ki_125_103, ⟨ki_125_104, ⟨kbad, ⟨kbad, ⟨ki_125_107, ⟨ki_125_108, ⟨ki_125_109, ⟨kbad, ⟨kbad, trivial⟩⟩⟩⟩⟩⟩⟩⟩⟩⟩⟩⟩⟩⟩⟩⟩, ⟨⟨ki_125_112, ⟨ki_125_113, ⟨ki_125_114, ⟨ki_125_115, ⟨ki_125_116, ⟨ki_125_117, ⟨ki_125_118, ⟨kbad, ⟨kbad, ⟨ki_125_121, ⟨ki_125_122, ⟨ki_125_123, ⟨kbad, ⟨kbad, ⟨ki_125_126, ⟨ki_125_127, trivial⟩⟩⟩⟩⟩⟩⟩⟩⟩⟩⟩⟩⟩⟩⟩⟩, ⟨⟨ki_125_128, ⟨ki_125_129, ⟨ki_125_130, ⟨ki_125_131, ⟨ki_125_132, ⟨kbad, ⟨kbad, ⟨ki_125_135, ⟨ki_125_136, ⟨ki_125_137, ⟨kbad, ⟨kbad, ⟨ki_125_140, ⟨ki_125_141, ⟨ki_125_142, ⟨ki_125_143, trivial⟩⟩⟩⟩⟩⟩⟩⟩⟩⟩⟩⟩⟩⟩⟩⟩, ⟨⟨kbad, ⟨kbad, ⟨ki_125_146, ⟨ki_125_147, ⟨ki_125_148, ⟨kbad, ⟨kbad, ⟨ki_125_151, ⟨ki_125_152, ⟨kbad, ⟨kbad, ⟨ki_125_155, ⟨kbad, ⟨kbad, ⟨ki_125_158, trivial⟩⟩⟩⟩⟩⟩⟩⟩⟩⟩⟩⟩⟩⟩⟩, trivial⟩⟩⟩⟩⟩⟩⟩⟩⟩⟩)⟩
set_option maxRecDepth 20000 in
theorem mk_126 : js_mok 126 := ⟨by decide +kernel, jk_tab (fun _ => js_St.ok st_bad) (show jk_all (js_Ok 126) 0 tb_126 from ⟨⟨ki_126_0, ⟨ki_126_1, ⟨kbad, ⟨kbad, ⟨ki_126_4, ⟨ki_126_5, ⟨ki_126_6, ⟨kbad, ⟨kbad, ⟨ki_126_9, ⟨ki_126_10, ⟨kbad, ⟨kbad, ⟨ki_126_13, ⟨ki_126_14, trivial⟩⟩⟩⟩⟩⟩⟩⟩⟩⟩⟩⟩⟩⟩⟩, trivial⟩)⟩
set_option maxRecDepth 20000 in
theorem mk_127 : js_mok 127 := ⟨by decide +kernel, jk_tab (fun _ => js_St.ok st_bad) (show jk_all (js_Ok 127) 0 tb_127 from ⟨⟨ki_127_0, ⟨ki_127_1, ⟨kbad, ⟨ki_127_3, ⟨kbad, ⟨kbad, ⟨ki_127_6, ⟨ki_127_7, ⟨kbad, ⟨ki_127_9, ⟨kbad, ⟨kbad, ⟨ki_127_12, ⟨ki_127_13, ⟨kbad, ⟨kbad, trivial⟩⟩⟩⟩⟩⟩⟩⟩⟩⟩⟩⟩⟩⟩⟩⟩, ⟨⟨ki_127_16, ⟨ki_127_17, trivial⟩⟩, trivial⟩⟩)⟩
set_option maxRecDepth 20000 in
theorem mk_128 : js_mok 128 := ⟨by decide +kernel, jk_tab (fun _ => js_St.ok st_bad) (show jk_all (js_Ok 128) 0 tb_128 from ⟨⟨ki_128_0, ⟨ki_128_1, ⟨ki_128_2, ⟨ki_128_3, ⟨ki_128_4, ⟨ki_128_5, trivial⟩⟩⟩⟩⟩⟩, trivial⟩)⟩
set_option maxRecDepth 20000 in
theorem mk_129 : js_mok 129 := ⟨by decide +kernel, jk_tab (fun _ => js_St.ok st_bad) (show jk_all (js_Ok 129) 0 tb_129 from ⟨⟨ki_129_0, ⟨ki_129_1, ⟨ki_129_2, ⟨ki_129_3, trivial⟩⟩⟩⟩, trivial⟩)⟩
set_option maxRecDepth 20000 in
theorem mk_130 : js_mok 130 := ⟨by decide +kernel, jk_tab (fun _ => js_St.ok st_bad) (show jk_all (js_Ok 130) 0 tb_130 from ⟨⟨ki_130_0, ⟨ki_130_1, ⟨kbad, ⟨ki_130_3, ⟨kbad, ⟨kbad, ⟨ki_130_6, ⟨kbad, ⟨ki_130_8, ⟨ki_130_9, ⟨ki_130_10, ⟨kbad, ⟨kbad, ⟨ki_130_13, ⟨kbad, ⟨ki_130_15, trivial⟩⟩⟩⟩⟩⟩⟩⟩⟩⟩⟩⟩⟩⟩⟩⟩, ⟨⟨ki_130_16, ⟨ki_130_17, ⟨kbad, ⟨ki_130_19, ⟨ki_130_20, ⟨ki_130_21, trivial⟩⟩⟩⟩⟩⟩, trivial⟩⟩)⟩
set_option maxRecDepth 20000 in
theorem mk_131 : js_mok 131 := ⟨by decide +kernel, jk_tab (fun _ => js_St.ok st_bad) (show jk_all (js_Ok 131) 0 tb_131 from ⟨⟨ki_131_0, ⟨ki_131_1, ⟨kbad, ⟨ki_131_3, ⟨kbad, ⟨kbad, ⟨ki_131_6, ⟨ki_131_7, ⟨kbad, ⟨ki_131_9, ⟨kbad, ⟨kbad, ⟨ki_131_12, ⟨ki_131_13, ⟨kbad, ⟨ki_131_15, trivial⟩⟩⟩⟩⟩⟩⟩⟩⟩⟩⟩⟩⟩⟩⟩⟩, ⟨⟨ki_131_16, ⟨kbad, ⟨kbad, ⟨ki_131_19, ⟨ki_131_20, trivial⟩⟩⟩⟩⟩, trivial⟩⟩)⟩
set_option maxRecDepth 20000 in
theorem mk_132 : js_mok 132 := ⟨by decide +kernel, jk_tab (fun _ => js_St.ok st_bad) (show jk_all (js_Ok 132) 0 tb_132 from ⟨⟨ki_132_0, ⟨ki_132_1, ⟨ki_132_2, ⟨ki_132_3, ⟨kbad, ⟨kbad, ⟨ki_132_6, ⟨ki_132_7, ⟨ki_132_8, ⟨ki_132_9, ⟨ki_132_10, ⟨kbad, ⟨ki_132_12, ⟨ki_132_13, ⟨ki_132_14, ⟨ki_132_15, trivial⟩⟩⟩⟩⟩⟩⟩⟩⟩⟩⟩⟩⟩⟩⟩⟩, ⟨⟨ki_132_16, ⟨kbad, ⟨ki_132_18, ⟨kbad, ⟨kbad, ⟨ki_132_21, ⟨ki_132_22, ⟨ki_132_23, ⟨ki_132_24, ⟨kbad, ⟨kbad, ⟨ki_132_27, ⟨ki_132_28, ⟨ki_132_29, ⟨ki_132_30, ⟨ki_132_31, trivial⟩⟩⟩⟩⟩⟩⟩⟩⟩⟩⟩⟩⟩⟩⟩⟩, ⟨⟨kbad, ⟨kbad, ⟨ki_132_34, ⟨kbad, ⟨kbad, ⟨ki_132_37, ⟨kbad, ⟨kbad, ⟨ki_132_40, ⟨ki_132_41, ⟨kbad, ⟨ki_132_43, ⟨ki_132_44, ⟨ki_132_45, ⟨ki_132_46, ⟨ki_132_47, trivial⟩⟩⟩⟩⟩⟩⟩⟩⟩⟩⟩⟩⟩⟩⟩⟩, ⟨⟨kbad, ⟨kbad, ⟨ki_132_50, ⟨ki_132_51, ⟨ki_132_52, ⟨ki_132_53, trivial⟩⟩⟩⟩⟩⟩, trivial⟩⟩⟩⟩)⟩
set_option maxRecDepth 20000 in
theorem mk_241 : js_mok 241 := ⟨by decide +kernel, jk_tab (fun _ => js_St.ok st_bad) (show jk_all (js_Ok 241) 0 tb_241 from ⟨⟨ki_241_0, ⟨ki_241_1, ⟨kbad, ⟨kbad, ⟨ki_241_4, trivial⟩⟩⟩⟩⟩, trivial⟩)⟩
set_option maxRecDepth 20000 in
theorem mk_242 : js_mok 242 := ⟨by decide +kernel, jk_tab (fun _ => js_St.ok st_bad) (show jk_all (js_Ok 242) 0 tb_242 from ⟨⟨ki_242_0, ⟨ki_242_1, ⟨ki_242_2, ⟨ki_242_3, ⟨kbad, ⟨kbad, ⟨ki_242_6, ⟨ki_242_7, ⟨kbad, ⟨kbad, ⟨ki_242_10, ⟨ki_242_11, trivial⟩⟩⟩⟩⟩⟩⟩⟩⟩⟩⟩⟩, trivial⟩)⟩
set_option maxRecDepth 20000 in
theorem mk_243 : js_mok 243 := ⟨by decide +kernel, jk_tab (fun _ => js_St.ok st_bad) (show jk_all (js_Ok 243) 0 tb_243 from ⟨⟨ki_243_0, ⟨ki_243_1, ⟨kbad, ⟨kbad, ⟨ki_243_4, ⟨kbad, ⟨kbad, ⟨ki_243_7, ⟨ki_243_8, ⟨kbad, ⟨kbad, ⟨ki_243_11, ⟨ki_243_12, ⟨kbad, ⟨ki_243_14, trivial⟩⟩⟩⟩⟩⟩⟩⟩⟩⟩⟩⟩⟩⟩⟩, trivial⟩)⟩
set_option maxRecDepth 20000 in
theorem mk_244 : js_mok 244 := ⟨by decide +kernel, jk_tab (fun _ => js_St.ok st_bad) (show jk_all (js_Ok 244) 0 tb_244 from ⟨⟨ki_244_0, ⟨ki_244_1, ⟨ki_244_2, ⟨ki_244_3, ⟨ki_244_4, ⟨kbad, ⟨kbad, ⟨ki_244_7, ⟨ki_244_8, ⟨ki_244_9, ⟨ki_244_10, ⟨ki_244_11, ⟨kbad, ⟨kbad, ⟨ki_244_14, ⟨ki_244_15, trivial⟩⟩⟩⟩⟩⟩⟩⟩⟩⟩⟩⟩⟩⟩⟩⟩, ⟨⟨ki_244_16, ⟨ki_244_17, ⟨ki_244_18, ⟨kbad, ⟨kbad, ⟨ki_244_21, ⟨ki_244_22, ⟨ki_244_23, ⟨ki_244_24, ⟨ki_244_25, ⟨ki_244_26, ⟨ki_244_27, ⟨ki_244_28, ⟨ki_244_29, ⟨kbad, ⟨kbad, trivial⟩⟩⟩⟩⟩⟩⟩⟩⟩⟩⟩⟩⟩⟩⟩⟩, ⟨⟨ki_244_32, ⟨ki_244_33, ⟨ki_244_34, ⟨ki_244_35, ⟨ki_244_36, ⟨kbad, ⟨ki_244_38, ⟨ki_244_39, ⟨ki_244_40, ⟨ki_244_41, ⟨ki_244_42, ⟨ki_244_43, ⟨kbad, ⟨ki_244_45, ⟨ki_244_46, ⟨ki_244_47, trivial⟩⟩⟩⟩⟩⟩⟩⟩⟩⟩⟩⟩⟩⟩⟩⟩, ⟨⟨ki_244_48, ⟨ki_244_49, ⟨kbad, ⟨ki_244_51, ⟨ki_244_52, trivial⟩⟩⟩⟩⟩, trivial⟩⟩⟩⟩)⟩
set_option maxRecDepth 20000 in
theorem mk_245 : js_mok 245 := ⟨by decide +kernel, jk_tab (fun _ => js_St.ok st_bad) (show jk_all (js_Ok 245) 0 tb_245 from ⟨⟨ki_245_0, ⟨ki_245_1, ⟨ki_245_2, ⟨ki_245_3, ⟨ki_245_4, ⟨kbad, ⟨kbad, ⟨ki_245_7, ⟨ki_245_8, ⟨ki_245_9, ⟨ki_245_10, ⟨ki_245_11, ⟨kbad, ⟨kbad, ⟨ki_245_14, ⟨ki_245_15, trivial⟩⟩⟩⟩⟩⟩⟩⟩⟩⟩⟩⟩⟩⟩⟩⟩, ⟨⟨ki_245_16, ⟨ki_245_17, ⟨ki_245_18, ⟨kbad, ⟨kbad, ⟨ki_245_21, ⟨ki_245_22, ⟨ki_245_23, ⟨ki_245_24, ⟨ki_245_25, ⟨ki_245_26, ⟨ki_245_27, ⟨ki_245_28, ⟨ki_245_29, ⟨kbad, ⟨kbad, trivial⟩⟩⟩⟩⟩⟩⟩⟩⟩⟩⟩⟩⟩⟩⟩⟩, ⟨⟨ki_245_32, ⟨ki_245_33, ⟨ki_245_34, ⟨ki_245_35, ⟨ki_245_36, ⟨kbad, ⟨ki_245_38, ⟨ki_245_39, ⟨ki_245_40, ⟨ki_245_41, ⟨ki_245_42, ⟨ki_245_43, ⟨kbad, ⟨ki_245_45, ⟨ki_245_46, ⟨ki_245_47, trivial⟩⟩⟩⟩⟩⟩⟩⟩⟩⟩⟩⟩⟩⟩⟩⟩, ⟨⟨ki_245_48, ⟨ki_245_49, ⟨ki_245_50, ⟨kbad, ⟨ki_245_52, ⟨ki_245_53, ⟨ki_245_54, ⟨ki_245_55, ⟨ki_245_56, ⟨ki_245_57, ⟨kbad, ⟨ki_245_59, ⟨ki_245_60, trivial⟩⟩⟩⟩⟩⟩⟩⟩⟩⟩⟩⟩⟩, trivial⟩⟩⟩⟩)⟩
set_option maxRecDepth 20000 in
theorem mk_246 : js_mok 246 := ⟨by decide +kernel, jk_tab (fun _ => js_St.ok st_bad) (show jk_all (js_Ok 246) 0 tb_246 from ⟨⟨ki_246_0, ⟨ki_246_1, ⟨ki_246_2, ⟨kbad, ⟨kbad, ⟨ki_246_5, ⟨ki_246_6, ⟨kbad, ⟨kbad, ⟨ki_246_9, ⟨ki_246_10, trivial⟩⟩⟩⟩⟩⟩⟩⟩⟩⟩⟩, trivial⟩)⟩
set_option maxRecDepth 20000 in
theorem mk_247 : js_mok 247 := ⟨by decide +kernel, jk_tab (fun _ => js_St.ok st_bad) (show jk_all (js_Ok 247) 0 tb_247 from ⟨⟨ki_247_0, ⟨ki_247_1, ⟨ki_247_2, ⟨kbad, ⟨kbad, ⟨ki_247_5, ⟨ki_247_6, ⟨kbad, ⟨kbad, ⟨ki_247_9, ⟨ki_247_10, trivial⟩⟩⟩⟩⟩⟩⟩⟩⟩⟩⟩, trivial⟩)⟩
set_option maxRecDepth 20000 in
theorem mk_248 : js_mok 248 := ⟨by decide +kernel, jk_tab (fun _ => js_St.ok st_bad) (show jk_all (js_Ok 248) 0 tb_248 from ⟨⟨ki_248_0, ⟨ki_248_1, ⟨kbad, ⟨kbad, ⟨ki_248_4, ⟨ki_248_5, ⟨ki_248_6, ⟨kbad, ⟨kbad, ⟨ki_248_9, ⟨ki_248_10, trivial⟩⟩⟩⟩⟩⟩⟩⟩⟩⟩⟩, trivial⟩)⟩
set_option maxRecDepth 20000 in
theorem mk_249 : js_mok 249 := ⟨by decide +kernel, jk_tab (fun _ => js_St.ok st_bad) (show jk_all (js_Ok 249) 0 tb_249 from ⟨⟨ki_249_0, ⟨ki_249_1, ⟨kbad, ⟨kbad, ⟨ki_249_4, ⟨kbad, ⟨kbad, ⟨ki_249_7, ⟨ki_249_8, ⟨kbad, ⟨kbad, ⟨ki_249_11, ⟨ki_249_12, ⟨kbad, ⟨kbad, ⟨ki_249_15, trivial⟩⟩⟩⟩⟩⟩⟩⟩⟩⟩⟩⟩⟩⟩⟩⟩, ⟨⟨ki_249_16, ⟨ki_249_17, ⟨kbad, ⟨kbad, ⟨ki_249_20, ⟨ki_249_21, ⟨kbad, ⟨kbad, ⟨kbad, trivial⟩⟩⟩⟩⟩⟩⟩⟩⟩, trivial⟩⟩)⟩
set_option maxRecDepth 20000 in
theorem mk_250 : js_mok 250 := ⟨by decide +kernel, jk_tab (fun _ => js_St.ok st_bad) (show jk_all (js_Ok 250) 0 tb_250 from ⟨⟨ki_250_0, ⟨kbad, ⟨kbad, ⟨ki_250_3, ⟨kbad, ⟨kbad, ⟨ki_250_6, ⟨ki_250_7, ⟨kbad, ⟨kbad, ⟨ki_250_10, ⟨kbad, ⟨kbad, ⟨ki_250_13, ⟨ki_250_14, trivial⟩⟩⟩⟩⟩⟩⟩⟩⟩⟩⟩⟩⟩⟩⟩, trivial⟩)⟩
set_option maxRecDepth 20000 in
theorem mk_251 : js_mok 251 := ⟨by decide +kernel, jk_tab (fun _ => js_St.ok st_bad) (show jk_all (js_Ok 251) 0 tb_251 from ⟨⟨ki_251_0, ⟨kbad, ⟨kbad, ⟨ki_251_3, ⟨kbad, ⟨kbad, ⟨ki_251_6, ⟨ki_251_7, ⟨kbad, ⟨kbad, ⟨ki_251_10, ⟨kbad, ⟨kbad, ⟨ki_251_13, ⟨ki_251_14, ⟨kbad, trivial⟩⟩⟩⟩⟩⟩⟩⟩⟩⟩⟩⟩⟩⟩⟩⟩, ⟨⟨kbad, ⟨ki_251_17, ⟨ki_251_18, trivial⟩⟩⟩, trivial⟩⟩)⟩
set_option maxRecDepth 20000 in
theorem mk_252 : js_mok 252 := ⟨by decide +kernel, jk_tab (fun _ => js_St.ok st_bad) (show jk_all (js_Ok 252) 0 tb_252 from ⟨⟨ki_252_0, ⟨ki_252_1, ⟨ki_252_2, ⟨kbad, ⟨kbad, ⟨ki_252_5, ⟨kbad, ⟨kbad, ⟨ki_252_8, ⟨ki_252_9, trivial⟩⟩⟩⟩⟩⟩⟩⟩⟩⟩, trivial⟩)⟩
set_option maxRecDepth 20000 in
theorem mk_253 : js_mok 253 := ⟨by decide +kernel, jk_tab (fun _ => js_St.ok st_bad) (show jk_all (js_Ok 253) 0 tb_253 from ⟨⟨ki_253_0, ⟨ki_253_1, ⟨ki_253_2, ⟨ki_253_3, ⟨kbad, ⟨kbad, ⟨ki_253_6, ⟨ki_253_7, ⟨ki_253_8, ⟨ki_253_9, ⟨kbad, ⟨kbad, ⟨ki_253_12, ⟨ki_253_13, ⟨ki_253_14, trivial⟩⟩⟩⟩⟩⟩⟩⟩⟩⟩⟩⟩⟩⟩⟩, trivial⟩)⟩
set_option maxRecDepth 20000 in
theorem mk_254 : js_mok 254 := ⟨by decide +kernel, jk_tab (fun _ => js_St.ok st_bad) (show jk_all (js_Ok 254) 0 tb_254 from ⟨⟨ki_254_0, ⟨ki_254_1, ⟨kbad, ⟨kbad, ⟨ki_254_4, ⟨ki_254_5, ⟨ki_254_6, ⟨kbad, ⟨kbad, ⟨ki_254_9, ⟨ki_254_10, ⟨ki_254_11, ⟨ki_254_12, ⟨kbad, ⟨kbad, ⟨kbad, trivial⟩⟩⟩⟩⟩⟩⟩⟩⟩⟩⟩⟩⟩⟩⟩⟩, ⟨⟨ki_254_16, ⟨ki_254_17, trivial⟩⟩, trivial⟩⟩)⟩
set_option maxRecDepth 20000 in
theorem mk_255 : js_mok 255 := ⟨by decide +kernel, jk_tab (fun _ => js_St.ok st_bad) (show jk_all (js_Ok 255) 0 tb_255 from ⟨⟨ki_255_0, ⟨ki_255_1, ⟨kbad, ⟨ki_255_3, ⟨kbad, ⟨kbad, ⟨ki_255_6, trivial⟩⟩⟩⟩⟩⟩⟩, trivial⟩)⟩
set_option maxRecDepth 20000 in
theorem mk_256 : js_mok 256 := ⟨by decide +kernel, jk_tab (fun _ => js_St.ok st_bad) (show jk_all (js_Ok 256) 0 tb_256 from ⟨⟨ki_256_0, ⟨ki_256_1, ⟨kbad, ⟨kbad, ⟨ki_256_4, ⟨kbad, ⟨kbad, ⟨ki_256_7, ⟨kbad, ⟨kbad, ⟨ki_256_10, ⟨ki_256_11, ⟨ki_256_12, ⟨kbad, ⟨ki_256_14, ⟨kbad, trivial⟩⟩⟩⟩⟩⟩⟩⟩⟩⟩⟩⟩⟩⟩⟩⟩, ⟨⟨kbad, ⟨ki_256_17, ⟨ki_256_18, ⟨ki_256_19, ⟨kbad, ⟨kbad, ⟨ki_256_22, ⟨kbad, ⟨kbad, ⟨ki_256_25, ⟨ki_256_26, ⟨ki_256_27, ⟨kbad, ⟨kbad, ⟨kbad, ⟨kbad, trivial⟩⟩⟩⟩⟩⟩⟩⟩⟩⟩⟩⟩⟩⟩⟩⟩, ⟨⟨kbad, ⟨kbad, ⟨kbad, ⟨kbad, ⟨kbad, ⟨kbad, ⟨ki_256_38, trivial⟩⟩⟩⟩⟩⟩⟩, trivial⟩⟩⟩)⟩
set_option maxRecDepth 20000 in
theorem mk_257 : js_mok 257 := ⟨by decide +kernel, jk_tab (fun _ => js_St.ok st_bad) (show jk_all (js_Ok 257) 0 tb_257 from ⟨⟨ki_257_0, ⟨ki_257_1, ⟨ki_257_2, ⟨kbad, ⟨kbad, ⟨ki_257_5, ⟨ki_257_6, ⟨ki_257_7, trivial⟩⟩⟩⟩⟩⟩⟩⟩, trivial⟩)⟩
set_option maxRecDepth 20000 in
theorem mk_258 : js_mok 258 := ⟨by decide +kernel, jk_tab (fun _ => js_St.ok st_bad) (show jk_all (js_Ok 258) 0 tb_258 from ⟨⟨ki_258_0, ⟨ki_258_1, ⟨ki_258_2, ⟨kbad, ⟨kbad, ⟨ki_258_5, ⟨ki_258_6, ⟨ki_258_7, trivial⟩⟩⟩⟩⟩⟩⟩⟩, trivial⟩)⟩
end JS
